/-! ===== drift ===== -/
def dr (f : Nat → Int32) (i : Nat) : Nat → Nat × Nat
  | 0 => (0, 0)
  | s + 1 => if 50 ≤ (dr f i s).1 then dr f i s else ((dr f i s).1 + (if f (i + s) = 0 then 0 else 1), (dr f i s).2 + (if f (i + s) ≤ 0 then 0 else 1))
theorem dr_le (f : Nat → Int32) (i : Nat) : ∀ s, (dr f i s).2 ≤ (dr f i s).1 ∧ (dr f i s).1 ≤ 50 := by
  intro s
  induction s with
  | zero => exact ⟨Nat.le_refl _, Nat.zero_le _⟩
  | succ s ih =>
    unfold dr
    split
    · exact ih
    · by_cases h : f (i + s) = 0
      · rw [if_pos h, if_pos (by rw [h]; exact Int32.le_refl _)]; simp only; omega
      · rw [if_neg h]; simp only; split <;> omega
theorem dr_full (f : Nat → Int32) (i : Nat) {s : Nat} (h : 50 ≤ (dr f i s).1) : ∀ m, dr f i (s + m) = dr f i s := by
  intro m
  induction m with
  | zero => rfl
  | succ m ih =>
    show (if 50 ≤ (dr f i (s + m)).1 then dr f i (s + m) else _) = dr f i s
    rw [ih, if_pos h]
/-- what the share is made of, as both sides do it -/
def chs (n : Nat) : Nat → Int64
  | 0 => 1
  | t + 1 => chs n t * Int32.toInt64 (nI n - nI (t + 1) + 1) / Int32.toInt64 (nI (t + 1))
def rws (n : Nat) : Nat → Int64
  | 0 => 1
  | t + 1 => rws n t + chs n (t + 1)
def th1 (p : Int64) (n : Nat) : Int64 := (p * (1000 : Int64)) >>> (Int32.toInt64 (nI n) &&& 63)
def th2 (p : Int64) (n : Nat) : Int64 := (p * (1000 : Int64)) - (th1 p n <<< (Int32.toInt64 (nI n) &&& 63))
def mil (p : Int64) (n : Nat) : Int32 := Int64.toInt32 (((1000 : Int64) * th1 p n) + ((th2 p n * (1000 : Int64)) >>> (Int32.toInt64 (nI n) &&& 63)))
def allN (n : Nat) : Int64 := (1 : Int64) <<< (Int32.toInt64 (nI n) &&& 63)
def shX (n k : Nat) : Int32 := mil (if 2 * rws n k < allN n then 2 * rws n k else allN n) n
def waM (n : Nat) : Nat → Int64
  | 0 => 1
  | t + 1 => waM n t * Int32.toInt64 (nI n - nI t) / Int32.toInt64 (nI t + 1)
def suM (n : Nat) : Nat → Int64
  | 0 => 0
  | t + 1 => suM n t + 2 * waM n t
def diM (all : Int64) : Nat → Int64 × Int64 → Int64 × Int64
  | 0, p => p
  | d + 1, p => diM all d (10 * p.1 + (10 * p.2) / all, 10 * p.2 - (10 * p.2) / all * all)
def ptM (n k : Nat) : Int64 := if suM n (k + 1) ≤ allN n then suM n (k + 1) else allN n
def shM (n k : Nat) : Int32 := Int64.toInt32 (diM (allN n) 6 (ptM n k / allN n, ptM n k - ptM n k / allN n * allN n)).1
theorem sh_eq : ∀ n, n < 51 → ∀ k, k < 26 → shX n k = shM n k := by decide +kernel
theorem all_nz : ∀ n, n < 51 → ¬ allN n = 0 := by decide +kernel
theorem wide_nz : ∀ t, t < 60 → ¬ Int32.toInt64 (nI (t + 1)) = 0 := by decide +kernel
theorem rows_loop {Q : Int64 → St → Prop} {σ : St} {n k : Nat} (hn : σ.1 14 0 = nI n) (hk : k < 50) (q : Q (rws n k) σ) : ∀ (m t : Nat), t + m = k → f_X5_rowsUpTo_b8 Q (m + 1) (nI k) (chs n t) (rws n t) (nI (t + 1)) σ := by
  intro m
  induction m with
  | zero =>
    intro t ht
    have : t = k := by omega
    subst this
    unfold f_X5_rowsUpTo_b8
    exact bt (nI_lt (by omega) (by omega)) q
  | succ m ih =>
    intro t ht
    unfold f_X5_rowsUpTo_b8
    refine bf (nI_nlt (by omega) (by omega)) ⟨wide_nz t (by omega), nmx (nmx (nmx ?_))⟩
    rw [hn, nI_1]
    exact ih (t + 1) (by omega)
theorem sp_shX {Q : Int32 → St → Prop} {σ : St} {n a : Nat} (hn : σ.1 14 0 = nI n) (ha : σ.1 15 0 = nI a) (h1 : a ≤ n) (h2 : n ≤ 50) (q : Q (shX n (if n - a < a then n - a else a)) σ) : f_X5_falseShare σ Q := by
  unfold f_X5_falseShare
  refine nmx ?_
  rw [hn, ha, pk_sub h1]
  have key : ∀ k, k = (if n - a < a then n - a else a) → f_X5_rowsUpTo (nI k) σ (fun r4 σ5 => f_J9_min_f86c9 ((1 : Int64) <<< (Int32.toInt64 (nI n) &&& 63)) ((2 : Int64) * r4) σ5 (fun r6 σ7 => f_X5_millionths r6 (σ7.1 14 0) σ7 (fun r8 σ9 => Q r8 σ9))) := by
    intro k hk
    rw [← hk] at q
    have hk25 : k ≤ 25 := by rw [hk]; split <;> omega
    unfold f_X5_rowsUpTo
    refine ⟨k + 1, rows_loop (t := 0) hn (by omega) ?_ k (by omega)⟩
    unfold f_J9_min_f86c9 f_X5_millionths
    have fin : ∀ p : Int64, p = (if 2 * rws n k < allN n then 2 * rws n k else allN n) → Q (mil p n) σ := fun p hp => by rw [hp]; exact q
    refine ⟨fun c => nmx (nmx ?_), fun c => nmx (nmx ?_)⟩
    · rw [hn]
      exact fin (2 * rws n k) (by rw [if_pos (show 2 * rws n k < allN n from c)])
    · rw [hn]
      exact fin (allN n) (by rw [if_neg (show ¬ 2 * rws n k < allN n from c)])
  unfold f_J9_min_7cf53
  refine ⟨fun c => key (n - a) ?_, fun c => key a ?_⟩
  · rw [if_pos ((nI_ltI (by omega) (by omega)).mp c)]
  · rw [if_neg (fun h => c ((nI_ltI (by omega) (by omega)).mpr h))]
theorem dig_loop {Q : Int32 → St → Prop} {σ : St} {all : Int64} (hz : ¬ all = 0) : ∀ (d e : Nat) (p : Int64 × Int64), e + d = 6 → Q (Int64.toInt32 (diM all d p).1) σ → f_X8_falseShare_b82 Q (d + 1) all p.1 p.2 (nI e) σ := by
  intro d
  induction d with
  | zero =>
    intro e p he q
    unfold f_X8_falseShare_b82
    exact bt (by rw [show e = 6 by omega]; decide) q
  | succ d ih =>
    intro e p he q
    unfold f_X8_falseShare_b82
    refine bf (nI_ge (a := e) (b := 6) (by omega) (by decide)) (nmx ⟨hz, nmx ⟨hz, nmx (nmx ?_)⟩⟩)
    rw [nI_1]
    exact ih (e + 1) (10 * p.1 + (10 * p.2) / all, 10 * p.2 - (10 * p.2) / all * all) (by omega) q
theorem sumM_loop {Q : Int32 → St → Prop} {σ : St} {n k : Nat} (hn : n ≤ 50) (hk : k < 50) (q : Q (shM n k) σ) : ∀ (m t : Nat), t + m = k + 1 → f_X8_falseShare_b13 Q (m + 1) (nI n) (nI k) (allN n) (suM n t) (waM n t) (nI t) σ := by
  have hz := all_nz n (by omega)
  intro m
  induction m with
  | zero =>
    intro t ht
    have : t = k + 1 := by omega
    subst this
    unfold f_X8_falseShare_b13
    refine bt (nI_lt (by omega) (by omega)) ⟨fun c => ⟨hz, nmx ⟨hz, nmx ⟨7, ?_⟩⟩⟩, fun c => ⟨hz, nmx ⟨hz, nmx ⟨7, ?_⟩⟩⟩⟩
    · refine dig_loop hz 6 0 (suM n (k + 1) / allN n, suM n (k + 1) - suM n (k + 1) / allN n * allN n) rfl ?_
      unfold shM ptM at q
      rw [if_pos c] at q; exact q
    · refine dig_loop hz 6 0 (allN n / allN n, allN n - allN n / allN n * allN n) rfl ?_
      unfold shM ptM at q
      rw [if_neg c] at q; exact q
  | succ m ih =>
    intro t ht
    unfold f_X8_falseShare_b13
    refine bf (nI_nlt (by omega) (by omega)) (nmx ⟨by rw [nI_1]; exact wide_nz t (by omega), nmx (nmx ?_)⟩)
    have this : f_X8_falseShare_b13 Q (m + 1) (nI n) (nI k) (allN n) (suM n t + 2 * waM n t) (waM n t * Int32.toInt64 (nI n - nI t) / Int32.toInt64 (nI t + 1)) (nI (t + 1)) σ := ih (t + 1) (by omega)
    rw [nI_1] at this ⊢
    exact this
theorem sp_shM {Q : Int32 → St → Prop} {σ : St} {n k : Nat} (hn : n ≤ 50) (hk : k < 50) (q : Q (shM n k) σ) : f_X8_falseShare (nI n) (nI k) σ Q := by
  unfold f_X8_falseShare
  exact nmx ⟨k + 2, sumM_loop hn hk q (k + 1) 0 (by omega)⟩
theorem read_loop {Q : St → Prop} {k : Nat} {X : St} {i j : Nat} (hj : j < 100) (hQ : ∀ σ', eqX X σ' → σ'.1 14 0 = nI (dr (X.1 (20 + k)) i (j + 1 - i)).1 → σ'.1 15 0 = nI (dr (X.1 (20 + k)) i (j + 1 - i)).2 → Q σ') : ∀ (m s : Nat) (σ : St), i + s + m = j + 1 → eqX X σ → σ.1 14 0 = nI (dr (X.1 (20 + k)) i s).1 → σ.1 15 0 = nI (dr (X.1 (20 + k)) i s).2 → f_X5_read_b13 k Q (m + 1) (nI j) (nI (i + s)) σ := by
  intro m
  induction m with
  | zero =>
    intro s σ hs hX h14 h15
    have e : j + 1 - i = s := by omega
    rw [e] at hQ
    unfold f_X5_read_b13
    exact bt (nI_lt (by omega) (by omega)) (hQ σ hX h14 h15)
  | succ m ih =>
    intro s σ hs hX h14 h15
    obtain ⟨d1, d2⟩ := dr_le (X.1 (20 + k)) i s
    unfold f_X5_read_b13
    refine bf (nI_nlt (by omega) (by omega)) ?_
    rw [h14]
    refine ⟨fun c => ?_, fun c => ?_⟩
    · have h50 : 50 ≤ (dr (X.1 (20 + k)) i s).1 := (nI_leI (a := 50) (by decide) (by omega)).mp c
      have e := dr_full (X.1 (20 + k)) i h50 (m + 1)
      rw [show s + (m + 1) = j + 1 - i by omega] at e
      exact hQ σ hX (by rw [e]; exact h14) (by rw [e]; exact h15)
    · have h50 : ¬ 50 ≤ (dr (X.1 (20 + k)) i s).1 := fun h => c ((nI_leI (a := 50) (by decide) (by omega)).mpr h)
      have hin : vp_in (nI (i + s)) 100 := vp_in_nI (by omega) (by decide)
      refine ⟨hin, ?_⟩
      have hit : σ.1 (20 + k) = X.1 (20 + k) := hX (20 + k) (by omega) (by omega) (by omega) (by omega) (by omega)
      have step := ih (s + 1)
      rw [show i + (s + 1) = i + s + 1 by omega] at step
      have hd : dr (X.1 (20 + k)) i (s + 1) = ((dr (X.1 (20 + k)) i s).1 + (if X.1 (20 + k) (i + s) = 0 then 0 else 1), (dr (X.1 (20 + k)) i s).2 + (if X.1 (20 + k) (i + s) ≤ 0 then 0 else 1)) := by
        show (if _ then _ else _) = _
        rw [if_neg h50]
      rw [hd] at step
      rw [nI_clamp (by omega), hit, nI_1]
      unfold f_X5_read_b48
      rw [nI_clamp (by omega), nI_1]
      refine ⟨fun c0 => ⟨hin, ?_⟩, fun c0 => nmx ⟨hin, ?_⟩⟩
      · rw [hit, h15, nI_1]
        refine bt (by rw [c0]; exact Int32.le_refl _) (nmx ?_)
        refine step σ (by omega) hX ?_ ?_
        · rw [h14]; simp only [if_pos c0, Nat.add_zero]
        · rw [h15]; simp only [if_pos (show X.1 (20 + k) (i + s) ≤ 0 by rw [c0]; exact Int32.le_refl _), Nat.add_zero]
      · rw [sI_at (by omega), hit, sI_at (by decide), h15, nI_1]
        refine ⟨fun c1 => nmx ?_, fun c1 => nmx (nmx ?_)⟩
        · refine step _ (by omega) (hX.tr (eqX.i (by decide))) ?_ ?_
          · rw [sI_on, pk_us]; simp only [if_neg c0]
          · rw [sI_at (by decide), h15]; simp only [if_pos c1, Nat.add_zero]
        · refine step _ (by omega) (hX.tr ((eqX.i (by decide)).tr (eqX.i (by decide)))) ?_ ?_
          · rw [sI_at (by decide), sI_on, pk_us]; simp only [if_neg c0]
          · rw [sI_on, pk_us]; simp only [if_neg c1]
theorem driftM_loop {Q : Int32 → St → Prop} {M : St} {s n i j : Nat} {f : Nat → Int32} {w : Int32} (hs : s < 4) (hn : n ≤ 100) (hj : j < n) (hf : ∀ x, x < n → f x = M.1 24 (100 * s + x)) (q : f_X8_drift_b141 Q w (nI (dr f i (j + 1 - i)).1) (nI (dr f i (j + 1 - i)).2) M) : ∀ (m t : Nat), i + t + m = j + 1 → f_X8_drift_b72 Q (m + 1) (nI s) (nI j) w (nI (dr f i t).1) (nI (dr f i t).2) (nI (i + t)) M := by
  intro m
  induction m with
  | zero =>
    intro t ht
    have e : j + 1 - i = t := by omega
    rw [e] at q
    unfold f_X8_drift_b72
    exact bt (nI_lt (by omega) (by omega)) q
  | succ m ih =>
    intro t ht
    obtain ⟨d1, d2⟩ := dr_le f i t
    unfold f_X8_drift_b72
    refine bf (nI_nlt (by omega) (by omega)) ?_
    refine ⟨fun c => ?_, fun c => ?_⟩
    · have h50 : 50 ≤ (dr f i t).1 := (nI_leI (a := 50) (by decide) (by omega)).mp c
      have e := dr_full f i h50 (m + 1)
      rw [show t + (m + 1) = j + 1 - i by omega] at e
      rw [← e]; exact q
    · have h50 : ¬ 50 ≤ (dr f i t).1 := fun h => c ((nI_leI (a := 50) (by decide) (by omega)).mpr h)
      rw [ix100]
      have hin : vp_in (nI (100 * s + (i + t))) 400 := vp_in_nI (by omega) (by decide)
      refine ⟨hin, ?_⟩
      have step := ih (t + 1)
      rw [show i + (t + 1) = i + t + 1 by omega] at step
      have hd : dr f i (t + 1) = ((dr f i t).1 + (if f (i + t) = 0 then 0 else 1), (dr f i t).2 + (if f (i + t) ≤ 0 then 0 else 1)) := by
        show (if _ then _ else _) = _
        rw [if_neg h50]
      rw [hd] at step
      rw [nI_clamp (by omega), ← hf (i + t) (by omega)]
      unfold f_X8_drift_b107
      rw [ix100, nI_clamp (by omega), ← hf (i + t) (by omega), nI_1, nI_1, Int32.add_zero, Int32.add_zero, nI_1]
      refine ⟨fun c0 => nmx ⟨hin, ?_⟩, fun c0 => nmx ⟨hin, ?_⟩⟩
      · have hle : f (i + t) ≤ 0 := by rw [c0]; exact Int32.le_refl _
        have st := step (by omega)
        simp only [if_pos c0, if_pos hle, Nat.add_zero] at st
        exact bt hle (nmx (nmx st))
      · have st := step (by omega)
        simp only [if_neg c0] at st
        refine ⟨fun c1 => nmx (nmx ?_), fun c1 => nmx (nmx ?_)⟩
        · simp only [if_pos c1, Nat.add_zero] at st; exact st
        · simp only [if_neg c1] at st; exact st
theorem ob_drift : Ob_drift RelX := by
  intro σ τ a1 a2 a3 a4 hR
  unfold f_X7_drift
  by_cases h1 : inr a1 0 3
  · refine sheX1 h1 (bf one_ne ?_)
    by_cases h2 : a2 < 0
    · refine bt h2 ?_
      unfold f_X8_drift
      exact (sheM1 h1 (bf one_ne (bt h2 ⟨rfl, hR⟩)))
    · refine bf h2 ?_
      by_cases h3 : a3 < a2
      · refine bt h3 ?_
        unfold f_X8_drift
        exact (sheM1 h1 (bf one_ne (bf h2 (bt h3 ⟨rfl, hR⟩))))
      · refine bf h3 ?_
        by_cases h4 : inr a4 0 2
        · refine wX1 (a := 0) (b := 2) (by decide) (by decide) h4 (nt one_ne ?_)
          obtain ⟨s, hs, rfl⟩ := inr_nI (n := 3) h1 (by decide)
          have his : vp_in (nI s) 4 := vp_in_nI (by omega) (by decide)
          have cs : (nI s).toNatClampNeg = s := nI_clamp (by omega)
          refine ⟨his, nmx ?_⟩
          rw [cs]
          unfold f_X4_isLost
          rcases hR.2.2.2.2.1 s (by omega) with ⟨s1, s2, s3⟩ | ⟨f, n, hf, hn, s1, s2, s3, s4, s5⟩
          · refine nf s1 (bf one_ne ?_)
            unfold f_X7_finding f_X8_drift
            rw [cs]
            refine nmx (sheM1 h1 (bf one_ne (bf h2 (bf h3 (wM1 (a := 0) (b := 2) (by decide) (by decide) h4 (nt one_ne ⟨his, bf (by rw [s2]; decide) ?_⟩))))))
            unfold f_X8_met
            exact nmx ⟨rfl, hR.lat 1⟩
          · refine nt (by rw [s1]; exact f2ne hf) (bt rfl ?_)
            have sge : 0 ≤ τ.1 22 s := by rw [s2]; exact nI_pos' (by omega)
            unfold f_X4_has
            rw [i32_lt, Int32.toInt_zero] at h2
            rw [i32_lt] at h3
            have h2' : ¬ a2 < 0 := by rw [i32_lt, Int32.toInt_zero]; exact h2
            have h3' : ¬ a3 < a2 := by rw [i32_lt]; exact h3
            refine bf (by rw [i32_lt, Int32.toInt_zero]; omega) ?_
            by_cases h5 : a3.toInt < n
            · refine bf (by rw [s3, i32_le, nI_toInt (by omega)]; omega) (nt one_ne ?_)
              obtain ⟨j, hj, rfl⟩ := inr_nI (v := a3) (n := 100) ⟨by omega, by omega⟩ (by decide)
              rw [nI_toInt (by omega)] at h3 h5
              obtain ⟨i, hi, rfl⟩ := inr_nI (v := a2) (n := 100) ⟨by omega, by omega⟩ (by decide)
              rw [nI_toInt (by omega)] at h3 h2
              have hM : ∀ Q : Int32 → St → Prop, f_X8_drift_b141 Q a4 (nI (dr (σ.1 (20 + s)) i (j + 1 - i)).1) (nI (dr (σ.1 (20 + s)) i (j + 1 - i)).2) τ → f_X8_drift (nI s) (nI i) (nI j) a4 τ Q := by
                intro Q q
                unfold f_X8_drift
                rw [cs]
                refine sheM1 h1 (bf one_ne (bf h2' (bf h3' (wM1 (a := 0) (b := 2) (by decide) (by decide) h4 (nt one_ne ⟨his, bt sge ⟨his, bt (by rw [s4]; exact nI_lt (by omega) (by omega)) ⟨j + 1 - i + 1, ?_⟩⟩⟩)))))
                exact driftM_loop (by omega) hn (by omega) s5 q (j + 1 - i) 0 (by omega)
              obtain ⟨d1, d2⟩ := dr_le (σ.1 (20 + s)) i (j + 1 - i)
              unfold f_X5_read
              refine nmx (nmx ⟨j + 1 - i + 1, ?_⟩)
              have rdl := fun (Q : St → Prop) hQ => read_loop (Q := Q) (k := s) (X := σ) (i := i) (j := j) (by omega) hQ (j + 1 - i) 0 (sI (sI σ 14 0 0) 15 0 0) (by omega) ((eqX.i (by decide)).tr (eqX.i (by decide))) (by rw [sI_at (by decide), sI_on, pk_us]; rfl) (by rw [sI_on, pk_us]; rfl)
              refine rdl _ (fun σ' hX h14 h15 => ?_)
              have hR' : RelX σ' τ := hR.keep hX eqM.rf
              obtain ⟨w, hw, rfl⟩ := inr_nI (n := 2) h4 (by decide)
              rcases (show w = 0 ∨ w = 1 ∨ w = 2 by omega) with rfl | rfl | rfl
              · refine nf rfl (hM _ ?_)
                unfold f_X8_drift_b141
                exact nf rfl ⟨h14, hR'⟩
              · refine nt (by decide) (nf rfl (hM _ ?_))
                unfold f_X8_drift_b141
                exact nt (by decide) (nf rfl ⟨h15, hR'⟩)
              · refine nt (by decide) (nt (by decide) ?_)
                refine sp_shX h14 h15 d1 d2 (hM _ ?_)
                unfold f_X8_drift_b141
                refine nt (by decide) (nt (by decide) ?_)
                rw [pk_sub d1]
                refine ⟨fun c => ?_, fun c => ?_⟩
                · have hc := (nI_leI (by omega) (by omega)).mp c
                  refine sp_shM d2 (by omega) ⟨?_, hR'⟩
                  rw [← sh_eq _ (by omega) _ (by omega)]
                  congr 1
                  split <;> omega
                · have hc : ¬ (dr (σ.1 (20 + s)) i (j + 1 - i)).1 - (dr (σ.1 (20 + s)) i (j + 1 - i)).2 ≤ (dr (σ.1 (20 + s)) i (j + 1 - i)).2 := fun h => c ((nI_leI (by omega) (by omega)).mpr h)
                  refine sp_shM d2 (by omega) ⟨?_, hR'⟩
                  rw [← sh_eq _ (by omega) _ (by omega)]
                  congr 1
                  split <;> omega
            · refine bt (by rw [s3, i32_le, nI_toInt (by omega)]; omega) (nf rfl ?_)
              unfold f_X7_finding f_X8_drift
              rw [cs]
              refine nmx (sheM1 h1 (bf one_ne (bf h2' (bf h3' (wM1 (a := 0) (b := 2) (by decide) (by decide) h4 (nt one_ne ⟨his, bt sge ⟨his, bf (by rw [s4, i32_lt, nI_toInt (by omega)]; omega) ?_⟩⟩))))))
              unfold f_X8_met
              exact nmx ⟨rfl, hR.lat 2⟩
        · refine wX0 (a := 0) (b := 2) (by decide) (by decide) h4 (nf rfl ?_)
          unfold f_X8_drift
          exact sheM1 h1 (bf one_ne (bf h2 (bf h3 (wM0 (a := 0) (b := 2) (by decide) (by decide) h4 (nf rfl ⟨rfl, hR⟩)))))
  · refine sheX0 h1 (bt rfl ?_)
    unfold f_X8_drift
    exact sheM0 h1 (bt rfl ⟨rfl, hR⟩)
