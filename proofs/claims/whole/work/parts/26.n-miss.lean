/-! ===== miss, worst ===== -/
theorem COF_b : ∀ k, k < 36 → -65 ≤ (COF k).toInt ∧ (COF k).toInt ≤ 65 := by decide +kernel
theorem CS_b {w k : Nat} (hk : k < 36) : -65 ≤ (CS w k).toInt ∧ (CS w k).toInt ≤ 65 := by
  unfold CS
  split
  · exact COF_b k hk
  · exact COF_b _ (by omega)
theorem mul_in {a b : Int32} {A B : Int} (ha : -A ≤ a.toInt ∧ a.toInt ≤ A) (hb : -B ≤ b.toInt ∧ b.toInt ≤ B) (hA : 0 ≤ A) (hAB : A * B < 2 ^ 31) : (a * b).toInt = a.toInt * b.toInt ∧ -(A * B) ≤ a.toInt * b.toInt ∧ a.toInt * b.toInt ≤ A * B := by
  have hB : 0 ≤ B := by omega
  have h1 : a.toInt * b.toInt ≤ A * B := by
    have e1 : 0 ≤ (A - a.toInt) * (B + b.toInt) := Int.mul_nonneg (by omega) (by omega)
    have e2 : 0 ≤ (A + a.toInt) * (B - b.toInt) := Int.mul_nonneg (by omega) (by omega)
    have e3 : (A - a.toInt) * (B + b.toInt) + (A + a.toInt) * (B - b.toInt) = 2 * (A * B) - 2 * (a.toInt * b.toInt) := by grind
    omega
  have h2 : -(A * B) ≤ a.toInt * b.toInt := by
    have e1 : 0 ≤ (A - a.toInt) * (B - b.toInt) := Int.mul_nonneg (by omega) (by omega)
    have e2 : 0 ≤ (A + a.toInt) * (B + b.toInt) := Int.mul_nonneg (by omega) (by omega)
    have e3 : (A - a.toInt) * (B - b.toInt) + (A + a.toInt) * (B + b.toInt) = 2 * (A * B) + 2 * (a.toInt * b.toInt) := by grind
    omega
  refine ⟨?_, h2, h1⟩
  rw [Int32.toInt_mul, Int.bmod_eq_of_le (by omega) (by omega)]
theorem add_in {a b : Int32} (h : -(2 ^ 31) ≤ a.toInt + b.toInt ∧ a.toInt + b.toInt < 2 ^ 31) : (a + b).toInt = a.toInt + b.toInt := by
  rw [Int32.toInt_add, Int.bmod_eq_of_le (by omega) (by omega)]
theorem sub_in {a b : Int32} (h : -(2 ^ 31) ≤ a.toInt - b.toInt ∧ a.toInt - b.toInt < 2 ^ 31) : (a - b).toInt = a.toInt - b.toInt := by
  rw [Int32.toInt_sub, Int.bmod_eq_of_le (by omega) (by omega)]
def lens (X : St) : Prop := ∀ i, i < 3 → ∃ v : Nat, 1 ≤ v ∧ v ≤ 999 ∧ X.1 0 i = nI v
theorem rLen.lens {X M : St} (h : rLen X M) : lens X := fun i hi => (h i hi).2
theorem len_in {X : St} (h : lens X) {i : Nat} (hi : i < 3) : 1 ≤ (X.1 0 i).toInt ∧ (X.1 0 i).toInt ≤ 999 := by
  obtain ⟨v, h1, h2, e⟩ := h i hi
  rw [e, nI_toInt (by omega)]; omega
theorem link_in {X : St} (h : lens X) {i w k : Nat} (hi : i < 3) (hk : k < 36) : (X.1 0 i * CS w k).toInt = (X.1 0 i).toInt * (CS w k).toInt ∧ -64935 ≤ (X.1 0 i * CS w k).toInt ∧ (X.1 0 i * CS w k).toInt ≤ 64935 := by
  have hl := len_in h hi
  have := mul_in (a := X.1 0 i) (b := CS w k) (A := 999) (B := 65) ⟨by omega, hl.2⟩ (CS_b hk) (by decide) (by decide)
  refine ⟨this.1, ?_, ?_⟩ <;> rw [this.1] <;> omega
theorem hndX_in {X : St} (h : lens X) {i w : Nat} (hh : hds X i) : -194805 ≤ (hndX X i w).toInt ∧ (hndX X i w).toInt ≤ 194805 := by
  have a := link_in (w := w) h (show (0 : Nat) < 3 by decide) (hdX_lt hh (show (0 : Nat) < 3 by decide)).1
  have b := link_in (w := w) h (show (1 : Nat) < 3 by decide) (hdX_lt hh (show (1 : Nat) < 3 by decide)).1
  have c := link_in (w := w) h (show (2 : Nat) < 3 by decide) (hdX_lt hh (show (2 : Nat) < 3 by decide)).1
  unfold hndX
  rw [Int32.zero_add, add_in (by rw [add_in (by omega)]; omega), add_in (by omega)]
  omega
def ab (x : Int32) : Int32 := if 0 ≤ x then x else -x
theorem sp_abs {x : Int32} {σ : St} {Q : Int32 → St → Prop} (q : Q (ab x) σ) : f_J9_abs_0f7a4 x σ Q := by
  unfold f_J9_abs_0f7a4
  unfold ab at q
  exact ⟨fun c => by rw [if_pos c] at q; exact q, fun c => by rw [if_neg c] at q; exact q⟩
def mx (a b : Int32) : Int32 := if a < b then b else a
theorem sp_max {a b : Int32} {σ : St} {Q : Int32 → St → Prop} (q : Q (mx a b) σ) : f_J9_max_7cf53 a b σ Q := by
  unfold f_J9_max_7cf53
  unfold mx at q
  exact ⟨fun c => by rw [if_pos c] at q; exact q, fun c => by rw [if_neg c] at q; exact q⟩
def dfX (X : St) (i w : Nat) : Int32 := hndX X i w - 65 * X.1 20 (2 * i + w)
def msX (X : St) (i : Nat) : Int32 := mx (ab (dfX X i 0)) (ab (dfX X i 1))
theorem sp_missX {X : St} {i : Nat} {Q : Int32 → St → Prop} (hi : i < 20) (hh : hds X i) (q : Q (msX X i) X) : f_X7_missOf (nI i) X Q := by
  unfold f_X7_missOf
  refine sp_reached (w := 0) hi (by decide) hh (sp_measured (w := 0) hi (by decide) (sp_abs ?_))
  exact sp_reached (w := 1) hi (by decide) hh (sp_measured (w := 1) hi (by decide) (sp_abs (sp_max q)))
theorem df_in {X : St} (h : lens X) {i w : Nat} (hh : hds X i) (hm : meas X i = true) (hw : w < 2) : -844740 ≤ (dfX X i w).toInt ∧ (dfX X i w).toInt ≤ 844740 := by
  have a := hndX_in h (w := w) hh
  have b := (meas_at hm hw).2
  have c := mul_in (a := 65) (b := X.1 20 (2 * i + w)) (A := 65) (B := 9999) (by decide) ⟨by have := b.1; omega, by have := b.2; omega⟩ (by decide) (by decide)
  unfold dfX
  rw [sub_in (by rw [c.1]; omega), c.1]
  omega
theorem ab_nn {x : Int32} (h : -844740 ≤ x.toInt ∧ x.toInt ≤ 844740) : 0 ≤ (ab x).toInt := by
  unfold ab
  split
  · rename_i c; rw [i32_le, Int32.toInt_zero] at c; exact c
  · rename_i c
    rw [i32_le, Int32.toInt_zero] at c
    rw [Int32.toInt_neg, Int.bmod_eq_of_le (by omega) (by omega)]; omega
theorem ms_nn {X : St} (h : lens X) {i : Nat} (hh : hds X i) (hm : meas X i = true) : 0 ≤ (msX X i).toInt := by
  unfold msX mx
  split
  · exact ab_nn (df_in h hh hm (by decide))
  · exact ab_nn (df_in h hh hm (by decide))
theorem mx_M {Q : Int32 → St → Prop} {a b : Int32} {σ : St} (q : Q (mx (ab a) (ab b)) σ) : f_X8_missOf_b48 Q b (ab a) σ := by
  have tie : ∀ c : Int32, Q (mx (ab a) c) σ → (ab a ≤ c → Q c σ) ∧ (¬ ab a ≤ c → Q (ab a) σ) := by
    intro c q
    unfold mx at q
    refine ⟨fun h => ?_, fun h => ?_⟩
    · by_cases h2 : ab a < c
      · rw [if_pos h2] at q; exact q
      · rw [if_neg h2] at q
        have : ab a = c := Int32.toInt_inj.mp (by rw [i32_le] at h; rw [i32_lt] at h2; omega)
        rw [← this]; exact q
    · rw [if_neg (fun h2 => h (by rw [i32_le]; rw [i32_lt] at h2; omega))] at q; exact q
  unfold f_X8_missOf_b48
  refine ⟨fun c => tie b ?_, fun c => nmx (tie (-b) ?_)⟩
  · rw [show b = ab b by unfold ab; rw [if_pos c]]; exact q
  · rw [show -b = ab b by unfold ab; rw [if_neg c]]; exact q
theorem sp_missM {X M : St} {P i : Nat} {Q : Int32 → St → Prop} (hR : RelX X M) (hP : rPos P X M) (hi : i < P) (hm : meas X i = true) (q : Q (msX X i) M) : f_X8_missOf (nI i) M Q := by
  have h20 := hP.1
  unfold f_X8_missOf
  rw [ix2, nI_1]
  refine sp_handOf (w := 0) hR.2.2.2.2.2.2 (by omega) (by decide) (hP.hM hi) (sp_item hR (by omega) (nmx ?_))
  refine sp_handOf (w := 1) hR.2.2.2.2.2.2 (by omega) (by decide) (hP.hM hi) (sp_item hR (by omega) (nmx ?_))
  rw [← hnd_eq hR.1 hP hi, ← hnd_eq hR.1 hP hi]
  have e0 : itM X (2 * i) = X.1 20 (2 * i + 0) := by unfold itM; rw [if_pos (show 2 * i < msz X from (meas_at (w := 0) hm (by decide)).1)]; rfl
  have e1 : itM X (2 * i + 1) = X.1 20 (2 * i + 1) := by unfold itM; rw [if_pos (meas_at (w := 1) hm (by decide)).1]
  rw [e0, e1]
  show (0 ≤ dfX X i 0 → f_X8_missOf_b48 Q (dfX X i 1) (dfX X i 0) M) ∧ (¬ 0 ≤ dfX X i 0 → f_X8_missOf_b48 Q (dfX X i 1) (-dfX X i 0) M)
  refine ⟨fun c => ?_, fun c => ?_⟩
  · have := mx_M (Q := Q) (a := dfX X i 0) (b := dfX X i 1) (σ := M) q
    rw [show ab (dfX X i 0) = dfX X i 0 by unfold ab; rw [if_pos c]] at this; exact this
  · have := mx_M (Q := Q) (a := dfX X i 0) (b := dfX X i 1) (σ := M) q
    rw [show ab (dfX X i 0) = -dfX X i 0 by unfold ab; rw [if_neg c]] at this; exact this
theorem ob_miss : Ob_miss RelX := by
  intro σ τ a1 hR
  obtain ⟨hLen, ⟨P, hP⟩, hCam, hLim, hShe, hLat, hCs⟩ := id hR
  have h20 := hP.1
  have hx3 := hP.2.1
  have hm3 := hP.2.2.1
  unfold f_X7_miss
  by_cases h1 : inr a1 0 ((P : Int) - 1)
  · refine posX1 hx3 h20 h1 (nt one_ne ?_)
    obtain ⟨i, hi, rfl⟩ := pos_nI h20 h1
    refine sp_isMeas hShe.size0 (by omega) (fun h => bf one_ne ?_) (fun h => bt rfl ?_)
    · refine sp_missX (by omega) (hP.hX hi) ?_
      unfold f_X8_miss
      refine posM1 hm3 h20 h1 (nt one_ne (sp_hasMeas hR (by omega) (fun _ => bf one_ne ?_) (fun h' => absurd h h')))
      exact sp_missM hR hP hi h ⟨rfl, hR⟩
    · unfold f_X8_miss
      exact posM1 hm3 h20 h1 (nt one_ne (sp_hasMeas hR (by omega) (fun h' => absurd h' h) (fun _ => bt rfl ⟨rfl, hR⟩)))
  · refine posX0 hx3 h20 h1 (nf rfl ?_)
    unfold f_X8_miss
    exact posM0 hm3 h20 h1 (nf rfl ⟨rfl, hR⟩)
/-- worst -/
def wstep (ms : Nat → Int32) (o : Option Nat) (x : Nat) : Option Nat := match o with
  | none => some x
  | some b => if ms x ≤ ms b then some b else some x
def wr (ms : Nat → Int32) (l : List Nat) : Nat → Option Nat
  | 0 => none
  | u + 1 => wstep ms (wr ms l u) (l.getD u 0)
def wenc (o : Option Nat) : Int32 := match o with
  | none => -1
  | some b => nI b
def wval (ms : Nat → Int32) (o : Option Nat) : Int32 := match o with
  | none => -1
  | some b => ms b
theorem wr_mem (ms : Nat → Int32) (l : List Nat) : ∀ u b, u ≤ l.length → wr ms l u = some b → b ∈ l := by
  intro u
  induction u with
  | zero => intro b _ h; cases h
  | succ u ih =>
    intro b hu h
    have hx : l.getD u 0 ∈ l := by
      rw [List.getD_eq_getElem?_getD, List.getElem?_eq_getElem (by omega)]
      exact List.getElem_mem _
    unfold wr wstep at h
    cases hw : wr ms l u with
    | none => rw [hw] at h; have h : some (l.getD u 0) = some b := h; cases h; exact hx
    | some c =>
      rw [hw] at h
      have h : (if ms (l.getD u 0) ≤ ms c then some c else some (l.getD u 0)) = some b := h
      split at h
      · cases h; exact ih _ (by omega) hw
      · cases h; exact hx
theorem msX_eq {X X' : St} (h : eqX X X') (i : Nat) : msX X' i = msX X i := by
  have h0 : X'.1 0 = X.1 0 := h 0 (by decide) (by decide) (by decide) (by decide) (by decide)
  have h1 : X'.1 1 = X.1 1 := h 1 (by decide) (by decide) (by decide) (by decide) (by decide)
  have h20 : X'.1 20 = X.1 20 := h 20 (by decide) (by decide) (by decide) (by decide) (by decide)
  unfold msX dfX hndX hdX
  rw [h0, h1, h20]
theorem hds_eq {X X' : St} (h : eqX X X') {i : Nat} (hh : hds X i) : hds X' i := by
  unfold hds; rw [h 1 (by decide) (by decide) (by decide) (by decide) (by decide)]; exact hh
theorem worstX_loop {Q : Int32 → St → Prop} {X σ : St} {P : Nat} {l : List Nat} (hl : l.length ≤ 12) (hX : eqX X σ) (hrow : rowIs (σ.1 5) l) (hlen : lens X) (hmem : ∀ x ∈ l, x < P ∧ meas X x = true ∧ hds X x) (h20 : P ≤ 20) (q : Q (wenc (wr (msX X) l l.length)) σ) : ∀ (m u : Nat), u + m = l.length → f_X7_worst_b12 Q (m + 1) (nI l.length) (wenc (wr (msX X) l u)) (wval (msX X) (wr (msX X) l u)) (nI u) σ := by
  intro m
  induction m with
  | zero =>
    intro u hu
    have : u = l.length := by omega
    subst this
    unfold f_X7_worst_b12
    exact bt (Int32.le_refl _) q
  | succ m ih =>
    intro u hu
    unfold f_X7_worst_b12
    have hult : u < l.length := by omega
    have hget : l[u]? = some (l.getD u 0) := by rw [List.getD_eq_getElem?_getD, List.getElem?_eq_getElem hult]; rfl
    have hr := hrow u _ hget
    have hx : l.getD u 0 ∈ l := List.mem_of_getElem? hget
    obtain ⟨m1, m2, m3⟩ := hmem _ hx
    refine bf (nI_ge hult (by omega)) ⟨vp_in_nI (by omega) (by decide), ?_⟩
    rw [nI_clamp (by omega), hr, nI_1]
    refine sp_missX (by omega) (hds_eq hX m3) ?_
    rw [msX_eq hX]
    have := ih (u + 1) (by omega)
    have nn := ms_nn hlen m3 m2
    unfold wr at this
    cases hw : wr (msX X) l u with
    | none =>
      rw [hw] at this
      have hc : ¬ msX X (l.getD u 0) ≤ wval (msX X) none := by
        show ¬ msX X (l.getD u 0) ≤ -1
        rw [i32_le]
        have : (-1 : Int32).toInt = -1 := by decide
        omega
      refine bf hc ⟨vp_in_nI (by omega) (by decide), nmx (nmx ?_)⟩
      rw [hr]; exact this
    | some b =>
      rw [hw] at this
      have this : f_X7_worst_b12 Q (m + 1) (nI l.length) (wenc (if msX X (l.getD u 0) ≤ msX X b then some b else some (l.getD u 0))) (wval (msX X) (if msX X (l.getD u 0) ≤ msX X b then some b else some (l.getD u 0))) (nI (u + 1)) σ := this
      refine ⟨fun c => nmx ?_, fun c => ⟨vp_in_nI (by omega) (by decide), nmx (nmx ?_)⟩⟩
      · have c : msX X (l.getD u 0) ≤ msX X b := c
        rw [if_pos c] at this; exact this
      · have c : ¬ msX X (l.getD u 0) ≤ msX X b := c
        rw [if_neg c] at this
        rw [hr]; exact this
theorem worstM_loop {Q : Int32 → St → Prop} {X M : St} {P : Nat} {l : List Nat} (hR : RelX X M) (hP : rPos P X M) (hl : l.length ≤ 12) (h17 : M.1 17 0 = nI l.length) (hrow : rowIs (M.1 5) l) (hmem : ∀ x ∈ l, x < P ∧ meas X x = true) (q : Q (wenc (wr (msX X) l l.length)) M) : ∀ (m u : Nat), u + m = l.length → f_X8_worst_b8 Q (m + 1) (wenc (wr (msX X) l u)) (nI u) M := by
  have h20 := hP.1
  intro m
  induction m with
  | zero =>
    intro u hu
    have : u = l.length := by omega
    subst this
    unfold f_X8_worst_b8
    exact bt (by rw [h17]; exact Int32.le_refl _) q
  | succ m ih =>
    intro u hu
    unfold f_X8_worst_b8
    have hult : u < l.length := by omega
    have hget : l[u]? = some (l.getD u 0) := by rw [List.getD_eq_getElem?_getD, List.getElem?_eq_getElem hult]; rfl
    have hr := hrow u _ hget
    have hx : l.getD u 0 ∈ l := List.mem_of_getElem? hget
    obtain ⟨m1, m2⟩ := hmem _ hx
    refine bf (by rw [h17]; exact nI_ge hult (by omega)) ?_
    rw [nI_clamp (by omega), hr, nI_1]
    have := ih (u + 1) (by omega)
    unfold wr at this
    cases hw : wr (msX X) l u with
    | none =>
      rw [hw] at this
      exact bt rfl ⟨vp_in_nI (by omega) (by decide), nmx (nmx this)⟩
    | some b =>
      rw [hw] at this
      obtain ⟨b1, b2⟩ := hmem b (wr_mem _ _ u b (by omega) hw)
      have hne : ¬ wenc (some b) = -1 := by
        intro h
        have h2 : (nI b).toInt = (-1 : Int32).toInt := by rw [show nI b = -1 from h]
        rw [nI_toInt (by omega)] at h2
        have : (-1 : Int32).toInt = -1 := by decide
        omega
      refine bf hne ⟨vp_in_nI (by omega) (by decide), sp_missM hR hP m1 m2 (sp_missM hR hP b1 b2 ?_)⟩
      have this : f_X8_worst_b8 Q (m + 1) (wenc (if msX X (l.getD u 0) ≤ msX X b then some b else some (l.getD u 0))) (nI (u + 1)) M := this
      refine ⟨fun c => nmx ?_, fun c => ⟨vp_in_nI (by omega) (by decide), nmx (nmx ?_)⟩⟩
      · rw [if_pos c] at this; exact this
      · rw [if_neg c] at this
        rw [hr]; exact this
theorem ob_worst : Ob_worst RelX := by
  intro σ τ hR
  obtain ⟨hLen, ⟨P, hP⟩, hCam, hLim, hShe, hLat, hCs⟩ := id hR
  have h20 := hP.1
  have hlen := ul_len (uB σ) P
  have hmem : ∀ x ∈ ul (uB σ) P, x < P ∧ meas σ x = true := fun x hx => by
    obtain ⟨h1, h2⟩ := ul_mem (uB σ) P x hx
    unfold uB at h2
    rw [Bool.and_eq_true] at h2
    exact ⟨h1, h2.2⟩
  unfold f_X7_worst
  refine sp_listUsed hShe.size0 hP.2.1 h20 (fun σ' hx _ hrow => ⟨(ul (uB σ) P).length + 1, ?_⟩)
  refine worstX_loop hlen hx hrow hLen.lens (fun x hx => ⟨(hmem x hx).1, (hmem x hx).2, hP.hX (hmem x hx).1⟩) h20 ?_ (ul (uB σ) P).length 0 (by omega)
  unfold f_X8_worst
  refine sp_findUsed hR hP (fun τ' hm _ h17 hrowM => ⟨(ul (uB σ) P).length + 1, ?_⟩)
  have hR' : RelX σ τ' := hR.keep eqX.rf hm
  have hP' : rPos P σ τ' := hP.cg rfl rfl rfl rfl (hm 1 (by decide) (by decide) (by decide) (by decide)) (hm 3 (by decide) (by decide) (by decide) (by decide)) (hm 4 (by decide) (by decide) (by decide) (by decide))
  exact worstM_loop hR' hP' hlen h17 hrowM hmem ⟨rfl, hR.keep hx hm⟩ (ul (uB σ) P).length 0 (by omega)
