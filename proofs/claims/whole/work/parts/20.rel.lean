/-! ===== what ties the two sides ===== -/
def SOF (j : Nat) : Int32 := COF ((j + 27) % 36)
def prd (a b : Int32) : Int32 := COF a.toNatClampNeg * COF b.toNatClampNeg + SOF a.toNatClampNeg * SOF b.toNatClampNeg
def rLen (X M : St) : Prop := ∀ i, i < 3 → X.1 0 i = M.1 0 i ∧ ∃ v : Nat, 1 ≤ v ∧ v ≤ 999 ∧ X.1 0 i = nI v
def rPos (P : Nat) (X M : St) : Prop := P ≤ 20 ∧ X.1 3 0 = nI P ∧ M.1 3 0 = nI P ∧ (∀ j, j < 3 * P → X.1 1 j = M.1 1 j ∧ ∃ h : Nat, h < 36 ∧ X.1 1 j = nI h) ∧ (∀ i r c, i < P → r < 3 → c < 3 → X.1 2 (9 * i + 3 * r + c) = prd (X.1 1 (3 * i + r)) (X.1 1 (3 * i + c))) ∧ (∀ i, i < P → X.1 4 i = M.1 4 i ∧ zok (X.1 4 i)) ∧ ∀ i, P ≤ i → i < 20 → X.1 4 i = 0
def rCam (X M : St) : Prop := ∃ n : Nat, n ≤ 20 ∧ X.1 10 0 = nI n ∧ M.1 10 0 = nI n ∧ ∀ j, j < n → X.1 6 j = M.1 6 j ∧ X.1 7 j = M.1 7 j ∧ X.1 8 j = M.1 8 j ∧ X.1 9 j = M.1 9 j
def rLim (X M : St) : Prop := ∀ k, k < 3 → ∃ lo sp : Nat, lo < 36 ∧ sp < 36 ∧ M.1 19 k = nI lo ∧ M.1 20 k = nI sp ∧ ∀ t, t < 36 → X.1 11 (36 * k + t) = if (t + 36 - lo) % 36 ≤ sp then 1 else 0
def rShe (X M : St) : Prop := ∀ k, k < 4 → (X.1 (24 + k) 0 = -1 ∧ M.1 22 k = -1 ∧ X.1 (28 + k) 0 = 0) ∨ ∃ f n : Nat, f ≤ 2 ∧ n ≤ 100 ∧ X.1 (24 + k) 0 = nI f ∧ M.1 22 k = nI f ∧ X.1 (28 + k) 0 = nI n ∧ M.1 23 k = nI n ∧ ∀ j, j < n → X.1 (20 + k) j = M.1 24 (100 * k + j)
def rCs (M : St) : Prop := ∀ j, j < 36 → M.1 18 j = COF j
def RelX (X M : St) : Prop := rLen X M ∧ (∃ P, rPos P X M) ∧ rCam X M ∧ rLim X M ∧ rShe X M ∧ X.1 16 0 = M.1 16 0 ∧ rCs M
