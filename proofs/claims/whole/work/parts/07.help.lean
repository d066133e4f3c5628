theorem lgc_ge (x y : Int64) : (0 ≤ lg_cmp x y) ↔ y ≤ x := lg_cmp_ge x y
theorem lgc_lt (x y : Int64) : (lg_cmp x y < 0) ↔ x < y := by
  rw [← Int32.not_le, lg_cmp_ge, Int64.not_le]
theorem lgc_gt (x y : Int64) : (0 < lg_cmp x y) ↔ y < x := by
  unfold lg_cmp
  by_cases h : y < x
  · simp [h]
  · simp only [gt_iff_lt, h, if_false, iff_false]
    split <;> decide
theorem lgc_le (x y : Int64) : (lg_cmp x y ≤ 0) ↔ x ≤ y := by
  rw [← Int32.not_lt, lgc_gt, Int64.not_lt]
theorem lgc_eq (x y : Int64) : (lg_cmp x y = 0) ↔ x = y := by
  unfold lg_cmp
  by_cases h : y < x
  · simp only [gt_iff_lt, h, if_true]
    constructor
    · intro z; exact absurd z (by decide)
    · intro z; subst z; exact (Int64.lt_irrefl h).elim
  · simp only [gt_iff_lt, h, if_false]
    by_cases e : x = y
    · simp [e]
    · simp only [e, if_false, iff_false]
      decide
theorem tb_out5 {x : Int32} (c0 : ¬ x = 0) (c1 : ¬ x = 1) (c2 : ¬ x = 2) (c3 : ¬ x = 3) (c4 : ¬ x = 4) (c5 : ¬ x = 5) : x.toInt < 0 ∨ 5 < x.toInt := by
  have f : ∀ (n : Int32), ¬ x = n → x.toInt ≠ n.toInt := fun n h q => h (Int32.toInt_inj.mp q)
  have h0 : x.toInt ≠ 0 := f 0 c0
  have h1 : x.toInt ≠ 1 := f 1 c1
  have h2 : x.toInt ≠ 2 := f 2 c2
  have h3 : x.toInt ≠ 3 := f 3 c3
  have h4 : x.toInt ≠ 4 := f 4 c4
  have h5 : x.toInt ≠ 5 := f 5 c5
  omega
