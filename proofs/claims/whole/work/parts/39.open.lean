theorem rel_init (f : Nat → Int32) (hf : ∀ j, j < 108 → f j = 1) : f_X8_init zSt (fun τ => RelX (iniX f) τ) := by sorry
theorem obAll : ObAll RelX := by sorry
