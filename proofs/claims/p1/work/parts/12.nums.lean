/-! Small facts of ints. -/
theorem nlt_m1 {n : Int32} (h : ¬ n < 0) : ¬ n < (-1) := by
  intro h2
  exact h (Int32.lt_trans h2 (by decide))
