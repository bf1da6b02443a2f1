/-! Small facts of ints. -/
theorem nlt_m1 {n : Int32} (h : ¬ n < 0) : ¬ n < (-1) := by
  intro h2
  exact h (Int32.lt_trans h2 (by decide))
theorem ask_l {t w : Int64} {n : Int32} {T : Int64} (h0 : t < 0 ∨ T < t ∨ w < 1 ∨ T < w ∨ n < 1 ∨ 64 < n) (hc : ¬ lg_cmp t 0 < 0) (hd : ¬ 0 < lg_cmp t T) (he : ¬ lg_cmp w 1 < 0) (hf : ¬ 0 < lg_cmp w T) (hg : ¬ n < 1) : ¬ n ≤ 64 := by
  rcases h0 with h | h | h | h | h | h
  · exact absurd ((lg_cmp_lt _ _).mpr h) hc
  · exact absurd ((lg_cmp_gt _ _).mpr h) hd
  · exact absurd ((lg_cmp_lt _ _).mpr h) he
  · exact absurd ((lg_cmp_gt _ _).mpr h) hf
  · exact absurd h hg
  · exact Int32.not_le.mpr h
