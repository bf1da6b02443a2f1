/-! A time is in a window, or in none. -/
theorem wOk_of {fr wd tm : Int64} {n : Nat} (hn : n ≤ 64) (h0 : 0 ≤ fr) (h1 : tm ≤ 1099511627775) : wOk fr wd n tm := by
  unfold wOk woA
  by_cases a : tm < fr
  · exact Or.inl (if_pos a)
  · by_cases b : 1 ≤ wd
    · by_cases c : lN n ≤ (tm - fr) / wd
      · left
        rw [if_neg a, if_pos b, if_pos c]
      · right
        have a0 : fr.toInt ≤ tm.toInt := Int64.le_iff_toInt_le.mp (Int64.not_lt.mp a)
        have a1 : (0 : Int) ≤ fr.toInt := by have := Int64.le_iff_toInt_le.mp h0; simpa using this
        have a2 : tm.toInt ≤ 1099511627775 := by have := Int64.le_iff_toInt_le.mp h1; simpa using this
        have a3 : (1 : Int) ≤ wd.toInt := by have := Int64.le_iff_toInt_le.mp b; simpa using this
        have s1 : (tm - fr).toInt = tm.toInt - fr.toInt := by
          rw [Int64.toInt_sub]
          exact Int.bmod_eq_of_le (by omega) (by omega)
        have d0 : 0 ≤ (tm.toInt - fr.toInt).tdiv wd.toInt := Int.tdiv_nonneg (by omega) (by omega)
        have d1 : (tm.toInt - fr.toInt).tdiv wd.toInt ≤ tm.toInt - fr.toInt := Int.tdiv_le_self _ (by omega)
        have s2 : ((tm - fr) / wd).toInt = (tm.toInt - fr.toInt).tdiv wd.toInt := by
          rw [Int64.toInt_div, s1]
          exact Int.bmod_eq_of_le (by omega) (by omega)
        have c1 : ((tm - fr) / wd).toInt < (n : Int) := by
          have h := Int64.lt_iff_toInt_lt.mp (Int64.not_le.mp c)
          rw [show (lN n).toInt = (n : Int) from lN_toInt (by omega)] at h
          exact h
        refine ⟨((tm - fr) / wd).toInt.toNat, by omega, ?_⟩
        rw [if_neg a, if_pos b, if_neg c]
        apply Int32.toInt_inj.mp
        rw [nI_toInt (by omega), Int64.toInt_toInt32, Int.bmod_eq_of_le (by omega) (by omega)]
        omega
    · exact Or.inl ((if_neg a).trans (if_neg b))
