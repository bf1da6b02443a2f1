/-! Points come in a row: over all of the relation. -/
section BK
variable {m : MS} {x : VS} {PS : Nat → PT} {dn bn : Nat → Nat} {w : Nat}
theorem bk_co (h : coR m x PS dn bn) (ht : m.tape = x.tape) (hw : w < x.nser) (hfl : x.jfill ≤ 126) (hJ : x.jsize ≤ x.jN ∧ 0 < x.jN) (hH : x.hsize ≤ x.hN ∧ 0 < x.hN) : ∀ {i : Nat} {z : VS}, bkR x w i z → coR ((m.s_cod 0).blkS w i) z PS dn bn ∧ ((m.s_cod 0).blkS w i).tape = x.tape ∧ z.nser = x.nser
  | 0, z, e => by
    rw [show z = VS.s_tapeLength x 0 from e]
    exact ⟨h, ht, rfl⟩
  | i + 1, z, e => by
    have bi := bk_i hfl hJ.1 hJ.2 hH.1 hH.2 e
    obtain ⟨y, ja, pa, e1, e2, e3⟩ := e
    obtain ⟨c1, c2, c3⟩ := bk_co h ht hw hfl hJ hH e1
    obtain ⟨-, -, -, -, -, -, -, q8, q9, -, -, q12, q13⟩ := bk_i hfl hJ.1 hJ.2 hH.1 hH.2 e1
    have ap := ap_co (ja := ja) (pa := pa) (b := vlB x i) c1 (by rw [c3]; exact hw) e2 ⟨q8, q9⟩ ⟨q12, q13⟩
    rw [e3]
    refine ⟨?_, c2, ?_⟩
    · have et : numB m.tape (16 * i) 8 = tmB x i := by unfold tmB; rw [ht, Nat.mul_comm]
      have ev : numB m.tape (16 * i + 8) 8 = vlB x i := by unfold vlB; rw [ht, Nat.mul_comm]
      show coR ((((m.s_cod 0).blkS w i).recS 1 w (numB m.tape (16 * i) 8) (numB m.tape (16 * i + 8) 8) 1).comS w (numB m.tape (16 * i) 8) (numB m.tape (16 * i + 8) 8)) _ PS dn bn
      rw [et, ev]
      exact ap
    · rw [← c3]
      exact (cmF_k (y.wrF ja 1 w 1 (tmB x i) (vlB x i)) pa w (tmB x i) (vlB x i)).2.2.2.2.2.2.1.trans ((congrArg VS.nser (wrF_jw y ja 1 w 1 (tmB x i) (vlB x i))).trans rfl)
end BK
