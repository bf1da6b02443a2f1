/-! The matches of a step, from the brace on. -/
section TL
variable {f : Nat → Int32} {n : Nat} {t t1 t2 : TKQ}
theorem tkT_y {k : Int32} (h : t.1 = k) (e : t1 = nxT f n t) : tkT f n t k = (true, t1) := by
  rw [e]
  exact if_pos h
theorem tkT_x {k : Int32} (h : ¬ t.1 = k) : tkT f n t k = (false, rfT t 2 t.2.1) := if_neg h
theorem tlT_0 (h : ¬ t.1 = 40) : (tlT f n t).1 = false := by
  unfold tlT
  rw [tkT_x h]
  rfl
theorem tlT_1 (h : t.1 = 40) (e : t1 = nxT f n t) : tlT f n t = tlB f n t1 := by
  unfold tlT
  rw [tkT_y h e]
  rfl
theorem tlB_0 (h : ¬ t.1 = 123) : (tlB f n t).1 = false := by
  unfold tlB
  rw [tkT_x h]
  rfl
theorem tlB_1 (h : t.1 = 123) (e : t1 = nxT f n t) : tlB f n t = tlC f n (msT f n t1) := by
  unfold tlB
  rw [tkT_y h e]
  rfl
theorem tlC_1 {M : RM} (h : (tlC f n M).1 = true) : M.1 = true ∧ M.2.1.1 = 125 ∧ (tlC f n M).2.2 = M.2.2 := by
  have m1 : M.1 = true := by
    cases c : M.1 with
    | true => rfl
    | false =>
      unfold tlC at h
      rw [if_neg (by rw [c]; decide), c] at h
      exact h
  have m2 : M.2.1.1 = 125 := by
    by_cases c : M.2.1.1 = 125
    · exact c
    · unfold tlC at h
      rw [if_pos m1, tkT_x c] at h
      exact Bool.noConfusion h
  refine ⟨m1, m2, ?_⟩
  unfold tlC
  rw [if_pos m1]
  unfold tlD
  split <;> rfl
end TL
section MT2
variable {x u : MS} {s : Nat} {SS : Nat → List LB} {t : TKQ}
theorem mt_T (hb : byteF x.tape) (hx : txR x.texts x.textLengths x.seriesCount SS) (hs : s < x.seriesCount) (hg : serG (SS s)) (uf : u.tape = x.tape) (un : u.length = x.length) (ut : tkR u t) (ul : u.lx) (h1 : (tlT x.tape x.length t).1 = true) : (x.mt s (tkT x.tape x.length t 40).2.2.2.1).1 = allB (tlT x.tape x.length t).2.2.1 (tkF (tlT x.tape x.length t).2.2.2.1 (tlT x.tape x.length t).2.2.2.2.1 (tlT x.tape x.length t).2.2.2.2.2 (SS s)) := by
  obtain ⟨t1, e1⟩ : ∃ t1, t1 = nxT x.tape x.length t := ⟨_, rfl⟩
  obtain ⟨t2, e2⟩ : ∃ t2, t2 = nxT x.tape x.length t1 := ⟨_, rfl⟩
  by_cases c1 : t.1 = 40
  rotate_left
  · rw [tlT_0 c1] at h1
    exact Bool.noConfusion h1
  rw [tlT_1 c1 e1] at h1 ⊢
  rw [tkT_y c1 e1]
  by_cases c2 : t1.1 = 123
  rotate_left
  · rw [tlB_0 c2] at h1
    exact Bool.noConfusion h1
  rw [tlB_1 c2 e2] at h1 ⊢
  obtain ⟨M, eM⟩ : ∃ M, M = msT x.tape x.length t2 := ⟨_, rfl⟩
  rw [← eM] at h1 ⊢
  obtain ⟨m1, m2, m3⟩ := tlC_1 h1
  rw [m3]
  rcases nx_p uf un hb ut ul e1 with ⟨z1, a1, a2, a3, f1, n1, -, -, -, -⟩ | ⟨z1, a1, a2, a3, a4⟩
  rotate_left
  · rw [a2] at c2
    exact absurd c2 (by decide)
  show (x.mt s t1.2.2.1).1 = _
  rw [← a2.2.2.1]
  rcases nx_p f1 n1 hb a2 a3 e2 with ⟨y, b1, b2, b3, f2, n2, B1, B2, I2, b4⟩ | ⟨y, b1, b2, b3, b4⟩
  rotate_left
  · obtain ⟨Y, eY⟩ := msT_b (f := x.tape) (n := x.length) b3 b2
    rw [eM, eY] at m1
    exact Bool.noConfusion m1
  have S2 := nx_sp (by rw [f1]; exact hb) a3 (show z1.nx.1 = true by rw [b1])
  rw [b1] at S2
  have S2 : ∀ i, z1.too ≤ i → i < y.frm → x.atN i = 32 := fun i h1 h2 => by
    have : atI z1.tape z1.length i = 32 := S2 i h1 h2
    rw [f1, n1] at this
    exact this
  have l1 := b3.2.1
  have l2 := b3.2.2.1
  have em : x.mt s z1.too = mtG x.atN (m5E x.tape x.length) (x.mt1 s) (x.mtL s) (x.length + 1 - z1.too - (y.frm - z1.too)) y.frm true x.valueLength := by
    unfold MS.mt
    rw [mtG_sp (y.frm - z1.too) z1.too (x.length + 1 - z1.too) _ (fun i h1 h2 => S2 i h1 (by omega)) (by omega), Nat.add_sub_cancel' B1]
  rw [em]
  by_cases c : t2.1 = 125
  · have e : M = (true, t2, 0, fun _ => 0, fun _ => [], fun _ => []) := eM.trans (if_pos c)
    have k : y.kind = 125 := (kR_i b2.1 (kR_s (by decide))).mpr c
    have u1 : atI y.tape y.length y.frm = y.kind := (I2.2.2.1 (by rw [k]; decide) (by rw [k]; decide)).1
    rw [f2, n2, k] at u1
    have u2 : x.atN y.frm = 125 := u1
    rw [e, mtG_e (Or.inr u2)]
    rfl
  · have e : M = rmG x.tape x.length x.length t2 0 (fun _ => 0) (fun _ => []) (fun _ => []) := eM.trans (if_neg c)
    have gm : gtP M.1 M.2.1 := by
      rw [e]
      exact rmG_g (gt_0 b4)
    have cm : M.2.1.2.2.2.2.1 = 0 := gt_k (gm m1) m2 (by decide)
    obtain ⟨-, q⟩ := mt_q hb hx hs hg e f2 n2 b2 b3 I2 m1 cm m2
    have q := q (x.length + 1 - z1.too - (y.frm - z1.too)) x.valueLength (by omega)
    obtain ⟨P, eP⟩ : ∃ P, P = mtG x.atN (m5E x.tape x.length) (x.mt1 s) (x.mtL s) (x.length + 1 - z1.too - (y.frm - z1.too)) y.frm true x.valueLength := ⟨_, rfl⟩
    rw [← eP] at q ⊢
    cases d : allB M.2.2.1 (tkF M.2.2.2.1 M.2.2.2.2.1 M.2.2.2.2.2 (SS s)) with
    | true => exact q.mpr (fun i _ hi => (allB_iff.mp d) i hi)
    | false =>
      cases p : P.1 with
      | false => rfl
      | true => rw [allB_iff.mpr (fun i hi => q.mp p i (Nat.zero_le i) hi)] at d; cases d
end MT2
