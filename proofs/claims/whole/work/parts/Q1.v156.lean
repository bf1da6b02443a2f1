/-! The matches of a step, from the brace on. -/
section MT2
variable {x u : MS} {s : Nat} {SS : Nat → List LB} {t : TKQ}
theorem mt_T (hb : byteF x.tape) (hx : txR x.texts x.textLengths x.seriesCount SS) (hs : s < x.seriesCount) (hg : serG (SS s)) (uf : u.tape = x.tape) (un : u.length = x.length) (ut : tkR u t) (ul : u.lx) (h1 : (tlT x.tape x.length t).1 = true) : (x.mt s (tkT x.tape x.length t 40).2.2.2.1).1 = allB (tlT x.tape x.length t).2.2.1 (tkF (tlT x.tape x.length t).2.2.2.1 (tlT x.tape x.length t).2.2.2.2.1 (tlT x.tape x.length t).2.2.2.2.2 (SS s)) := by
  unfold tlT at h1 ⊢
  by_cases c1 : t.1 = 40
  rotate_left
  · rw [show tkT x.tape x.length t 40 = (false, rfT t 2 t.2.1) from if_neg c1] at h1
    exact Bool.noConfusion h1
  rw [show tkT x.tape x.length t 40 = (true, nxT x.tape x.length t) from if_pos c1] at h1 ⊢
  rw [if_pos rfl] at h1 ⊢
  unfold tlB at h1 ⊢
  have h1 : (if (tkT x.tape x.length (nxT x.tape x.length t) 123).1 = true then tlC x.tape x.length (msT x.tape x.length (tkT x.tape x.length (nxT x.tape x.length t) 123).2) else (false, (tkT x.tape x.length (nxT x.tape x.length t) 123).2, 0, fun _ => 0, fun _ => [], fun _ => [])).1 = true := h1
  show (x.mt s (nxT x.tape x.length t).2.2.1).1 = allB (if (tkT x.tape x.length (nxT x.tape x.length t) 123).1 = true then tlC x.tape x.length (msT x.tape x.length (tkT x.tape x.length (nxT x.tape x.length t) 123).2) else (false, (tkT x.tape x.length (nxT x.tape x.length t) 123).2, 0, fun _ => 0, fun _ => [], fun _ => [])).2.2.1 (tkF (if (tkT x.tape x.length (nxT x.tape x.length t) 123).1 = true then tlC x.tape x.length (msT x.tape x.length (tkT x.tape x.length (nxT x.tape x.length t) 123).2) else (false, (tkT x.tape x.length (nxT x.tape x.length t) 123).2, 0, fun _ => 0, fun _ => [], fun _ => [])).2.2.2.1 (if (tkT x.tape x.length (nxT x.tape x.length t) 123).1 = true then tlC x.tape x.length (msT x.tape x.length (tkT x.tape x.length (nxT x.tape x.length t) 123).2) else (false, (tkT x.tape x.length (nxT x.tape x.length t) 123).2, 0, fun _ => 0, fun _ => [], fun _ => [])).2.2.2.2.1 (if (tkT x.tape x.length (nxT x.tape x.length t) 123).1 = true then tlC x.tape x.length (msT x.tape x.length (tkT x.tape x.length (nxT x.tape x.length t) 123).2) else (false, (tkT x.tape x.length (nxT x.tape x.length t) 123).2, 0, fun _ => 0, fun _ => [], fun _ => [])).2.2.2.2.2 (SS s))
  by_cases c2 : (nxT x.tape x.length t).1 = 123
  rotate_left
  · rw [show tkT x.tape x.length (nxT x.tape x.length t) 123 = (false, rfT (nxT x.tape x.length t) 2 (nxT x.tape x.length t).2.1) from if_neg c2] at h1
    exact Bool.noConfusion h1
  rw [show tkT x.tape x.length (nxT x.tape x.length t) 123 = (true, nxT x.tape x.length (nxT x.tape x.length t)) from if_pos c2] at h1 ⊢
  rw [if_pos rfl] at h1 ⊢
  rcases nx_c uf un hb ut ul with ⟨a1, a2, a3, a4⟩ | ⟨a1, a2, a3, a4⟩
  rotate_left
  · rw [a2] at c2
    exact absurd c2 (by decide)
  have T1 := tk_nx u
  obtain ⟨z1, e1⟩ : ∃ z1, z1 = u.nx.2 := ⟨_, rfl⟩
  rw [← e1] at a2 a3 T1
  have f1 : z1.tape = x.tape := (tk_f T1 MS.tape rfl).trans uf
  have n1 : z1.length = x.length := (tk_f T1 MS.length rfl).trans un
  rw [← a2.2.2.1]
  have h1 : (tlC x.tape x.length (msT x.tape x.length (nxT x.tape x.length (nxT x.tape x.length t)))).1 = true := h1
  show (x.mt s z1.too).1 = allB (tlC x.tape x.length (msT x.tape x.length (nxT x.tape x.length (nxT x.tape x.length t)))).2.2.1 (tkF (tlC x.tape x.length (msT x.tape x.length (nxT x.tape x.length (nxT x.tape x.length t)))).2.2.2.1 (tlC x.tape x.length (msT x.tape x.length (nxT x.tape x.length (nxT x.tape x.length t)))).2.2.2.2.1 (tlC x.tape x.length (msT x.tape x.length (nxT x.tape x.length (nxT x.tape x.length t)))).2.2.2.2.2 (SS s))
  rcases nx_c f1 n1 hb a2 a3 with ⟨b1, b2, b3, b4⟩ | ⟨b1, b2, b3, b4⟩
  rotate_left
  · obtain ⟨X, eX⟩ := msT_b (f := x.tape) (n := x.length) b3 b2
    rw [eX] at h1
    exact Bool.noConfusion h1
  have B := nx_in a3 b1
  have S2 := nx_sp (by rw [f1]; exact hb) a3 b1
  have I2 := (nx_isT b1).1
  have T2 := tk_nx z1
  obtain ⟨y, e2⟩ : ∃ y, y = z1.nx.2 := ⟨_, rfl⟩
  rw [← e2] at b2 b3 B S2 I2 T2
  have f2 : y.tape = x.tape := (tk_f T2 MS.tape rfl).trans f1
  have n2 : y.length = x.length := (tk_f T2 MS.length rfl).trans n1
  have S2 : ∀ i, z1.too ≤ i → i < y.frm → x.atN i = 32 := fun i h1 h2 => by
    have : atI z1.tape z1.length i = 32 := S2 i h1 h2
    rw [f1, n1] at this
    exact this
  have em : x.mt s z1.too = mtG x.atN (m5E x.tape x.length) (x.mt1 s) (x.mtL s) (x.length + 1 - z1.too - (y.frm - z1.too)) y.frm true x.valueLength := by
    unfold MS.mt
    have l1 := b3.2.1
    have l2 := b3.2.2.1
    rw [mtG_sp (y.frm - z1.too) z1.too (x.length + 1 - z1.too) _ (fun i h1 h2 => S2 i h1 (by omega)) (by omega), Nat.add_sub_cancel' B.2.1]
  rw [em]
  obtain ⟨M, eM⟩ : ∃ M, M = msT x.tape x.length (nxT x.tape x.length (nxT x.tape x.length t)) := ⟨_, rfl⟩
  rw [← eM] at h1 ⊢
  have m1 : M.1 = true := by
    cases c : M.1 with
    | true => rfl
    | false =>
      unfold tlC at h1
      rw [if_neg (by rw [c]; decide), c] at h1
      exact h1
  have m2 : M.2.1.1 = 125 := by
    by_cases c : M.2.1.1 = 125
    · exact c
    · unfold tlC at h1
      rw [if_pos m1, show tkT x.tape x.length M.2.1 125 = (false, rfT M.2.1 2 M.2.1.2.1) from if_neg c] at h1
      exact Bool.noConfusion h1
  have m3 : (tlC x.tape x.length M).2.2 = M.2.2 := by
    unfold tlC
    rw [if_pos m1]
    unfold tlD
    split <;> rfl
  rw [m3]
  by_cases c : (nxT x.tape x.length (nxT x.tape x.length t)).1 = 125
  · have e : M = (true, nxT x.tape x.length (nxT x.tape x.length t), 0, fun _ => 0, fun _ => [], fun _ => []) := eM.trans (if_pos c)
    have k : y.kind = 125 := (kR_i b2.1 (kR_s (by decide))).mpr c
    have u1 : atI y.tape y.length y.frm = y.kind := (I2.2.2.1 (by rw [k]; decide) (by rw [k]; decide)).1
    rw [f2, n2, k] at u1
    rw [e, mtG_e (Or.inr u1)]
    rfl
  · have e : M = rmG x.tape x.length x.length (nxT x.tape x.length (nxT x.tape x.length t)) 0 (fun _ => 0) (fun _ => []) (fun _ => []) := eM.trans (if_neg c)
    have gm : gtP M.1 M.2.1 := by
      rw [e]
      exact rmG_g (gt_0 b4)
    have cm : M.2.1.2.2.2.2.1 = 0 := gt_k (gm m1) m2 (by decide)
    obtain ⟨-, q⟩ := mt_q hb hx hs hg e f2 n2 b2 b3 I2 m1 cm m2
    have l1 := b3.2.1
    have l2 := b3.2.2.1
    have q := q (x.length + 1 - z1.too - (y.frm - z1.too)) x.valueLength (by
      have := B.2.1
      omega)
    obtain ⟨P, eP⟩ : ∃ P, P = mtG x.atN (m5E x.tape x.length) (x.mt1 s) (x.mtL s) (x.length + 1 - z1.too - (y.frm - z1.too)) y.frm true x.valueLength := ⟨_, rfl⟩
    rw [← eP] at q ⊢
    cases d : allB M.2.2.1 (tkF M.2.2.2.1 M.2.2.2.2.1 M.2.2.2.2.2 (SS s)) with
    | true => exact q.mpr (fun i _ hi => (allB_iff.mp d) i hi)
    | false =>
      cases p : P.1 with
      | false => rfl
      | true => rw [allB_iff.mpr (fun i hi => q.mp p i (Nat.zero_le i) hi)] at d; cases d
end MT2
