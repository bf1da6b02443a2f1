/-! The invariant of the steps is kept by every step. -/
section KW
variable {dA : Nat → ClassId} {ad : Nat → Nat} {r : va_W} {la : Nat → Nat} {PS : Nat → PT} {SS : Nat → List LB} {nw : Nat} {I : SKT → Prop} {σ0 : SHT} {dn : Nat → Nat} {f : Nat → Int32} {n : Nat}
theorem bas_ck {y z : MS} (h : y.ck z) (hb : basR PS SS nw I dn y) : basR PS SS nw I dn z := by
  rw [show z = y.ckS z from h]
  exact hb
theorem tabO_nk {y z : MS} (h : y.nk z) (ho : y.nmO z y.pile) : tabO y z y.pile :=
  ⟨⟨nk_f h MS.tape rfl, nk_f h MS.windows rfl, nk_f h MS.seriesCount rfl⟩, fun q hq => ⟨ho.1 q hq, congrFun (nk_f h MS.tableRows rfl) q⟩, fun q hq => ho.2 q hq, fun q _ => congrFun (nk_f h MS.rowSeries rfl) q, fun q _ => ⟨congrFun (nk_f h MS.isCell rfl) q, congrFun (nk_f h MS.cells rfl) q⟩⟩
theorem jk_w (h0 : ∀ a0, I a0 → skQ dA ad r la a0) (hpl : ∀ a0, I a0 → plF a0.1.pl) (hkn : ∀ a0, I a0 → knOk dA a0.1.kn a0.1.nser a0.1.pl SS) : JK f n (Jw dA ad r la PS SS nw I σ0 dn) (Jx dA ad r la PS SS nw I σ0) := by
  refine ⟨fun L y z j h => ?_, fun L s y z j hw h => ?_, fun L y q j hw qi h20 => ?_, fun L y q j hw qi h1 => ?_, fun L y a q j hw qi h2 hb => ⟨fun ob => ?_, fun ob => ?_⟩, fun L y z t b wh j hw qi h20 ft fl nk no hn hnn hu hl he hf hwh => ?_⟩
  · intro wz
    have h : z = y.sgS z := h
    have wy : y.works = true := by
      rw [h] at wz
      exact wz
    obtain ⟨bb, σ, cC, cS, j1, j2, j3, j4⟩ := j wy
    refine ⟨?_, σ, cC, cS, j1, j2, ?_, fun a0 i0 a ha => ⟨(j4 a0 i0 a ha).1, ?_⟩⟩
    · rw [h]
      exact bb
    · rw [h]
      exact j3
    · rw [h]
      exact (j4 a0 i0 a ha).2
  · intro wz
    have : z.works = y.works := nk_f h MS.works rfl
    rw [this, hw] at wz
    cases wz
  · intro _
    obtain ⟨bb, σ, cC, cS, j1, j2, j3, j4⟩ := j hw
    obtain ⟨σ1, cC', cS', k⟩ := J_num h0 bb j1 j2 j3 j4 h20 q
    exact ⟨bas_ck (ck_nb y) bb, σ1, cC', cS', k⟩
  · intro _
    obtain ⟨bb, σ, cC, cS, j1, j2, j3, j4⟩ := j hw
    obtain ⟨σ1, cC', cS', k⟩ := J_turn h0 bb j1 j2 j3 j4 h1 q
    exact ⟨bas_ck (ck_ng y) bb, σ1, cC', cS', k⟩
  · intro _
    obtain ⟨bb, σ, cC, cS, j1, j2, j3, j4⟩ := j hw
    obtain ⟨σ1, cC', cS', k⟩ := J_op h0 hpl bb j1 j2 j3 j4 h2 (bin_c hb).2.2.1 ob q
    exact ⟨bas_ck (ck_opS y _ q) bb, σ1, cC', cS', k⟩
  · obtain ⟨bb, σ, cC, cS, j1, j2, j3, j4⟩ := j hw
    exact J_opx bb j1 j2 j3 j4 h2 (bin_c hb).2.2.1 ob q
  · intro _
    obtain ⟨bb, σ, cC, cS, j1, j2, j3, j4⟩ := j hw
    have bz : basR PS SS nw I dn z := bas_ck (ck_nk nk) bb
    have zp : z.pile = y.pile := nk_f nk MS.pile rfl
    have zt : z.tape = f := (nk_f nk MS.tape rfl).trans ft
    have zl : z.length = n := (nk_f nk MS.length rfl).trans fl
    have zq : ∀ q, q < z.points → z.pointSeries q < 256 := fun q hq => by
      rw [nk_f nk MS.points rfl] at hq
      rw [nk_f nk MS.pointSeries rfl]
      exact qi.2.2.2.1 q hq
    obtain ⟨u, u1, u2, u3, u4⟩ := hu
    obtain ⟨σ1, cC', cS', k⟩ := J_fun (p := (tkT f n b.2.1 40).2.2.2.1) (s := pfS f t b (tlT f n b.2.1)) (wh := wh) h0 hkn bb j1 j2 j3 j4 h20 qi bz (tabO_nk nk no) zp zq rfl (by rw [zp]; exact hn) hnn (fun i hi v => by
      have := mt_T (x := MS.s_valueLength z v) (u := u) (s := i) (SS := SS) (t := b.2.1) bz.1.2.2.2 bz.2.1.1 hi (bz.2.1.2 i hi) (u1.trans zt.symm) (u2.trans zl.symm) u3 u4 (show (tlT z.tape z.length b.2.1).1 = true by rw [zt, zl]; exact hl)
      have this : ((MS.s_valueLength z v).mt i (tkT z.tape z.length b.2.1 40).2.2.2.1).1 = allB (tlT z.tape z.length b.2.1).2.2.1 (tkF (tlT z.tape z.length b.2.1).2.2.2.1 (tlT z.tape z.length b.2.1).2.2.2.2.1 (tlT z.tape z.length b.2.1).2.2.2.2.2 (SS i)) := this
      rw [zt, zl] at this
      exact this) (by
      show ((fnV (tkw f t)).toInt64).toInt32 = nI wh
      rw [hf, Int32.toInt32_toInt64]) hwh
    exact ⟨bas_ck (ck_rk z wh _) bz, σ1, cC', cS', k⟩
/-- before the first step -/
theorem J_0 {y : MS} (hb : basR PS SS nw I dn y) (hp : y.pile = 0) (ho : shOk σ0) (h0 : σ0.1 = 0) (ha : ∀ a0, I a0 → shp a0 = σ0 ∧ (∀ tb, tb < a0.2.1.sz → rsAll dA a0.1.pl (a0.2.2.2 tb).rs) ∧ ∀ k, a0.1.bO k < 256) : Jw dA ad r la PS SS nw I σ0 dn [] y := by
  intro _
  refine ⟨hb, σ0, fun _ => 0, fun _ => 0, ⟨fun i hi => absurd hi (Nat.not_lt_zero i), fun _ _ => ⟨Nat.le_refl 0, Nat.le_refl 0⟩, Nat.zero_le _, by show 0 + shQ σ0 ≤ shQ σ0; omega⟩, ho, by rw [hp]; exact h0, fun a0 i0 a e => ?_⟩
  have e : a = a0 := e
  obtain ⟨x1, x2, x3⟩ := ha a0 i0
  rw [e]
  refine ⟨x1, ?_, fun tb ht => by rw [hp] at ht; exact absurd ht (Nat.not_lt_zero tb), x2, x3⟩
  rw [hp, ← h0, ← x1]
  rfl
end KW
