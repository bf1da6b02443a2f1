/-! All points met: the two ways, at one cell. -/
def gQ (x : MS) (q : Nat) : Bool := x.seen q && !decide (x.rowOf (x.pointSeries q) = -1)
def wQ (x : MS) (r0 w0 q : Nat) : Bool := decide (¬ woA x.windowsFrom x.width x.windows (x.pointTimes q) = -1 ∧ i2n (x.rowOf (x.pointSeries q)) = r0 ∧ i2n (woA x.windowsFrom x.width x.windows (x.pointTimes q)) = w0)
def opQ (x : MS) (wh r0 w0 : Nat) : CT → Nat → CT := ctO (nI wh) x.pointSeries x.pointTimes x.pointValues (gQ x) (wQ x r0 w0)
/-- what the windows want -/
def wiK (x : MS) : Prop := x.windows ≤ 64 ∧ 1 ≤ x.width ∧ 0 ≤ x.windowsFrom ∧ x.windowsFrom ≤ 1099511627775
section RF
variable {x : MS} {t wh r0 w0 : Nat}
theorem opQ_n {c : CT} {q : Nat} (h : gQ x q = false) : opQ x wh r0 w0 c q = c := if_neg (by rw [h]; decide)
theorem opQ_y {c : CT} {q : Nat} (h : gQ x q = true) : opQ x wh r0 w0 c q = ((if wQ x r0 w0 q = true then clO (nI wh) c.1 (x.pointSeries q) (x.pointTimes q) (x.pointValues q) (c.2.1 (x.pointSeries q)) (c.2.2 (x.pointSeries q)) else c.1), va_up c.2.1 (x.pointSeries q) true, va_up c.2.2 (x.pointSeries q) (x.pointValues q)) := if_pos h
theorem rk_f (hwh : wh < 7) (hw0 : w0 < 64) (hk : wiK x) (hro : ∀ s, s < x.seriesCount → x.rowOf s = -1 ∨ ∃ r, r < 256 ∧ x.rowOf s = nI r) (hse : ∀ q, q < x.points → x.seen q = true → x.pointSeries q < x.seriesCount) (hti : ∀ q, q < x.points → ¬ x.pointTimes q < 0 ∧ ¬ 1099511627775 < x.pointTimes q) : ∀ q, q ≤ x.points → rkC (x.rkG t wh q) t r0 w0 = ((List.range q).foldl (opQ x wh r0 w0) (x.xC t r0 w0, x.hasBefore, x.befores)).1 ∧ ∀ s, s < x.seriesCount → ¬ x.rowOf s = -1 → (x.rkG t wh q).2.2.2.2.2 s = ((List.range q).foldl (opQ x wh r0 w0) (x.xC t r0 w0, x.hasBefore, x.befores)).2.1 s ∧ (x.rkG t wh q).2.2.2.2.1 s = ((List.range q).foldl (opQ x wh r0 w0) (x.xC t r0 w0, x.hasBefore, x.befores)).2.2 s
  | 0, _ => ⟨rfl, fun s _ _ => ⟨rfl, rfl⟩⟩
  | q + 1, hq => by
    obtain ⟨i1, i2⟩ := rk_f hwh hw0 hk hro hse hti q (by omega)
    rw [List.range_succ, List.foldl_append]
    show rkC (x.rkG t wh (q + 1)) t r0 w0 = (opQ x wh r0 w0 ((List.range q).foldl (opQ x wh r0 w0) (x.xC t r0 w0, x.hasBefore, x.befores)) q).1 ∧ ∀ s, s < x.seriesCount → ¬ x.rowOf s = -1 → (x.rkG t wh (q + 1)).2.2.2.2.2 s = (opQ x wh r0 w0 ((List.range q).foldl (opQ x wh r0 w0) (x.xC t r0 w0, x.hasBefore, x.befores)) q).2.1 s ∧ (x.rkG t wh (q + 1)).2.2.2.2.1 s = (opQ x wh r0 w0 ((List.range q).foldl (opQ x wh r0 w0) (x.xC t r0 w0, x.hasBefore, x.befores)) q).2.2 s
    generalize (List.range q).foldl (opQ x wh r0 w0) (x.xC t r0 w0, x.hasBefore, x.befores) = c at i1 i2
    obtain ⟨G, eG⟩ : ∃ G, x.rkG t wh q = G := ⟨_, rfl⟩
    rw [eG] at i1 i2
    cases sn : x.seen q with
    | false =>
      rw [rk_n eG (Or.inl sn), opQ_n (by unfold gQ; rw [sn]; rfl)]
      exact ⟨i1, i2⟩
    | true =>
      have hs := hse q (by omega) sn
      obtain ⟨A, eA⟩ : ∃ A, x.rkA t wh q G = A := ⟨_, rfl⟩
      rw [rk_y eG sn (by omega) eA]
      rcases hro _ hs with e | ⟨r, hr, e⟩
      · rw [opQ_n (by unfold gQ; rw [decide_eq_true e, Bool.not_true, Bool.and_false])]
        have nw : x.inW q = false := by
          unfold MS.inW
          rw [e, decide_eq_true (show (-1 : Int32) < 0 by decide)]
          rfl
        have ea : A = (G.1, G.2.1, G.2.2.1, G.2.2.2.1) := eA.symm.trans (if_neg (by rw [nw]; decide))
        rw [ea]
        refine ⟨i1, fun s h1 h2 => ?_⟩
        have ne : ¬ s = x.pointSeries q := fun z => h2 (by rw [z]; exact e)
        show va_up G.2.2.2.2.2 (x.pointSeries q) true s = _ ∧ va_up G.2.2.2.2.1 (x.pointSeries q) (x.pointValues q) s = _
        rw [va_up_ne _ _ ne, va_up_ne _ _ ne]
        exact i2 s h1 h2
      · have nm : ¬ x.rowOf (x.pointSeries q) = -1 := by rw [e]; exact nI_nm (by omega)
        rw [opQ_y (by unfold gQ; rw [sn, decide_eq_false nm]; rfl)]
        obtain ⟨b1, b2⟩ := i2 _ hs nm
        obtain ⟨k1, k2, k3, k4⟩ := hk
        obtain ⟨t1, t2⟩ := hti q (by omega)
        obtain ⟨w1, w2⟩ := wo_w (n := x.windows) k1 k3 (Int64.not_lt.mp t2) k4 (Int64.not_lt.mp t1) k2
        refine ⟨?_, fun s h1 h2 => ?_⟩
        · show gaC A t r0 w0 = if wQ x r0 w0 q = true then _ else _
          have iw : x.inW q = (!decide (x.pointTimes q - x.windowsFrom < 0) && !decide (lN x.windows ≤ (x.pointTimes q - x.windowsFrom) / x.width)) := by
            unfold MS.inW
            rw [e, decide_eq_false (nI_nn (by omega))]
            rfl
          by_cases c1 : woA x.windowsFrom x.width x.windows (x.pointTimes q) = -1
          · have nw : x.inW q = false := by
              rw [iw]
              exact Bool.not_eq_true _ ▸ (w1.mp c1)
            have ea : A = (G.1, G.2.1, G.2.2.1, G.2.2.2.1) := eA.symm.trans (if_neg (by rw [nw]; decide))
            rw [ea, if_neg (fun z => (of_decide_eq_true z).1 c1)]
            exact i1
          · have yw : x.inW q = true := by
              rw [iw]
              exact Classical.not_not.mp (fun z => c1 (w1.mpr z))
            obtain ⟨w3, w4⟩ := w2 c1
            have ea : A = (x.pt G).ga t wh q (i2n (x.rowOf (x.pointSeries q))) (wN (x.pointTimes q - x.windowsFrom) x.width) := eA.symm.trans (if_pos yw)
            rw [ea, ga_c hwh (by omega) hw0]
            have e1 : (x.pt G).xC t r0 w0 = c.1 := i1
            have e2 : (x.pt G).hasBefore ((x.pt G).pointSeries q) = c.2.1 (x.pointSeries q) := b1
            have e3 : (x.pt G).befores ((x.pt G).pointSeries q) = c.2.2 (x.pointSeries q) := b2
            rw [e1, e2, e3]
            have ec : (i2n (x.rowOf (x.pointSeries q)) = r0 ∧ wN (x.pointTimes q - x.windowsFrom) x.width = w0) ↔ wQ x r0 w0 q = true := by
              unfold wQ
              rw [decide_eq_true_eq, w3]
              exact ⟨fun z => ⟨c1, z⟩, fun z => z.2⟩
            exact if_cg ec rfl rfl
        · show va_up G.2.2.2.2.2 (x.pointSeries q) true s = va_up c.2.1 (x.pointSeries q) true s ∧ va_up G.2.2.2.2.1 (x.pointSeries q) (x.pointValues q) s = va_up c.2.2 (x.pointSeries q) (x.pointValues q) s
          by_cases ne : s = x.pointSeries q
          · rw [ne, va_up_self, va_up_self, va_up_self, va_up_self]
            exact ⟨rfl, rfl⟩
          · rw [va_up_ne _ _ ne, va_up_ne _ _ ne, va_up_ne _ _ ne, va_up_ne _ _ ne]
            exact i2 s h1 h2
end RF
