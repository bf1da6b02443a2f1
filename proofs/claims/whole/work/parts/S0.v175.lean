/-! A function's table: made by both sides. -/
section RT
variable {z : MS} {X : VS} {PS : Nat → PT} {dn : Nat → Nat} {SS RS1 : Nat → List LB} {NL : Nat → List Int32} {nc nm wh p q0 : Nat} {KD : Nat → Int32} {MN MT : Nat → List Int32} {kn : Nat → Option Nat} {g0 : PKS} {T1 : TB} {ar1 : Nat → Int32} {hb1 : Nat → Bool}
theorem rk_tab (hn : nmRe z z.pile nc NL) (hnc : nc ≤ 6) (hx : txR z.texts z.textLengths z.seriesCount SS) (hg : ∀ q, q < z.seriesCount → serG (SS q)) (h256 : z.seriesCount ≤ 256) (hm : ∀ s, s < z.seriesCount → ∀ v, ((MS.s_valueLength z v).mt s p).1 = pkT nm KD MN MT SS s) (h0 : g0.1.rc = 0 ∧ g0.1.nc = nc ∧ g0.1.wi = z.windows) (hwh : wh < 7) (hk : wiK z) (hp : ptR z X PS dn) (hX : X.afr = z.windowsFrom ∧ X.awd = z.width ∧ X.awi = z.windows) (e1 : pkG NL nm KD MN MT SS kn g0 z.seriesCount = (T1, RS1, ar1, hb1)) (e2 : X.aro = pkR NL SS T1.nc T1.rc RS1 ar1 z.seriesCount) (e3 : X.ahb = hb1) : ∃ φ : Nat → Nat, tabR (z.rkS wh p) z.pile ((mmA (nI wh) X PS (clT T1 q0)).1.de) NL (fun q => RS1 (φ q)) SS ∧ ∀ a, a < (mmA (nI wh) X PS (clT T1 q0)).1.de.rc → φ a < (mmA (nI wh) X PS (clT T1 q0)).1.rc ∧ (mmA (nI wh) X PS (clT T1 q0)).1.de.rs a = (mmA (nI wh) X PS (clT T1 q0)).1.rs (φ a) := by
  have Q := gr_Q (p := p) (kn := kn) hn hx hg h256 hm ⟨h0.1, h0.2.1⟩ z.seriesCount (Nat.le_refl _)
  have w1 := pkG_wi (SS := SS) (NL := NL) (n := nm) (KD := KD) (MN := MN) (MT := MT) (kn := kn) (g := g0) z.seriesCount
  rw [e1] at Q w1
  have w1 : T1.wi = z.windows := w1.trans h0.2.2
  obtain ⟨⟨n, rs, ro, hb, v⟩, eG⟩ : ∃ G : grT, z.grG z.pile p z.seriesCount = G := ⟨_, rfl⟩
  rw [eG] at Q
  obtain ⟨⟨r1, r2, r3⟩, r4, r5, r6, r7⟩ := Q
  have r1 : T1.rc = n := r1
  have r2 : T1.nc = nc := r2
  have r3 : n ≤ z.seriesCount := r3
  have r4 : ∀ q, q < n → rs (256 * z.pile + q) < z.seriesCount ∧ RS1 q = SS (rs (256 * z.pile + q)) := r4
  have r5 : srtR NL nc n RS1 := r5
  have r6 : ∀ s, s < z.seriesCount → (pkT nm KD MN MT SS s = false → ro s = -1 ∧ ar1 s = -1) ∧ (pkT nm KD MN MT SS s = true → ∃ r, r < n ∧ ro s = nI r ∧ eqK NL nc (RS1 r) (SS s) ∧ ar1 s = 0) := r6
  have r7 : ∀ s, s < z.seriesCount → hb s = false ∧ hb1 s = false := r7
  have gRS : ∀ q, q < n → serG (RS1 q) := fun q hq => by
    rw [(r4 q hq).2]
    exact hg _ (r4 q hq).1
  obtain ⟨y, ey⟩ : ∃ y, y = z.grS z.pile p := ⟨_, rfl⟩
  have yro : y.rowOf = ro := by
    rw [ey]
    show (z.grG z.pile p z.seriesCount).2.2.1 = ro
    rw [eG]
  have yhb : y.hasBefore = hb := by
    rw [ey]
    show (z.grG z.pile p z.seriesCount).2.2.2.1 = hb
    rw [eG]
  have yrs : y.rowSeries = rs := by
    rw [ey]
    show (z.grG z.pile p z.seriesCount).2.1 = rs
    rw [eG]
  have ytr : y.tableRows = va_up z.tableRows z.pile n := by
    rw [ey]
    show va_up z.tableRows z.pile (z.grG z.pile p z.seriesCount).1 = _
    rw [eG]
  have yic : y.isCell = filG z.isCell (z.pile * 256 * 64) false (n * 64) := by
    rw [ey]
    show filG z.isCell (z.pile * 256 * 64) false ((z.grG z.pile p z.seriesCount).1 * 64) = _
    rw [eG]
  have yce : y.cells = filG z.cells (z.pile * 256 * 64) 0 (n * 64) := by
    rw [ey]
    show filG z.cells (z.pile * 256 * 64) 0 ((z.grG z.pile p z.seriesCount).1 * 64) = _
    rw [eG]
  have yk : y.seriesCount = z.seriesCount ∧ y.windows = z.windows ∧ y.windowsFrom = z.windowsFrom ∧ y.width = z.width := by
    rw [ey]
    exact ⟨rfl, rfl, rfl, rfl⟩
  have yp : ptR y X PS dn := by
    rw [ey]
    exact hp
  have ykk : wiK y := by
    rw [ey]
    exact hk
  have aro : ∀ s, s < z.seriesCount → X.aro s = ro s := fun s hs => by
    rw [e2, pkR_at, r1, r2]
    obtain ⟨q1, q2⟩ := r6 s hs
    cases c : pkT nm KD MN MT SS s with
    | false =>
      obtain ⟨a1, a2⟩ := q1 c
      rw [if_neg (fun h => h.2 a2), a2, a1]
    | true =>
      obtain ⟨r, a1, a2, a3, a4⟩ := q2 c
      rw [if_pos ⟨hs, by rw [a4]; decide⟩, a2]
      exact (pl_row r5 gRS (hg s hs) (by omega) a1 a3).2
  have hro : ∀ s, s < y.seriesCount → y.rowOf s = -1 ∨ ∃ r, r < 256 ∧ y.rowOf s = nI r := fun s hs => by
    rw [yk.1] at hs
    rw [yro]
    obtain ⟨q1, q2⟩ := r6 s hs
    cases c : pkT nm KD MN MT SS s with
    | false => exact Or.inl (q1 c).1
    | true =>
      obtain ⟨r, a1, a2, -, -⟩ := q2 c
      exact Or.inr ⟨r, by omega, a2⟩
  have awr : awR y X := ⟨by rw [hX.1, yk.2.2.1], by rw [hX.2.1, yk.2.2.2], by rw [hX.2.2, yk.2.1], fun s hs => by rw [yk.1] at hs; rw [yro]; exact aro s hs⟩
  obtain ⟨c1, c2, c3, c4, c5⟩ := clTz_k T1 q0
  have cw : (clT T1 q0).wi = X.awi := c1.trans (w1.trans hX.2.2.symm)
  have h64 : z.windows ≤ 64 := hk.1
  have hi0 : ∀ r, r < (clT T1 q0).rc → hiZ (clT T1 q0) r := fun r hr w _ hw => by
    rw [c2] at hr
    rw [c4 r hr]
    exact hb_0 hw
  have tmB : ∀ q, q < z.points → z.pointTimes q ≤ 1099511627775 := fun q hq => Int64.not_lt.mp (hp.2.2.2.2.2 q hq).2
  have wk : ∀ tm : Int64, tm ≤ 1099511627775 → wOk X.afr X.awd X.awi tm := fun tm htm => by
    rw [hX.1, hX.2.2]
    exact wOk_of h64 hk.2.2.1 htm
  have K2 : mmK2 X (clT T1 q0) (mmA (nI wh) X PS (clT T1 q0)) := mmA_2 cw (by rw [hX.2.2]; exact h64) (fun k hkn i hi => wk _ (by
    obtain ⟨q, q1, q2, q3, q4⟩ := arr_ix (hp.1.2.2.2 k hkn).1 (W := z.seriesCount) (fun q hq hc => in_se hp hkn hq hc) hi
    rw [q4]
    exact tmB q q1)) (fun i hi => wk _ (by
    obtain ⟨l1, l2⟩ := hp.1.1
    rw [l1] at hi
    obtain ⟨q, q1, q2, q3⟩ := cnt_at hi
    have := (l2 q q1 q2).2.1
    rw [q3] at this
    rw [this]
    exact tmB q q1)) hi0
  obtain ⟨k1, k2, k3, -, k4⟩ := K2
  obtain ⟨T3, eT⟩ : ∃ T3, T3 = (mmA (nI wh) X PS (clT T1 q0)).1 := ⟨_, rfl⟩
  have met : ∀ r w, r < n → w < z.windows → csE (nI wh) ((mmA (nI wh) X PS (clT T1 q0)).1.cs (mmA (nI wh) X PS (clT T1 q0)).2.2.2.1 (mmA (nI wh) X PS (clT T1 q0)).2.2.2.2 r w) (rkC (y.rkG z.pile wh y.points) z.pile r w) := fun r w hr hw => by
    refine met_eq hwh yp awr ykk (by rw [yk.2.1]; exact hw) hro cw ?_ (fun s hs => ?_)
    · have b1 : y.isCell ((z.pile * 256 + r) * 64 + w) = false := by
        rw [yic, filG_at, if_pos (by omega)]
      have b2 : y.cells ((z.pile * 256 + r) * 64 + w) = 0 := by
        rw [yce, filG_at, if_pos (by omega)]
      have b3 : hasB ((clT T1 q0).th r) w = false := by rw [c4 r (by omega)]; exact hb_0 (by omega)
      have b4 : (clT T1 q0).ce (r * (clT T1 q0).wi + w) = 0 := c5 _ (by
        rw [c1, r1]
        have : (r + 1) * T1.wi ≤ n * T1.wi := Nat.mul_le_mul_right _ hr
        rw [Nat.succ_mul] at this
        rw [← w1] at hw
        omega)
      refine ⟨b3.trans b1.symm, b4.trans b2.symm, fun _ g => ?_⟩
      have g : hasB ((clT T1 q0).th r) w = true := g
      rw [b3] at g
      cases g
    · rw [yk.1] at hs
      rw [e3, yhb]
      exact ⟨(r7 s hs).2, (r7 s hs).1⟩
  rw [← eT] at k1 k2 k3 k4 met
  obtain ⟨W, eW⟩ : ∃ W, W = MS.s_pile (MS.pt y (y.rkG z.pile wh y.points)) (y.pile + 1) := ⟨_, rfl⟩
  have ers : z.rkS wh p = W.swS z.pile := by
    rw [eW, ey]
    rfl
  have tw : T3.wi = z.windows := k1.trans (c1.trans w1)
  have tr : T3.rc = n := k2.trans (c2.trans r1)
  have tn : T3.nc = nc := k3.trans (c3.trans r2)
  have Wn : nmRe W z.pile nc NL := by
    rw [eW, ey]
    exact hn
  have Wt : W.tableRows z.pile = n := by
    rw [eW]
    show y.tableRows z.pile = n
    rw [ytr, va_up_self]
  have Ww : W.windows = z.windows ∧ W.seriesCount = z.seriesCount ∧ W.rowSeries = rs := by
    rw [eW]
    exact ⟨yk.2.1, yk.1, yrs⟩
  have tab : tabR W z.pile T3 NL RS1 SS := by
    refine ⟨⟨by rw [tn]; exact Wn, by rw [tn]; exact hnc⟩, ⟨by rw [tr]; exact Wt, by rw [tr]; omega, by rw [tw, Ww.1], by rw [Ww.1]; exact h64⟩, fun _ => ?_, fun g => ?_, fun r hr => ⟨fun w hw => ?_, ?_⟩⟩
    · rw [tn, tr, Ww.2.1, Ww.2.2]
      exact ⟨r4, r5⟩
    · rw [tn] at g
      rw [tr]
      by_cases c : n ≤ 1
      · exact c
      · obtain ⟨k, kk, -⟩ := r5 0 1 (by omega) (by omega)
        omega
    · rw [tr] at hr
      rw [tw] at hw
      obtain ⟨d1, d2, -⟩ := met r w hr hw
      rw [eW]
      exact ⟨d1.symm, fun _ => d2.symm⟩
    · rw [tr] at hr
      exact k4 r (by rw [c2, r1]; exact hr)
  obtain ⟨φ, h1, h2⟩ := sw_tab tab
  rw [ers, ← eT]
  exact ⟨φ, h1, h2⟩
end RT
