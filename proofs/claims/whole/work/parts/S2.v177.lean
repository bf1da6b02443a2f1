/-! What the other tables keep, of every step. -/
section OU
variable {sg : Int32} {g : jT} {m : MS} {a b : Nat}
theorem jrG_out {tw ta tb : Nat} : ∀ n q, (q < tw ∨ tw + n ≤ q) → (jrG sg g tw ta tb n).1 q = g.1 q ∧ (jrG sg g tw ta tb n).2 q = g.2 q
  | 0, q, _ => ⟨rfl, rfl⟩
  | n + 1, q, h => by
    obtain ⟨i1, i2⟩ := jrG_out (tw := tw) (ta := ta) (tb := tb) n q (by omega)
    show va_up _ (tw + n) _ q = _ ∧ va_up _ (tw + n) _ q = _
    rw [va_up_ne _ _ (by omega), va_up_ne _ _ (by omega)]
    exact ⟨i1, i2⟩
set_option maxRecDepth 100000 in
theorem jrA_out {ta tb r w q : Nat} (hr : r < 256) (hw : w ≤ 64) (h : q < a * 256 * 64 ∨ a * 256 * 64 + 256 * 64 ≤ q) : (jrG sg g (cA a r) ta tb w).1 q = g.1 q ∧ (jrG sg g (cA a r) ta tb w).2 q = g.2 q := by
  have := ix_out hr h
  exact jrG_out w q (by unfold cA; omega)
theorem obG_out {w q : Nat} (hw : w ≤ 64) (h : q < a * 256 * 64 ∨ a * 256 * 64 + 256 * 64 ≤ q) : ∀ r, r ≤ 256 → (obG sg g a b w r).1 q = g.1 q ∧ (obG sg g a b w r).2 q = g.2 q
  | 0, _ => ⟨rfl, rfl⟩
  | r + 1, hr => by
    obtain ⟨i1, i2⟩ := obG_out hw h r (by omega)
    obtain ⟨j1, j2⟩ := jrA_out (sg := sg) (g := obG sg g a b w r) (a := a) (ta := cA a r) (tb := cA b 0) (r := r) (by omega) hw h
    exact ⟨j1.trans i1, j2.trans i2⟩
theorem ob_O (h64 : m.windows ≤ 64) (hr : m.tableRows a ≤ 256) : tabO m (m.obS sg a b) a := by
  refine ⟨⟨rfl, rfl, rfl⟩, fun q hq => ⟨rfl, va_up_ne _ _ hq⟩, fun q _ => ⟨rfl, rfl⟩, fun q hq => rfl, fun q hq => ?_⟩
  show (if 0 < m.tableRows b then obG sg (m.isCell, m.cells) a b m.windows (m.tableRows a) else (m.isCell, m.cells)).1 q = _ ∧ (if 0 < m.tableRows b then obG sg (m.isCell, m.cells) a b m.windows (m.tableRows a) else (m.isCell, m.cells)).2 q = _
  split
  · exact obG_out h64 hq _ hr
  · exact ⟨rfl, rfl⟩
set_option maxRecDepth 100000 in
theorem sp_O (hab : a < b) (h64 : m.windows ≤ 64) (hr : m.tableRows b ≤ 256) : tabO m (m.spS sg a b) a := by
  obtain ⟨n, en⟩ : ∃ n, n = if 0 < m.tableRows a then m.tableRows b else 0 := ⟨_, rfl⟩
  have hn : n ≤ 256 := by rw [en]; split <;> omega
  refine ⟨⟨rfl, rfl, rfl⟩, fun q hq => ⟨va_up_ne _ _ hq, va_up_ne _ _ hq⟩, fun q hq => ?_, fun q hq => ?_, fun q hq => ?_⟩
  · show mvG m.nameFroms (6 * a) (6 * b) 6 q = _ ∧ mvG m.nameLengths (6 * a) (6 * b) 6 q = _
    rw [mv_at (n := 6) (by omega) 6 (Nat.le_refl _), mv_at (n := 6) (by omega) 6 (Nat.le_refl _), if_neg (by omega), if_neg (by omega)]
    exact ⟨rfl, rfl⟩
  · show mvG m.rowSeries (256 * a) (256 * b) (if 0 < m.tableRows a then m.tableRows b else 0) q = _
    rw [← en, mv_at (n := n) (by omega) n (Nat.le_refl _), if_neg (by omega)]
  · show (spG sg (m.isCell, m.cells) a b (if 0 < m.tableRows a then m.tableRows b else 0) m.windows (if 0 < m.tableRows a then m.tableRows b else 0)).1 q = _ ∧ (spG sg (m.isCell, m.cells) a b (if 0 < m.tableRows a then m.tableRows b else 0) m.windows (if 0 < m.tableRows a then m.tableRows b else 0)).2 q = _
    rw [← en]
    exact (sp_row (sg := sg) (g := (m.isCell, m.cells)) (show ¬ a = b by omega) h64 hn n (Nat.le_refl _)).1 q (by omega)
theorem me_out {q : Nat} (h64 : m.windows ≤ 64) (h : q < a * 256 * 64 ∨ a * 256 * 64 + 256 * 64 ≤ q) : ∀ r, r ≤ 256 → (m.meG sg a b r).2.1.1 q = m.isCell q ∧ (m.meG sg a b r).2.1.2 q = m.cells q
  | 0, _ => ⟨rfl, rfl⟩
  | r + 1, hr => by
    obtain ⟨i1, i2⟩ := me_out h64 h r (by omega)
    obtain ⟨⟨n, g, rs, v⟩, eM⟩ : ∃ M, m.meG sg a b r = M := ⟨_, rfl⟩
    have hn := me_le eM
    rw [eM] at i1 i2
    obtain ⟨⟨o, v2⟩, eF⟩ : ∃ F, m.fo a (rs (256 * a + r)) b rs (m.tableRows b) (m.tableRows b + 1) 0 v = F := ⟨_, rfl⟩
    rw [me_s eM eF]
    unfold MS.me2
    split
    · exact ⟨i1, i2⟩
    · obtain ⟨j1, j2⟩ := jrA_out (sg := sg) (g := g) (a := a) (ta := cA a r) (tb := cA b o) (r := n) (by omega) h64 h
      exact ⟨j1.trans i1, j2.trans i2⟩
theorem me_O (h64 : m.windows ≤ 64) (hr : m.tableRows a ≤ 256) : tabO m (m.meS sg a b) a := by
  obtain ⟨r1, r2, -⟩ := me_rs (x := m) (sg := sg) (a := a) (b := b) (m.tableRows a)
  exact ⟨⟨rfl, rfl, rfl⟩, fun q hq => ⟨rfl, va_up_ne _ _ hq⟩, fun q _ => ⟨rfl, rfl⟩, fun q hq => r2 q (by omega), fun q hq => me_out h64 hq _ hr⟩
theorem opM_O (hp : a = m.pile - 2 ∧ b = m.pile - 1) (hab : a < b) (h64 : m.windows ≤ 64) (hr : m.tableRows a ≤ 256) (hr2 : m.tableRows b ≤ 256) : tabO m (m.opM sg) a ∧ (m.opM sg).tableRows a ≤ 256 := by
  unfold MS.opM
  rw [← hp.1, ← hp.2]
  split
  · refine ⟨me_O h64 hr, ?_⟩
    show va_up m.tableRows a _ a ≤ 256
    rw [va_up_self]
    have := me_le' (x := m) (sg := sg) (a := a) (b := b) (m.tableRows a)
    omega
  · split
    · refine ⟨ob_O h64 hr, ?_⟩
      show va_up m.tableRows a _ a ≤ 256
      rw [va_up_self]
      split <;> omega
    · refine ⟨sp_O hab h64 hr2, ?_⟩
      show va_up m.tableRows a _ a ≤ 256
      rw [va_up_self]
      split <;> omega
theorem op_O {q : Nat} (hp : a = m.pile - 2 ∧ b = m.pile - 1) (hab : a < b) (h64 : m.windows ≤ 64) (hr : m.tableRows a ≤ 256) (hr2 : m.tableRows b ≤ 256) (ho : m.opB = true) : tabO m (m.opS sg q) a := by
  obtain ⟨o1, o2⟩ := opM_O (sg := sg) hp hab h64 hr hr2
  rw [op_v ho, ← hp.1]
  have o3 : tabO m (MS.s_pile (m.opM sg) ((m.opM sg).pile - 1)) a := o1
  refine tabO_t o3 (sw_O ?_ o2)
  show (m.opM sg).windows ≤ 64
  rw [o1.1.2.1]
  exact h64
theorem ga_out {x : MS} {t wh q r w k : Nat} (h : ¬ k = (t * 256 + r) * 64 + w) : (x.ga t wh q r w).1 k = x.isCell k ∧ (x.ga t wh q r w).2.1 k = x.cells k := by
  unfold MS.ga
  (repeat' split) <;> first | exact ⟨va_up_ne _ _ h, va_up_ne _ _ h⟩ | exact ⟨va_up_ne _ _ h, rfl⟩ | exact ⟨rfl, rfl⟩
set_option maxRecDepth 100000 in
theorem rkG_out {x : MS} {t wh k : Nat} (hk : wiK x) (hro : ∀ s, s < x.seriesCount → x.rowOf s = -1 ∨ ∃ r, r < 256 ∧ x.rowOf s = nI r) (h : k < t * 256 * 64 ∨ t * 256 * 64 + 256 * 64 ≤ k) : ∀ q, (x.rkG t wh q).1 k = x.isCell k ∧ (x.rkG t wh q).2.1 k = x.cells k
  | 0 => ⟨rfl, rfl⟩
  | q + 1 => by
    obtain ⟨i1, i2⟩ := rkG_out (t := t) (wh := wh) hk hro h q
    obtain ⟨G, eG⟩ : ∃ G, x.rkG t wh q = G := ⟨_, rfl⟩
    rw [eG] at i1 i2
    by_cases c : x.seen q = false ∨ x.seriesCount ≤ x.pointSeries q
    · rw [rk_n eG c]
      exact ⟨i1, i2⟩
    · have sn : x.seen q = true := by
        cases d : x.seen q with
        | true => rfl
        | false => exact absurd (Or.inl d) c
      have hs : ¬ x.seriesCount ≤ x.pointSeries q := fun z => c (Or.inr z)
      obtain ⟨A, eA⟩ : ∃ A, x.rkA t wh q G = A := ⟨_, rfl⟩
      rw [rk_y eG sn hs eA]
      show A.1 k = _ ∧ A.2.1 k = _
      cases iw : x.inW q with
      | false =>
        have ea : A = (G.1, G.2.1, G.2.2.1, G.2.2.2.1) := eA.symm.trans (if_neg (by rw [iw]; decide))
        rw [ea]
        exact ⟨i1, i2⟩
      | true =>
        have ea : A = (x.pt G).ga t wh q (i2n (x.rowOf (x.pointSeries q))) (wN (x.pointTimes q - x.windowsFrom) x.width) := eA.symm.trans (if_pos iw)
        unfold MS.inW at iw
        rw [Bool.and_eq_true, Bool.and_eq_true, Bool.not_eq_true', Bool.not_eq_true', Bool.not_eq_true', decide_eq_false_iff_not, decide_eq_false_iff_not, decide_eq_false_iff_not] at iw
        obtain ⟨w1, w2, w3⟩ := iw
        have lt := wN_lt (Int64.not_lt.mp w2) hk.2.1 hk.1 (Int64.not_le.mp w3)
        have hr : i2n (x.rowOf (x.pointSeries q)) < 256 := by
          rcases hro (x.pointSeries q) (Nat.not_le.mp hs) with e | ⟨r, hr, e⟩
          · rw [e] at w1
            exact absurd (by decide) w1
          · rw [e, i2n_of (by omega)]
            exact hr
        have h6 := hk.1
        have := ix_out hr h
        obtain ⟨j1, j2⟩ := ga_out (x := x.pt G) (wh := wh) (q := q) (show ¬ k = (t * 256 + i2n (x.rowOf (x.pointSeries q))) * 64 + wN (x.pointTimes q - x.windowsFrom) x.width by omega)
        rw [ea]
        exact ⟨j1.trans i1, j2.trans i2⟩
set_option maxRecDepth 100000 in
theorem rk_O {z : MS} {wh p : Nat} (hk : wiK z) (h256 : z.seriesCount ≤ 256) : tabO z (z.rkS wh p) z.pile := by
  obtain ⟨g1, g2⟩ := gr_rs (x := z) (t := z.pile) (p := p) z.seriesCount h256
  have gl := gr_le' (x := z) (t := z.pile) (p := p) z.seriesCount
  have gro := gr_ro (x := z) (t := z.pile) (p := p) z.seriesCount h256
  obtain ⟨y, ey⟩ : ∃ y, y = z.grS z.pile p := ⟨_, rfl⟩
  have o1 : tabO z y z.pile := by
    rw [ey]
    refine ⟨⟨rfl, rfl, rfl⟩, fun q hq => ⟨rfl, va_up_ne _ _ hq⟩, fun q _ => ⟨rfl, rfl⟩, fun q hq => g1 q hq, fun q hq => ?_⟩
    show filG z.isCell (z.pile * 256 * 64) false ((z.grG z.pile p z.seriesCount).1 * 64) q = _ ∧ filG z.cells (z.pile * 256 * 64) 0 ((z.grG z.pile p z.seriesCount).1 * 64) q = _
    rw [filG_at, filG_at, if_neg (by omega), if_neg (by omega)]
    exact ⟨rfl, rfl⟩
  have yk : wiK y := by rw [ey]; exact hk
  have ytr : y.tableRows z.pile ≤ 256 := by
    rw [ey]
    show va_up z.tableRows z.pile (z.grG z.pile p z.seriesCount).1 z.pile ≤ 256
    rw [va_up_self]
    omega
  have yro : ∀ s, s < y.seriesCount → y.rowOf s = -1 ∨ ∃ r, r < 256 ∧ y.rowOf s = nI r := by
    rw [ey]
    intro s hs
    rcases gro s hs with e | ⟨r, hr, e⟩
    · exact Or.inl e
    · exact Or.inr ⟨r, by omega, e⟩
  have ers : z.rkS wh p = (MS.s_pile (MS.pt y (y.rkG z.pile wh y.points)) (y.pile + 1)).swS z.pile := by
    rw [ey]
    rfl
  rw [ers]
  have o2 : tabO y (MS.s_pile (MS.pt y (y.rkG z.pile wh y.points)) (y.pile + 1)) z.pile := ⟨⟨rfl, rfl, rfl⟩, fun q hq => ⟨rfl, rfl⟩, fun q _ => ⟨rfl, rfl⟩, fun q hq => rfl, fun q hq => rkG_out yk yro hq y.points⟩
  exact tabO_t o1 (tabO_t o2 (sw_O yk.1 ytr))
end OU
