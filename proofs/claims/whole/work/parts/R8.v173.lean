/-! What the other tables keep. -/
def tabO (m m' : MS) (a : Nat) : Prop := (m'.tape = m.tape ∧ m'.windows = m.windows ∧ m'.seriesCount = m.seriesCount) ∧ (∀ q, ¬ q = a → m'.tableNames q = m.tableNames q ∧ m'.tableRows q = m.tableRows q) ∧ (∀ q, (q < 6 * a ∨ 6 * a + 6 ≤ q) → m'.nameFroms q = m.nameFroms q ∧ m'.nameLengths q = m.nameLengths q) ∧ (∀ q, (q < 256 * a ∨ 256 * a + 256 ≤ q) → m'.rowSeries q = m.rowSeries q) ∧ ∀ q, (q < a * 256 * 64 ∨ a * 256 * 64 + 256 * 64 ≤ q) → m'.isCell q = m.isCell q ∧ m'.cells q = m.cells q
section TO
variable {m m' m'' : MS} {a tb : Nat} {t : TB} {NL : Nat → List Int32} {RS SS : Nat → List LB}
theorem tab_o (h : tabO m m' a) (hne : ¬ tb = a) (ht : tabR m tb t NL RS SS) : tabR m' tb t NL RS SS := by
  obtain ⟨⟨o1, o2, o3⟩, o4, o5, o6, o7⟩ := h
  obtain ⟨⟨h1, h2⟩, ⟨h3, h4, h5, h6⟩, h7, h8, h9⟩ := ht
  refine ⟨⟨⟨(o4 tb hne).1.trans h1.1, fun i hi => ?_⟩, h2⟩, ⟨(o4 tb hne).2.trans h3, h4, by rw [o2]; exact h5, by rw [o2]; exact h6⟩, fun g => ?_, h8, fun r hr => ?_⟩
  · obtain ⟨p1, p2⟩ := o5 (6 * tb + i) (by omega)
    rw [o1, p1, p2]
    exact h1.2 i hi
  · obtain ⟨g1, g2⟩ := h7 g
    refine ⟨fun q hq => ?_, g2⟩
    rw [o6 _ (by omega), o3]
    exact g1 q hq
  · obtain ⟨r1, r2⟩ := h9 r hr
    refine ⟨fun w hw => ?_, r2⟩
    obtain ⟨c1, c2⟩ := o7 ((tb * 256 + r) * 64 + w) (by rw [h5] at hw; omega)
    rw [c1, c2]
    exact r1 w hw
theorem tabO_t (h1 : tabO m m' a) (h2 : tabO m' m'' a) : tabO m m'' a := by
  obtain ⟨⟨a1, a2, a3⟩, a4, a5, a6, a7⟩ := h1
  obtain ⟨⟨b1, b2, b3⟩, b4, b5, b6, b7⟩ := h2
  exact ⟨⟨b1.trans a1, b2.trans a2, b3.trans a3⟩, fun q hq => ⟨(b4 q hq).1.trans (a4 q hq).1, (b4 q hq).2.trans (a4 q hq).2⟩, fun q hq => ⟨(b5 q hq).1.trans (a5 q hq).1, (b5 q hq).2.trans (a5 q hq).2⟩, fun q hq => (b6 q hq).trans (a6 q hq), fun q hq => ⟨(b7 q hq).1.trans (a7 q hq).1, (b7 q hq).2.trans (a7 q hq).2⟩⟩
theorem nb_O (h64 : m.windows ≤ 64) : tabO m m.nbS m.pile := by
  refine ⟨⟨rfl, rfl, rfl⟩, fun q hq => ⟨va_up_ne _ _ hq, va_up_ne _ _ hq⟩, fun q _ => ⟨rfl, rfl⟩, fun q hq => va_up_ne _ _ (by omega), fun q hq => ?_⟩
  show filG m.isCell (cA m.pile 0) true m.windows q = _ ∧ filG m.cells (cA m.pile 0) m.amount m.windows q = _
  rw [filG_at, filG_at, if_neg (by unfold cA; omega), if_neg (by unfold cA; omega)]
  exact ⟨rfl, rfl⟩
set_option maxRecDepth 100000 in
theorem ng_O (h64 : m.windows ≤ 64) (hr : m.tableRows (m.pile - 1) ≤ 256) : tabO m m.ngS (m.pile - 1) := by
  refine ⟨⟨rfl, rfl, rfl⟩, fun q hq => ⟨rfl, rfl⟩, fun q _ => ⟨rfl, rfl⟩, fun q hq => rfl, fun q hq => ⟨rfl, ?_⟩⟩
  exact (ngR_at m.cells (t := m.pile - 1) h64 (m.tableRows (m.pile - 1))).2 q (by omega)
theorem sw_out {ic : Nat → Bool} {ce : Nat → Int64} {rs : Nat → Nat} {n : Nat} (h64 : n ≤ 64) : ∀ r, r ≤ 256 → (∀ q, (q < a * 256 * 64 ∨ a * 256 * 64 + 256 * 64 ≤ q) → (swG ic ce rs a n r).2.1 q = ic q ∧ (swG ic ce rs a n r).2.2.1 q = ce q) ∧ (swG ic ce rs a n r).1 ≤ r
  | 0, _ => ⟨fun q _ => ⟨rfl, rfl⟩, Nat.le_refl 0⟩
  | r + 1, hr => by
    obtain ⟨i1, i2⟩ := sw_out h64 (ic := ic) (ce := ce) (rs := rs) r (by omega)
    obtain ⟨⟨k, j2, c2, r2⟩, eS⟩ : ∃ S, swG ic ce rs a n r = S := ⟨_, rfl⟩
    rw [eS] at i1 i2
    have i2 : k ≤ r := i2
    have i1 : ∀ q, (q < a * 256 * 64 ∨ a * 256 * 64 + 256 * 64 ≤ q) → j2 q = ic q ∧ c2 q = ce q := i1
    cases c : anyB n (fun w => j2 (cA a r + w)) with
    | false =>
      rw [swG_f eS c]
      exact ⟨i1, by show k ≤ r + 1; omega⟩
    | true =>
      rw [swG_t eS c]
      refine ⟨fun q hq => ?_, by show k + 1 ≤ r + 1; omega⟩
      show mvG j2 (cA a k) (cA a r) n q = ic q ∧ mvG c2 (cA a k) (cA a r) n q = ce q
      by_cases e : k = r
      · subst e
        rw [mv_same, mv_same]
        exact i1 q hq
      · rw [mv_at (n := n) (by unfold cA; omega) n (Nat.le_refl _), mv_at (n := n) (by unfold cA; omega) n (Nat.le_refl _), if_neg (by unfold cA; omega), if_neg (by unfold cA; omega)]
        exact i1 q hq
theorem sw_O (h64 : m.windows ≤ 64) (hr : m.tableRows a ≤ 256) : tabO m (m.swS a) a := by
  obtain ⟨o1, o2⟩ := sw_out (a := a) (ic := m.isCell) (ce := m.cells) (rs := m.rowSeries) h64 (m.tableRows a) hr
  obtain ⟨-, s2, -⟩ := sw_rs (ic := m.isCell) (ce := m.cells) (rs := m.rowSeries) (t := a) (w := m.windows) (m.tableRows a)
  exact ⟨⟨rfl, rfl, rfl⟩, fun q hq => ⟨rfl, va_up_ne _ _ hq⟩, fun q _ => ⟨rfl, rfl⟩, fun q hq => s2 q (by omega), fun q hq => o1 q hq⟩
end TO
