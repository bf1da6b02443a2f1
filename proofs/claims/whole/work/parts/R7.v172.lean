/-! Numbers and turns; two tables without names; what other tables keep. -/
theorem filG_at {α : Type} (f : Nat → α) (b : Nat) (v : α) : ∀ k q, filG f b v k q = if b ≤ q ∧ q < b + k then v else f q
  | 0, q => by rw [if_neg (by omega)]; rfl
  | k + 1, q => by
    show (if q = b + k then v else filG f b v k q) = _
    by_cases e : q = b + k
    · rw [if_pos e, if_pos (by omega)]
    · rw [if_neg e, filG_at f b v k q]
      exact if_cg (by omega) rfl rfl
theorem ngW_at (f : Nat → Int64) (b : Nat) : ∀ k q, ngW f b k q = if b ≤ q ∧ q < b + k then -(f q) else f q
  | 0, q => by rw [if_neg (by omega)]; rfl
  | k + 1, q => by
    show (if q = b + k then -(ngW f b k (b + k)) else ngW f b k q) = _
    by_cases e : q = b + k
    · rw [if_pos e, ngW_at f b k (b + k), if_neg (by omega), if_pos (by omega), e]
    · rw [if_neg e, ngW_at f b k q]
      exact if_cg (by omega) rfl rfl
theorem ngR_at (f : Nat → Int64) {t n : Nat} (hn : n ≤ 64) : ∀ r, (∀ q w, q < r → w < n → ngR f t n r ((t * 256 + q) * 64 + w) = -(f ((t * 256 + q) * 64 + w))) ∧ ∀ q, (q < t * 256 * 64 ∨ (t * 256 + r) * 64 ≤ q) → ngR f t n r q = f q
  | 0 => ⟨fun q w hq => absurd hq (Nat.not_lt_zero q), fun q _ => rfl⟩
  | r + 1 => by
    obtain ⟨i1, i2⟩ := ngR_at f (t := t) hn r
    have e : ngR f t n (r + 1) = ngW (ngR f t n r) (cA t r) n := rfl
    rw [e]
    refine ⟨fun q w hq hw => ?_, fun q hq => ?_⟩
    · rw [ngW_at]
      by_cases c : q = r
      · subst c
        rw [if_pos (by unfold cA; omega), i2 _ (Or.inr (by omega))]
      · rw [if_neg (by unfold cA; omega), i1 q w (by omega) hw]
    · rw [ngW_at, if_neg (by unfold cA; omega), i2 q (by omega)]
theorem tnG_in (f : Nat → Int64) : ∀ {i q : Nat}, q < i → tnG f i q = -(f q)
  | i + 1, q, h => by
    show va_up (tnG f i) i (-(f i)) q = _
    by_cases e : q = i
    · rw [e, va_up_self]
    · rw [va_up_ne _ _ e, tnG_in f (by omega)]
theorem mk_at {t : TB} {v : Int64} (h64 : t.wi ≤ 64) : ∀ k, k ≤ t.wi → (∀ w, w < 64 → hasB ((mkG t v k).th 0) w = (hasB (t.th 0) w || decide (w < k))) ∧ ∀ w, w < k → (mkG t v k).ce (0 * t.wi + w) = v
  | 0, _ => ⟨fun w _ => by rw [decide_eq_false (Nat.not_lt_zero w), Bool.or_false]; rfl, fun w hw => absurd hw (Nat.not_lt_zero w)⟩
  | k + 1, hk => by
    obtain ⟨i1, i2⟩ := mk_at (v := v) h64 k (by omega)
    obtain ⟨k1, -⟩ := mkG_k t v k
    refine ⟨fun w hw => ?_, fun w hw => ?_⟩
    · show hasB (va_up (mkG t v k).th 0 ((mkG t v k).th 0 ||| bitL k) 0) w = _
      rw [va_up_self, hb_or (by omega) hw, i1 w hw, Bool.or_assoc]
      congr 1
      by_cases c : w < k
      · rw [decide_eq_true c, decide_eq_true (show w < k + 1 by omega)]; rfl
      · by_cases d : k = w
        · rw [decide_eq_true d, Bool.or_true, decide_eq_true (by omega)]
        · rw [decide_eq_false c, decide_eq_false d, decide_eq_false (by omega)]; rfl
    · show va_up (mkG t v k).ce (0 * (mkG t v k).wi + k) v (0 * t.wi + w) = v
      rw [k1]
      by_cases c : w = k
      · rw [c, va_up_self]
      · rw [va_up_ne _ _ (by omega)]
        exact i2 w (by omega)
theorem num_nc (t : TB) (v : Int64) (n : Nat) : (t.num v n).nc = 0 ∧ (t.num v n).rc = 1 ∧ (t.num v n).wi = n := by
  have : ∀ k, (mkG (TB.cl (TB.s_rc (TB.s_wi (TB.s_nc t 0) n) 1)) v k).nc = 0 := fun k => by
    induction k with
    | zero => rfl
    | succ k ih => exact ih
  obtain ⟨k1, k2, -⟩ := mkG_k (TB.cl (TB.s_rc (TB.s_wi (TB.s_nc t 0) n) 1)) v n
  exact ⟨this n, k2, k1⟩
section NB
variable {m : MS} {tb : Nat} {t u : TB} {NL NR : Nat → List Int32} {RS RU SS : Nat → List LB}
/-- a number -/
theorem nb_tab (h64 : m.windows ≤ 64) (t : TB) (NL : Nat → List Int32) (RS SS : Nat → List LB) : tabR m.nbS m.pile (t.num m.amount m.windows) NL RS SS := by
  obtain ⟨n1, n2, n3⟩ := num_nc t m.amount m.windows
  obtain ⟨a1, a2⟩ := mk_at (t := TB.cl (TB.s_rc (TB.s_wi (TB.s_nc t 0) m.windows) 1)) (v := m.amount) h64 m.windows (Nat.le_refl _)
  have z0 : (TB.cl (TB.s_rc (TB.s_wi (TB.s_nc t 0) m.windows) 1)).th 0 = 0 := filG_z _ _ (show 0 < 1 from Nat.one_pos)
  refine ⟨⟨⟨by rw [n1]; exact va_up_self _ _ _, fun i hi => by rw [n1] at hi; exact absurd hi (Nat.not_lt_zero i)⟩, by omega⟩, ⟨by rw [n2]; exact va_up_self _ _ _, by omega, n3, h64⟩, fun g => by omega, fun _ => by omega, fun r hr => ?_⟩
  rw [n2] at hr
  have e : r = 0 := by omega
  subst e
  refine ⟨fun w hw => ?_, fun w h1 h2 => ?_⟩
  · rw [n3] at hw
    rw [n3]
    show filG m.isCell (cA m.pile 0) true m.windows ((m.pile * 256 + 0) * 64 + w) = hasB ((mkG _ m.amount m.windows).th 0) w ∧ (_ → filG m.cells (cA m.pile 0) m.amount m.windows ((m.pile * 256 + 0) * 64 + w) = (mkG _ m.amount m.windows).ce (0 * m.windows + w))
    rw [filG_at, filG_at, if_pos (by unfold cA; omega), if_pos (by unfold cA; omega), a1 w (by omega), decide_eq_true hw, Bool.or_true]
    exact ⟨rfl, fun _ => (a2 w hw).symm⟩
  · rw [n3] at h1
    show hasB ((mkG _ m.amount m.windows).th 0) w = false
    rw [a1 w h2, z0, hb_0 h2, decide_eq_false (by omega)]
    rfl
/-- turned -/
theorem ng_tab (h : tabR m (m.pile - 1) t NL RS SS) : tabR m.ngS (m.pile - 1) (TB.s_ce t (tnG t.ce (t.rc * t.wi))) NL RS SS := by
  obtain ⟨h1, ⟨h2, h3, h4, h5⟩, h6, h7, h8⟩ := h
  obtain ⟨g1, -⟩ := ngR_at m.cells (t := m.pile - 1) h5 t.rc
  refine ⟨h1, ⟨h2, h3, h4, h5⟩, h6, h7, fun r hr => ?_⟩
  have hr : r < t.rc := hr
  obtain ⟨r1, r2⟩ := h8 r hr
  refine ⟨fun w hw => ?_, r2⟩
  have hw : w < t.wi := hw
  obtain ⟨c1, c2⟩ := r1 w hw
  refine ⟨c1, fun z => ?_⟩
  show ngR m.cells (m.pile - 1) m.windows (m.tableRows (m.pile - 1)) (((m.pile - 1) * 256 + r) * 64 + w) = tnG t.ce (t.rc * t.wi) (r * t.wi + w)
  have lt : r * t.wi + w < t.rc * t.wi := by
    have : (r + 1) * t.wi ≤ t.rc * t.wi := Nat.mul_le_mul_right _ hr
    rw [Nat.succ_mul] at this
    omega
  rw [h2, g1 r w hr (by rw [← h4]; exact hw), tnG_in t.ce lt, c2 z]
/-- two tables without names -/
theorem j0_tab {sg : Int32} {a b : Nat} (hs : isOp sg) (hab : a < b) (ht : tabR m a t NL RS SS) (hu : tabR m b u NR RU SS) (hn : t.nc = 0) (hn2 : u.nc = 0) : tabR (m.meS sg a b) a (if t.rc = 1 ∧ u.rc = 1 then TB.s_rc (TB.jrl sg (t.mv 0 0) u 0 0 0) 1 else TB.s_rc t 0) NL RS SS := by
  have ra : m.tableRows a = t.rc := ht.2.1.1
  have rb : m.tableRows b = u.rc := hu.2.1.1
  have tn : m.tableNames a = 0 := ht.1.1.1.trans hn
  have t1 := ht.2.2.2.1 hn
  have u1 := hu.2.2.2.1 hn2
  have w64 := ht.2.1.2.2.2
  have z0 : tabR (m.meS sg a b) a (TB.s_rc t 0) NL RS SS ∨ (m.meG sg a b t.rc).1 ≠ 0 := by
    by_cases c : (m.meG sg a b t.rc).1 = 0
    · refine Or.inl ⟨ht.1, ⟨?_, Nat.zero_le _, ht.2.1.2.2⟩, fun g => ⟨fun q hq => absurd hq (Nat.not_lt_zero q), fun x y _ hy => absurd hy (Nat.not_lt_zero y)⟩, fun _ => Nat.zero_le _, fun r hr => absurd hr (Nat.not_lt_zero r)⟩
      show va_up m.tableRows a (m.meG sg a b (m.tableRows a)).1 a = 0
      rw [va_up_self, ra]
      exact c
    · exact Or.inr c
  have m0 : m.meG sg a b 0 = (0, (m.isCell, m.cells), m.rowSeries, m.valueLength) := rfl
  by_cases c : t.rc = 1 ∧ u.rc = 1
  · rw [if_pos c]
    have cr0 : ((MS.s_valueLength m m.valueLength).cr a (m.rowSeries (256 * a + 0)) (m.rowSeries (256 * b + 0))).1 = 0 := by
      show (crG _ _ (m.tableNames a) 0 m.valueLength).1 = 0
      rw [tn]
      rfl
    obtain ⟨v2, ef⟩ : ∃ v2, m.fo a (m.rowSeries (256 * a + 0)) b m.rowSeries (m.tableRows b) (m.tableRows b + 1) 0 m.valueLength = (0, v2) := ⟨_, fo_y (Nat.succ_pos _) (by rw [rb]; omega) cr0⟩
    have e1 := me_s m0 ef
    rw [show m.me2 sg a b 0 0 (m.isCell, m.cells) m.rowSeries 0 v2 = (0 + 1, jrG sg (m.isCell, m.cells) (cA a 0) (cA a 0) (cA b 0) m.windows, va_up m.rowSeries (256 * a + 0) (m.rowSeries (256 * a + 0)), v2) from if_neg (by rw [rb]; omega)] at e1
    have e1 : m.meG sg a b 1 = (1, jrG sg (m.isCell, m.cells) (cA a 0) (cA a 0) (cA b 0) m.windows, va_up m.rowSeries (256 * a + 0) (m.rowSeries (256 * a + 0)), v2) := e1
    have wz : (t.mv 0 0).wi = m.windows := ht.2.1.2.2.1
    have A : rwF (m.isCell, m.cells).1 (m.isCell, m.cells).2 ((a * 256 + 0) * 64) (t.mv 0 0).wi ((t.mv 0 0).th 0) (fun w => (t.mv 0 0).ce (0 * (t.mv 0 0).wi + w)) := fun w hw => by
      have hw : w < t.wi := hw
      have x1 : (t.mv 0 0).th 0 = t.th 0 := by
        show va_up t.th 0 (t.th 0) 0 = t.th 0
        exact va_up_self t.th 0 (t.th 0)
      have x2 : (t.mv 0 0).ce (0 * (t.mv 0 0).wi + w) = t.ce (0 * t.wi + w) := (cp_row hw).trans (if_pos rfl)
      rw [x1]
      show _ ∧ (_ → _ = (t.mv 0 0).ce (0 * (t.mv 0 0).wi + w))
      rw [x2]
      exact (ht.2.2.2.2 0 (by omega)).1 w hw
    have B : rwF (m.isCell, m.cells).1 (m.isCell, m.cells).2 ((b * 256 + 0) * 64) (t.mv 0 0).wi (u.th 0) (fun w => u.ce (0 * u.wi + w)) := fun w hw => (hu.2.2.2.2 0 (by omega)).1 w (by rw [hu.2.1.2.2.1, ← wz]; exact hw)
    obtain ⟨j1, -, -⟩ := jr_T (g := (m.isCell, m.cells)) (z := t.mv 0 0) (r := 0) hs (by rw [wz]; exact w64) (show ¬ a = b by omega) ⟨by omega, by omega, by omega⟩ A B
    refine ⟨ht.1, ⟨?_, by show 1 ≤ 256; omega, ht.2.1.2.2⟩, fun g => by have g : 0 < t.nc := g; omega, fun _ => Nat.le_refl 1, fun r hr => ?_⟩
    · show va_up m.tableRows a (m.meG sg a b (m.tableRows a)).1 a = 1
      rw [va_up_self, ra, c.1, e1]
    · have hr : r < 1 := hr
      have e : r = 0 := by omega
      subst e
      have ei : (m.meS sg a b).isCell = (jrG sg (m.isCell, m.cells) (cA a 0) (cA a 0) (cA b 0) m.windows).1 := by
        show (m.meG sg a b (m.tableRows a)).2.1.1 = _
        rw [ra, c.1, e1]
      have ec : (m.meS sg a b).cells = (jrG sg (m.isCell, m.cells) (cA a 0) (cA a 0) (cA b 0) m.windows).2 := by
        show (m.meG sg a b (m.tableRows a)).2.1.2 = _
        rw [ra, c.1, e1]
      rw [ei, ec, ← wz]
      exact j1
  · rw [if_neg c]
    refine z0.resolve_right (fun z => z ?_)
    by_cases d : t.rc = 0
    · rw [d]
      rfl
    · have d1 : t.rc = 1 := by omega
      have d2 : u.rc = 0 := by omega
      have ef : m.fo a (m.rowSeries (256 * a + 0)) b m.rowSeries (m.tableRows b) (m.tableRows b + 1) 0 m.valueLength = (0, m.valueLength) := fo_e (by rw [rb, d2]; exact Nat.le_refl 0)
      have e1 := me_s m0 ef
      rw [show m.me2 sg a b 0 0 (m.isCell, m.cells) m.rowSeries 0 m.valueLength = (0, (m.isCell, m.cells), m.rowSeries, m.valueLength) from if_pos (by rw [rb, d2])] at e1
      rw [d1]
      show (m.meG sg a b (0 + 1)).1 = 0
      rw [e1]
end NB
