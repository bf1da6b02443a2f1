theorem sw_rs {ic : Nat → Bool} {ce : Nat → Int64} {rs : Nat → Nat} {t w : Nat} : ∀ r, (swG ic ce rs t w r).1 ≤ r ∧ (∀ q : Nat, q < 256 * t ∨ 256 * t + (swG ic ce rs t w r).1 ≤ q → (swG ic ce rs t w r).2.2.2 q = rs q) ∧ ∀ q : Nat, q < (swG ic ce rs t w r).1 → ∃ q', q' < r ∧ (swG ic ce rs t w r).2.2.2 (256 * t + q) = rs (256 * t + q')
  | 0 => ⟨Nat.le_refl 0, fun _ _ => rfl, fun q hq => absurd hq (Nat.not_lt_zero q)⟩
  | r + 1 => by
    obtain ⟨h1, h2, h3⟩ := sw_rs (ic := ic) (ce := ce) (rs := rs) (t := t) (w := w) r
    obtain ⟨m, i2, c2, r2, hg⟩ : ∃ z1 z2 z3 z4, swG ic ce rs t w r = (z1, z2, z3, z4) := ⟨_, _, _, _, rfl⟩
    rw [hg] at h1 h2 h3
    have h1 : m ≤ r := h1
    have h2 : ∀ q : Nat, q < 256 * t ∨ 256 * t + m ≤ q → r2 q = rs q := h2
    have h3 : ∀ q : Nat, q < m → ∃ q', q' < r ∧ r2 (256 * t + q) = rs (256 * t + q') := h3
    cases ha : anyB w (fun w => i2 (cA t r + w)) with
    | false =>
      rw [swG_f hg ha]
      exact ⟨Nat.le_succ_of_le h1, h2, fun q hq => by obtain ⟨q', a, b⟩ := h3 q hq; exact ⟨q', Nat.lt_succ_of_lt a, b⟩⟩
    | true =>
      rw [swG_t hg ha]
      refine ⟨Nat.succ_le_succ h1, fun q hq => ?_, fun q hq => ?_⟩
      · show (if q = 256 * t + m then r2 (256 * t + r) else r2 q) = rs q
        have hq : q < 256 * t ∨ 256 * t + (m + 1) ≤ q := hq
        rw [if_neg (by omega)]
        exact h2 q (by omega)
      · show ∃ q', q' < r + 1 ∧ (if 256 * t + q = 256 * t + m then r2 (256 * t + r) else r2 (256 * t + q)) = rs (256 * t + q')
        have hq : q < m + 1 := hq
        by_cases e : q = m
        · exact ⟨r, Nat.lt_succ_self r, by rw [if_pos (by omega)]; exact h2 _ (by omega)⟩
        · obtain ⟨q', a, b⟩ := h3 q (by omega)
          exact ⟨q', Nat.lt_succ_of_lt a, by rw [if_neg (by omega)]; exact b⟩
theorem me_rs {x : MS} {sg : Int32} {a b : Nat} : ∀ r, (x.meG sg a b r).1 ≤ r ∧ (∀ q : Nat, q < 256 * a ∨ 256 * a + (x.meG sg a b r).1 ≤ q → (x.meG sg a b r).2.2.1 q = x.rowSeries q) ∧ ∀ q : Nat, q < (x.meG sg a b r).1 → ∃ q', q' < r ∧ (x.meG sg a b r).2.2.1 (256 * a + q) = x.rowSeries (256 * a + q')
  | 0 => ⟨Nat.le_refl 0, fun _ _ => rfl, fun q hq => absurd hq (Nat.not_lt_zero q)⟩
  | r + 1 => by
    obtain ⟨h1, h2, h3⟩ := me_rs (x := x) (sg := sg) (a := a) (b := b) r
    obtain ⟨m, g, r2, v, hg⟩ : ∃ z1 z2 z3 z4, x.meG sg a b r = (z1, z2, z3, z4) := ⟨_, _, _, _, rfl⟩
    rw [hg] at h1 h2 h3
    have h1 : m ≤ r := h1
    have h2 : ∀ q : Nat, q < 256 * a ∨ 256 * a + m ≤ q → r2 q = x.rowSeries q := h2
    have h3 : ∀ q : Nat, q < m → ∃ q', q' < r ∧ r2 (256 * a + q) = x.rowSeries (256 * a + q') := h3
    obtain ⟨o, v2, hf⟩ : ∃ z1 z2, x.fo a (r2 (256 * a + r)) b r2 (x.tableRows b) (x.tableRows b + 1) 0 v = (z1, z2) := ⟨_, _, rfl⟩
    rw [me_s hg hf]
    unfold MS.me2
    by_cases ho : o = x.tableRows b
    · rw [if_pos ho]
      exact ⟨Nat.le_succ_of_le h1, h2, fun q hq => by obtain ⟨q', c, d⟩ := h3 q hq; exact ⟨q', Nat.lt_succ_of_lt c, d⟩⟩
    · rw [if_neg ho]
      refine ⟨Nat.succ_le_succ h1, fun q hq => ?_, fun q hq => ?_⟩
      · show (if q = 256 * a + m then r2 (256 * a + r) else r2 q) = x.rowSeries q
        have hq : q < 256 * a ∨ 256 * a + (m + 1) ≤ q := hq
        rw [if_neg (by omega)]
        exact h2 q (by omega)
      · show ∃ q', q' < r + 1 ∧ (if 256 * a + q = 256 * a + m then r2 (256 * a + r) else r2 (256 * a + q)) = x.rowSeries (256 * a + q')
        have hq : q < m + 1 := hq
        by_cases e : q = m
        · exact ⟨r, Nat.lt_succ_self r, by rw [if_pos (by omega)]; exact h2 _ (by omega)⟩
        · obtain ⟨q', c, d⟩ := h3 q (by omega)
          exact ⟨q', Nat.lt_succ_of_lt c, by rw [if_neg (by omega)]; exact d⟩
theorem mv_at {α : Type} {f : Nat → α} {b a n : Nat} (h : b + n ≤ a) : ∀ k, k ≤ n → ∀ q, mvG f b a k q = if b ≤ q ∧ q < b + k then f (a + (q - b)) else f q
  | 0, _, q => by rw [if_neg (by omega)]; rfl
  | k + 1, hk, q => by
    have ih := mv_at (f := f) h k (by omega)
    show (if q = b + k then mvG f b a k (a + k) else mvG f b a k q) = _
    by_cases e : q = b + k
    · rw [if_pos e, ih, if_neg (by omega), if_pos (by omega), e, show b + k - b = k by omega]
    · rw [if_neg e, ih]
      by_cases c : b ≤ q ∧ q < b + k
      · rw [if_pos c, if_pos (by omega)]
      · rw [if_neg c, if_neg (by omega)]
theorem gr_rs {x : MS} {t p : Nat} : ∀ k, k ≤ 256 → (∀ q : Nat, q < 256 * t ∨ 256 * t + 256 ≤ q → (x.grG t p k).2.1 q = x.rowSeries q) ∧ ∀ q : Nat, q < (x.grG t p k).1 → (x.grG t p k).2.1 (256 * t + q) < k
  | 0, _ => ⟨fun _ _ => rfl, fun q hq => absurd hq (Nat.not_lt_zero q)⟩
  | k + 1, hk => by
    obtain ⟨h1, h2⟩ := gr_rs (x := x) (t := t) (p := p) k (by omega)
    obtain ⟨n, rs, ro, hb, v, hg⟩ : ∃ z1 z2 z3 z4 z5, x.grG t p k = (z1, z2, z3, z4, z5) := ⟨_, _, _, _, _, rfl⟩
    have hn : n ≤ k := by
      have := gr_le' (x := x) (t := t) (p := p) k
      rw [hg] at this
      exact this
    rw [hg] at h1 h2
    have h1 : ∀ q : Nat, q < 256 * t ∨ 256 * t + 256 ≤ q → rs q = x.rowSeries q := h1
    have h2 : ∀ q : Nat, q < n → rs (256 * t + q) < k := h2
    cases hm : ((MS.s_valueLength x v).mt k p).1 with
    | false =>
      rw [gr_no hg hm]
      exact ⟨h1, rs_sc h2⟩
    | true =>
      obtain ⟨v2, hv2⟩ : ∃ z, (MS.s_valueLength x v).mt k p = (true, z) := ⟨_, Prod.ext hm rfl⟩
      obtain ⟨r, v3, hf⟩ : ∃ z1 z2, x.fr t k rs n (n + 1) 0 v2 = (z1, z2) := ⟨_, _, rfl⟩
      have hr : r ≤ n := by
        have := fr_le (x := x) (t := t) (s := k) (rs := rs) (n := n) (n + 1) 0 v2 (Nat.zero_le n)
        rw [hf] at this
        exact this
      rw [gr_y hg hv2 hf]
      cases hi : (x.gi t k rs n r v3).1 with
      | false =>
        obtain ⟨v4, h4⟩ : ∃ z, x.gi t k rs n r v3 = (false, z) := ⟨_, Prod.ext hi rfl⟩
        rw [gr_old h4]
        exact ⟨h1, rs_sc h2⟩
      | true =>
        obtain ⟨v4, h4⟩ : ∃ z, x.gi t k rs n r v3 = (true, z) := ⟨_, Prod.ext hi rfl⟩
        rw [grN_new h4]
        refine ⟨fun q hq => ?_, sh_lt h2 hr⟩
        show (if q = 256 * t + r then k else shR rs (256 * t) n (n - r) q) = x.rowSeries q
        rw [if_neg (by omega), shR_at rs (256 * t) n (n - r) (by omega), if_neg (by omega)]
        exact h1 q hq
/-- is table t well made -/
def MS.tI (x : MS) (t : Nat) : Prop := x.tableRows t ≤ 256 ∧ x.tableNames t ≤ 6 ∧ ∀ q : Nat, q < x.tableRows t → x.tableNames t = 0 ∨ x.tOK (x.rowSeries (256 * t + q))
def MS.nmG (x : MS) : Prop := (∀ q : Nat, x.nameFroms q + x.nameLengths q ≤ 65536) ∧ ∀ q : Nat, x.keySeries q < 256
/-- what a working question keeps -/
def MS.qI (x : MS) : Prop := x.seriesCount ≤ 256 ∧ (∀ q : Nat, q < x.seriesCount → x.tOK q) ∧ x.points ≤ 12000 ∧ (∀ q : Nat, q < x.points → x.pointSeries q < 256) ∧ x.windows ≤ 64 ∧ 1 ≤ x.width ∧ (∀ q : Nat, x.keySeries q < 256) ∧ ∀ t : Nat, t < x.pile → x.tI t
theorem sw_tI {x : MS} {a t : Nat} (ha : x.tableRows a ≤ 256) (h : x.tI t) : (x.swS a).tI t := by
  obtain ⟨h1, h2, h3⟩ := h
  obtain ⟨g1, g2, g3⟩ := sw_rs (ic := x.isCell) (ce := x.cells) (rs := x.rowSeries) (t := a) (w := x.windows) (x.tableRows a)
  obtain ⟨m, i2, c2, r2, hg⟩ : ∃ z1 z2 z3 z4, swG x.isCell x.cells x.rowSeries a x.windows (x.tableRows a) = (z1, z2, z3, z4) := ⟨_, _, _, _, rfl⟩
  rw [hg] at g1 g2 g3
  rw [swS_eq hg]
  show va_up x.tableRows a m t ≤ 256 ∧ x.tableNames t ≤ 6 ∧ ∀ q : Nat, q < va_up x.tableRows a m t → x.tableNames t = 0 ∨ x.tOK (r2 (256 * t + q))
  by_cases e : t = a
  · subst e
    rw [va_us]
    have g1 : m ≤ x.tableRows t := g1
    refine ⟨by omega, h2, fun q hq => ?_⟩
    obtain ⟨q', c, d⟩ := g3 q hq
    have d : r2 (256 * t + q) = x.rowSeries (256 * t + q') := d
    rw [d]
    exact h3 q' c
  · have e1 : va_up x.tableRows a m t = x.tableRows t := if_neg e
    rw [e1]
    refine ⟨h1, h2, fun q hq => ?_⟩
    have g1 : m ≤ x.tableRows a := g1
    have g2 : ∀ q : Nat, q < 256 * a ∨ 256 * a + m ≤ q → r2 q = x.rowSeries q := g2
    rw [g2 _ (by omega)]
    exact h3 q hq
theorem me_tI {x : MS} {sg : Int32} {a b t : Nat} (ha : x.tI a) (h : x.tI t) : (x.meS sg a b).tI t := by
  obtain ⟨h1, h2, h3⟩ := h
  obtain ⟨g1, g2, g3⟩ := me_rs (x := x) (sg := sg) (a := a) (b := b) (x.tableRows a)
  obtain ⟨m, g, r2, v, hg⟩ : ∃ z1 z2 z3 z4, x.meG sg a b (x.tableRows a) = (z1, z2, z3, z4) := ⟨_, _, _, _, rfl⟩
  rw [hg] at g1 g2 g3
  unfold MS.meS
  rw [hg]
  show va_up x.tableRows a m t ≤ 256 ∧ x.tableNames t ≤ 6 ∧ ∀ q : Nat, q < va_up x.tableRows a m t → x.tableNames t = 0 ∨ x.tOK (r2 (256 * t + q))
  have g1 : m ≤ x.tableRows a := g1
  have a1 := ha.1
  by_cases e : t = a
  · subst e
    rw [va_us]
    refine ⟨by omega, h2, fun q hq => ?_⟩
    obtain ⟨q', c, d⟩ := g3 q hq
    have d : r2 (256 * t + q) = x.rowSeries (256 * t + q') := d
    rw [d]
    exact h3 q' c
  · have e1 : va_up x.tableRows a m t = x.tableRows t := if_neg e
    rw [e1]
    refine ⟨h1, h2, fun q hq => ?_⟩
    have g2 : ∀ q : Nat, q < 256 * a ∨ 256 * a + m ≤ q → r2 q = x.rowSeries q := g2
    rw [g2 _ (by omega)]
    exact h3 q hq
theorem ob_tI {x : MS} {sg : Int32} {a b t : Nat} (ha : x.tI a) (h : x.tI t) : (x.obS sg a b).tI t := by
  obtain ⟨h1, h2, h3⟩ := h
  show va_up x.tableRows a (if 0 < x.tableRows b then x.tableRows a else 0) t ≤ 256 ∧ x.tableNames t ≤ 6 ∧ ∀ q : Nat, q < va_up x.tableRows a (if 0 < x.tableRows b then x.tableRows a else 0) t → x.tableNames t = 0 ∨ x.tOK (x.rowSeries (256 * t + q))
  have a1 := ha.1
  by_cases e : t = a
  · subst e
    rw [va_us]
    refine ⟨by split <;> omega, h2, fun q hq => h3 q ?_⟩
    split at hq <;> omega
  · have e1 : va_up x.tableRows a (if 0 < x.tableRows b then x.tableRows a else 0) t = x.tableRows t := if_neg e
    rw [e1]
    exact ⟨h1, h2, h3⟩
theorem sp_tI {x : MS} {sg : Int32} {a t : Nat} (ha : x.tI a) (hb : x.tI (a + 1)) (h : x.tI t) (hn : ¬ t = a + 1) : (x.spS sg a (a + 1)).tI t := by
  obtain ⟨h1, h2, h3⟩ := h
  obtain ⟨n, hN⟩ : ∃ n, (if 0 < x.tableRows a then x.tableRows (a + 1) else 0) = n := ⟨_, rfl⟩
  have b1 := hb.1
  have hn2 : n ≤ x.tableRows (a + 1) := by rw [← hN]; split <;> omega
  unfold MS.spS
  rw [hN]
  show va_up x.tableRows a n t ≤ 256 ∧ va_up x.tableNames a (x.tableNames (a + 1)) t ≤ 6 ∧ ∀ q : Nat, q < va_up x.tableRows a n t → va_up x.tableNames a (x.tableNames (a + 1)) t = 0 ∨ x.tOK (mvG x.rowSeries (256 * a) (256 * (a + 1)) n (256 * t + q))
  have mv := mv_at (f := x.rowSeries) (b := 256 * a) (a := 256 * (a + 1)) (n := n) (by omega) n (Nat.le_refl n)
  by_cases e : t = a
  · subst e
    rw [va_us, va_us]
    refine ⟨by omega, hb.2.1, fun q hq => ?_⟩
    rw [mv, if_pos (by omega), show 256 * t + q - 256 * t = q by omega]
    exact hb.2.2 q (by omega)
  · have e1 : va_up x.tableRows a n t = x.tableRows t := if_neg e
    have e2 : va_up x.tableNames a (x.tableNames (a + 1)) t = x.tableNames t := if_neg e
    rw [e1, e2]
    refine ⟨h1, h2, fun q hq => ?_⟩
    rw [mv, if_neg (by omega)]
    exact h3 q hq
theorem op_tI {x : MS} {sg : Int32} (hp : 2 ≤ x.pile) (h : ∀ t : Nat, t < x.pile → x.tI t) : ∀ t : Nat, t < x.pile - 1 → (x.opM sg).tI t := by
  intro t ht
  have ha := h (x.pile - 2) (by omega)
  have hb := h (x.pile - 1) (by omega)
  have hx := h t (by omega)
  unfold MS.opM
  split
  · exact me_tI ha hx
  · split
    · exact ob_tI ha hx
    · have e : x.pile - 1 = x.pile - 2 + 1 := by omega
      rw [e] at hb ⊢
      exact sp_tI ha hb hx (by omega)
/-- x with the tables of y -/
def MS.tbS (x y : MS) : MS := MS.s_valueLength (MS.s_pile (MS.s_isCell (MS.s_cells (MS.s_rowSeries (MS.s_tableRows (MS.s_nameLengths (MS.s_nameFroms (MS.s_tableNames x y.tableNames) y.nameFroms) y.nameLengths) y.tableRows) y.rowSeries) y.cells) y.isCell) y.pile) y.valueLength
def MS.tb (x y : MS) : Prop := y = x.tbS y
theorem tb_tr {x y z : MS} (h1 : x.tb y) (h2 : y.tb z) : x.tb z := h2.trans ((congrArg (fun w => MS.tbS w z) h1).trans rfl)
theorem tb_f {x y : MS} {α : Type} (h : x.tb y) (f : MS → α) (hf : f (x.tbS y) = f x) : f y = f x := (congrArg f h).trans hf
theorem tb_sw (x : MS) (a : Nat) : x.tb (x.swS a) := rfl
theorem tb_opM (x : MS) (sg : Int32) : x.tb (x.opM sg) := by
  unfold MS.opM
  repeat' split
  all_goals exact rfl
theorem tb_pile (x : MS) (n : Nat) : x.tb (MS.s_pile x n) := rfl
theorem op_v {x : MS} {sg : Int32} {q : Nat} (h : x.opB = true) : x.opS sg q = MS.swS (MS.s_pile (x.opM sg) ((x.opM sg).pile - 1)) (x.pile - 2) := if_pos h
theorem op_in {x : MS} {sg : Int32} {q : Nat} (hp : 2 ≤ x.pile) (h : x.qI) (hb : x.opB = true) : (x.opS sg q).qI ∧ x.tb (x.opS sg q) ∧ (x.opS sg q).pile = x.pile - 1 := by
  rw [op_v hb]
  have t1 : x.tb (MS.swS (MS.s_pile (x.opM sg) ((x.opM sg).pile - 1)) (x.pile - 2)) := tb_tr (tb_opM x sg) (tb_tr (tb_pile _ _) (tb_sw _ _))
  have p1 : (x.opM sg).pile = x.pile := by
    unfold MS.opM
    repeat' split
    all_goals exact rfl
  have p2 : (MS.swS (MS.s_pile (x.opM sg) ((x.opM sg).pile - 1)) (x.pile - 2)).pile = x.pile - 1 := by
    show (x.opM sg).pile - 1 = _
    rw [p1]
  refine ⟨?_, t1, p2⟩
  have hop := op_tI (sg := sg) hp h.2.2.2.2.2.2.2
  have hT : ∀ t : Nat, t < x.pile - 1 → (MS.swS (MS.s_pile (x.opM sg) ((x.opM sg).pile - 1)) (x.pile - 2)).tI t := fun t ht => sw_tI (x := MS.s_pile (x.opM sg) ((x.opM sg).pile - 1)) (hop (x.pile - 2) (by omega)).1 (hop t ht)
  generalize MS.swS (MS.s_pile (x.opM sg) ((x.opM sg).pile - 1)) (x.pile - 2) = v at t1 p2 hT ⊢
  have a1 : v.seriesCount = x.seriesCount := tb_f t1 MS.seriesCount rfl
  have hq := h
  obtain ⟨b1, b2, b3, b4, b5, b6, b7, -⟩ := h
  have key : (x.tbS v).seriesCount ≤ 256 ∧ (∀ q : Nat, q < (x.tbS v).seriesCount → (x.tbS v).tOK q) ∧ (x.tbS v).points ≤ 12000 ∧ (∀ q : Nat, q < (x.tbS v).points → (x.tbS v).pointSeries q < 256) ∧ (x.tbS v).windows ≤ 64 ∧ 1 ≤ (x.tbS v).width ∧ (∀ q : Nat, (x.tbS v).keySeries q < 256) := ⟨b1, b2, b3, b4, b5, b6, b7⟩
  rw [← show v = x.tbS v from t1] at key
  obtain ⟨d1, d2, d3, d4, d5, d6, d7⟩ := key
  exact ⟨d1, d2, d3, d4, d5, d6, d7, fun t ht => hT t (by omega)⟩
/-- x with the token, the fault and the tables of y -/
def MS.ckS (x y : MS) : MS := MS.s_hasBefore (MS.s_befores (MS.s_keySeries (MS.s_keyTimes (MS.s_rowOf ((x.tkS y).tbS y) y.rowOf) y.keyTimes) y.keySeries) y.befores) y.hasBefore
def MS.ck (x y : MS) : Prop := y = x.ckS y
theorem ck_tr {x y z : MS} (h1 : x.ck y) (h2 : y.ck z) : x.ck z := h2.trans ((congrArg (fun w => MS.ckS w z) h1).trans rfl)
theorem ck_f {x y : MS} {α : Type} (h : x.ck y) (f : MS → α) (hf : f (x.ckS y) = f x) : f y = f x := (congrArg f h).trans hf
theorem ck_tk {x y : MS} (h : x.tk y) : x.ck y := by
  have h1 : x.ck (x.tkS y) := rfl
  rw [← show y = x.tkS y from h] at h1
  exact h1
theorem ck_nk {x y : MS} (h : x.nk y) : x.ck y := by
  have h1 : x.ck (x.nkS y) := rfl
  rw [← show y = x.nkS y from h] at h1
  exact h1
theorem ck_tb {x y : MS} (h : x.tb y) : x.ck y := by
  have h1 : x.ck (x.tbS y) := rfl
  rw [← show y = x.tbS y from h] at h1
  exact h1
theorem ck_rk (x : MS) (wh p : Nat) : x.ck (x.rkS wh p) := rfl
theorem ck_rf (x : MS) : x.ck x := rfl
theorem rk_ks {x : MS} {t wh : Nat} (h : ∀ k : Nat, x.keySeries k < 256) (hs : ∀ q : Nat, q < x.points → x.pointSeries q < 256) : ∀ n, n ≤ x.points → ∀ k : Nat, (x.rkG t wh n).2.2.2.1 k < 256
  | 0, _, k => h k
  | n + 1, hn, k => by
    have ih := rk_ks (t := t) (wh := wh) h hs n (by omega)
    show (x.rk1 t wh n (x.rkG t wh n)).2.2.2.1 k < 256
    unfold MS.rk1
    split
    · exact ih k
    · split
      · exact ih k
      · show (x.rkA t wh n (x.rkG t wh n)).2.2.2 k < 256
        unfold MS.rkA
        split
        · exact ga_ks (x := x.pt (x.rkG t wh n)) ih (hs n (by omega)) k
        · exact ih k
theorem gr_eq {x : MS} {t p n v : Nat} {rs : Nat → Nat} {ro : Nat → Int32} {hb : Nat → Bool} (h : x.grG t p x.seriesCount = (n, rs, ro, hb, v)) : (x.grS t p).tableRows = va_up x.tableRows t n ∧ (x.grS t p).rowSeries = rs := by
  unfold MS.grS
  rw [h]
  exact ⟨rfl, rfl⟩
/-- a table made: the question still stands well -/
theorem rk_in {x : MS} {wh p : Nat} (h : x.qI) (hn : x.tableNames x.pile ≤ 6) : (x.rkS wh p).qI ∧ (x.rkS wh p).pile = x.pile + 1 := by
  obtain ⟨b1, b2, b3, b4, b5, b6, b7, b8⟩ := h
  obtain ⟨n, rs, ro, hb, v, hg⟩ : ∃ z1 z2 z3 z4 z5, x.grG x.pile p x.seriesCount = (z1, z2, z3, z4, z5) := ⟨_, _, _, _, _, rfl⟩
  obtain ⟨e1, e2⟩ := gr_eq hg
  have hn9 : n ≤ 256 := gr_le b1 hg
  obtain ⟨r1, r2⟩ := gr_rs (x := x) (t := x.pile) (p := p) x.seriesCount b1
  rw [hg] at r1 r2
  have r1 : ∀ q : Nat, q < 256 * x.pile ∨ 256 * x.pile + 256 ≤ q → rs q = x.rowSeries q := r1
  have r2 : ∀ q : Nat, q < n → rs (256 * x.pile + q) < x.seriesCount := r2
  have k1 := rk_ks (x := x.grS x.pile p) (t := x.pile) (wh := wh) b7 b4 (x.grS x.pile p).points (Nat.le_refl _)
  have hT : ∀ t : Nat, t < x.pile + 1 → (x.grS x.pile p).tI t := by
    intro t ht
    show (x.grS x.pile p).tableRows t ≤ 256 ∧ x.tableNames t ≤ 6 ∧ ∀ q : Nat, q < (x.grS x.pile p).tableRows t → x.tableNames t = 0 ∨ x.tOK ((x.grS x.pile p).rowSeries (256 * t + q))
    rw [e1, e2]
    by_cases e : t = x.pile
    · rw [e, va_us]
      exact ⟨hn9, hn, fun q hq => Or.inr (b2 _ (r2 q hq))⟩
    · have e3 : va_up x.tableRows x.pile n t = x.tableRows t := if_neg e
      obtain ⟨h1, h2, h3⟩ := b8 t (by omega)
      rw [e3]
      refine ⟨h1, h2, fun q hq => ?_⟩
      rw [r1 _ (by omega)]
      exact h3 q hq
  have hT2 : ∀ t : Nat, t < x.pile + 1 → (x.rkS wh p).tI t := fun t ht => sw_tI (x := MS.s_pile (MS.pt (x.grS x.pile p) ((x.grS x.pile p).rkG x.pile wh (x.grS x.pile p).points)) ((x.grS x.pile p).pile + 1)) (hT x.pile (Nat.lt_succ_self _)).1 (hT t ht)
  exact ⟨⟨b1, b2, b3, b4, b5, b6, k1, hT2⟩, rfl⟩
theorem qI_tk {x y : MS} (h : x.tk y) (hx : x.qI) : y.qI := by
  have h1 : (x.tkS y).qI := hx
  rw [← show y = x.tkS y from h] at h1
  exact h1
/-- the table of a number -/
def MS.nbS (x : MS) : MS := MS.s_pile (MS.s_isCell (MS.s_cells (MS.s_rowSeries (MS.s_tableRows (MS.s_tableNames x (va_up x.tableNames x.pile 0)) (va_up x.tableRows x.pile 1)) (va_up x.rowSeries (256 * x.pile) 0)) (filG x.cells (cA x.pile 0) x.amount x.windows)) (filG x.isCell (cA x.pile 0) true x.windows)) (x.pile + 1)
theorem nb_in {x : MS} (h : x.qI) : x.nbS.qI ∧ x.nbS.pile = x.pile + 1 := by
  obtain ⟨b1, b2, b3, b4, b5, b6, b7, b8⟩ := h
  refine ⟨⟨b1, b2, b3, b4, b5, b6, b7, fun t ht => ?_⟩, rfl⟩
  have ht : t < x.pile + 1 := ht
  show va_up x.tableRows x.pile 1 t ≤ 256 ∧ va_up x.tableNames x.pile 0 t ≤ 6 ∧ ∀ q : Nat, q < va_up x.tableRows x.pile 1 t → va_up x.tableNames x.pile 0 t = 0 ∨ x.tOK (va_up x.rowSeries (256 * x.pile) 0 (256 * t + q))
  by_cases e : t = x.pile
  · rw [e, va_us, va_us]
    exact ⟨by decide, by decide, fun _ _ => Or.inl rfl⟩
  · have e1 : va_up x.tableRows x.pile 1 t = x.tableRows t := if_neg e
    have e2 : va_up x.tableNames x.pile 0 t = x.tableNames t := if_neg e
    obtain ⟨h1, h2, h3⟩ := b8 t (by omega)
    rw [e1, e2]
    refine ⟨h1, h2, fun q hq => ?_⟩
    rw [show va_up x.rowSeries (256 * x.pile) 0 (256 * t + q) = x.rowSeries (256 * t + q) from if_neg (by omega)]
    exact h3 q hq
theorem ck_nb (x : MS) : x.ck x.nbS := rfl
def MS.ngS (x : MS) : MS := MS.s_cells x (ngR x.cells (x.pile - 1) x.windows (x.tableRows (x.pile - 1)))
theorem ng_qI {x : MS} (h : x.qI) : x.ngS.qI := h
theorem ck_ng (x : MS) : x.ck x.ngS := rfl
/-- signs that open, signs between two operands -/
def isOpS (z : Nat) : Bool := decide (z = 109) || decide (z = 40)
def binS (z : Nat) : Bool := decide (z = 43) || (decide (z = 45) || (decide (z = 42) || (decide (z = 47) || decide (z = 37))))
def rkM (z : Nat) : Nat := rkN (nI z)
theorem bin_c {z : Nat} (h : binS z = true) : (rkM z = 1 ∨ rkM z = 2) ∧ isOpS z = false ∧ isOp (nI z) ∧ z ≤ 109 ∧ ¬ z = 109 ∧ ¬ z = 40 := by
  unfold binS at h
  simp only [Bool.or_eq_true, decide_eq_true_eq] at h
  unfold isOp
  rcases h with h | h | h | h | h <;> subst h <;> decide
theorem opn_c {z : Nat} (h : isOpS z = true) : z = 109 ∨ z = 40 := by
  unfold isOpS at h
  simpa only [Bool.or_eq_true, decide_eq_true_eq] using h
def MS.isO (x : MS) (k : Nat) : Bool := isOpS (x.signs k)
/-- the signs that wait; e is 1 where an operand has just been read -/
def MS.sI (x : MS) (e : Nat) : Prop := x.opn ≤ 8 ∧ cnt x.signCount x.isO = x.opn ∧ (∀ k : Nat, k < x.signCount → isOpS (x.signs k) = true ∨ binS (x.signs k) = true) ∧ (∀ k : Nat, k + 1 < x.signCount → binS (x.signs k) = true → binS (x.signs (k + 1)) = true → rkM (x.signs k) < rkM (x.signs (k + 1))) ∧ (x.works = true → x.pile + x.opn = x.signCount + e)
theorem cnt_mono {f : Nat → Bool} : ∀ {n m : Nat}, n ≤ m → cnt n f ≤ cnt m f
  | n, 0, h => by obtain rfl : n = 0 := by omega
                  exact Nat.le_refl _
  | n, m + 1, h => by
    by_cases e : n = m + 1
    · subst e
      exact Nat.le_refl _
    · have := cnt_mono (f := f) (n := n) (m := m) (by omega)
      have h2 : cnt (m + 1) f = cnt m f + (if f m then 1 else 0) := rfl
      omega
theorem sI_b {x : MS} {e : Nat} (h : x.sI e) : ∀ n, n ≤ x.signCount → n ≤ 3 * cnt n x.isO + 2 := by
  obtain ⟨h1, h2, h3, h4, h5⟩ := h
  intro n
  induction n using Nat.strongRecOn with
  | ind n ih =>
    intro hn
    by_cases h0 : n ≤ 2
    · omega
    · obtain ⟨m, rfl⟩ : ∃ m, n = m + 3 := ⟨n - 3, by omega⟩
      have i1 := ih m (by omega) (by omega)
      have c0 : cnt (m + 1) x.isO = cnt m x.isO + (if x.isO m then 1 else 0) := rfl
      have c1 : cnt (m + 2) x.isO = cnt (m + 1) x.isO + (if x.isO (m + 1) then 1 else 0) := rfl
      have c2 : cnt (m + 3) x.isO = cnt (m + 2) x.isO + (if x.isO (m + 2) then 1 else 0) := rfl
      have key : x.isO m = true ∨ x.isO (m + 1) = true ∨ x.isO (m + 2) = true := by
        rcases h3 m (by omega) with a | a
        · exact Or.inl a
        · rcases h3 (m + 1) (by omega) with b | b
          · exact Or.inr (Or.inl b)
          · rcases h3 (m + 2) (by omega) with c | c
            · exact Or.inr (Or.inr c)
            · have r1 := h4 m (by omega) a b
              have r2 := h4 (m + 1) (by omega) b c
              have q1 := (bin_c a).1
              have q3 := (bin_c c).1
              have r2 : rkM (x.signs (m + 1)) < rkM (x.signs (m + 2)) := r2
              omega
      rcases key with k | k | k
      · rw [k] at c0
        simp only [if_true] at c0
        split at c1 <;> split at c2 <;> omega
      · rw [k] at c1
        simp only [if_true] at c1
        split at c0 <;> split at c2 <;> omega
      · rw [k] at c2
        simp only [if_true] at c2
        split at c0 <;> split at c1 <;> omega
theorem sI_26 {x : MS} {e : Nat} (h : x.sI e) : x.signCount ≤ 26 := by
  have := sI_b h x.signCount (Nat.le_refl _)
  rw [h.2.1] at this
  have := h.1
  omega
theorem sI_lt {x : MS} {e k : Nat} (h : x.sI e) (hk : k < x.signCount) : x.signs k ≤ 109 := by
  rcases h.2.2.1 k hk with a | a
  · rcases opn_c a with b | b <;> omega
  · exact (bin_c a).2.2.2.1
theorem sI_pl {x : MS} {e : Nat} (h : x.sI e) (hw : x.works = true) (he : e ≤ 1) : x.pile ≤ 19 := by
  have h1 := sI_b h x.signCount (Nat.le_refl _)
  rw [h.2.1] at h1
  have h2 := h.1
  have h3 := h.2.2.2.2 hw
  omega
def MS.top (x : MS) : Nat := x.signs (x.signCount - 1)
def MS.pop (x : MS) : MS := MS.s_opn (MS.s_signCount x (x.signCount - 1)) (x.opn - (if x.top = 109 then 1 else 0))
/-- the uppermost sign done -/
def MS.dnF (x : MS) : Bool × MS := if x.works = true then (if x.top = 109 then (true, x.pop.ngS) else (x.pop.opB, x.pop.opS (nI x.top) (x.signPlaces (x.signCount - 1)))) else (true, x.pop)
theorem cnt_pred {f : Nat → Bool} {n : Nat} (h : 0 < n) : cnt n f = cnt (n - 1) f + (if f (n - 1) then 1 else 0) := by
  obtain ⟨k, rfl⟩ : ∃ k, n = k + 1 := ⟨n - 1, by omega⟩
  rfl
theorem top_c {x : MS} {e : Nat} (h : x.sI e) (h0 : 0 < x.signCount) (h4 : ¬ x.top = 40) : (x.top = 109 ∧ 1 ≤ x.opn) ∨ binS x.top = true := by
  rcases h.2.2.1 (x.signCount - 1) (by omega) with a | a
  · rcases opn_c a with b | b
    · refine Or.inl ⟨b, ?_⟩
      have c1 := cnt_pred (f := x.isO) h0
      rw [show x.isO (x.signCount - 1) = true from a] at c1
      simp only [if_true] at c1
      have := h.2.1
      omega
    · exact absurd b h4
  · exact Or.inr a
theorem pop_sI {x : MS} {e : Nat} (h : x.sI e) (h0 : 0 < x.signCount) (h4 : ¬ x.top = 40) : x.pop.opn ≤ 8 ∧ cnt x.pop.signCount x.pop.isO = x.pop.opn ∧ (∀ k : Nat, k < x.pop.signCount → isOpS (x.pop.signs k) = true ∨ binS (x.pop.signs k) = true) ∧ (∀ k : Nat, k + 1 < x.pop.signCount → binS (x.pop.signs k) = true → binS (x.pop.signs (k + 1)) = true → rkM (x.pop.signs k) < rkM (x.pop.signs (k + 1))) := by
  have ht := top_c h h0 h4
  obtain ⟨h1, h2, h3, h5, -⟩ := h
  have c1 := cnt_pred (f := x.isO) h0
  have e1 : (if x.isO (x.signCount - 1) then 1 else 0) = (if x.top = 109 then 1 else 0) := by
    rcases ht with ⟨a, -⟩ | a
    · have : x.isO (x.signCount - 1) = true := by
        show isOpS x.top = true
        rw [a]
        rfl
      rw [this, if_pos a]
      rfl
    · have b := bin_c a
      have : x.isO (x.signCount - 1) = false := b.2.1
      rw [this, if_neg b.2.2.2.2.1]
      rfl
  rw [e1, h2] at c1
  refine ⟨?_, ?_, fun k hk => h3 k ?_, fun k hk => h5 k ?_⟩
  · show x.opn - (if x.top = 109 then 1 else 0) ≤ 8
    omega
  · show cnt (x.signCount - 1) x.isO = x.opn - (if x.top = 109 then 1 else 0)
    omega
  · have hk : k < x.signCount - 1 := hk
    omega
  · have hk : k + 1 < x.signCount - 1 := hk
    omega
/-- x with the token, the fault, the tables and the number of signs of y -/
def MS.dkS (x y : MS) : MS := MS.s_opn (MS.s_signCount (x.ckS y) y.signCount) y.opn
def MS.dk (x y : MS) : Prop := y = x.dkS y
theorem dk_tr {x y z : MS} (h1 : x.dk y) (h2 : y.dk z) : x.dk z := h2.trans ((congrArg (fun w => MS.dkS w z) h1).trans rfl)
theorem dk_f {x y : MS} {α : Type} (h : x.dk y) (f : MS → α) (hf : f (x.dkS y) = f x) : f y = f x := (congrArg f h).trans hf
theorem dk_ck {x y : MS} (h : x.ck y) : x.dk y := by
  have h1 : x.dk (x.ckS y) := rfl
  rw [← show y = x.ckS y from h] at h1
  exact h1
theorem dk_pop (x : MS) : x.dk x.pop := rfl
theorem dk_rf (x : MS) : x.dk x := rfl
/-- only the fault of a failing operation differs beside the tables -/
theorem ck_opS (x : MS) (sg : Int32) (q : Nat) : x.ck (x.opS sg q) := by
  unfold MS.opS
  split
  · exact ck_tb (tb_tr (tb_opM x sg) (tb_tr (tb_pile _ _) (tb_sw _ _)))
  · exact rfl
theorem dk_dn (x : MS) : x.dk x.dnF.2 := by
  unfold MS.dnF
  split
  · split
    · exact dk_tr (dk_pop x) (dk_ck (ck_ng _))
    · exact dk_tr (dk_pop x) (dk_ck (ck_opS _ _ _))
  · exact dk_pop x
theorem nmG_sp {x : MS} {sg : Int32} {a : Nat} (h : x.nmG) : (x.spS sg a (a + 1)).nmG := by
  refine ⟨fun q => ?_, h.2⟩
  show mvG x.nameFroms (6 * a) (6 * (a + 1)) 6 q + mvG x.nameLengths (6 * a) (6 * (a + 1)) 6 q ≤ 65536
  rw [mv_at (f := x.nameFroms) (b := 6 * a) (a := 6 * (a + 1)) (n := 6) (by omega) 6 (Nat.le_refl 6), mv_at (f := x.nameLengths) (b := 6 * a) (a := 6 * (a + 1)) (n := 6) (by omega) 6 (Nat.le_refl 6)]
  split
  · exact h.1 _
  · exact h.1 _
theorem nmG_op {x : MS} {sg : Int32} {q : Nat} (hp : 2 ≤ x.pile) (h : x.nmG) : (x.opS sg q).nmG := by
  unfold MS.opS
  split
  · show (x.opM sg).nmG
    unfold MS.opM
    repeat' split
    · exact h
    · exact h
    · rw [show x.pile - 1 = x.pile - 2 + 1 by omega]
      exact nmG_sp h
  · exact h
/-- what doing the signs wants -/
def MS.dI (x : MS) : Prop := x.sI 1 ∧ (x.works = true → x.qI) ∧ x.nmG ∧ x.faultCode = 0
theorem bin_pl {x : MS} (h : x.sI 1) (h0 : 0 < x.signCount) (hb : binS x.top = true) (hw : x.works = true) : 2 ≤ x.pile := by
  have c1 := cnt_pred (f := x.isO) h0
  rw [show x.isO (x.signCount - 1) = false from (bin_c hb).2.1] at c1
  simp only [Bool.false_eq_true, if_false] at c1
  have c2 := cnt_le (x.signCount - 1) x.isO
  have h5 := h.2.2.2.2 hw
  have h2 := h.2.1
  omega
theorem dn_in {x v : MS} (h : x.dI) (h0 : 0 < x.signCount) (h4 : ¬ x.top = 40) (hd : x.dnF = (true, v)) : v.dI ∧ v.signCount = x.signCount - 1 := by
  obtain ⟨hs, hq, hn, hf⟩ := h
  have ht := top_c hs h0 h4
  obtain ⟨p1, p2, p3, p4⟩ := pop_sI hs h0 h4
  have h5 := hs.2.2.2.2
  unfold MS.dnF at hd
  by_cases hw : x.works = true
  · rw [if_pos hw] at hd
    have hP := h5 hw
    by_cases c : x.top = 109
    · rw [if_pos c] at hd
      have ev : v = x.pop.ngS := (congrArg Prod.snd hd).symm
      rw [ev]
      have ho : 1 ≤ x.opn := by
        rcases ht with a | a
        · exact a.2
        · exact absurd c (bin_c a).2.2.2.2.1
      refine ⟨⟨⟨p1, p2, p3, p4, fun _ => ?_⟩, fun _ => ng_qI (x := x.pop) (hq hw), hn, hf⟩, rfl⟩
      show x.pile + (x.opn - (if x.top = 109 then 1 else 0)) = x.signCount - 1 + 1
      rw [if_pos c]
      omega
    · rw [if_neg c] at hd
      have hb : binS x.top = true := by
        rcases ht with a | a
        · exact absurd a.1 c
        · exact a
      have hp2 := bin_pl hs h0 hb hw
      have e1 : x.pop.opB = true := congrArg Prod.fst hd
      have ev : v = x.pop.opS (nI x.top) (x.signPlaces (x.signCount - 1)) := (congrArg Prod.snd hd).symm
      obtain ⟨o1, o2, o3⟩ := op_in (x := x.pop) (sg := nI x.top) (q := x.signPlaces (x.signCount - 1)) hp2 (hq hw) e1
      have o4 := nmG_op (x := x.pop) (sg := nI x.top) (q := x.signPlaces (x.signCount - 1)) hp2 hn
      rw [← ev] at o1 o2 o3 o4
      have s1 : v.signCount = x.signCount - 1 := tb_f o2 MS.signCount rfl
      have s2 : v.opn = x.pop.opn := tb_f o2 MS.opn rfl
      have s3 : v.signs = x.signs := tb_f o2 MS.signs rfl
      have s4 : v.isO = x.pop.isO := by
        funext k
        show isOpS (v.signs k) = isOpS (x.signs k)
        rw [s3]
      have s5 : v.faultCode = x.faultCode := tb_f o2 MS.faultCode rfl
      have s6 : x.pop.pile = x.pile := rfl
      refine ⟨⟨⟨by rw [s2]; exact p1, by rw [s1, s4, s2]; exact p2, ?_, ?_, fun _ => ?_⟩, fun _ => o1, o4, by rw [s5]; exact hf⟩, s1⟩
      · rw [s1, s3]
        exact p3
      · rw [s1, s3]
        exact p4
      · rw [o3, s1, s2, s6]
        show x.pile - 1 + (x.opn - (if x.top = 109 then 1 else 0)) = x.signCount - 1 + 1
        rw [if_neg c]
        omega
  · rw [if_neg hw] at hd
    have ev : v = x.pop := (congrArg Prod.snd hd).symm
    rw [ev]
    exact ⟨⟨⟨p1, p2, p3, p4, fun z => absurd z hw⟩, fun z => absurd z hw, hn, hf⟩, rfl⟩
/-- signs of this rank or a higher one done, from the uppermost on -/
def MS.dtF (rk : Nat) : Nat → MS → Bool × MS
  | 0, x => (true, x)
  | w + 1, x => if x.signCount = 0 then (true, x) else if rkM x.top < rk then (true, x) else if x.dnF.1 = true then MS.dtF rk w x.dnF.2 else (false, x.dnF.2)
def MS.dt (x : MS) (rk : Nat) : Bool × MS := MS.dtF rk x.signCount x
section DT
variable {rk w : Nat} {x y : MS}
theorem dt_e (h : x.signCount = 0 ∨ rkM x.top < rk) : MS.dtF rk w x = (true, x) := by
  cases w with
  | zero => rfl
  | succ w =>
    show (if x.signCount = 0 then (true, x) else if rkM x.top < rk then (true, x) else _) = _
    by_cases h0 : x.signCount = 0
    · rw [if_pos h0]
    · rw [if_neg h0, if_pos (h.resolve_left h0)]
theorem dt_f (hw : 0 < w) (h0 : ¬ x.signCount = 0) (h1 : ¬ rkM x.top < rk) (h2 : x.dnF.1 = false) : MS.dtF rk w x = (false, x.dnF.2) := by
  obtain ⟨d, rfl⟩ : ∃ d, w = d + 1 := ⟨w - 1, by omega⟩
  exact (if_neg h0).trans ((if_neg h1).trans (if_neg (by rw [h2]; decide)))
theorem dt_t (hw : 0 < w) (h0 : ¬ x.signCount = 0) (h1 : ¬ rkM x.top < rk) (h2 : x.dnF.1 = true) (e : y = x.dnF.2) : MS.dtF rk w x = MS.dtF rk (w - 1) y := by
  obtain ⟨d, rfl⟩ : ∃ d, w = d + 1 := ⟨w - 1, by omega⟩
  subst e
  exact (if_neg h0).trans ((if_neg h1).trans (if_pos h2))
end DT
theorem rk_40 {x : MS} {rk : Nat} (h : ¬ rkM x.top < rk) (hr : 1 ≤ rk) : ¬ x.top = 40 := fun z => h (by
  rw [z]
  exact Nat.lt_of_lt_of_le (by decide) hr)
/-- what is left when the signs of a rank are done -/
theorem dt_in {rk : Nat} (hr : 1 ≤ rk) : ∀ {w : Nat} {x v : MS}, x.dI → w = x.signCount → MS.dtF rk w x = (true, v) → v.dI ∧ x.dk v ∧ (v.signCount = 0 ∨ rkM v.top < rk)
  | 0, x, v, h, hw, hd => by
    have ev : v = x := (congrArg Prod.snd hd).symm
    rw [ev]
    exact ⟨h, dk_rf x, Or.inl hw.symm⟩
  | w + 1, x, v, h, hw, hd => by
    by_cases h0 : x.signCount = 0
    · omega
    · by_cases h1 : rkM x.top < rk
      · rw [dt_e (Or.inr h1)] at hd
        have ev : v = x := (congrArg Prod.snd hd).symm
        rw [ev]
        exact ⟨h, dk_rf x, Or.inr h1⟩
      · cases h2 : x.dnF.1 with
        | false =>
          rw [dt_f (Nat.succ_pos w) h0 h1 h2] at hd
          cases hd
        | true =>
          obtain ⟨y, ey⟩ : ∃ y, y = x.dnF.2 := ⟨_, rfl⟩
          rw [dt_t (Nat.succ_pos w) h0 h1 h2 ey] at hd
          obtain ⟨i1, i2⟩ := dn_in (v := y) h (by omega) (rk_40 h1 hr) (Prod.ext h2 ey.symm)
          obtain ⟨j1, j2, j3⟩ := dt_in hr (w := w) i1 (by omega) hd
          exact ⟨j1, dk_tr (by rw [ey]; exact dk_dn x) j2, j3⟩
theorem pl_dt {rk : Nat} : ∀ {w : Nat} {x : MS}, x.works = false → (MS.dtF rk w x).2.pile = x.pile
  | 0, x, _ => rfl
  | w + 1, x, h => by
    have e : x.dnF = (true, x.pop) := if_neg (by rw [h]; decide)
    unfold MS.dtF
    split
    · rfl
    · split
      · rfl
      · rw [e, if_pos rfl]
        exact pl_dt (x := x.pop) h
theorem dk_dt {rk : Nat} : ∀ {w : Nat} {x : MS}, x.dk (MS.dtF rk w x).2
  | 0, x => dk_rf x
  | w + 1, x => by
    unfold MS.dtF
    split
    · exact dk_rf x
    · split
      · exact dk_rf x
      · split
        · exact dk_tr (dk_dn x) dk_dt
        · exact dk_dn x
theorem rk_le (z : Int32) : rkN z ≤ 3 := by
  unfold rkN
  repeat' split
  all_goals decide
theorem dt_st {x yy v : MS} {rk w : Nat} (i : x.dt rk = MS.dtF rk w yy) (hw : 0 < w) (h0 : ¬ yy.signCount = 0) (h1 : ¬ rkM yy.top < rk) (e : v = yy.dnF.2) : x.dt rk = (if yy.dnF.1 = true then MS.dtF rk (w - 1) v else (false, v)) := by
  cases h2 : yy.dnF.1 with
  | true => rw [i, dt_t hw h0 h1 h2 e, if_pos rfl]
  | false => rw [i, dt_f hw h0 h1 h2, if_neg (by decide), e]
theorem dn_st {yy v : MS} {rk w : Nat} (h : yy.dI) (h0 : 0 < yy.signCount) (h1 : ¬ rkM yy.top < rk) (hr : 1 ≤ rk) (h2 : yy.dnF.1 = true) (e : v = yy.dnF.2) (hw : w = yy.signCount) : v.dI ∧ w - 1 = v.signCount := by
  obtain ⟨a, b⟩ := dn_in (v := v) h h0 (rk_40 h1 hr) (Prod.ext h2 e.symm)
  exact ⟨a, by omega⟩
theorem ck_sc {x y : MS} (h : x.ck y) : y.signCount = x.signCount := ck_f h MS.signCount rfl
theorem dt_le {rk : Nat} : ∀ {w : Nat} {x : MS}, (MS.dtF rk w x).2.signCount ≤ x.signCount
  | 0, x => Nat.le_refl _
  | w + 1, x => by
    unfold MS.dtF
    split
    · exact Nat.le_refl _
    · split
      · exact Nat.le_refl _
      · have h : x.dnF.2.signCount ≤ x.signCount := by
          unfold MS.dnF
          split
          · split
            · exact Nat.sub_le _ _
            · have e := ck_sc (ck_opS x.pop (nI x.top) (x.signPlaces (x.signCount - 1)))
              show (x.pop.opS (nI x.top) (x.signPlaces (x.signCount - 1))).signCount ≤ x.signCount
              rw [e]
              exact Nat.sub_le _ _
          · exact Nat.sub_le _ _
        split
        · exact Nat.le_trans dt_le h
        · exact h
theorem d_M_done_0 : decode prog_14_method_81_code 0 = .ok (.aload_n 0, 1) := by decide +kernel
theorem d_M_done_1 : decode prog_14_method_81_code 1 = .ok (.dup, 1) := by decide +kernel
theorem d_M_done_2 : decode prog_14_method_81_code 2 = .ok (.getfield 439, 3) := by decide +kernel
theorem d_M_done_5 : decode prog_14_method_81_code 5 = .ok (.iconst 1, 1) := by decide +kernel
theorem d_M_done_6 : decode prog_14_method_81_code 6 = .ok (.isub, 1) := by decide +kernel
theorem d_M_done_7 : decode prog_14_method_81_code 7 = .ok (.putfield 439, 3) := by decide +kernel
theorem d_M_done_10 : decode prog_14_method_81_code 10 = .ok (.aload_n 0, 1) := by decide +kernel
theorem d_M_done_11 : decode prog_14_method_81_code 11 = .ok (.getfield 126, 3) := by decide +kernel
theorem d_M_done_14 : decode prog_14_method_81_code 14 = .ok (.aload_n 0, 1) := by decide +kernel
theorem d_M_done_15 : decode prog_14_method_81_code 15 = .ok (.getfield 439, 3) := by decide +kernel
theorem d_M_done_18 : decode prog_14_method_81_code 18 = .ok (.iaload, 1) := by decide +kernel
theorem d_M_done_36 : decode prog_14_method_81_code 36 = .ok (.isub, 1) := by decide +kernel
theorem d_M_done_37 : decode prog_14_method_81_code 37 = .ok (.putfield 436, 3) := by decide +kernel
theorem d_M_done_40 : decode prog_14_method_81_code 40 = .ok (.aload_n 0, 1) := by decide +kernel
theorem d_M_done_41 : decode prog_14_method_81_code 41 = .ok (.getfield 442, 3) := by decide +kernel
theorem d_M_done_44 : decode prog_14_method_81_code 44 = .ok (.ifCond .ne 5, 3) := by decide +kernel
theorem d_M_done_49 : decode prog_14_method_81_code 49 = .ok (.iload_n 1, 1) := by decide +kernel
theorem d_M_done_50 : decode prog_14_method_81_code 50 = .ok (.bipush 109, 2) := by decide +kernel
theorem d_M_done_52 : decode prog_14_method_81_code 52 = .ok (.if_icmp .ne 9, 3) := by decide +kernel
theorem d_M_done_61 : decode prog_14_method_81_code 61 = .ok (.aload_n 0, 1) := by decide +kernel
theorem d_M_done_62 : decode prog_14_method_81_code 62 = .ok (.iload_n 1, 1) := by decide +kernel
theorem d_M_done_63 : decode prog_14_method_81_code 63 = .ok (.aload_n 0, 1) := by decide +kernel
theorem d_M_done_64 : decode prog_14_method_81_code 64 = .ok (.getfield 129, 3) := by decide +kernel
theorem d_M_done_67 : decode prog_14_method_81_code 67 = .ok (.aload_n 0, 1) := by decide +kernel
theorem d_M_done_68 : decode prog_14_method_81_code 68 = .ok (.getfield 439, 3) := by decide +kernel
theorem d_M_done_71 : decode prog_14_method_81_code 71 = .ok (.iaload, 1) := by decide +kernel
theorem d_M_done_72 : decode prog_14_method_81_code 72 = .ok (.invokevirtual 448, 3) := by decide +kernel
theorem d_M_done_75 : decode prog_14_method_81_code 75 = .ok (.ireturn, 1) := by decide +kernel
theorem d_M_done_55 : decode prog_14_method_81_code 55 = .ok (.aload_n 0, 1) := by decide +kernel
theorem d_M_done_56 : decode prog_14_method_81_code 56 = .ok (.invokevirtual 445, 3) := by decide +kernel
theorem d_M_done_59 : decode prog_14_method_81_code 59 = .ok (.iconst 1, 1) := by decide +kernel
theorem d_M_done_60 : decode prog_14_method_81_code 60 = .ok (.ireturn, 1) := by decide +kernel
theorem d_M_done_47 : decode prog_14_method_81_code 47 = .ok (.iconst 1, 1) := by decide +kernel
theorem d_M_done_48 : decode prog_14_method_81_code 48 = .ok (.ireturn, 1) := by decide +kernel
theorem d_M_done_19 : decode prog_14_method_81_code 19 = .ok (.istore_n 1, 1) := by decide +kernel
theorem d_M_done_20 : decode prog_14_method_81_code 20 = .ok (.aload_n 0, 1) := by decide +kernel
theorem d_M_done_21 : decode prog_14_method_81_code 21 = .ok (.dup, 1) := by decide +kernel
theorem d_M_done_22 : decode prog_14_method_81_code 22 = .ok (.getfield 436, 3) := by decide +kernel
theorem d_M_done_25 : decode prog_14_method_81_code 25 = .ok (.iload_n 1, 1) := by decide +kernel
theorem d_M_done_26 : decode prog_14_method_81_code 26 = .ok (.bipush 109, 2) := by decide +kernel
theorem d_M_done_28 : decode prog_14_method_81_code 28 = .ok (.if_icmp .ne 7, 3) := by decide +kernel
theorem d_M_done_35 : decode prog_14_method_81_code 35 = .ok (.iconst 0, 1) := by decide +kernel
theorem d_M_done_31 : decode prog_14_method_81_code 31 = .ok (.iconst 1, 1) := by decide +kernel
theorem d_M_done_32 : decode prog_14_method_81_code 32 = .ok (.goto 4, 3) := by decide +kernel
theorem w1038 : Cond.methodLink "SeriesVaultModel" 448 ⟨"SeriesVaultModel", "operate", "(II)Z"⟩ ∈ aW := aw_of (tb_11 (List.mem_of_getElem? (i := 27) rfl)) rfl
theorem w1039 : Cond.code ⟨"SeriesVaultModel", "operate", "(II)Z"⟩ prog_14_method_75_code 7 (some FieldType.boolean) ∈ aW := aw_of (tb_11 (List.mem_of_getElem? (i := 30) rfl)) rfl
theorem w1040 : Cond.instanceMethod ⟨"SeriesVaultModel", "operate", "(II)Z"⟩ ∈ aW := aw_of (tb_11 (List.mem_of_getElem? (i := 29) rfl)) rfl
theorem w1041 : Cond.selects "SeriesVaultModel" ⟨"SeriesVaultModel", "operate", "(II)Z"⟩ ⟨"SeriesVaultModel", "operate", "(II)Z"⟩ ∈ aW := aw_pr (List.mem_map.mpr ⟨_, pv_8 (List.mem_of_getElem? (i := 7) rfl), rfl⟩) rfl
theorem w1042 : Cond.methodLink "SeriesVaultModel" 445 ⟨"SeriesVaultModel", "negate", "()V"⟩ ∈ aW := aw_of (tb_11 (List.mem_of_getElem? (i := 23) rfl)) rfl
theorem w1043 : Cond.code ⟨"SeriesVaultModel", "negate", "()V"⟩ prog_14_method_78_code 4 none ∈ aW := aw_of (tb_11 (List.mem_of_getElem? (i := 26) rfl)) rfl
theorem w1044 : Cond.instanceMethod ⟨"SeriesVaultModel", "negate", "()V"⟩ ∈ aW := aw_of (tb_11 (List.mem_of_getElem? (i := 25) rfl)) rfl
theorem w1045 : Cond.selects "SeriesVaultModel" ⟨"SeriesVaultModel", "negate", "()V"⟩ ⟨"SeriesVaultModel", "negate", "()V"⟩ ∈ aW := aw_pr (List.mem_map.mpr ⟨_, pv_8 (List.mem_of_getElem? (i := 6) rfl), rfl⟩) rfl
set_option maxHeartbeats 4000000 in
set_option maxRecDepth 100000 in
theorem k_done (l : Launch) (D : va_G) (dA : Nat → ClassId) (sz : Nat) (h : Nat) (ad : Nat → Nat) (x : MS) (hdi : x.dI) (h0 : 0 < x.signCount) (h4 : ¬ x.top = 40) : Met l ⟨"SeriesVaultModel", "done", "()Z"⟩ [Cond.code ⟨"SeriesVaultModel", "done", "()Z"⟩ prog_14_method_81_code 2 (some FieldType.boolean)] { frames := 5, cells := 0, slots := 0, locals := 111 } (pC D dA [.ref h] (MW dA h ad x) sz) (va_Qi (fun (r9 : Int32) (u9 : MS) => r9 = bI (x.dnF).1 ∧ u9 = (x.dnF).2) (fun (u9 : MS) t9 => bW D (va_A (MW dA h ad x) sz) (MW dA h ad u9) t9) (va_A (MW dA h ad x) sz)) 0 0 (va_A (MW dA h ad x) sz) := by
  refine mkC (y := ⟨"SeriesVaultModel", "done", "()Z"⟩) (cc := prog_14_method_81_code) (maxL := 2) (av := [.ref h]) (ws := MW dA h ad x) (sz := sz) (Qc := fun A => va_Qi (fun (r9 : Int32) (u9 : MS) => r9 = bI (x.dnF).1 ∧ u9 = (x.dnF).2) (fun (u9 : MS) t9 => bW D A (MW dA h ad u9) t9) A) (by decide) (Nat.le_of_ble_eq_true rfl) ?_
  intro A p e s m below meth c ls hsz hB
  obtain ⟨hx, hb, hr, hml, hown, hin, hlk, hE, hK, hP, hD, hS, hA, hN, hl⟩ := hB
  have hown : s.vm.findClass "SeriesVaultModel" = some m.cls := hown
  have hl : lv_has ls 2 [(0, .ref h)] := hl
  obtain ⟨H, hH⟩ : ∃ z, z = s.heap := ⟨_, rfl⟩
  have hP : va_P D vwCl (MW dA h ad x) H := by rw [hH]; exact hP
  have hS : va_S A s.heap H [] := by rw [hH]; exact hS
  rw [← hH]
  obtain ⟨hs, hq, hn, hf⟩ := hdi
  have h26 := sI_26 hs
  have htc := top_c hs h0 h4
  have h109 : x.signs (x.signCount - 1) ≤ 109 := sI_lt hs (by omega)
  have ho8 := hs.1
  refine lv_aload_n hx hb d_M_done_0 rfl (lv_at hl 0 rfl) ?_
  refine lv_dup hx hb d_M_done_1 rfl ?_
  refine gF (v := .int (nI x.signCount)) hx hb hown hE hK hP 0 rfl rfl layM 68 (by decide) w477 rfl d_M_done_2 ?_
  refine lv_iconst (v := 1) hx hb d_M_done_5 (by decide) ?_
  refine lv_isub hx hb d_M_done_6 (tpi (y := nI (x.signCount - 1)) (pk_sub (a := x.signCount) (b := 1) (by omega)) ?_)
  refine pF (v := .int (nI (x.signCount - 1))) hx hb hown hE hK hP hD hS 0 rfl rfl layM tyM tokM nmM 68 (by decide) w477 rfl rfl rfl (Nat.le_of_ble_eq_true rfl) d_M_done_7 (fun H locs hP hD hS => ?_)
  have hP : va_P D vwCl (MW dA h ad (MS.s_signCount x (x.signCount - 1))) H := hP
  have hD : va_D A (MW dA h ad (MS.s_signCount x (x.signCount - 1))) := hD
  refine lv_aload_n hx hb d_M_done_10 rfl (lv_at hl 0 rfl) ?_
  refine gF (v := .ref (ad 66)) hx hb hown hE hK hP 0 rfl rfl layM 66 (by decide) w532 rfl d_M_done_11 ?_
  refine lv_aload_n hx hb d_M_done_14 rfl (lv_at hl 0 rfl) ?_
  refine gF (v := .int (nI (x.signCount - 1))) hx hb hown hE hK hP 0 rfl rfl layM 68 (by decide) w477 rfl d_M_done_15 ?_
  refine nild (f := (fun z9 => nI (x.signs z9))) hx hb hK hP 33 1 rfl rfl (x.signCount - 1) (by omega) (by decide) d_M_done_18 ?_
  have J36 : ∀ (d : Nat) (d1 : (if x.signs (x.signCount - 1) = 109 then 1 else 0) = d) (d2 : d ≤ x.opn), ∀ (H : Heap) (locs : List Loc) (ls : Array Slot) (hP : va_P D vwCl (MW dA h ad (MS.s_signCount x (x.signCount - 1))) H) (hD : va_D A (MW dA h ad (MS.s_signCount x (x.signCount - 1)))) (hS : va_S A s.heap H locs) (hl : lv_has ls 2 [(1, .int (nI (x.signs (x.signCount - 1)))), (0, .ref h)]), W p l e ({ frames := 5, cells := 0, slots := 0, locals := 111 } : Room) s m ([.ref h] : List Value).toArray below meth c H locs 0 0 (MQ below (va_Qi (fun (r9 : Int32) (u9 : MS) => r9 = bI (x.dnF).1 ∧ u9 = (x.dnF).2) (fun (u9 : MS) t9 => bW D A (MW dA h ad u9) t9) A) ([.ref h] : List Value).toArray s 0 0 A) (F0 m 36 ls [.int (nI d), .int (nI x.opn), .ref h]) := by
    intro d d1 d2 H locs ls hP hD hS hl
    refine lv_isub hx hb d_M_done_36 (tpi (y := nI (x.opn - d)) (pk_sub (a := x.opn) (b := d) (by omega)) ?_)
    refine pF (v := .int (nI (x.opn - d))) hx hb hown hE hK hP hD hS 0 rfl rfl layM tyM tokM nmM 69 (by decide) w478 rfl rfl rfl (Nat.le_of_ble_eq_true rfl) d_M_done_37 (fun H locs hP hD hS => ?_)
    have hP : va_P D vwCl (MW dA h ad (MS.s_opn (MS.s_signCount x (x.signCount - 1)) (x.opn - d))) H := hP
    have hD : va_D A (MW dA h ad (MS.s_opn (MS.s_signCount x (x.signCount - 1)) (x.opn - d))) := hD
    refine lv_aload_n hx hb d_M_done_40 rfl (lv_at hl 1 rfl) ?_
    refine gF (v := .int (bI x.works)) hx hb hown hE hK hP 0 rfl rfl layM 56 (by decide) w475 rfl d_M_done_41 ?_
    refine lv_if_ne hx hb d_M_done_44 (tgt := 49) rfl (fun g1 => ?_) (fun g1 => ?_)
    · have g1 := bI_n0 g1
      have hw : x.works = true := g1
      have hpp := hs.2.2.2.2 hw
      have hpl := sI_pl hs hw (Nat.le_refl 1)
      have hp0 : 0 < x.pile := by have c9 := cnt_le x.signCount x.isO; have c8 := hs.2.1; omega
      refine lv_iload_n hx hb d_M_done_49 rfl (lv_at hl 0 rfl) ?_
      refine lv_bipush (v := 109) hx hb d_M_done_50 (by decide) ?_
      refine lv_icmp_ne hx hb d_M_done_52 (tgt := 61) rfl (fun g2 => ?_) (fun g2 => ?_)
      · have g2 := mt (nI_eq (a := x.signs (x.signCount - 1)) (b := 109) (by omega) (by omega)).mpr g2
        have hbn : binS x.top = true := htc.resolve_left (fun z9 => absurd z9.1 g2)
        have hp2 := bin_pl hs h0 hbn hw
        refine lv_aload_n hx hb d_M_done_61 rfl (lv_at hl 1 rfl) ?_
        refine lv_iload_n hx hb d_M_done_62 rfl (lv_at hl 0 rfl) ?_
        refine lv_aload_n hx hb d_M_done_63 rfl (lv_at hl 1 rfl) ?_
        refine gF (v := .ref (ad 67)) hx hb hown hE hK hP 0 rfl rfl layM 67 (by decide) w533 rfl d_M_done_64 ?_
        refine lv_aload_n hx hb d_M_done_67 rfl (lv_at hl 1 rfl) ?_
        refine gF (v := .int (nI (x.signCount - 1))) hx hb hown hE hK hP 0 rfl rfl layM 68 (by decide) w477 rfl d_M_done_68 ?_
        refine nild (f := (fun z9 => nI (x.signPlaces z9))) hx hb hK hP 34 1 rfl rfl (x.signCount - 1) (by omega) (by decide) d_M_done_71 ?_
        refine jfI (rnV (As := [.int (nI (x.signs (x.signCount - 1))), .int (nI (x.signPlaces (x.signCount - 1)))]) (rest := []) hx hb hml hown hE hK (hN _ _ hS) hP hD (k_operate l D dA H.size h ad (MS.s_opn (MS.s_signCount x (x.signCount - 1)) (x.opn - d)) (nI (x.signs (x.signCount - 1))) (x.signPlaces (x.signCount - 1)) (bin_c hbn).2.2.1 hp2 (show x.pile ≤ 20 from by omega) (hq hw).2.2.2.2.1 (fun t ht => ⟨((hq hw).2.2.2.2.2.2.2 t ht).1, ⟨by have := sI_pl hs hw (Nat.le_refl 1); have ht2 : t < x.pile := ht; omega, ((hq hw).2.2.2.2.2.2.2 t ht).2.1, fun k _ => hn.1 _⟩, ((hq hw).2.2.2.2.2.2.2 t ht).2.2⟩) (fun t _ k _ => hn.1 _) hf) (q0 := 0) rfl rfl w1039 w1038 w1040 w1041 w328 rfl rfl ⟨⟨by decide, by decide⟩, rfl⟩ ⟨(Nat.le_of_ble_eq_true rfl), (Nat.le_of_ble_eq_true rfl)⟩ rfl hl.1 rfl (Nat.le_of_ble_eq_true rfl) d_M_done_72 ⟨(Nat.le_of_ble_eq_true rfl), (Nat.le_of_ble_eq_true rfl)⟩) hP hD hS hA (fun r3 u4 H locs hp9 hP hD hS => ?_)
        obtain ⟨y5, h9u⟩ : ∃ z9, z9 = u4 := ⟨_, rfl⟩
        subst h9u
        have hP : va_P D vwCl (MW dA h ad y5) H := hP
        have hD : va_D A (MW dA h ad y5) := hD
        obtain ⟨hp9, f_e_6⟩ := hp9
        replace hp9 : bI (MS.s_opn (MS.s_signCount x (x.signCount - 1)) (x.opn - d)).opB = r3 := Eq.symm hp9
        subst hp9
        exact rfZ hx hb hr (bI_nar ((MS.s_opn (MS.s_signCount x (x.signCount - 1)) (x.opn - d)).opB)) hlk hS y5 (by have e9 : x.dnF = (x.pop.opB, x.pop.opS (nI x.top) (x.signPlaces (x.signCount - 1))) := (if_pos g1).trans (if_neg g2); have e8 : x.pop = MS.s_opn (MS.s_signCount x (x.signCount - 1)) (x.opn - d) := (by unfold MS.pop; rw [show (if x.top = 109 then 1 else 0) = d from d1]); rw [e9, e8]; exact ⟨rfl, f_e_6⟩) hP hD (Nat.le_of_ble_eq_true rfl) (Nat.le_of_ble_eq_true rfl) d_M_done_75
      · have g2 := (nI_eq (a := x.signs (x.signCount - 1)) (b := 109) (by omega) (by omega)).mp g2
        refine lv_aload_n hx hb d_M_done_55 rfl (lv_at hl 1 rfl) ?_
        refine jfV (rnV (As := []) (rest := []) hx hb hml hown hE hK (hN _ _ hS) hP hD (k_negate l D dA H.size h ad (MS.s_opn (MS.s_signCount x (x.signCount - 1)) (x.opn - d)) hp0 (show x.pile ≤ 20 from by omega) (hq hw).2.2.2.2.1 ((hq hw).2.2.2.2.2.2.2 (x.pile - 1) (by omega)).1) (q0 := 0) rfl rfl w1043 w1042 w1044 w1045 w328 rfl rfl ⟨⟨by decide, by decide⟩, rfl⟩ ⟨(Nat.le_of_ble_eq_true rfl), (Nat.le_of_ble_eq_true rfl)⟩ rfl hl.1 rfl (Nat.le_of_ble_eq_true rfl) d_M_done_56 ⟨(Nat.le_of_ble_eq_true rfl), (Nat.le_of_ble_eq_true rfl)⟩) hP hD hS hA (fun u8 H locs hp9 hP hD hS => ?_)
        have hP : va_P D vwCl (MW dA h ad (MS.s_opn (MS.s_signCount (MS.s_cells x (ngR x.cells (x.pile - 1) x.windows (x.tableRows (x.pile - 1)))) (x.signCount - 1)) (x.opn - d))) H := hP
        have hD : va_D A (MW dA h ad (MS.s_opn (MS.s_signCount (MS.s_cells x (ngR x.cells (x.pile - 1) x.windows (x.tableRows (x.pile - 1)))) (x.signCount - 1)) (x.opn - d))) := hD
        refine lv_iconst (v := 1) hx hb d_M_done_59 (by decide) ?_
        exact rfZ hx hb hr (bI_nar true) hlk hS (MS.s_opn (MS.s_signCount (MS.s_cells x (ngR x.cells (x.pile - 1) x.windows (x.tableRows (x.pile - 1)))) (x.signCount - 1)) (x.opn - d)) (by have e9 : x.dnF = (true, x.pop.ngS) := (if_pos g1).trans (if_pos g2); rw [e9]; exact ⟨rfl, by unfold MS.ngS MS.pop; rw [show (if x.top = 109 then 1 else 0) = d from d1]⟩) hP hD (Nat.le_of_ble_eq_true rfl) (Nat.le_of_ble_eq_true rfl) d_M_done_60
    · have g1 := bI_0 g1
      refine lv_iconst (v := 1) hx hb d_M_done_47 (by decide) ?_
      exact rfZ hx hb hr (bI_nar true) hlk hS (MS.s_opn (MS.s_signCount x (x.signCount - 1)) (x.opn - d)) (by have e9 : x.dnF = (true, x.pop) := if_neg (by rw [g1]; decide); rw [e9]; exact ⟨rfl, by unfold MS.pop; rw [show (if x.top = 109 then 1 else 0) = d from d1]⟩) hP hD (Nat.le_of_ble_eq_true rfl) (Nat.le_of_ble_eq_true rfl) d_M_done_48
  refine lv_istore_n hx hb d_M_done_19 rfl hl (by decide) rfl (fun ls hl => ?_)
  have hl : lv_has ls 2 [(1, .int (nI (x.signs (x.signCount - 1)))), (0, .ref h)] := hl
  refine lv_aload_n hx hb d_M_done_20 rfl (lv_at hl 1 rfl) ?_
  refine lv_dup hx hb d_M_done_21 rfl ?_
  refine gF (v := .int (nI x.opn)) hx hb hown hE hK hP 0 rfl rfl layM 69 (by decide) w478 rfl d_M_done_22 ?_
  refine lv_iload_n hx hb d_M_done_25 rfl (lv_at hl 0 rfl) ?_
  refine lv_bipush (v := 109) hx hb d_M_done_26 (by decide) ?_
  refine lv_icmp_ne hx hb d_M_done_28 (tgt := 35) rfl (fun g9 => ?_) (fun g9 => ?_)
  · have g9 := mt (nI_eq (a := x.signs (x.signCount - 1)) (b := 109) (by omega) (by omega)).mpr g9
    refine lv_iconst (v := 0) hx hb d_M_done_35 (by decide) ?_
    exact J36 0 (if_neg g9) (Nat.zero_le _) H _ ls hP hD hS (lv_sub hl [0, 1] rfl)
  · have g9 := (nI_eq (a := x.signs (x.signCount - 1)) (b := 109) (by omega) (by omega)).mp g9
    refine lv_iconst (v := 1) hx hb d_M_done_31 (by decide) ?_
    refine lv_goto hx hb d_M_done_32 (tgt := 36) rfl ?_
    exact J36 1 (if_pos g9) (htc.elim (fun z9 => z9.2) (fun z9 => absurd g9 (bin_c z9).2.2.2.2.1)) H _ ls hP hD hS (lv_sub hl [0, 1] rfl)
theorem d_M_doneTo_0 : decode prog_14_method_82_code 0 = .ok (.iconst 1, 1) := by decide +kernel
theorem d_M_doneTo_1 : decode prog_14_method_82_code 1 = .ok (.istore_n 2, 1) := by decide +kernel
theorem d_M_doneTo_2 : decode prog_14_method_82_code 2 = .ok (.iload_n 2, 1) := by decide +kernel
theorem d_M_doneTo_3 : decode prog_14_method_82_code 3 = .ok (.ifCond .eq 36, 3) := by decide +kernel
theorem d_M_doneTo_39 : decode prog_14_method_82_code 39 = .ok (.iload_n 2, 1) := by decide +kernel
theorem d_M_doneTo_40 : decode prog_14_method_82_code 40 = .ok (.ireturn, 1) := by decide +kernel
theorem d_M_doneTo_6 : decode prog_14_method_82_code 6 = .ok (.aload_n 0, 1) := by decide +kernel
theorem d_M_doneTo_7 : decode prog_14_method_82_code 7 = .ok (.getfield 439, 3) := by decide +kernel
theorem d_M_doneTo_10 : decode prog_14_method_82_code 10 = .ok (.ifCond .le 29, 3) := by decide +kernel
theorem d_M_doneTo_13 : decode prog_14_method_82_code 13 = .ok (.aload_n 0, 1) := by decide +kernel
theorem d_M_doneTo_14 : decode prog_14_method_82_code 14 = .ok (.getfield 126, 3) := by decide +kernel
theorem d_M_doneTo_17 : decode prog_14_method_82_code 17 = .ok (.aload_n 0, 1) := by decide +kernel
theorem d_M_doneTo_18 : decode prog_14_method_82_code 18 = .ok (.getfield 439, 3) := by decide +kernel
theorem d_M_doneTo_21 : decode prog_14_method_82_code 21 = .ok (.iconst 1, 1) := by decide +kernel
theorem d_M_doneTo_22 : decode prog_14_method_82_code 22 = .ok (.isub, 1) := by decide +kernel
theorem d_M_doneTo_23 : decode prog_14_method_82_code 23 = .ok (.iaload, 1) := by decide +kernel
theorem d_M_doneTo_24 : decode prog_14_method_82_code 24 = .ok (.invokestatic 451, 3) := by decide +kernel
theorem d_M_doneTo_27 : decode prog_14_method_82_code 27 = .ok (.iload_n 1, 1) := by decide +kernel
theorem d_M_doneTo_28 : decode prog_14_method_82_code 28 = .ok (.if_icmp .lt 11, 3) := by decide +kernel
theorem d_M_doneTo_31 : decode prog_14_method_82_code 31 = .ok (.aload_n 0, 1) := by decide +kernel
theorem d_M_doneTo_32 : decode prog_14_method_82_code 32 = .ok (.invokevirtual 454, 3) := by decide +kernel
theorem d_M_doneTo_35 : decode prog_14_method_82_code 35 = .ok (.istore_n 2, 1) := by decide +kernel
theorem d_M_doneTo_36 : decode prog_14_method_82_code 36 = .ok (.goto (-34), 3) := by decide +kernel
theorem w1046 : Cond.methodLink "SeriesVaultModel" 451 ⟨"SeriesVaultModel", "rank", "(I)I"⟩ ∈ aW := aw_of (tb_11 (List.mem_of_getElem? (i := 16) rfl)) rfl
theorem w1047 : Cond.code ⟨"SeriesVaultModel", "rank", "(I)I"⟩ prog_14_method_79_code 1 (some FieldType.int) ∈ aW := aw_of (tb_11 (List.mem_of_getElem? (i := 18) rfl)) rfl
theorem w1048 : Cond.static ⟨"SeriesVaultModel", "rank", "(I)I"⟩ ∈ aW := aw_of (tb_11 (List.mem_of_getElem? (i := 17) rfl)) rfl
theorem w1049 : Cond.methodLink "SeriesVaultModel" 454 ⟨"SeriesVaultModel", "done", "()Z"⟩ ∈ aW := aw_of (tb_11 (List.mem_of_getElem? (i := 19) rfl)) rfl
theorem w1050 : Cond.code ⟨"SeriesVaultModel", "done", "()Z"⟩ prog_14_method_81_code 2 (some FieldType.boolean) ∈ aW := aw_of (tb_11 (List.mem_of_getElem? (i := 22) rfl)) rfl
theorem w1051 : Cond.instanceMethod ⟨"SeriesVaultModel", "done", "()Z"⟩ ∈ aW := aw_of (tb_11 (List.mem_of_getElem? (i := 21) rfl)) rfl
theorem w1052 : Cond.selects "SeriesVaultModel" ⟨"SeriesVaultModel", "done", "()Z"⟩ ⟨"SeriesVaultModel", "done", "()Z"⟩ ∈ aW := aw_pr (List.mem_map.mpr ⟨_, pv_8 (List.mem_of_getElem? (i := 5) rfl), rfl⟩) rfl
set_option maxHeartbeats 4000000 in
set_option maxRecDepth 100000 in
theorem k_doneTo (l : Launch) (D : va_G) (dA : Nat → ClassId) (sz : Nat) (h : Nat) (ad : Nat → Nat) (x : MS) (rk : Nat) (hdi : x.dI) (hr1 : 1 ≤ rk) (hr3 : rk ≤ 3) : Met l ⟨"SeriesVaultModel", "doneTo", "(I)Z"⟩ [Cond.code ⟨"SeriesVaultModel", "doneTo", "(I)Z"⟩ prog_14_method_82_code 3 (some FieldType.boolean)] { frames := 6, cells := 0, slots := 0, locals := 132 } (pC D dA [.ref h, .int (nI rk)] (MW dA h ad x) sz) (va_Qi (fun (r9 : Int32) (u9 : MS) => r9 = bI (x.dt rk).1 ∧ u9 = (x.dt rk).2) (fun (u9 : MS) t9 => bW D (va_A (MW dA h ad x) sz) (MW dA h ad u9) t9) (va_A (MW dA h ad x) sz)) 0 0 (va_A (MW dA h ad x) sz) := by
  refine mkC (y := ⟨"SeriesVaultModel", "doneTo", "(I)Z"⟩) (cc := prog_14_method_82_code) (maxL := 3) (av := [.ref h, .int (nI rk)]) (ws := MW dA h ad x) (sz := sz) (Qc := fun A => va_Qi (fun (r9 : Int32) (u9 : MS) => r9 = bI (x.dt rk).1 ∧ u9 = (x.dt rk).2) (fun (u9 : MS) t9 => bW D A (MW dA h ad u9) t9) A) (by decide) (Nat.le_of_ble_eq_true rfl) ?_
  intro A p e s m below meth c ls hsz hB
  obtain ⟨hx, hb, hr, hml, hown, hin, hlk, hE, hK, hP, hD, hS, hA, hN, hl⟩ := hB
  have hown : s.vm.findClass "SeriesVaultModel" = some m.cls := hown
  have hl : lv_has ls 3 [(0, .ref h), (1, .int (nI rk))] := hl
  obtain ⟨H, hH⟩ : ∃ z, z = s.heap := ⟨_, rfl⟩
  have hP : va_P D vwCl (MW dA h ad x) H := by rw [hH]; exact hP
  have hS : va_S A s.heap H [] := by rw [hH]; exact hS
  rw [← hH]
  refine lv_iconst (v := 1) hx hb d_M_doneTo_0 (by decide) ?_
  refine lv_istore_n hx hb d_M_doneTo_1 rfl hl (by decide) rfl (fun ls hl => ?_)
  have hl : lv_has ls 3 [(2, .int 1), (0, .ref h), (1, .int (nI rk))] := hl
  have L2 : ∀ (k9 : Nat) (yy : MS) (g : Bool) (w : Nat) (i1 : x.dt rk = (if g = true then MS.dtF rk w yy else (false, yy))) (i2 : g = true → yy.dI ∧ w = yy.signCount) (hk9 : w + (if g = true then 1 else 0) = k9), ∀ (H : Heap) (locs : List Loc) (ls : Array Slot) (hP : va_P D vwCl (MW dA h ad yy) H) (hD : va_D A (MW dA h ad yy)) (hS : va_S A s.heap H locs) (hl : lv_has ls 3 [(2, .int (bI g)), (1, .int (nI rk)), (0, .ref h)]), W p l e ({ frames := 6, cells := 0, slots := 0, locals := 132 } : Room) s m ([.ref h, .int (nI rk)] : List Value).toArray below meth c H locs 0 0 (MQ below (va_Qi (fun (r9 : Int32) (u9 : MS) => r9 = bI (x.dt rk).1 ∧ u9 = (x.dt rk).2) (fun (u9 : MS) t9 => bW D A (MW dA h ad u9) t9) A) ([.ref h, .int (nI rk)] : List Value).toArray s 0 0 A) (F0 m 2 ls []) := by
    intro k9
    induction k9 using Nat.strongRecOn with
    | ind k9 ih2 =>
      intro yy g w i1 i2 hk9 H locs ls hP hD hS hl
      refine lv_iload_n hx hb d_M_doneTo_2 rfl (lv_at hl 0 rfl) ?_
      refine lv_if_eq hx hb d_M_doneTo_3 (tgt := 39) rfl (fun g1 => ?_) (fun g1 => ?_)
      · have g1 := bI_0 g1
        refine lv_iload_n hx hb d_M_doneTo_39 rfl (lv_at hl 0 rfl) ?_
        exact rfZ hx hb hr (bI_nar g) hlk hS yy (by rw [i1, if_neg (by rw [g1]; decide)]; exact ⟨by rw [g1], rfl⟩) hP hD (Nat.le_of_ble_eq_true rfl) (Nat.le_of_ble_eq_true rfl) d_M_doneTo_40
      · have g1 := bI_n0 g1
        have i1b : x.dt rk = MS.dtF rk w yy := i1.trans (if_pos g1)
        obtain ⟨i2b, i2w⟩ := i2 g1
        have h26 := sI_26 i2b.1
        refine lv_aload_n hx hb d_M_doneTo_6 rfl (lv_at hl 2 rfl) ?_
        refine gF (v := .int (nI yy.signCount)) hx hb hown hE hK hP 0 rfl rfl layM 68 (by decide) w477 rfl d_M_doneTo_7 ?_
        refine lv_if_le hx hb d_M_doneTo_10 (tgt := 39) rfl (fun g2 => ?_) (fun g2 => ?_)
        · have g2 := (nI_leI (a := yy.signCount) (b := 0) (by omega) (by decide)).mp g2
          refine lv_iload_n hx hb d_M_doneTo_39 rfl (lv_at hl 0 rfl) ?_
          exact rfZ hx hb hr (bI_nar g) hlk hS yy (by rw [i1, if_pos g1, dt_e (Or.inl (by omega))]; exact ⟨by rw [g1], rfl⟩) hP hD (Nat.le_of_ble_eq_true rfl) (Nat.le_of_ble_eq_true rfl) d_M_doneTo_40
        · have g2 := mt (nI_leI (a := yy.signCount) (b := 0) (by omega) (by decide)).mpr g2
          have h109 : yy.signs (yy.signCount - 1) ≤ 109 := sI_lt i2b.1 (by omega)
          have hrk := rk_le (nI (yy.signs (yy.signCount - 1)))
          refine lv_aload_n hx hb d_M_doneTo_13 rfl (lv_at hl 2 rfl) ?_
          refine gF (v := .ref (ad 66)) hx hb hown hE hK hP 0 rfl rfl layM 66 (by decide) w532 rfl d_M_doneTo_14 ?_
          refine lv_aload_n hx hb d_M_doneTo_17 rfl (lv_at hl 2 rfl) ?_
          refine gF (v := .int (nI yy.signCount)) hx hb hown hE hK hP 0 rfl rfl layM 68 (by decide) w477 rfl d_M_doneTo_18 ?_
          refine lv_iconst (v := 1) hx hb d_M_doneTo_21 (by decide) ?_
          refine lv_isub hx hb d_M_doneTo_22 (tpi (y := nI (yy.signCount - 1)) (pk_sub (a := yy.signCount) (b := 1) (by omega)) ?_)
          refine nild (f := (fun z9 => nI (yy.signs z9))) hx hb hK hP 33 1 rfl rfl (yy.signCount - 1) (by omega) (by decide) d_M_doneTo_23 ?_
          have hPc := hP.sub (ws' := []) [] rfl
          have hDc := hD.sub (ws' := []) [] (by decide) rfl
          refine jnI (rnS (As := [.int (nI (yy.signs (yy.signCount - 1)))]) (rest := []) hx hb hml hown hE hK (hN _ _ hS) hPc hDc (k_rank l D dA H.size (nI (yy.signs (yy.signCount - 1)))) w1047 w1046 w1048 w328 rfl rfl ⟨⟨by decide, by decide⟩, rfl⟩ ⟨(Nat.le_of_ble_eq_true rfl), (Nat.le_of_ble_eq_true rfl)⟩ rfl hl.1 rfl (Nat.le_of_ble_eq_true rfl) d_M_doneTo_24 ⟨(Nat.le_of_ble_eq_true rfl), (Nat.le_of_ble_eq_true rfl)⟩) hP hD hS hA [] [0, 1, 2, 3, 4, 5, 6, 7, 8, 9, 10, 11, 12, 13, 14, 15, 16, 17, 18, 19, 20, 21, 22, 23, 24, 25, 26, 27, 28, 29, 30, 31, 32, 33, 34, 35, 36, 37, 38] (wr := MW dA h ad yy) rfl rfl (by decide) (by decide) (fun r3 u9 H locs hp9 hP hD hS => ?_)
          have hP : va_P D vwCl (MW dA h ad yy) H := hP
          have hD : va_D A (MW dA h ad yy) := hD
          replace hp9 : nI (rkN (nI (yy.signs (yy.signCount - 1)))) = r3 := Eq.symm hp9
          subst hp9
          refine lv_iload_n hx hb d_M_doneTo_27 rfl (lv_at hl 1 rfl) ?_
          refine lv_icmp_lt hx hb d_M_doneTo_28 (tgt := 39) rfl (fun g5 => ?_) (fun g5 => ?_)
          · have g5 := (nI_ltI (a := rkN (nI (yy.signs (yy.signCount - 1)))) (b := rk) (by omega) (by omega)).mp g5
            refine lv_iload_n hx hb d_M_doneTo_39 rfl (lv_at hl 0 rfl) ?_
            exact rfZ hx hb hr (bI_nar g) hlk hS yy (by rw [i1, if_pos g1, dt_e (Or.inr (by show rkN (nI (yy.signs (yy.signCount - 1))) < rk; omega))]; exact ⟨by rw [g1], rfl⟩) hP hD (Nat.le_of_ble_eq_true rfl) (Nat.le_of_ble_eq_true rfl) d_M_doneTo_40
          · have g5 := mt (nI_ltI (a := rkN (nI (yy.signs (yy.signCount - 1)))) (b := rk) (by omega) (by omega)).mpr g5
            refine lv_aload_n hx hb d_M_doneTo_31 rfl (lv_at hl 2 rfl) ?_
            refine jfI (rnV (As := []) (rest := []) hx hb hml hown hE hK (hN _ _ hS) hP hD (k_done l D dA H.size h ad yy i2b (show 0 < yy.signCount from by omega) (rk_40 (by show ¬ rkN (nI (yy.signs (yy.signCount - 1))) < rk; omega) hr1)) (q0 := 0) rfl rfl w1050 w1049 w1051 w1052 w328 rfl rfl ⟨⟨by decide, by decide⟩, rfl⟩ ⟨(Nat.le_of_ble_eq_true rfl), (Nat.le_of_ble_eq_true rfl)⟩ rfl hl.1 rfl (Nat.le_of_ble_eq_true rfl) d_M_doneTo_32 ⟨(Nat.le_of_ble_eq_true rfl), (Nat.le_of_ble_eq_true rfl)⟩) hP hD hS hA (fun r6 u7 H locs hp9 hP hD hS => ?_)
            obtain ⟨y8, h9u⟩ : ∃ z9, z9 = u7 := ⟨_, rfl⟩
            subst h9u
            have hP : va_P D vwCl (MW dA h ad y8) H := hP
            have hD : va_D A (MW dA h ad y8) := hD
            obtain ⟨hp9, f_e_9⟩ := hp9
            replace hp9 : bI (yy.dnF).1 = r6 := Eq.symm hp9
            subst hp9
            refine lv_istore_n hx hb d_M_doneTo_35 rfl hl (by decide) rfl (fun ls hl => ?_)
            have hl : lv_has ls 3 [(2, .int (bI (yy.dnF).1)), (1, .int (nI rk)), (0, .ref h)] := hl
            refine lv_goto hx hb d_M_doneTo_36 (tgt := 2) rfl ?_
            exact ih2 _ (by rw [← hk9, if_pos g1]; split <;> omega) y8 ((yy.dnF).1) (w - 1) (dt_st i1b (by omega) (by omega) (by show ¬ rkN (nI (yy.signs (yy.signCount - 1))) < rk; omega) f_e_9) (fun z9 => (dn_st i2b (by omega) (by show ¬ rkN (nI (yy.signs (yy.signCount - 1))) < rk; omega) hr1 z9 f_e_9 i2w)) rfl H _ ls hP hD hS (lv_sub hl [0, 1, 2] rfl)
  exact L2 _ x true x.signCount rfl (fun _ => ⟨hdi, rfl⟩) rfl H _ ls hP hD hS (lv_sub hl [0, 2, 1] rfl)
