/-! Tables: both sides; empty rows dropped. -/
/-- a row's cells -/
def rwE (ic : Nat → Bool) (ce : Nat → Int64) (tb a : Nat) (t : TB) (b : Nat) : Prop := ∀ w, w < t.wi → ic ((tb * 256 + a) * 64 + w) = hasB (t.th b) w ∧ (hasB (t.th b) w = true → ce ((tb * 256 + a) * 64 + w) = t.ce (b * t.wi + w))
/-- no bits behind the windows -/
def hiZ (t : TB) (b : Nat) : Prop := ∀ w, t.wi ≤ w → w < 64 → hasB (t.th b) w = false
/-- table tb of the reference is table t of the class -/
def tabR (m : MS) (tb : Nat) (t : TB) (NL : Nat → List Int32) (RS SS : Nat → List LB) : Prop :=
  (nmRe m tb t.nc NL ∧ t.nc ≤ 6) ∧ (m.tableRows tb = t.rc ∧ t.rc ≤ 256 ∧ t.wi = m.windows ∧ m.windows ≤ 64) ∧
  (0 < t.nc → (∀ q, q < t.rc → m.rowSeries (256 * tb + q) < m.seriesCount ∧ RS q = SS (m.rowSeries (256 * tb + q))) ∧ srtR NL t.nc t.rc RS) ∧ (t.nc = 0 → t.rc ≤ 1) ∧
  ∀ r, r < t.rc → rwE m.isCell m.cells tb r t r ∧ hiZ t r
theorem mv_same {α : Type} {f : Nat → α} {b : Nat} : ∀ k q, mvG f b b k q = f q
  | 0, q => rfl
  | k + 1, q => by
    show (if q = b + k then mvG f b b k (b + k) else mvG f b b k q) = f q
    by_cases e : q = b + k
    · rw [if_pos e, mv_same k, e]
    · rw [if_neg e, mv_same k]
theorem mv_row {α : Type} {f : Nat → α} {tb k r a w wi : Nat} (hkr : k ≤ r) (hw : w < wi) (h64 : wi ≤ 64) : mvG f (cA tb k) (cA tb r) wi ((tb * 256 + a) * 64 + w) = if a = k then f ((tb * 256 + r) * 64 + w) else f ((tb * 256 + a) * 64 + w) := by
  by_cases e : k = r
  · subst e
    rw [mv_same]
    split
    · rename_i g; rw [g]
    · rfl
  · have h : cA tb k + wi ≤ cA tb r := by unfold cA; omega
    rw [mv_at h wi (Nat.le_refl _)]
    unfold cA
    by_cases g : a = k
    · subst g
      rw [if_pos (by omega), if_pos rfl, show (tb * 256 + r) * 64 + ((tb * 256 + a) * 64 + w - (tb * 256 + a) * 64) = (tb * 256 + r) * 64 + w by omega]
    · rw [if_neg (by omega), if_neg g]
theorem cp_row {f : Nat → Int64} {k r a w wi : Nat} (hw : w < wi) : va_cpy f f (r * wi) (k * wi) wi (a * wi + w) = if a = k then f (r * wi + w) else f (a * wi + w) := by
  by_cases g : a = k
  · subst g
    rw [if_pos rfl, pk_cpy_in (by omega) (by omega), Nat.add_sub_cancel_left]
  · rw [if_neg g]
    refine pk_cpy_out ?_
    by_cases c : a < k
    · left
      have : (a + 1) * wi ≤ k * wi := Nat.mul_le_mul_right wi c
      rw [Nat.succ_mul] at this
      omega
    · right
      have : (k + 1) * wi ≤ a * wi := Nat.mul_le_mul_right wi (by omega)
      rw [Nat.succ_mul] at this
      omega
section SW
variable {ic : Nat → Bool} {ce : Nat → Int64} {rs : Nat → Nat} {tb : Nat} {t : TB}
/-- is there anything in the row -/
theorem row_any {ic' : Nat → Bool} {ce' : Nat → Int64} {t' : TB} {r : Nat} (h64 : t'.wi ≤ 64) (h : rwE ic' ce' tb r t' r) (hz : hiZ t' r) : anyB t'.wi (fun w => ic' (cA tb r + w)) = !decide (t'.th r = 0) := by
  have e1 : anyB t'.wi (fun w => ic' (cA tb r + w)) = anyB t'.wi (fun w => hasB (t'.th r) w) := anyB_ext (fun w hw => (h w hw).1)
  rw [e1]
  by_cases c : t'.th r = 0
  · rw [decide_eq_true c, c]
    cases d : anyB t'.wi (fun w => hasB 0 w) with
    | false => rfl
    | true =>
      obtain ⟨w, w1, w2⟩ := anyB_iff.mp d
      have w2 : hasB 0 w = true := w2
      rw [hb_0 (by omega)] at w2
      cases w2
  · rw [decide_eq_false c]
    cases d : anyB t'.wi (fun w => hasB (t'.th r) w) with
    | true => rfl
    | false =>
      exfalso
      refine c (hb_z (fun w hw => ?_))
      by_cases g : w < t'.wi
      · exact anyB_no d w g
      · exact hz w (by omega) hw
/-- r rows looked at -/
def swQ (ic : Nat → Bool) (ce : Nat → Int64) (rs : Nat → Nat) (tb : Nat) (t : TB) (r : Nat) (φ : Nat → Nat) : Prop :=
  (swG ic ce rs tb t.wi r).1 = (deG t r).1 ∧ (deG t r).1 ≤ r ∧ (∀ a, a < (deG t r).1 → φ a < r ∧ (deG t r).2.rs a = t.rs (φ a)) ∧ (∀ a b, a < b → b < (deG t r).1 → φ a < φ b) ∧ (∀ a, a < (deG t r).1 → (swG ic ce rs tb t.wi r).2.2.2 (256 * tb + a) = rs (256 * tb + φ a)) ∧ (∀ a, r ≤ a → (swG ic ce rs tb t.wi r).2.2.2 (256 * tb + a) = rs (256 * tb + a) ∧ (deG t r).2.rs a = t.rs a) ∧ ∀ a, (a < (deG t r).1 ∨ r ≤ a) → a < t.rc → rwE (swG ic ce rs tb t.wi r).2.1 (swG ic ce rs tb t.wi r).2.2.1 tb a (deG t r).2 a ∧ hiZ (deG t r).2 a
theorem sw_de (h64 : t.wi ≤ 64) (h0 : ∀ r, r < t.rc → rwE ic ce tb r t r ∧ hiZ t r) : ∀ r, r ≤ t.rc → ∃ φ, swQ ic ce rs tb t r φ
  | 0, _ => ⟨fun _ => 0, rfl, Nat.le_refl 0, fun a ha => absurd ha (Nat.not_lt_zero a), fun a b _ hb => absurd hb (Nat.not_lt_zero b), fun a ha => absurd ha (Nat.not_lt_zero a), fun _ _ => ⟨rfl, rfl⟩, fun a _ ha => h0 a ha⟩
  | r + 1, hr => by
    obtain ⟨φ, i1, i2, i3, i4, i5, i6, i7⟩ := sw_de h64 h0 r (by omega)
    obtain ⟨k1, k2, k3, k4, k5, k6, k7⟩ := deG_k t r
    have eD : deG t (r + 1) = if (deG t r).2.th r = 0 then deG t r else ((deG t r).1 + 1, (deG t r).2.mv r (deG t r).1) := rfl
    obtain ⟨⟨k, j2, c2, r2⟩, eS⟩ : ∃ S, swG ic ce rs tb t.wi r = S := ⟨_, rfl⟩
    obtain ⟨⟨k', t'⟩, eT⟩ : ∃ T, deG t r = T := ⟨_, rfl⟩
    rw [eS, eT] at i1 i5 i7
    rw [eS, eT] at i6
    rw [eT] at i2 i3 i4 k1 k2 eD
    have i1 : k = k' := i1
    subst i1
    have k1 : t'.wi = t.wi := k1
    have i2 : k ≤ r := i2
    have i3r : ∀ a, a < k → t'.rs a = t.rs (φ a) := fun a ha => (i3 a ha).2
    have i3 : ∀ a, a < k → φ a < r := fun a ha => (i3 a ha).1
    have i4 : ∀ a b, a < b → b < k → φ a < φ b := i4
    have i5 : ∀ a, a < k → r2 (256 * tb + a) = rs (256 * tb + φ a) := i5
    have i6r : ∀ a, r ≤ a → t'.rs a = t.rs a := fun a ha => (i6 a ha).2
    have i6 : ∀ a, r ≤ a → r2 (256 * tb + a) = rs (256 * tb + a) := fun a ha => (i6 a ha).1
    have i7 : ∀ a, (a < k ∨ r ≤ a) → a < t.rc → rwE j2 c2 tb a t' a ∧ hiZ t' a := i7
    obtain ⟨q1, q2⟩ := i7 r (Or.inr (Nat.le_refl r)) (by omega)
    have ra := row_any (by rw [k1]; exact h64) q1 q2
    rw [k1] at ra
    by_cases c : t'.th r = 0
    · rw [decide_eq_true c] at ra
      have eS' := swG_f eS ra
      have eT' : deG t (r + 1) = (k, t') := eD.trans (if_pos c)
      refine ⟨φ, ?_⟩
      unfold swQ
      rw [eS', eT']
      exact ⟨rfl, by show k ≤ r + 1; omega, fun a ha => ⟨by have := i3 a ha; omega, i3r a ha⟩, i4, i5, fun a ha => ⟨i6 a (by omega), i6r a (by omega)⟩, fun a ha hl => i7 a (ha.imp id (fun z => by omega)) hl⟩
    · rw [decide_eq_false c] at ra
      have eS' := swG_t eS ra
      have eT' : deG t (r + 1) = (k + 1, t'.mv r k) := eD.trans (if_neg c)
      refine ⟨va_up φ k r, ?_⟩
      unfold swQ
      rw [eS', eT']
      refine ⟨rfl, by show k + 1 ≤ r + 1; omega, fun a ha => ?_, fun a b hab hb => ?_, fun a ha => ?_, fun a ha => ?_, fun a ha hl => ?_⟩
      · have ha : a < k + 1 := ha
        show va_up φ k r a < r + 1 ∧ va_up t'.rs k (t'.rs r) a = t.rs (va_up φ k r a)
        by_cases e : a = k
        · rw [e, va_up_self, va_up_self]
          exact ⟨by omega, i6r r (Nat.le_refl r)⟩
        · rw [va_up_ne _ _ e, va_up_ne _ _ e]
          have := i3 a (by omega)
          exact ⟨by omega, i3r a (by omega)⟩
      · have hb : b < k + 1 := hb
        rw [va_up_ne _ _ (show ¬ a = k by omega)]
        by_cases e : b = k
        · rw [e, va_up_self]; exact i3 a (by omega)
        · rw [va_up_ne _ _ e]; exact i4 a b hab (by omega)
      · have ha : a < k + 1 := ha
        show va_up r2 (256 * tb + k) (r2 (256 * tb + r)) (256 * tb + a) = rs (256 * tb + va_up φ k r a)
        by_cases e : a = k
        · rw [e, va_up_self, va_up_self]; exact i6 r (Nat.le_refl r)
        · rw [va_up_ne _ _ e, va_up_ne _ _ (by omega)]; exact i5 a (by omega)
      · show va_up r2 (256 * tb + k) (r2 (256 * tb + r)) (256 * tb + a) = _ ∧ va_up t'.rs k (t'.rs r) a = t.rs a
        rw [va_up_ne _ _ (by omega), va_up_ne _ _ (by omega)]
        exact ⟨i6 a (by omega), i6r a (by omega)⟩
      · have ha : a < k + 1 ∨ r + 1 ≤ a := ha
        have th : (t'.mv r k).th a = if a = k then t'.th r else t'.th a := rfl
        have src : rwE j2 c2 tb (if a = k then r else a) t' (if a = k then r else a) ∧ hiZ t' (if a = k then r else a) := by
          split
          · exact ⟨q1, q2⟩
          · rename_i e
            exact i7 a (by omega) hl
        refine ⟨fun w hw => ?_, fun w h1 h2 => ?_⟩
        · have hw : w < t'.wi := hw
          have hw2 : w < t.wi := by rw [← k1]; exact hw
          have cc : (t'.mv r k).ce (a * (t'.mv r k).wi + w) = if a = k then t'.ce (r * t'.wi + w) else t'.ce (a * t'.wi + w) := cp_row hw
          show mvG j2 (cA tb k) (cA tb r) t.wi ((tb * 256 + a) * 64 + w) = hasB ((t'.mv r k).th a) w ∧ (hasB ((t'.mv r k).th a) w = true → mvG c2 (cA tb k) (cA tb r) t.wi ((tb * 256 + a) * 64 + w) = (t'.mv r k).ce (a * (t'.mv r k).wi + w))
          rw [mv_row i2 hw2 h64, mv_row i2 hw2 h64, th, cc]
          by_cases e : a = k
          · rw [if_pos e, if_pos e, if_pos e, if_pos e]
            exact q1 w hw
          · rw [if_neg e, if_neg e, if_neg e, if_neg e]
            rw [if_neg e] at src
            exact src.1 w hw
        · have h1 : t'.wi ≤ w := h1
          rw [th]
          by_cases e : a = k
          · rw [if_pos e]; exact q2 w h1 h2
          · rw [if_neg e]
            rw [if_neg e] at src
            exact src.2 w h1 h2
end SW
section SD
variable {m : MS} {tb : Nat} {t : TB} {NL : Nat → List Int32} {RS SS : Nat → List LB}
theorem sw_tab (h : tabR m tb t NL RS SS) : ∃ φ : Nat → Nat, tabR (m.swS tb) tb t.de NL (fun q => RS (φ q)) SS ∧ (∀ a, a < t.de.rc → φ a < t.rc ∧ t.de.rs a = t.rs (φ a)) := by
  obtain ⟨⟨h1, h2⟩, ⟨h3, h4, h5, h6⟩, h7, h8, h9⟩ := h
  obtain ⟨φ, i1, i2, i3, i4, i5, i6, i7⟩ := sw_de (rs := m.rowSeries) (by rw [h5]; exact h6) h9 t.rc (Nat.le_refl _)
  have i3r : ∀ a, a < (deG t t.rc).1 → (deG t t.rc).2.rs a = t.rs (φ a) := fun a ha => (i3 a ha).2
  have i3 : ∀ a, a < (deG t t.rc).1 → φ a < t.rc := fun a ha => (i3 a ha).1
  obtain ⟨k1, k2, k3, k4, k5, k6, k7⟩ := deG_k t t.rc
  have eS : swG m.isCell m.cells m.rowSeries tb m.windows (m.tableRows tb) = swG m.isCell m.cells m.rowSeries tb t.wi t.rc := by rw [h3, h5]
  have ed : t.de.rc = (deG t t.rc).1 := rfl
  have en : t.de.nc = t.nc := k6
  have ew : t.de.wi = t.wi := k1
  have er : (m.swS tb).rowSeries = (swG m.isCell m.cells m.rowSeries tb t.wi t.rc).2.2.2 := by rw [← eS]; rfl
  have ei : (m.swS tb).isCell = (swG m.isCell m.cells m.rowSeries tb t.wi t.rc).2.1 := by rw [← eS]; rfl
  have ec : (m.swS tb).cells = (swG m.isCell m.cells m.rowSeries tb t.wi t.rc).2.2.1 := by rw [← eS]; rfl
  have et : (m.swS tb).tableRows tb = (deG t t.rc).1 := by
    show va_up m.tableRows tb (swG m.isCell m.cells m.rowSeries tb m.windows (m.tableRows tb)).1 tb = _
    rw [va_up_self, eS]
    exact i1
  refine ⟨φ, ⟨⟨by rw [en]; exact h1, by rw [en]; exact h2⟩, ⟨by rw [ed]; exact et, by rw [ed]; omega, ew.trans h5, h6⟩, fun g => ?_, fun g => ?_, fun r hr => ?_⟩, fun a ha => ⟨i3 a ha, i3r a ha⟩⟩
  · rw [en] at g ⊢
    obtain ⟨g1, g2⟩ := h7 g
    rw [er, ed]
    refine ⟨fun q hq => ?_, fun a b hab hb => g2 _ _ (i4 a b hab hb) (i3 b hb)⟩
    rw [i5 q hq]
    exact g1 _ (i3 q hq)
  · rw [en] at g
    have := h8 g
    rw [ed]
    omega
  · rw [ed] at hr
    rw [ei, ec]
    exact i7 r (Or.inl hr) (by omega)
end SD
