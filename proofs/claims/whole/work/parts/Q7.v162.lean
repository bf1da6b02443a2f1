/-! Points met by the reference, at one cell. -/
def rkC (g : rkT) (t r w : Nat) : CS := (g.1 ((t * 256 + r) * 64 + w), g.2.1 ((t * 256 + r) * 64 + w), g.2.2.1 (r * 64 + w), g.2.2.2.1 (r * 64 + w))
def gaC (g : gaT) (t r w : Nat) : CS := (g.1 ((t * 256 + r) * 64 + w), g.2.1 ((t * 256 + r) * 64 + w), g.2.2.1 (r * 64 + w), g.2.2.2 (r * 64 + w))
def MS.xC (x : MS) (t r w : Nat) : CS := (x.isCell ((t * 256 + r) * 64 + w), x.cells ((t * 256 + r) * 64 + w), x.keyTimes (r * 64 + w), x.keySeries (r * 64 + w))
theorem gLe_m (b : Bool) (v u : Int64) : gLe b v u = if b = true then minL u v else v := by
  unfold gLe minL
  cases b with
  | false => rfl
  | true =>
    rw [if_neg (by decide), if_pos rfl]
    by_cases c : u ≤ v
    · rw [if_pos c, if_neg (Int64.not_lt.mpr c)]
    · rw [if_neg c, if_pos (Int64.not_le.mp c)]
theorem gMo_m (b : Bool) (v u : Int64) : gMo b v u = if b = true then maxL u v else v := by
  unfold gMo maxL
  cases b with
  | false => rfl
  | true =>
    rw [if_neg (by decide), if_pos rfl]
    by_cases c : v < u
    · rw [if_pos (Int64.le_of_lt c), if_pos c]
    · rw [if_neg c]
      by_cases d : v ≤ u
      · rw [if_pos d]
        exact Int64.le_antisymm (Int64.not_lt.mp c) d
      · rw [if_neg d]
theorem nle_lt (a b : Nat) : (!decide (a ≤ b)) = decide (b < a) := by
  by_cases c : a ≤ b
  · rw [decide_eq_true c, decide_eq_false (by omega)]; rfl
  · rw [decide_eq_false c, decide_eq_true (by omega)]; rfl
section GA
variable {x : MS} {t q r w r0 w0 wh : Nat}
theorem ga_c (hwh : wh < 7) (hw : w < 64) (hw0 : w0 < 64) : gaC (x.ga t wh q r w) t r0 w0 = if r = r0 ∧ w = w0 then clO (nI wh) (x.xC t r0 w0) (x.pointSeries q) (x.pointTimes q) (x.pointValues q) (x.hasBefore (x.pointSeries q)) (x.befores (x.pointSeries q)) else x.xC t r0 w0 := by
  by_cases d : r = r0 ∧ w = w0
  · obtain ⟨rfl, rfl⟩ := d
    rw [if_pos ⟨rfl, rfl⟩]
    rcases (show wh = 0 ∨ wh = 1 ∨ wh = 2 ∨ wh = 3 ∨ wh = 4 ∨ wh = 5 ∨ wh = 6 by omega) with rfl | rfl | rfl | rfl | rfl | rfl | rfl
    · rw [ga_0]
      unfold gaC
      dsimp only
      rw [va_up_self, va_up_self]
      rfl
    · rw [ga_1]
      unfold gaC
      dsimp only
      rw [va_up_self, va_up_self]
      rfl
    · rw [ga_2]
      unfold gaC
      dsimp only
      rw [va_up_self, va_up_self, gLe_m]
      rfl
    · rw [ga_3]
      unfold gaC
      dsimp only
      rw [va_up_self, va_up_self, gMo_m]
      rfl
    · have e : x.gSo ((t * 256 + r) * 64 + w) (r * 64 + w) (x.pointSeries q) (x.pointTimes q) = chsB 4 (x.xC t r w).1 (x.pointTimes q) (x.xC t r w).2.2.1 (x.pointSeries q) (x.xC t r w).2.2.2 := by
        unfold MS.gSo
        rw [nle_lt]
        rfl
      show _ = if chsB 4 (x.xC t r w).1 (x.pointTimes q) (x.xC t r w).2.2.1 (x.pointSeries q) (x.xC t r w).2.2.2 = true then (true, x.pointValues q, x.pointTimes q, x.pointSeries q) else x.xC t r w
      rw [← e]
      cases g : x.gSo ((t * 256 + r) * 64 + w) (r * 64 + w) (x.pointSeries q) (x.pointTimes q) with
      | true =>
        rw [ga_4 g, if_pos rfl]
        unfold gaC
        dsimp only
        rw [va_up_self, va_up_self, va_up_self, va_up_self]
      | false =>
        rw [ga_4n g, if_neg (by decide)]
        unfold gaC MS.xC
        dsimp only
        rw [va_up_self]
        unfold MS.gSo at g
        rw [Bool.or_eq_false_iff] at g
        rw [show x.isCell ((t * 256 + r) * 64 + w) = true by
          have := g.1
          cases h : x.isCell ((t * 256 + r) * 64 + w) with
          | true => rfl
          | false => rw [h] at this; cases this]
    · have e : x.gLa ((t * 256 + r) * 64 + w) (r * 64 + w) (x.pointSeries q) (x.pointTimes q) = chsB 5 (x.xC t r w).1 (x.pointTimes q) (x.xC t r w).2.2.1 (x.pointSeries q) (x.xC t r w).2.2.2 := by
        unfold MS.gLa
        rw [nle_lt]
        rfl
      show _ = if chsB 5 (x.xC t r w).1 (x.pointTimes q) (x.xC t r w).2.2.1 (x.pointSeries q) (x.xC t r w).2.2.2 = true then (true, x.pointValues q, x.pointTimes q, x.pointSeries q) else x.xC t r w
      rw [← e]
      cases g : x.gLa ((t * 256 + r) * 64 + w) (r * 64 + w) (x.pointSeries q) (x.pointTimes q) with
      | true =>
        rw [ga_5 g, if_pos rfl]
        unfold gaC
        dsimp only
        rw [va_up_self, va_up_self, va_up_self, va_up_self]
      | false =>
        rw [ga_5n g, if_neg (by decide)]
        unfold gaC MS.xC
        dsimp only
        rw [va_up_self]
        unfold MS.gLa at g
        rw [Bool.or_eq_false_iff] at g
        rw [show x.isCell ((t * 256 + r) * 64 + w) = true by
          have := g.1
          cases h : x.isCell ((t * 256 + r) * 64 + w) with
          | true => rfl
          | false => rw [h] at this; cases this]
    · show _ = if x.hasBefore (x.pointSeries q) = true then (true, (x.xC t r w).2.1 + (if x.pointValues q < x.befores (x.pointSeries q) then x.pointValues q else x.pointValues q - x.befores (x.pointSeries q)), (x.xC t r w).2.2) else x.xC t r w
      cases g : x.hasBefore (x.pointSeries q) with
      | true =>
        rw [ga_6 g, if_pos rfl]
        unfold gaC
        dsimp only
        rw [va_up_self, va_up_self]
        have e : (if x.befores (x.pointSeries q) ≤ x.pointValues q then x.pointValues q - x.befores (x.pointSeries q) else x.pointValues q) = (if x.pointValues q < x.befores (x.pointSeries q) then x.pointValues q else x.pointValues q - x.befores (x.pointSeries q)) := by
          by_cases c : x.befores (x.pointSeries q) ≤ x.pointValues q
          · rw [if_pos c, if_neg (Int64.not_lt.mpr c)]
          · rw [if_neg c, if_pos (Int64.not_le.mp c)]
        rw [← e]
        rfl
      | false =>
        rw [ga_6n g, if_neg (by decide)]
        rfl
  · rw [if_neg d]
    have n1 : ¬ (t * 256 + r0) * 64 + w0 = (t * 256 + r) * 64 + w := fun e => ix_ne (wi := 64) hw0 hw (fun z => d ⟨by omega, z.2.symm⟩) e
    have n2 : ¬ r0 * 64 + w0 = r * 64 + w := fun e => ix_ne (wi := 64) hw0 hw (fun z => d ⟨z.1.symm, z.2.symm⟩) e
    unfold MS.ga
    repeat' split
    all_goals (unfold gaC MS.xC)
    all_goals dsimp only
    all_goals first | rfl | (rw [va_up_ne _ _ n1, va_up_ne _ _ n1, va_up_ne _ _ n2, va_up_ne _ _ n2]) | (rw [va_up_ne _ _ n1, va_up_ne _ _ n1]) | (rw [va_up_ne _ _ n1])
end GA
/-- the window of a time: the two ways -/
theorem wo_w {fr wd tm : Int64} {n : Nat} (hn : n ≤ 64) (h0 : 0 ≤ fr) (h1 : tm ≤ 1099511627775) (h2 : fr ≤ 1099511627775) (h3 : 0 ≤ tm) (hd : 1 ≤ wd) : (woA fr wd n tm = -1 ↔ ¬ ((!decide (tm - fr < 0) && !decide (lN n ≤ (tm - fr) / wd)) = true)) ∧ (¬ woA fr wd n tm = -1 → i2n (woA fr wd n tm) = wN (tm - fr) wd ∧ wN (tm - fr) wd < n) := by
  have a1 : (0 : Int) ≤ fr.toInt := by have := Int64.le_iff_toInt_le.mp h0; simpa using this
  have a2 : tm.toInt ≤ 1099511627775 := by have := Int64.le_iff_toInt_le.mp h1; simpa using this
  have a3 : fr.toInt ≤ 1099511627775 := by have := Int64.le_iff_toInt_le.mp h2; simpa using this
  have a4 : (0 : Int) ≤ tm.toInt := by have := Int64.le_iff_toInt_le.mp h3; simpa using this
  have s1 : (tm - fr).toInt = tm.toInt - fr.toInt := by
    rw [Int64.toInt_sub]
    exact Int.bmod_eq_of_le (by omega) (by omega)
  have e1 : tm - fr < 0 ↔ tm < fr := by
    rw [Int64.lt_iff_toInt_lt, Int64.lt_iff_toInt_lt, s1]
    show tm.toInt - fr.toInt < 0 ↔ _
    omega
  unfold woA
  by_cases a : tm < fr
  · rw [if_pos a, decide_eq_true (e1.mpr a), Bool.not_true, Bool.false_and]
    exact ⟨⟨fun _ => by decide, fun _ => rfl⟩, fun z => absurd rfl z⟩
  · rw [if_neg a, if_pos hd, decide_eq_false (fun z => a (e1.mp z))]
    have nn : (0 : Int64) ≤ tm - fr := Int64.not_lt.mp (fun z => a (e1.mp z))
    by_cases c : lN n ≤ (tm - fr) / wd
    · rw [if_pos c, decide_eq_true c]
      exact ⟨⟨fun _ => by decide, fun _ => rfl⟩, fun z => absurd rfl z⟩
    · rw [if_neg c, decide_eq_false c]
      have lt := wN_lt nn hd hn (Int64.not_le.mp c)
      have ew : (tm - fr) / wd = lN (wN (tm - fr) wd) := wN_eq nn hd
      have e3 : ((tm - fr) / wd).toInt32 = nI (wN (tm - fr) wd) := by
        rw [ew]
        generalize wN (tm - fr) wd = k at lt
        have : ∀ k : Nat, k < 64 → (lN k).toInt32 = nI k := by decide +kernel
        exact this k (by omega)
      rw [e3]
      have ne : ¬ nI (wN (tm - fr) wd) = -1 := nI_nm (by omega)
      exact ⟨⟨fun z => absurd z ne, fun z => absurd (by decide) z⟩, fun _ => ⟨i2n_of (by omega), lt⟩⟩
