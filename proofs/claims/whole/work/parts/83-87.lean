section
abbrev gaT : Type := (Nat → Bool) × (Nat → Int64) × (Nat → Int64) × (Nat → Nat)
/-- point q gathered into a cell: is there a number, the numbers, the chosen points -/
def MS.ga (x : MS) (t what q r w : Nat) : gaT :=
  if what = 0 then (va_up x.isCell ((t * 256 + r) * 64 + w) true, va_up x.cells ((t * 256 + r) * 64 + w) (x.cells ((t * 256 + r) * 64 + w) + x.pointValues q), x.keyTimes, x.keySeries)
  else if what = 1 then (va_up x.isCell ((t * 256 + r) * 64 + w) true, va_up x.cells ((t * 256 + r) * 64 + w) (x.cells ((t * 256 + r) * 64 + w) + 1), x.keyTimes, x.keySeries)
  else if what = 2 then (va_up x.isCell ((t * 256 + r) * 64 + w) true, va_up x.cells ((t * 256 + r) * 64 + w) (gLe (x.isCell ((t * 256 + r) * 64 + w)) (x.pointValues q) (x.cells ((t * 256 + r) * 64 + w))), x.keyTimes, x.keySeries)
  else if what = 3 then (va_up x.isCell ((t * 256 + r) * 64 + w) true, va_up x.cells ((t * 256 + r) * 64 + w) (gMo (x.isCell ((t * 256 + r) * 64 + w)) (x.pointValues q) (x.cells ((t * 256 + r) * 64 + w))), x.keyTimes, x.keySeries)
  else if what = 6 then (if x.hasBefore (x.pointSeries q) = true then (va_up x.isCell ((t * 256 + r) * 64 + w) true, va_up x.cells ((t * 256 + r) * 64 + w) (x.cells ((t * 256 + r) * 64 + w) + (if x.befores (x.pointSeries q) ≤ x.pointValues q then x.pointValues q - x.befores (x.pointSeries q) else x.pointValues q)), x.keyTimes, x.keySeries) else (x.isCell, x.cells, x.keyTimes, x.keySeries))
  else if (if what = 4 then x.gSo ((t * 256 + r) * 64 + w) (r * 64 + w) (x.pointSeries q) (x.pointTimes q) else x.gLa ((t * 256 + r) * 64 + w) (r * 64 + w) (x.pointSeries q) (x.pointTimes q)) = true then (va_up x.isCell ((t * 256 + r) * 64 + w) true, va_up x.cells ((t * 256 + r) * 64 + w) (x.pointValues q), va_up x.keyTimes (r * 64 + w) (x.pointTimes q), va_up x.keySeries (r * 64 + w) (x.pointSeries q))
  else (va_up x.isCell ((t * 256 + r) * 64 + w) true, x.cells, x.keyTimes, x.keySeries)
theorem ga_0 {x : MS} {t q r w : Nat} : x.ga t 0 q r w = (va_up x.isCell ((t * 256 + r) * 64 + w) true, va_up x.cells ((t * 256 + r) * 64 + w) (x.cells ((t * 256 + r) * 64 + w) + x.pointValues q), x.keyTimes, x.keySeries) := rfl
theorem ga_1 {x : MS} {t q r w : Nat} : x.ga t 1 q r w = (va_up x.isCell ((t * 256 + r) * 64 + w) true, va_up x.cells ((t * 256 + r) * 64 + w) (x.cells ((t * 256 + r) * 64 + w) + 1), x.keyTimes, x.keySeries) := rfl
theorem ga_2 {x : MS} {t q r w : Nat} : x.ga t 2 q r w = (va_up x.isCell ((t * 256 + r) * 64 + w) true, va_up x.cells ((t * 256 + r) * 64 + w) (gLe (x.isCell ((t * 256 + r) * 64 + w)) (x.pointValues q) (x.cells ((t * 256 + r) * 64 + w))), x.keyTimes, x.keySeries) := rfl
theorem ga_3 {x : MS} {t q r w : Nat} : x.ga t 3 q r w = (va_up x.isCell ((t * 256 + r) * 64 + w) true, va_up x.cells ((t * 256 + r) * 64 + w) (gMo (x.isCell ((t * 256 + r) * 64 + w)) (x.pointValues q) (x.cells ((t * 256 + r) * 64 + w))), x.keyTimes, x.keySeries) := rfl
theorem ga_6n {x : MS} {t q r w : Nat} (h : x.hasBefore (x.pointSeries q) = false) : x.ga t 6 q r w = (x.isCell, x.cells, x.keyTimes, x.keySeries) := by
  show (if x.hasBefore (x.pointSeries q) = true then _ else _) = _
  rw [if_neg (by rw [h]; decide)]
theorem ga_6 {x : MS} {t q r w : Nat} (h : x.hasBefore (x.pointSeries q) = true) : x.ga t 6 q r w = (va_up x.isCell ((t * 256 + r) * 64 + w) true, va_up x.cells ((t * 256 + r) * 64 + w) (x.cells ((t * 256 + r) * 64 + w) + (if x.befores (x.pointSeries q) ≤ x.pointValues q then x.pointValues q - x.befores (x.pointSeries q) else x.pointValues q)), x.keyTimes, x.keySeries) := if_pos h
theorem ga_4 {x : MS} {t q r w : Nat} (h : x.gSo ((t * 256 + r) * 64 + w) (r * 64 + w) (x.pointSeries q) (x.pointTimes q) = true) : x.ga t 4 q r w = (va_up x.isCell ((t * 256 + r) * 64 + w) true, va_up x.cells ((t * 256 + r) * 64 + w) (x.pointValues q), va_up x.keyTimes (r * 64 + w) (x.pointTimes q), va_up x.keySeries (r * 64 + w) (x.pointSeries q)) := if_pos h
theorem ga_4n {x : MS} {t q r w : Nat} (h : x.gSo ((t * 256 + r) * 64 + w) (r * 64 + w) (x.pointSeries q) (x.pointTimes q) = false) : x.ga t 4 q r w = (va_up x.isCell ((t * 256 + r) * 64 + w) true, x.cells, x.keyTimes, x.keySeries) := by
  show (if x.gSo ((t * 256 + r) * 64 + w) (r * 64 + w) (x.pointSeries q) (x.pointTimes q) = true then _ else _) = _
  rw [if_neg (by rw [h]; decide)]
theorem ga_5 {x : MS} {t q r w : Nat} (h : x.gLa ((t * 256 + r) * 64 + w) (r * 64 + w) (x.pointSeries q) (x.pointTimes q) = true) : x.ga t 5 q r w = (va_up x.isCell ((t * 256 + r) * 64 + w) true, va_up x.cells ((t * 256 + r) * 64 + w) (x.pointValues q), va_up x.keyTimes (r * 64 + w) (x.pointTimes q), va_up x.keySeries (r * 64 + w) (x.pointSeries q)) := if_pos h
theorem ga_5n {x : MS} {t q r w : Nat} (h : x.gLa ((t * 256 + r) * 64 + w) (r * 64 + w) (x.pointSeries q) (x.pointTimes q) = false) : x.ga t 5 q r w = (va_up x.isCell ((t * 256 + r) * 64 + w) true, x.cells, x.keyTimes, x.keySeries) := by
  show (if x.gLa ((t * 256 + r) * 64 + w) (r * 64 + w) (x.pointSeries q) (x.pointTimes q) = true then _ else _) = _
  rw [if_neg (by rw [h]; decide)]
theorem ga_ks {x : MS} {t what q r w : Nat} (h : ∀ k : Nat, x.keySeries k < 256) (hs : x.pointSeries q < 256) : ∀ k : Nat, (x.ga t what q r w).2.2.2 k < 256 := by
  intro k
  unfold MS.ga
  repeat' split
  all_goals first | exact h k | (show (if k = r * 64 + w then x.pointSeries q else x.keySeries k) < 256; split <;> first | exact hs | exact h k)
def i2n (v : Int32) : Nat := v.toInt.toNat
theorem i2n_nI {v : Int32} (h : 0 ≤ v) : v = nI (i2n v) := by
  apply Int32.toInt_inj.mp
  have h1 : (0 : Int) ≤ v.toInt := Int32.le_iff_toInt_le.mp h
  have h2 : v.toInt < 2 ^ 31 := Int32.toInt_lt v
  rw [nI_toInt (by unfold i2n; omega)]
  unfold i2n
  omega
def l2n (v : Int64) : Nat := v.toInt.toNat
theorem lN_toInt' {n : Nat} (h : n < 2 ^ 63) : (lN n).toInt = (n : Int) := by
  unfold lN
  rw [Int64.toInt_ofNat_of_lt (by omega)]
theorem l2n_lN {v : Int64} (h : 0 ≤ v) : v = lN (l2n v) := by
  apply Int64.toInt_inj.mp
  have h1 : (0 : Int) ≤ v.toInt := Int64.le_iff_toInt_le.mp h
  have h2 : v.toInt < 2 ^ 63 := Int64.toInt_lt v
  rw [lN_toInt' (by unfold l2n; omega)]
  unfold l2n
  omega
/-- the window of a time -/
def wN (a d : Int64) : Nat := l2n a / l2n d
theorem wN_eq {a d : Int64} (ha : 0 ≤ a) (hd : 1 ≤ d) : a / d = lN (wN a d) := by
  have hd1 : (1 : Int) ≤ d.toInt := Int64.le_iff_toInt_le.mp hd
  have h0 : 0 ≤ d := Int64.le_iff_toInt_le.mpr (by show (0 : Int) ≤ d.toInt; omega)
  have h2 : a.toInt < 2 ^ 63 := Int64.toInt_lt a
  have h3 : d.toInt < 2 ^ 63 := Int64.toInt_lt d
  rw [l2n_lN ha, l2n_lN h0, pk_lDiv (by unfold l2n; omega) (by unfold l2n; omega) (by unfold l2n; omega)]
  rw [← l2n_lN ha, ← l2n_lN h0]
  rfl
theorem wN_lt {a d : Int64} {n : Nat} (ha : 0 ≤ a) (hd : 1 ≤ d) (hn : n ≤ 64) (h : a / d < lN n) : wN a d < n := by
  rw [wN_eq ha hd] at h
  have h1 := Int64.lt_iff_toInt_lt.mp h
  have h2 : a.toInt < 2 ^ 63 := Int64.toInt_lt a
  have h4 : wN a d < 2 ^ 63 := Nat.lt_of_le_of_lt (Nat.div_le_self _ _) (by unfold l2n; omega)
  rw [lN_toInt' h4, lN_toInt' (by omega)] at h1
  omega
abbrev rkT : Type := (Nat → Bool) × (Nat → Int64) × (Nat → Int64) × (Nat → Nat) × (Nat → Int64) × (Nat → Bool)
def MS.pt (x : MS) (g : rkT) : MS := MS.s_hasBefore (MS.s_befores (MS.s_keySeries (MS.s_keyTimes (MS.s_isCell (MS.s_cells x g.2.1) g.1) g.2.2.1) g.2.2.2.1) g.2.2.2.2.1) g.2.2.2.2.2
def MS.inW (x : MS) (q : Nat) : Bool := !decide (x.rowOf (x.pointSeries q) < 0) && (!decide (x.pointTimes q - x.windowsFrom < 0) && !decide (lN x.windows ≤ (x.pointTimes q - x.windowsFrom) / x.width))
def MS.rkA (x : MS) (t what q : Nat) (g : rkT) : gaT := if x.inW q = true then (x.pt g).ga t what q (i2n (x.rowOf (x.pointSeries q))) (wN (x.pointTimes q - x.windowsFrom) x.width) else (g.1, g.2.1, g.2.2.1, g.2.2.2.1)
/-- point q met -/
def MS.rk1 (x : MS) (t what q : Nat) (g : rkT) : rkT :=
  if x.seen q = false then g else if x.seriesCount ≤ x.pointSeries q then g else
  ((x.rkA t what q g).1, (x.rkA t what q g).2.1, (x.rkA t what q g).2.2.1, (x.rkA t what q g).2.2.2, va_up g.2.2.2.2.1 (x.pointSeries q) (x.pointValues q), va_up g.2.2.2.2.2 (x.pointSeries q) true)
def MS.rkG (x : MS) (t what : Nat) : Nat → rkT
  | 0 => (x.isCell, x.cells, x.keyTimes, x.keySeries, x.befores, x.hasBefore)
  | q + 1 => x.rk1 t what q (x.rkG t what q)
theorem rk_n {x : MS} {t what q : Nat} {g : rkT} (h : x.rkG t what q = g) (hn : x.seen q = false ∨ x.seriesCount ≤ x.pointSeries q) : x.rkG t what (q + 1) = g := by
  show x.rk1 t what q (x.rkG t what q) = g
  rw [h]
  unfold MS.rk1
  by_cases h1 : x.seen q = false
  · rw [if_pos h1]
  · rw [if_neg h1, if_pos (hn.resolve_left h1)]
theorem rk_y {x : MS} {t what q : Nat} {g : rkT} {a : gaT} (h : x.rkG t what q = g) (h1 : x.seen q = true) (h2 : ¬ x.seriesCount ≤ x.pointSeries q) (ha : x.rkA t what q g = a) : x.rkG t what (q + 1) = (a.1, a.2.1, a.2.2.1, a.2.2.2, va_up g.2.2.2.2.1 (x.pointSeries q) (x.pointValues q), va_up g.2.2.2.2.2 (x.pointSeries q) true) := by
  show x.rk1 t what q (x.rkG t what q) = _
  rw [h]
  unfold MS.rk1
  rw [if_neg (by rw [h1]; decide), if_neg h2, ha]
set_option maxHeartbeats 4000000 in
set_option maxRecDepth 100000 in
theorem k_gather (l : Launch) (D : va_G) (dA : Nat → ClassId) (sz : Nat) (h : Nat) (ad : Nat → Nat) (x : MS) (t : Nat) (wh : Nat) (q : Nat) (r : Nat) (w : Nat) (h1 : t < 20) (h2 : r < 256) (h3 : w < 64) (h4 : q < 12000) (h5 : x.pointSeries q < 256) (h6 : x.keySeries ((r * 64) + w) < 256) (hwh : wh ≤ 6) : Met l ⟨"SeriesVaultModel", "gather", "(IIIII)V"⟩ [Cond.code ⟨"SeriesVaultModel", "gather", "(IIIII)V"⟩ prog_14_method_69_code 17 none] { frames := 2, cells := 0, slots := 0, locals := 22 } (pC D dA [.ref h, .int (nI t), .int (nI wh), .int (nI q), .int (nI r), .int (nI w)] (MW dA h ad x) sz) (va_Qv (fun (u9 : Unit) => True) (fun (u9 : Unit) t9 => bW D (va_A (MW dA h ad x) sz) (MW dA h ad (MS.s_keySeries (MS.s_keyTimes (MS.s_isCell (MS.s_cells x ((x.ga t wh q r w).2.1)) ((x.ga t wh q r w).1)) ((x.ga t wh q r w).2.2.1)) ((x.ga t wh q r w).2.2.2))) t9) (va_A (MW dA h ad x) sz)) 0 0 (va_A (MW dA h ad x) sz) := by
  rcases (show wh = 0 ∨ wh = 1 ∨ wh = 2 ∨ wh = 3 ∨ wh = 4 ∨ wh = 5 ∨ wh = 6 by omega) with rfl | rfl | rfl | rfl | rfl | rfl | rfl
  · exact metV (k_gather_0 l D dA sz h ad x t q r w h1 h2 h3 h4 h5 h6) (fun u hu => ⟨u, trivial, by show MW dA h ad _ = MW dA h ad _; rw [ga_0] <;> rfl⟩)
  · exact metV (k_gather_1 l D dA sz h ad x t q r w h1 h2 h3 h4 h5 h6) (fun u hu => ⟨u, trivial, by show MW dA h ad _ = MW dA h ad _; rw [ga_1] <;> rfl⟩)
  · exact metV (k_gather_2 l D dA sz h ad x t q r w h1 h2 h3 h4 h5 h6) (fun u hu => ⟨u, trivial, by show MW dA h ad _ = MW dA h ad _; rw [ga_2] <;> rfl⟩)
  · exact metV (k_gather_3 l D dA sz h ad x t q r w h1 h2 h3 h4 h5 h6) (fun u hu => ⟨u, trivial, by show MW dA h ad _ = MW dA h ad _; rw [ga_3] <;> rfl⟩)
  · cases g : x.gSo ((t * 256 + r) * 64 + w) (r * 64 + w) (x.pointSeries q) (x.pointTimes q) with
    | true => exact metV (k_gather_4 l D dA sz h ad x t q r w h1 h2 h3 h4 h5 h6 g) (fun u hu => ⟨u, trivial, by show MW dA h ad _ = MW dA h ad _; rw [ga_4 g] <;> rfl⟩)
    | false => exact metV (k_gather_4n l D dA sz h ad x t q r w h1 h2 h3 h4 h5 h6 g) (fun u hu => ⟨u, trivial, by show MW dA h ad _ = MW dA h ad _; rw [ga_4n g] <;> rfl⟩)
  · cases g : x.gLa ((t * 256 + r) * 64 + w) (r * 64 + w) (x.pointSeries q) (x.pointTimes q) with
    | true => exact metV (k_gather_5 l D dA sz h ad x t q r w h1 h2 h3 h4 h5 h6 g) (fun u hu => ⟨u, trivial, by show MW dA h ad _ = MW dA h ad _; rw [ga_5 g] <;> rfl⟩)
    | false => exact metV (k_gather_5n l D dA sz h ad x t q r w h1 h2 h3 h4 h5 h6 g) (fun u hu => ⟨u, trivial, by show MW dA h ad _ = MW dA h ad _; rw [ga_5n g] <;> rfl⟩)
  · cases g : x.hasBefore (x.pointSeries q) with
    | true => exact metV (k_gather_6 l D dA sz h ad x t q r w h1 h2 h3 h4 h5 h6 g) (fun u hu => ⟨u, trivial, by show MW dA h ad _ = MW dA h ad _; rw [ga_6 g] <;> rfl⟩)
    | false => exact metV (k_gather_6n l D dA sz h ad x t q r w h1 h2 h3 h4 h5 h6 g) (fun u hu => ⟨u, trivial, by show MW dA h ad _ = MW dA h ad _; rw [ga_6n g] <;> rfl⟩)
def MS.grS (x : MS) (t p : Nat) : MS := MS.s_hasBefore (MS.s_rowOf (MS.s_valueLength (MS.s_isCell (MS.s_cells (MS.s_rowSeries (MS.s_tableRows x (va_up x.tableRows t (x.grG t p x.seriesCount).1)) ((x.grG t p x.seriesCount).2.1)) (filG x.cells (t * 256 * 64) 0 ((x.grG t p x.seriesCount).1 * 64))) (filG x.isCell (t * 256 * 64) false ((x.grG t p x.seriesCount).1 * 64))) ((x.grG t p x.seriesCount).2.2.2.2)) ((x.grG t p x.seriesCount).2.2.1)) ((x.grG t p x.seriesCount).2.2.2.1)
def MS.swS (x : MS) (t : Nat) : MS := MS.s_isCell (MS.s_cells (MS.s_rowSeries (MS.s_tableRows x (va_up x.tableRows t (swG x.isCell x.cells x.rowSeries t x.windows (x.tableRows t)).1)) ((swG x.isCell x.cells x.rowSeries t x.windows (x.tableRows t)).2.2.2)) ((swG x.isCell x.cells x.rowSeries t x.windows (x.tableRows t)).2.2.1)) ((swG x.isCell x.cells x.rowSeries t x.windows (x.tableRows t)).2.1)
theorem swS_eq {x : MS} {t b : Nat} {i : Nat → Bool} {u : Nat → Int64} {r : Nat → Nat} (h : swG x.isCell x.cells x.rowSeries t x.windows (x.tableRows t) = (b, i, u, r)) : x.swS t = MS.s_isCell (MS.s_cells (MS.s_rowSeries (MS.s_tableRows x (va_up x.tableRows t b)) r) u) i := by
  unfold MS.swS
  rw [h]
def MS.rkS (x : MS) (wh p : Nat) : MS := MS.swS (MS.s_pile (MS.pt (x.grS x.pile p) ((x.grS x.pile p).rkG x.pile wh (x.grS x.pile p).points)) ((x.grS x.pile p).pile + 1)) x.pile
theorem gr_ro {x : MS} {t p : Nat} : ∀ k, k ≤ 256 → ∀ s, s < k → (x.grG t p k).2.2.1 s = -1 ∨ ∃ r, r < (x.grG t p k).1 ∧ (x.grG t p k).2.2.1 s = nI r
  | 0, _, s, hs => absurd hs (Nat.not_lt_zero s)
  | k + 1, hk, s, hs => by
    have ih := gr_ro (x := x) (t := t) (p := p) k (by omega)
    obtain ⟨n, rs, ro, hb, v, hg⟩ : ∃ z1 z2 z3 z4 z5, x.grG t p k = (z1, z2, z3, z4, z5) := ⟨_, _, _, _, _, rfl⟩
    have hn : n ≤ k := by
      have := gr_le' (x := x) (t := t) (p := p) k
      rw [hg] at this
      exact this
    rw [hg] at ih
    have ih : ∀ s, s < k → ro s = -1 ∨ ∃ r, r < n ∧ ro s = nI r := ih
    cases hm : ((MS.s_valueLength x v).mt k p).1 with
    | false =>
      rw [gr_no hg hm]
      show va_up ro k (-1) s = -1 ∨ ∃ r, r < n ∧ va_up ro k (-1) s = nI r
      unfold va_up
      by_cases e : s = k
      · exact Or.inl (if_pos e)
      · rw [if_neg e]
        exact ih s (by omega)
    | true =>
      obtain ⟨v2, hv2⟩ : ∃ z, (MS.s_valueLength x v).mt k p = (true, z) := ⟨_, Prod.ext hm rfl⟩
      obtain ⟨r, v3, hf⟩ : ∃ z1 z2, x.fr t k rs n (n + 1) 0 v2 = (z1, z2) := ⟨_, _, rfl⟩
      have hr : r ≤ n := by
        have := fr_le (x := x) (t := t) (s := k) (rs := rs) (n := n) (n + 1) 0 v2 (Nat.zero_le n)
        rw [hf] at this
        exact this
      rw [gr_y hg hv2 hf]
      cases hi : (x.gi t k rs n r v3).1 with
      | false =>
        obtain ⟨v4, h4⟩ : ∃ z, x.gi t k rs n r v3 = (false, z) := ⟨_, Prod.ext hi rfl⟩
        have hrn : r < n := by
          refine Nat.lt_of_le_of_ne hr (fun z => ?_)
          rw [show x.gi t k rs n r v3 = (true, v3) from if_pos z.symm] at hi
          cases hi
        rw [gr_old h4]
        show va_up (va_up ro k (-1)) k (nI r) s = -1 ∨ ∃ r', r' < n ∧ va_up (va_up ro k (-1)) k (nI r) s = nI r'
        unfold va_up
        by_cases e : s = k
        · exact Or.inr ⟨r, hrn, if_pos e⟩
        · rw [if_neg e, if_neg e]
          exact ih s (by omega)
      | true =>
        obtain ⟨v4, h4⟩ : ∃ z, x.gi t k rs n r v3 = (true, z) := ⟨_, Prod.ext hi rfl⟩
        rw [grN_new h4]
        show va_up (mapT k (bmF (va_up ro k (-1)) r) (bmG (va_up ro k (-1))) (va_up ro k (-1))) k (nI r) s = -1 ∨ ∃ r', r' < n + 1 ∧ va_up (mapT k (bmF (va_up ro k (-1)) r) (bmG (va_up ro k (-1))) (va_up ro k (-1))) k (nI r) s = nI r'
        by_cases e : s = k
        · refine Or.inr ⟨r, by omega, ?_⟩
          rw [e]
          exact va_us _ _ _
        · have e1 : va_up (mapT k (bmF (va_up ro k (-1)) r) (bmG (va_up ro k (-1))) (va_up ro k (-1))) k (nI r) s = mapT k (bmF (va_up ro k (-1)) r) (bmG (va_up ro k (-1))) (va_up ro k (-1)) s := if_neg e
          have e2 : va_up ro k (-1) s = ro s := if_neg e
          rw [e1]
          unfold mapT bmF bmG
          rw [e2]
          rcases ih s (by omega) with h | ⟨r1, h1, h2⟩
          · rw [h, decide_eq_true (by
              have : (-1 : Int32) < 0 := by decide
              exact Int32.lt_of_lt_of_le this (by
                rw [Int32.le_iff_toInt_le, nI_toInt (by omega)]
                exact Int.natCast_nonneg r)), if_neg (fun z => by simp at z)]
            exact Or.inl rfl
          · refine Or.inr ?_
            rw [h2]
            by_cases c : s < k ∧ (!decide (nI r1 < nI r)) = true
            · rw [if_pos c]
              exact ⟨r1 + 1, by omega, nI_add r1 1⟩
            · rw [if_neg c]
              exact ⟨r1, by omega, rfl⟩
theorem ro_lt {v : Int32} {n : Nat} (hn : n ≤ 256) (h : v = -1 ∨ ∃ r, r < n ∧ v = nI r) : i2n v < 256 := by
  rcases h with h | ⟨r, h1, h2⟩
  · subst h
    decide
  · subst h2
    unfold i2n
    rw [nI_toInt (by omega)]
    omega
theorem wd_nz {d : Int64} (h : 1 ≤ d) : ¬ d = 0 := fun z => by
  subst z
  exact absurd h (by decide)
theorem d_M_reckon_0 : decode prog_14_method_70_code 0 = .ok (.aload_n 0, 1) := by decide +kernel
theorem d_M_reckon_1 : decode prog_14_method_70_code 1 = .ok (.getfield 400, 3) := by decide +kernel
theorem d_M_reckon_4 : decode prog_14_method_70_code 4 = .ok (.istore_n 3, 1) := by decide +kernel
theorem d_M_reckon_11 : decode prog_14_method_70_code 11 = .ok (.iconst 0, 1) := by decide +kernel
theorem d_M_reckon_12 : decode prog_14_method_70_code 12 = .ok (.istore 4, 2) := by decide +kernel
theorem d_M_reckon_14 : decode prog_14_method_70_code 14 = .ok (.iload 4, 2) := by decide +kernel
theorem d_M_reckon_16 : decode prog_14_method_70_code 16 = .ok (.aload_n 0, 1) := by decide +kernel
theorem d_M_reckon_17 : decode prog_14_method_70_code 17 = .ok (.getfield 169, 3) := by decide +kernel
theorem d_M_reckon_20 : decode prog_14_method_70_code 20 = .ok (.if_icmp .ge 131, 3) := by decide +kernel
theorem d_M_reckon_151 : decode prog_14_method_70_code 151 = .ok (.aload_n 0, 1) := by decide +kernel
theorem d_M_reckon_152 : decode prog_14_method_70_code 152 = .ok (.dup, 1) := by decide +kernel
theorem d_M_reckon_153 : decode prog_14_method_70_code 153 = .ok (.getfield 400, 3) := by decide +kernel
theorem d_M_reckon_156 : decode prog_14_method_70_code 156 = .ok (.iconst 1, 1) := by decide +kernel
theorem d_M_reckon_157 : decode prog_14_method_70_code 157 = .ok (.iadd, 1) := by decide +kernel
theorem d_M_reckon_158 : decode prog_14_method_70_code 158 = .ok (.putfield 400, 3) := by decide +kernel
theorem d_M_reckon_161 : decode prog_14_method_70_code 161 = .ok (.aload_n 0, 1) := by decide +kernel
theorem d_M_reckon_162 : decode prog_14_method_70_code 162 = .ok (.iload_n 3, 1) := by decide +kernel
theorem d_M_reckon_163 : decode prog_14_method_70_code 163 = .ok (.invokevirtual 419, 3) := by decide +kernel
theorem d_M_reckon_166 : decode prog_14_method_70_code 166 = .ok (.return_, 1) := by decide +kernel
theorem d_M_reckon_23 : decode prog_14_method_70_code 23 = .ok (.aload_n 0, 1) := by decide +kernel
theorem d_M_reckon_24 : decode prog_14_method_70_code 24 = .ok (.getfield 43, 3) := by decide +kernel
theorem d_M_reckon_27 : decode prog_14_method_70_code 27 = .ok (.iload 4, 2) := by decide +kernel
theorem d_M_reckon_29 : decode prog_14_method_70_code 29 = .ok (.iaload, 1) := by decide +kernel
theorem d_M_reckon_30 : decode prog_14_method_70_code 30 = .ok (.istore 5, 2) := by decide +kernel
theorem d_M_reckon_32 : decode prog_14_method_70_code 32 = .ok (.aload_n 0, 1) := by decide +kernel
theorem d_M_reckon_33 : decode prog_14_method_70_code 33 = .ok (.iload 4, 2) := by decide +kernel
theorem d_M_reckon_35 : decode prog_14_method_70_code 35 = .ok (.invokevirtual 207, 3) := by decide +kernel
theorem d_M_reckon_38 : decode prog_14_method_70_code 38 = .ok (.ifCond .eq 107, 3) := by decide +kernel
theorem d_M_reckon_145 : decode prog_14_method_70_code 145 = .ok (.iinc 4 1, 3) := by decide +kernel
theorem d_M_reckon_148 : decode prog_14_method_70_code 148 = .ok (.goto (-134), 3) := by decide +kernel
theorem d_M_reckon_41 : decode prog_14_method_70_code 41 = .ok (.iload 5, 2) := by decide +kernel
theorem d_M_reckon_43 : decode prog_14_method_70_code 43 = .ok (.aload_n 0, 1) := by decide +kernel
theorem d_M_reckon_44 : decode prog_14_method_70_code 44 = .ok (.getfield 160, 3) := by decide +kernel
theorem d_M_reckon_47 : decode prog_14_method_70_code 47 = .ok (.if_icmp .lt 6, 3) := by decide +kernel
theorem d_M_reckon_53 : decode prog_14_method_70_code 53 = .ok (.aload_n 0, 1) := by decide +kernel
theorem d_M_reckon_54 : decode prog_14_method_70_code 54 = .ok (.getfield 46, 3) := by decide +kernel
theorem d_M_reckon_57 : decode prog_14_method_70_code 57 = .ok (.iload 4, 2) := by decide +kernel
theorem d_M_reckon_59 : decode prog_14_method_70_code 59 = .ok (.laload, 1) := by decide +kernel
theorem d_M_reckon_60 : decode prog_14_method_70_code 60 = .ok (.aload_n 0, 1) := by decide +kernel
theorem d_M_reckon_61 : decode prog_14_method_70_code 61 = .ok (.getfield 406, 3) := by decide +kernel
theorem d_M_reckon_64 : decode prog_14_method_70_code 64 = .ok (.lsub, 1) := by decide +kernel
theorem d_M_reckon_65 : decode prog_14_method_70_code 65 = .ok (.lstore 6, 2) := by decide +kernel
theorem d_M_reckon_123 : decode prog_14_method_70_code 123 = .ok (.aload_n 0, 1) := by decide +kernel
theorem d_M_reckon_124 : decode prog_14_method_70_code 124 = .ok (.getfield 120, 3) := by decide +kernel
theorem d_M_reckon_127 : decode prog_14_method_70_code 127 = .ok (.iload 5, 2) := by decide +kernel
theorem d_M_reckon_129 : decode prog_14_method_70_code 129 = .ok (.aload_n 0, 1) := by decide +kernel
theorem d_M_reckon_130 : decode prog_14_method_70_code 130 = .ok (.getfield 49, 3) := by decide +kernel
theorem d_M_reckon_133 : decode prog_14_method_70_code 133 = .ok (.iload 4, 2) := by decide +kernel
theorem d_M_reckon_135 : decode prog_14_method_70_code 135 = .ok (.laload, 1) := by decide +kernel
theorem d_M_reckon_136 : decode prog_14_method_70_code 136 = .ok (.lastore, 1) := by decide +kernel
theorem d_M_reckon_137 : decode prog_14_method_70_code 137 = .ok (.aload_n 0, 1) := by decide +kernel
theorem d_M_reckon_138 : decode prog_14_method_70_code 138 = .ok (.getfield 123, 3) := by decide +kernel
theorem d_M_reckon_141 : decode prog_14_method_70_code 141 = .ok (.iload 5, 2) := by decide +kernel
theorem d_M_reckon_143 : decode prog_14_method_70_code 143 = .ok (.iconst 1, 1) := by decide +kernel
theorem d_M_reckon_144 : decode prog_14_method_70_code 144 = .ok (.bastore, 1) := by decide +kernel
theorem d_M_reckon_67 : decode prog_14_method_70_code 67 = .ok (.aload_n 0, 1) := by decide +kernel
theorem d_M_reckon_68 : decode prog_14_method_70_code 68 = .ok (.getfield 111, 3) := by decide +kernel
theorem d_M_reckon_71 : decode prog_14_method_70_code 71 = .ok (.iload 5, 2) := by decide +kernel
theorem d_M_reckon_73 : decode prog_14_method_70_code 73 = .ok (.iaload, 1) := by decide +kernel
theorem d_M_reckon_74 : decode prog_14_method_70_code 74 = .ok (.ifCond .lt 49, 3) := by decide +kernel
theorem d_M_reckon_77 : decode prog_14_method_70_code 77 = .ok (.lload 6, 2) := by decide +kernel
theorem d_M_reckon_79 : decode prog_14_method_70_code 79 = .ok (.lconst 0, 1) := by decide +kernel
theorem d_M_reckon_80 : decode prog_14_method_70_code 80 = .ok (.lcmp, 1) := by decide +kernel
theorem d_M_reckon_81 : decode prog_14_method_70_code 81 = .ok (.ifCond .lt 42, 3) := by decide +kernel
theorem d_M_reckon_84 : decode prog_14_method_70_code 84 = .ok (.lload 6, 2) := by decide +kernel
theorem d_M_reckon_86 : decode prog_14_method_70_code 86 = .ok (.aload_n 0, 1) := by decide +kernel
theorem d_M_reckon_87 : decode prog_14_method_70_code 87 = .ok (.getfield 409, 3) := by decide +kernel
theorem d_M_reckon_90 : decode prog_14_method_70_code 90 = .ok (.ldiv, 1) := by decide +kernel
theorem d_M_reckon_91 : decode prog_14_method_70_code 91 = .ok (.aload_n 0, 1) := by decide +kernel
theorem d_M_reckon_92 : decode prog_14_method_70_code 92 = .ok (.getfield 412, 3) := by decide +kernel
theorem d_M_reckon_95 : decode prog_14_method_70_code 95 = .ok (.i2l, 1) := by decide +kernel
theorem d_M_reckon_96 : decode prog_14_method_70_code 96 = .ok (.lcmp, 1) := by decide +kernel
theorem d_M_reckon_97 : decode prog_14_method_70_code 97 = .ok (.ifCond .ge 26, 3) := by decide +kernel
theorem d_M_reckon_100 : decode prog_14_method_70_code 100 = .ok (.aload_n 0, 1) := by decide +kernel
theorem d_M_reckon_101 : decode prog_14_method_70_code 101 = .ok (.iload_n 3, 1) := by decide +kernel
theorem d_M_reckon_102 : decode prog_14_method_70_code 102 = .ok (.iload_n 1, 1) := by decide +kernel
theorem d_M_reckon_103 : decode prog_14_method_70_code 103 = .ok (.iload 4, 2) := by decide +kernel
theorem d_M_reckon_105 : decode prog_14_method_70_code 105 = .ok (.aload_n 0, 1) := by decide +kernel
theorem d_M_reckon_106 : decode prog_14_method_70_code 106 = .ok (.getfield 111, 3) := by decide +kernel
theorem d_M_reckon_109 : decode prog_14_method_70_code 109 = .ok (.iload 5, 2) := by decide +kernel
theorem d_M_reckon_111 : decode prog_14_method_70_code 111 = .ok (.iaload, 1) := by decide +kernel
theorem d_M_reckon_112 : decode prog_14_method_70_code 112 = .ok (.lload 6, 2) := by decide +kernel
theorem d_M_reckon_114 : decode prog_14_method_70_code 114 = .ok (.aload_n 0, 1) := by decide +kernel
theorem d_M_reckon_115 : decode prog_14_method_70_code 115 = .ok (.getfield 409, 3) := by decide +kernel
theorem d_M_reckon_118 : decode prog_14_method_70_code 118 = .ok (.ldiv, 1) := by decide +kernel
theorem d_M_reckon_119 : decode prog_14_method_70_code 119 = .ok (.l2i, 1) := by decide +kernel
theorem d_M_reckon_120 : decode prog_14_method_70_code 120 = .ok (.invokevirtual 415, 3) := by decide +kernel
theorem d_M_reckon_50 : decode prog_14_method_70_code 50 = .ok (.goto 95, 3) := by decide +kernel
theorem d_M_reckon_5 : decode prog_14_method_70_code 5 = .ok (.aload_n 0, 1) := by decide +kernel
theorem d_M_reckon_6 : decode prog_14_method_70_code 6 = .ok (.iload_n 3, 1) := by decide +kernel
theorem d_M_reckon_7 : decode prog_14_method_70_code 7 = .ok (.iload_n 2, 1) := by decide +kernel
theorem d_M_reckon_8 : decode prog_14_method_70_code 8 = .ok (.invokevirtual 403, 3) := by decide +kernel
theorem w990 : Cond.methodLink "SeriesVaultModel" 419 ⟨"SeriesVaultModel", "sweep", "(I)V"⟩ ∈ aW := aw_of (tb_11 (List.mem_of_getElem? (i := 4) rfl)) rfl
theorem w991 : Cond.code ⟨"SeriesVaultModel", "sweep", "(I)V"⟩ prog_14_method_71_code 6 none ∈ aW := aw_of (tb_11 (List.mem_of_getElem? (i := 7) rfl)) rfl
theorem w992 : Cond.instanceMethod ⟨"SeriesVaultModel", "sweep", "(I)V"⟩ ∈ aW := aw_of (tb_11 (List.mem_of_getElem? (i := 6) rfl)) rfl
theorem w993 : Cond.selects "SeriesVaultModel" ⟨"SeriesVaultModel", "sweep", "(I)V"⟩ ⟨"SeriesVaultModel", "sweep", "(I)V"⟩ ∈ aW := aw_pr (List.mem_map.mpr ⟨_, pv_8 (List.mem_of_getElem? (i := 2) rfl), rfl⟩) rfl
theorem w994 : Cond.methodLink "SeriesVaultModel" 415 ⟨"SeriesVaultModel", "gather", "(IIIII)V"⟩ ∈ aW := aw_of (tb_10 (List.mem_of_getElem? (i := 237) rfl)) rfl
theorem w995 : Cond.code ⟨"SeriesVaultModel", "gather", "(IIIII)V"⟩ prog_14_method_69_code 17 none ∈ aW := aw_of (tb_11 (List.mem_of_getElem? (i := 0) rfl)) rfl
theorem w996 : Cond.instanceMethod ⟨"SeriesVaultModel", "gather", "(IIIII)V"⟩ ∈ aW := aw_of (tb_10 (List.mem_of_getElem? (i := 239) rfl)) rfl
theorem w997 : Cond.selects "SeriesVaultModel" ⟨"SeriesVaultModel", "gather", "(IIIII)V"⟩ ⟨"SeriesVaultModel", "gather", "(IIIII)V"⟩ ∈ aW := aw_pr (List.mem_map.mpr ⟨_, pv_8 (List.mem_of_getElem? (i := 1) rfl), rfl⟩) rfl
theorem w998 : Cond.methodLink "SeriesVaultModel" 403 ⟨"SeriesVaultModel", "group", "(II)V"⟩ ∈ aW := aw_of (tb_10 (List.mem_of_getElem? (i := 221) rfl)) rfl
theorem w999 : Cond.code ⟨"SeriesVaultModel", "group", "(II)V"⟩ prog_14_method_68_code 6 none ∈ aW := aw_of (tb_10 (List.mem_of_getElem? (i := 224) rfl)) rfl
theorem w1000 : Cond.instanceMethod ⟨"SeriesVaultModel", "group", "(II)V"⟩ ∈ aW := aw_of (tb_10 (List.mem_of_getElem? (i := 223) rfl)) rfl
theorem w1001 : Cond.selects "SeriesVaultModel" ⟨"SeriesVaultModel", "group", "(II)V"⟩ ⟨"SeriesVaultModel", "group", "(II)V"⟩ ∈ aW := aw_pr (List.mem_map.mpr ⟨_, pv_7 (List.mem_of_getElem? (i := 13) rfl), rfl⟩) rfl
set_option maxHeartbeats 4000000 in
set_option maxRecDepth 100000 in
theorem k_reckon (l : Launch) (D : va_G) (dA : Nat → ClassId) (sz : Nat) (h : Nat) (ad : Nat → Nat) (x : MS) (wh : Nat) (p7 : Nat) (hpl : x.pile < 20) (hsc : x.seriesCount ≤ 256) (hts : ∀ q : Nat, q < x.seriesCount → x.tOK q) (hmo : x.mOK p7) (hno : x.nOK x.pile) (hl1 : x.length ≤ 65536) (hpt : x.points ≤ 12000) (hps : ∀ q : Nat, q < x.points → x.pointSeries q < 256) (hwi : x.windows ≤ 64) (hwd : 1 ≤ x.width) (hks : ∀ q : Nat, x.keySeries q < 256) (hwh : wh ≤ 6) : Met l ⟨"SeriesVaultModel", "reckon", "(II)V"⟩ [Cond.code ⟨"SeriesVaultModel", "reckon", "(II)V"⟩ prog_14_method_70_code 8 none] { frames := 4, cells := 0, slots := 0, locals := 86 } (pC D dA [.ref h, .int (nI wh), .int (nI p7)] (MW dA h ad x) sz) (va_Qv (fun (u9 : MS) => u9 = x.rkS wh p7) (fun (u9 : MS) t9 => bW D (va_A (MW dA h ad x) sz) (MW dA h ad u9) t9) (va_A (MW dA h ad x) sz)) 0 0 (va_A (MW dA h ad x) sz) := by
  refine mkC (y := ⟨"SeriesVaultModel", "reckon", "(II)V"⟩) (cc := prog_14_method_70_code) (maxL := 8) (av := [.ref h, .int (nI wh), .int (nI p7)]) (ws := MW dA h ad x) (sz := sz) (Qc := fun A => va_Qv (fun (u9 : MS) => u9 = x.rkS wh p7) (fun (u9 : MS) t9 => bW D A (MW dA h ad u9) t9) A) (by decide) (Nat.le_of_ble_eq_true rfl) ?_
  intro A p e s m below meth c ls hsz hB
  obtain ⟨hx, hb, hr, hml, hown, hin, hlk, hE, hK, hP, hD, hS, hA, hN, hl⟩ := hB
  have hown : s.vm.findClass "SeriesVaultModel" = some m.cls := hown
  have hl : lv_has ls 8 [(0, .ref h), (1, .int (nI wh)), (2, .int (nI p7))] := hl
  obtain ⟨H, hH⟩ : ∃ z, z = s.heap := ⟨_, rfl⟩
  have hP : va_P D vwCl (MW dA h ad x) H := by rw [hH]; exact hP
  have hS : va_S A s.heap H [] := by rw [hH]; exact hS
  rw [← hH]
  obtain ⟨n9, rs9, ro9, hb9, v9, hgr⟩ : ∃ z1 z2 z3 z4 z5, x.grG x.pile p7 x.seriesCount = (z1, z2, z3, z4, z5) := ⟨_, _, _, _, _, rfl⟩
  have n9l : n9 ≤ 256 := gr_le hsc hgr
  have hro := gr_ro (x := x) (t := x.pile) (p := p7) x.seriesCount hsc
  rw [hgr] at hro
  refine lv_aload_n hx hb d_M_reckon_0 rfl (lv_at hl 0 rfl) ?_
  refine gF (v := .int (nI x.pile)) hx hb hown hE hK hP 0 rfl rfl layM 55 (by decide) w476 rfl d_M_reckon_1 ?_
  refine lv_istore_n hx hb d_M_reckon_4 rfl hl (by decide) rfl (fun ls hl => ?_)
  have hl : lv_has ls 8 [(3, .int (nI x.pile)), (0, .ref h), (1, .int (nI wh)), (2, .int (nI p7))] := hl
  have J11 : ∀ (z : MS) (ez : z = x.grS x.pile p7) (z1 : z.points = x.points) (z2 : z.pointSeries = x.pointSeries) (z3 : z.windows = x.windows) (z4 : z.width = x.width) (z5 : z.keySeries = x.keySeries) (z6 : z.rowOf = ro9) (z7 : z.tableRows x.pile = n9) (z8 : z.seriesCount = x.seriesCount) (z9p : z.pile = x.pile), ∀ (H : Heap) (locs : List Loc) (ls : Array Slot) (hP : va_P D vwCl (MW dA h ad z) H) (hD : va_D A (MW dA h ad z)) (hS : va_S A s.heap H locs) (hl : lv_has ls 8 [(1, .int (nI wh)), (2, .int (nI p7)), (3, .int (nI x.pile)), (0, .ref h)]), W p l e ({ frames := 4, cells := 0, slots := 0, locals := 86 } : Room) s m ([.ref h, .int (nI wh), .int (nI p7)] : List Value).toArray below meth c H locs 0 0 (MQ below (va_Qv (fun (u9 : MS) => u9 = x.rkS wh p7) (fun (u9 : MS) t9 => bW D A (MW dA h ad u9) t9) A) ([.ref h, .int (nI wh), .int (nI p7)] : List Value).toArray s 0 0 A) (F0 m 11 ls []) := by
    intro z ez z1 z2 z3 z4 z5 z6 z7 z8 z9p H locs ls hP hD hS hl
    refine lv_iconst (v := 0) hx hb d_M_reckon_11 (by decide) ?_
    refine lv_istore hx hb d_M_reckon_12 hl (by decide) rfl (fun ls hl => ?_)
    have hl : lv_has ls 8 [(4, .int 0), (1, .int (nI wh)), (2, .int (nI p7)), (3, .int (nI x.pile)), (0, .ref h)] := hl
    have L14 : ∀ (k9 : Nat) (q : Nat) (c1 : Nat → Bool) (c2 : Nat → Int64) (c3 : Nat → Int64) (c4 : Nat → Nat) (c5 : Nat → Int64) (c6 : Nat → Bool) (i1 : q ≤ z.points) (i2 : z.rkG x.pile wh q = (c1, c2, c3, c4, c5, c6)) (i4 : ∀ q : Nat, c4 q < 256) (hk9 : z.points - q = k9), ∀ (H : Heap) (locs : List Loc) (ls : Array Slot) (hP : va_P D vwCl (MW dA h ad (MS.s_hasBefore (MS.s_befores (MS.s_keySeries (MS.s_keyTimes (MS.s_isCell (MS.s_cells z c2) c1) c3) c4) c5) c6)) H) (hD : va_D A (MW dA h ad (MS.s_hasBefore (MS.s_befores (MS.s_keySeries (MS.s_keyTimes (MS.s_isCell (MS.s_cells z c2) c1) c3) c4) c5) c6))) (hS : va_S A s.heap H locs) (hl : lv_has ls 8 [(4, .int (nI q)), (1, .int (nI wh)), (2, .int (nI p7)), (3, .int (nI x.pile)), (0, .ref h)]), W p l e ({ frames := 4, cells := 0, slots := 0, locals := 86 } : Room) s m ([.ref h, .int (nI wh), .int (nI p7)] : List Value).toArray below meth c H locs 0 0 (MQ below (va_Qv (fun (u9 : MS) => u9 = x.rkS wh p7) (fun (u9 : MS) t9 => bW D A (MW dA h ad u9) t9) A) ([.ref h, .int (nI wh), .int (nI p7)] : List Value).toArray s 0 0 A) (F0 m 14 ls []) := by
      intro k9
      induction k9 using Nat.strongRecOn with
      | ind k9 ih14 =>
        intro q c1 c2 c3 c4 c5 c6 i1 i2 i4 hk9 H locs ls hP hD hS hl
        refine lv_iload hx hb d_M_reckon_14 (lv_at hl 0 rfl) ?_
        refine lv_aload_n hx hb d_M_reckon_16 rfl (lv_at hl 4 rfl) ?_
        refine gF (v := .int (nI z.points)) hx hb hown hE hK hP 0 rfl rfl layM 23 (by decide) w420 rfl d_M_reckon_17 ?_
        refine lv_icmp_ge hx hb d_M_reckon_20 (tgt := 151) rfl (fun g1 => ?_) (fun g1 => ?_)
        · have g1 := (nI_leI (a := z.points) (b := q) (by omega) (by omega)).mp g1
          refine lv_aload_n hx hb d_M_reckon_151 rfl (lv_at hl 4 rfl) ?_
          refine lv_dup hx hb d_M_reckon_152 rfl ?_
          refine gF (v := .int (nI z.pile)) hx hb hown hE hK hP 0 rfl rfl layM 55 (by decide) w476 rfl d_M_reckon_153 ?_
          refine lv_iconst (v := 1) hx hb d_M_reckon_156 (by decide) ?_
          refine lv_iadd hx hb d_M_reckon_157 (tpi (y := nI (z.pile + 1)) (nI_add (z.pile) (1)) ?_)
          refine pF (v := .int (nI (z.pile + 1))) hx hb hown hE hK hP hD hS 0 rfl rfl layM tyM tokM nmM 55 (by decide) w476 rfl rfl rfl (Nat.le_of_ble_eq_true rfl) d_M_reckon_158 (fun H locs hP hD hS => ?_)
          have hP : va_P D vwCl (MW dA h ad (MS.s_hasBefore (MS.s_befores (MS.s_keySeries (MS.s_keyTimes (MS.s_pile (MS.s_isCell (MS.s_cells z c2) c1) (z.pile + 1)) c3) c4) c5) c6)) H := hP
          have hD : va_D A (MW dA h ad (MS.s_hasBefore (MS.s_befores (MS.s_keySeries (MS.s_keyTimes (MS.s_pile (MS.s_isCell (MS.s_cells z c2) c1) (z.pile + 1)) c3) c4) c5) c6)) := hD
          have hk : z.rkG x.pile wh z.points = (c1, c2, c3, c4, c5, c6) := by rw [← show q = z.points by omega]; exact i2
          obtain ⟨b9, i9, u9c, r9x, hsw⟩ : ∃ z1 z2 z3 z4, swG c1 c2 z.rowSeries x.pile z.windows (z.tableRows x.pile) = (z1, z2, z3, z4) := ⟨_, _, _, _, rfl⟩
          refine lv_aload_n hx hb d_M_reckon_161 rfl (lv_at hl 4 rfl) ?_
          refine lv_iload_n hx hb d_M_reckon_162 rfl (lv_at hl 3 rfl) ?_
          refine jfV (rnV (As := [.int (nI x.pile)]) (rest := []) hx hb hml hown hE hK (hN _ _ hS) hP hD (k_sweep l D dA H.size h ad (MS.s_hasBefore (MS.s_befores (MS.s_keySeries (MS.s_keyTimes (MS.s_pile (MS.s_isCell (MS.s_cells z c2) c1) (z.pile + 1)) c3) c4) c5) c6) x.pile b9 i9 u9c r9x hpl (show z.windows ≤ 64 from by omega) (show z.tableRows x.pile ≤ 256 from by omega) hsw) (q0 := 0) rfl rfl w991 w990 w992 w993 w328 rfl rfl ⟨⟨by decide, by decide⟩, rfl⟩ ⟨(Nat.le_of_ble_eq_true rfl), (Nat.le_of_ble_eq_true rfl)⟩ rfl hl.1 rfl (Nat.le_of_ble_eq_true rfl) d_M_reckon_163 ⟨(Nat.le_of_ble_eq_true rfl), (Nat.le_of_ble_eq_true rfl)⟩) hP hD hS hA (fun u3 H locs hp9 hP hD hS => ?_)
          have hP : va_P D vwCl (MW dA h ad (MS.s_hasBefore (MS.s_befores (MS.s_keySeries (MS.s_keyTimes (MS.s_pile (MS.s_isCell (MS.s_cells (MS.s_rowSeries (MS.s_tableRows z (va_up z.tableRows x.pile b9)) r9x) u9c) i9) (z.pile + 1)) c3) c4) c5) c6)) H := hP
          have hD : va_D A (MW dA h ad (MS.s_hasBefore (MS.s_befores (MS.s_keySeries (MS.s_keyTimes (MS.s_pile (MS.s_isCell (MS.s_cells (MS.s_rowSeries (MS.s_tableRows z (va_up z.tableRows x.pile b9)) r9x) u9c) i9) (z.pile + 1)) c3) c4) c5) c6)) := hD
          exact rfV hx hb hr hlk hS (MS.s_hasBefore (MS.s_befores (MS.s_keySeries (MS.s_keyTimes (MS.s_pile (MS.s_isCell (MS.s_cells (MS.s_rowSeries (MS.s_tableRows z (va_up z.tableRows x.pile b9)) r9x) u9c) i9) (z.pile + 1)) c3) c4) c5) c6) (by show _ = MS.swS (MS.s_pile (MS.pt (x.grS x.pile p7) ((x.grS x.pile p7).rkG x.pile wh (x.grS x.pile p7).points)) ((x.grS x.pile p7).pile + 1)) x.pile; rw [← ez, hk]; exact (swS_eq (x := MS.s_pile (MS.pt z (c1, c2, c3, c4, c5, c6)) (z.pile + 1)) (t := x.pile) hsw).symm) hP hD (Nat.le_of_ble_eq_true rfl) (Nat.le_of_ble_eq_true rfl) d_M_reckon_166
        · have g1 := mt (nI_leI (a := z.points) (b := q) (by omega) (by omega)).mpr g1
          have s7 := hps q (by omega)
          have s8 : z.pointSeries q < 256 := by rw [z2]; exact s7
          refine lv_aload_n hx hb d_M_reckon_23 rfl (lv_at hl 4 rfl) ?_
          refine gF (v := .ref (ad 17)) hx hb hown hE hK hP 0 rfl rfl layM 17 (by decide) w503 rfl d_M_reckon_24 ?_
          refine lv_iload hx hb d_M_reckon_27 (lv_at hl 0 rfl) ?_
          refine nild (f := (fun z9 => nI (z.pointSeries z9))) hx hb hK hP 6 1 rfl rfl (q) (by omega) (by decide) d_M_reckon_29 ?_
          refine lv_istore hx hb d_M_reckon_30 hl (by decide) rfl (fun ls hl => ?_)
          have hl : lv_has ls 8 [(5, .int (nI (z.pointSeries q))), (4, .int (nI q)), (1, .int (nI wh)), (2, .int (nI p7)), (3, .int (nI x.pile)), (0, .ref h)] := hl
          refine lv_aload_n hx hb d_M_reckon_32 rfl (lv_at hl 5 rfl) ?_
          refine lv_iload hx hb d_M_reckon_33 (lv_at hl 1 rfl) ?_
          refine jfI (rnV (As := [.int (nI q)]) (rest := []) hx hb hml hown hE hK (hN _ _ hS) hP hD (k_isSeen l D dA H.size h ad (MS.s_hasBefore (MS.s_befores (MS.s_keySeries (MS.s_keyTimes (MS.s_isCell (MS.s_cells z c2) c1) c3) c4) c5) c6) q (show q < 12000 from by omega)) (q0 := 0) rfl rfl w861 w860 w862 w863 w328 rfl rfl ⟨⟨by decide, by decide⟩, rfl⟩ ⟨(Nat.le_of_ble_eq_true rfl), (Nat.le_of_ble_eq_true rfl)⟩ rfl hl.1 rfl (Nat.le_of_ble_eq_true rfl) d_M_reckon_35 ⟨(Nat.le_of_ble_eq_true rfl), (Nat.le_of_ble_eq_true rfl)⟩) hP hD hS hA (fun r4 u5 H locs hp9 hP hD hS => ?_)
          have hP : va_P D vwCl (MW dA h ad (MS.s_hasBefore (MS.s_befores (MS.s_keySeries (MS.s_keyTimes (MS.s_isCell (MS.s_cells z c2) c1) c3) c4) c5) c6)) H := hP
          have hD : va_D A (MW dA h ad (MS.s_hasBefore (MS.s_befores (MS.s_keySeries (MS.s_keyTimes (MS.s_isCell (MS.s_cells z c2) c1) c3) c4) c5) c6)) := hD
          replace hp9 : bI (z.seen q) = r4 := Eq.symm hp9
          subst hp9
          refine lv_if_eq hx hb d_M_reckon_38 (tgt := 145) rfl (fun g6 => ?_) (fun g6 => ?_)
          · have g6 := bI_0 g6
            refine lv_iinc (k := 1) (v := nI (q + 1)) hx hb d_M_reckon_145 hl rfl (iincN (q) 1 1 (by decide)) (by decide) rfl (fun ls hl => ?_)
            have hl : lv_has ls 8 [(4, .int (nI (q + 1))), (5, .int (nI (z.pointSeries q))), (1, .int (nI wh)), (2, .int (nI p7)), (3, .int (nI x.pile)), (0, .ref h)] := hl
            refine lv_goto hx hb d_M_reckon_148 (tgt := 14) rfl ?_
            exact ih14 _ (by omega) (q + 1) c1 c2 c3 c4 c5 c6 (by omega) (rk_n i2 (Or.inl g6)) i4 rfl H _ ls hP hD hS (lv_sub hl [0, 2, 3, 4, 5] rfl)
          · have g6 := bI_n0 g6
            refine lv_iload hx hb d_M_reckon_41 (lv_at hl 0 rfl) ?_
            refine lv_aload_n hx hb d_M_reckon_43 rfl (lv_at hl 5 rfl) ?_
            refine gF (v := .int (nI z.seriesCount)) hx hb hown hE hK hP 0 rfl rfl layM 12 (by decide) w332 rfl d_M_reckon_44 ?_
            refine lv_icmp_lt hx hb d_M_reckon_47 (tgt := 53) rfl (fun g7 => ?_) (fun g7 => ?_)
            · have g7 := (nI_ltI (a := z.pointSeries q) (b := z.seriesCount) (by omega) (by omega)).mp g7
              refine lv_aload_n hx hb d_M_reckon_53 rfl (lv_at hl 5 rfl) ?_
              refine gF (v := .ref (ad 18)) hx hb hown hE hK hP 0 rfl rfl layM 18 (by decide) w504 rfl d_M_reckon_54 ?_
              refine lv_iload hx hb d_M_reckon_57 (lv_at hl 1 rfl) ?_
              refine nlld (f := z.pointTimes) hx hb hK hP 7 2 rfl rfl (q) (by omega) (by decide) d_M_reckon_59 ?_
              refine lv_aload_n hx hb d_M_reckon_60 rfl (lv_at hl 5 rfl) ?_
              refine gF (v := .long z.windowsFrom) hx hb hown hE hK hP 0 rfl rfl layM 57 (by decide) w487 rfl d_M_reckon_61 ?_
              refine lv_lsub hx hb d_M_reckon_64 ?_
              refine lv_lstore hx hb d_M_reckon_65 hl (by decide) rfl (fun ls hl => ?_)
              have hl : lv_has ls 8 [(6, .long ((z.pointTimes q) - z.windowsFrom)), (5, .int (nI (z.pointSeries q))), (4, .int (nI q)), (1, .int (nI wh)), (2, .int (nI p7)), (3, .int (nI x.pile)), (0, .ref h)] := hl
              have J123 : ∀ (a1 : Nat → Bool) (a2 : Nat → Int64) (a3 : Nat → Int64) (a4 : Nat → Nat) (e9 : z.rkA x.pile wh q (c1, c2, c3, c4, c5, c6) = (a1, a2, a3, a4)) (e8 : ∀ q : Nat, a4 q < 256), ∀ (H : Heap) (locs : List Loc) (ls : Array Slot) (hP : va_P D vwCl (MW dA h ad (MS.s_hasBefore (MS.s_befores (MS.s_keySeries (MS.s_keyTimes (MS.s_isCell (MS.s_cells z a2) a1) a3) a4) c5) c6)) H) (hD : va_D A (MW dA h ad (MS.s_hasBefore (MS.s_befores (MS.s_keySeries (MS.s_keyTimes (MS.s_isCell (MS.s_cells z a2) a1) a3) a4) c5) c6))) (hS : va_S A s.heap H locs) (hl : lv_has ls 8 [(5, .int (nI (z.pointSeries q))), (6, .long (z.pointTimes q - z.windowsFrom)), (4, .int (nI q)), (1, .int (nI wh)), (2, .int (nI p7)), (3, .int (nI x.pile)), (0, .ref h)]), W p l e ({ frames := 4, cells := 0, slots := 0, locals := 86 } : Room) s m ([.ref h, .int (nI wh), .int (nI p7)] : List Value).toArray below meth c H locs 0 0 (MQ below (va_Qv (fun (u9 : MS) => u9 = x.rkS wh p7) (fun (u9 : MS) t9 => bW D A (MW dA h ad u9) t9) A) ([.ref h, .int (nI wh), .int (nI p7)] : List Value).toArray s 0 0 A) (F0 m 123 ls []) := by
                intro a1 a2 a3 a4 e9 e8 H locs ls hP hD hS hl
                refine lv_aload_n hx hb d_M_reckon_123 rfl (lv_at hl 6 rfl) ?_
                refine gF (v := .ref (ad 64)) hx hb hown hE hK hP 0 rfl rfl layM 64 (by decide) w530 rfl d_M_reckon_124 ?_
                refine lv_iload hx hb d_M_reckon_127 (lv_at hl 0 rfl) ?_
                refine lv_aload_n hx hb d_M_reckon_129 rfl (lv_at hl 6 rfl) ?_
                refine gF (v := .ref (ad 19)) hx hb hown hE hK hP 0 rfl rfl layM 19 (by decide) w505 rfl d_M_reckon_130 ?_
                refine lv_iload hx hb d_M_reckon_133 (lv_at hl 2 rfl) ?_
                refine nlld (f := z.pointValues) hx hb hK hP 8 2 rfl rfl (q) (by omega) (by decide) d_M_reckon_135 ?_
                refine nlst hx hb hK hP hD hS 31 2 rfl rfl (z.pointSeries q) (by omega) (by decide) d_M_reckon_136 (fun H locs hP hD hS => ?_)
                have hP : va_P D vwCl (MW dA h ad (MS.s_hasBefore (MS.s_befores (MS.s_keySeries (MS.s_keyTimes (MS.s_isCell (MS.s_cells z a2) a1) a3) a4) (va_up c5 (z.pointSeries q) (z.pointValues q))) c6)) H := hP
                have hD : va_D A (MW dA h ad (MS.s_hasBefore (MS.s_befores (MS.s_keySeries (MS.s_keyTimes (MS.s_isCell (MS.s_cells z a2) a1) a3) a4) (va_up c5 (z.pointSeries q) (z.pointValues q))) c6)) := hD
                refine lv_aload_n hx hb d_M_reckon_137 rfl (lv_at hl 6 rfl) ?_
                refine gF (v := .ref (ad 65)) hx hb hown hE hK hP 0 rfl rfl layM 65 (by decide) w531 rfl d_M_reckon_138 ?_
                refine lv_iload hx hb d_M_reckon_141 (lv_at hl 0 rfl) ?_
                refine lv_iconst (v := 1) hx hb d_M_reckon_143 (by decide) ?_
                refine nzstB (v := true) hx hb hK hP hD hS 32 3 rfl rfl (z.pointSeries q) (by omega) (by decide) d_M_reckon_144 (fun H locs hP hD hS => ?_)
                have hP : va_P D vwCl (MW dA h ad (MS.s_hasBefore (MS.s_befores (MS.s_keySeries (MS.s_keyTimes (MS.s_isCell (MS.s_cells z a2) a1) a3) a4) (va_up c5 (z.pointSeries q) (z.pointValues q))) (va_up c6 (z.pointSeries q) true))) H := hP
                have hD : va_D A (MW dA h ad (MS.s_hasBefore (MS.s_befores (MS.s_keySeries (MS.s_keyTimes (MS.s_isCell (MS.s_cells z a2) a1) a3) a4) (va_up c5 (z.pointSeries q) (z.pointValues q))) (va_up c6 (z.pointSeries q) true))) := hD
                refine lv_iinc (k := 2) (v := nI (q + 1)) hx hb d_M_reckon_145 hl rfl (iincN (q) 1 1 (by decide)) (by decide) rfl (fun ls hl => ?_)
                have hl : lv_has ls 8 [(4, .int (nI (q + 1))), (5, .int (nI (z.pointSeries q))), (6, .long (z.pointTimes q - z.windowsFrom)), (1, .int (nI wh)), (2, .int (nI p7)), (3, .int (nI x.pile)), (0, .ref h)] := hl
                refine lv_goto hx hb d_M_reckon_148 (tgt := 14) rfl ?_
                exact ih14 _ (by omega) (q + 1) a1 a2 a3 a4 (va_up c5 (z.pointSeries q) (z.pointValues q)) (va_up c6 (z.pointSeries q) true) (by omega) (rk_y i2 g6 (by omega) e9) e8 rfl H _ ls hP hD hS (lv_sub hl [0, 3, 4, 5, 6] rfl)
              refine lv_aload_n hx hb d_M_reckon_67 rfl (lv_at hl 6 rfl) ?_
              refine gF (v := .ref (ad 61)) hx hb hown hE hK hP 0 rfl rfl layM 61 (by decide) w527 rfl d_M_reckon_68 ?_
              refine lv_iload hx hb d_M_reckon_71 (lv_at hl 1 rfl) ?_
              refine nild (f := z.rowOf) hx hb hK hP 28 1 rfl rfl (z.pointSeries q) (by omega) (by decide) d_M_reckon_73 ?_
              refine lv_if_lt hx hb d_M_reckon_74 (tgt := 123) rfl (fun g8 => ?_) (fun g8 => ?_)
              · have g8 := g8
                exact J123 c1 c2 c3 c4 (if_neg (by show ¬ (!decide _ && (!decide _ && !decide _)) = true; rw [decide_eq_true g8]; exact fun z9 => Bool.noConfusion z9)) i4 H _ ls hP hD hS (lv_sub hl [1, 0, 2, 3, 4, 5, 6] rfl)
              · have g8 := g8
                refine lv_lload hx hb d_M_reckon_77 (lv_at hl 0 rfl) ?_
                refine lv_lconst (v := 0) hx hb d_M_reckon_79 (by decide) ?_
                refine W.lcmp hx hb d_M_reckon_80 ?_
                refine lv_if_lt hx hb d_M_reckon_81 (tgt := 123) rfl (fun g9 => ?_) (fun g9 => ?_)
                · have g9 := (lg_cmp_lt _ _).mp g9
                  exact J123 c1 c2 c3 c4 (if_neg (by show ¬ (!decide _ && (!decide _ && !decide _)) = true; rw [decide_eq_false g8, decide_eq_true g9]; exact fun z9 => Bool.noConfusion z9)) i4 H _ ls hP hD hS (lv_sub hl [1, 0, 2, 3, 4, 5, 6] rfl)
                · have g9 := mt (lg_cmp_lt _ _).mpr g9
                  refine lv_lload hx hb d_M_reckon_84 (lv_at hl 0 rfl) ?_
                  refine lv_aload_n hx hb d_M_reckon_86 rfl (lv_at hl 6 rfl) ?_
                  refine gF (v := .long z.width) hx hb hown hE hK hP 0 rfl rfl layM 58 (by decide) w488 rfl d_M_reckon_87 ?_
                  refine lv_ldiv hx hb d_M_reckon_90 (wd_nz (by rw [z4]; exact hwd)) ?_
                  refine lv_aload_n hx hb d_M_reckon_91 rfl (lv_at hl 6 rfl) ?_
                  refine gF (v := .int (nI z.windows)) hx hb hown hE hK hP 0 rfl rfl layM 59 (by decide) w489 rfl d_M_reckon_92 ?_
                  refine lv_i2l (v := lN (z.windows)) hx hb d_M_reckon_95 (nI_l (by omega)) ?_
                  refine W.lcmp hx hb d_M_reckon_96 ?_
                  refine lv_if_ge hx hb d_M_reckon_97 (tgt := 123) rfl (fun g10 => ?_) (fun g10 => ?_)
                  · have g10 := (lg_cmp_ge _ _).mp g10
                    exact J123 c1 c2 c3 c4 (if_neg (by show ¬ (!decide _ && (!decide _ && !decide _)) = true; rw [decide_eq_false g8, decide_eq_false g9, decide_eq_true g10]; exact fun z9 => Bool.noConfusion z9)) i4 H _ ls hP hD hS (lv_sub hl [1, 0, 2, 3, 4, 5, 6] rfl)
                  · have g10 := mt (lg_cmp_ge _ _).mpr g10
                    have y1 : 0 ≤ z.pointTimes q - z.windowsFrom := Int64.not_lt.mp g9
                    have y2 : 1 ≤ z.width := by rw [z4]; exact hwd
                    have y3 := wN_lt y1 y2 (by omega) (Int64.not_le.mp g10)
                    have y4 : i2n (z.rowOf (z.pointSeries q)) < 256 := by rw [z6]; exact ro_lt n9l (hro _ (by omega))
                    refine lv_aload_n hx hb d_M_reckon_100 rfl (lv_at hl 6 rfl) ?_
                    refine lv_iload_n hx hb d_M_reckon_101 rfl (lv_at hl 5 rfl) ?_
                    refine lv_iload_n hx hb d_M_reckon_102 rfl (lv_at hl 3 rfl) ?_
                    refine lv_iload hx hb d_M_reckon_103 (lv_at hl 2 rfl) ?_
                    refine lv_aload_n hx hb d_M_reckon_105 rfl (lv_at hl 6 rfl) ?_
                    refine gF (v := .ref (ad 61)) hx hb hown hE hK hP 0 rfl rfl layM 61 (by decide) w527 rfl d_M_reckon_106 ?_
                    refine lv_iload hx hb d_M_reckon_109 (lv_at hl 1 rfl) ?_
                    refine nild (f := z.rowOf) hx hb hK hP 28 1 rfl rfl (z.pointSeries q) (by omega) (by decide) d_M_reckon_111 ?_
                    refine tpi (y := nI (i2n (z.rowOf (z.pointSeries q)))) (i2n_nI (Int32.not_lt.mp g8)) ?_
                    refine lv_lload hx hb d_M_reckon_112 (lv_at hl 0 rfl) ?_
                    refine lv_aload_n hx hb d_M_reckon_114 rfl (lv_at hl 6 rfl) ?_
                    refine gF (v := .long z.width) hx hb hown hE hK hP 0 rfl rfl layM 58 (by decide) w488 rfl d_M_reckon_115 ?_
                    refine lv_ldiv hx hb d_M_reckon_118 (wd_nz (by rw [z4]; exact hwd)) ?_
                    refine lv_l2i hx hb d_M_reckon_119 rfl ?_
                    refine tpi (y := nI (wN (z.pointTimes q - z.windowsFrom) z.width)) (by rw [wN_eq y1 y2]; exact lN_i _) ?_
                    refine jfV (rnV (As := [.int (nI x.pile), .int (nI wh), .int (nI q), .int (nI (i2n (z.rowOf (z.pointSeries q)))), .int (nI (wN (z.pointTimes q - z.windowsFrom) z.width))]) (rest := []) hx hb hml hown hE hK (hN _ _ hS) hP hD (k_gather l D dA H.size h ad (MS.s_hasBefore (MS.s_befores (MS.s_keySeries (MS.s_keyTimes (MS.s_isCell (MS.s_cells z c2) c1) c3) c4) c5) c6) x.pile wh q (i2n (z.rowOf (z.pointSeries q))) (wN (z.pointTimes q - z.windowsFrom) z.width) hpl y4 (show (wN (z.pointTimes q - z.windowsFrom) z.width) < 64 from by omega) (show q < 12000 from by omega) s8 (i4 _) hwh) (q0 := 0) rfl rfl w995 w994 w996 w997 w328 rfl rfl ⟨⟨by decide, by decide⟩, rfl⟩ ⟨(Nat.le_of_ble_eq_true rfl), (Nat.le_of_ble_eq_true rfl)⟩ rfl hl.1 rfl (Nat.le_of_ble_eq_true rfl) d_M_reckon_120 ⟨(Nat.le_of_ble_eq_true rfl), (Nat.le_of_ble_eq_true rfl)⟩) hP hD hS hA (fun u12 H locs hp9 hP hD hS => ?_)
                    have hP : va_P D vwCl (MW dA h ad (MS.s_hasBefore (MS.s_befores (MS.s_keySeries (MS.s_keyTimes (MS.s_isCell (MS.s_cells z (((MS.s_hasBefore (MS.s_befores (MS.s_keySeries (MS.s_keyTimes (MS.s_isCell (MS.s_cells z c2) c1) c3) c4) c5) c6).ga x.pile wh q (i2n (z.rowOf (z.pointSeries q))) (wN (z.pointTimes q - z.windowsFrom) z.width)).2.1)) (((MS.s_hasBefore (MS.s_befores (MS.s_keySeries (MS.s_keyTimes (MS.s_isCell (MS.s_cells z c2) c1) c3) c4) c5) c6).ga x.pile wh q (i2n (z.rowOf (z.pointSeries q))) (wN (z.pointTimes q - z.windowsFrom) z.width)).1)) (((MS.s_hasBefore (MS.s_befores (MS.s_keySeries (MS.s_keyTimes (MS.s_isCell (MS.s_cells z c2) c1) c3) c4) c5) c6).ga x.pile wh q (i2n (z.rowOf (z.pointSeries q))) (wN (z.pointTimes q - z.windowsFrom) z.width)).2.2.1)) (((MS.s_hasBefore (MS.s_befores (MS.s_keySeries (MS.s_keyTimes (MS.s_isCell (MS.s_cells z c2) c1) c3) c4) c5) c6).ga x.pile wh q (i2n (z.rowOf (z.pointSeries q))) (wN (z.pointTimes q - z.windowsFrom) z.width)).2.2.2)) c5) c6)) H := hP
                    have hD : va_D A (MW dA h ad (MS.s_hasBefore (MS.s_befores (MS.s_keySeries (MS.s_keyTimes (MS.s_isCell (MS.s_cells z (((MS.s_hasBefore (MS.s_befores (MS.s_keySeries (MS.s_keyTimes (MS.s_isCell (MS.s_cells z c2) c1) c3) c4) c5) c6).ga x.pile wh q (i2n (z.rowOf (z.pointSeries q))) (wN (z.pointTimes q - z.windowsFrom) z.width)).2.1)) (((MS.s_hasBefore (MS.s_befores (MS.s_keySeries (MS.s_keyTimes (MS.s_isCell (MS.s_cells z c2) c1) c3) c4) c5) c6).ga x.pile wh q (i2n (z.rowOf (z.pointSeries q))) (wN (z.pointTimes q - z.windowsFrom) z.width)).1)) (((MS.s_hasBefore (MS.s_befores (MS.s_keySeries (MS.s_keyTimes (MS.s_isCell (MS.s_cells z c2) c1) c3) c4) c5) c6).ga x.pile wh q (i2n (z.rowOf (z.pointSeries q))) (wN (z.pointTimes q - z.windowsFrom) z.width)).2.2.1)) (((MS.s_hasBefore (MS.s_befores (MS.s_keySeries (MS.s_keyTimes (MS.s_isCell (MS.s_cells z c2) c1) c3) c4) c5) c6).ga x.pile wh q (i2n (z.rowOf (z.pointSeries q))) (wN (z.pointTimes q - z.windowsFrom) z.width)).2.2.2)) c5) c6)) := hD
                    exact J123 (((MS.s_hasBefore (MS.s_befores (MS.s_keySeries (MS.s_keyTimes (MS.s_isCell (MS.s_cells z c2) c1) c3) c4) c5) c6).ga x.pile wh q (i2n (z.rowOf (z.pointSeries q))) (wN (z.pointTimes q - z.windowsFrom) z.width)).1) (((MS.s_hasBefore (MS.s_befores (MS.s_keySeries (MS.s_keyTimes (MS.s_isCell (MS.s_cells z c2) c1) c3) c4) c5) c6).ga x.pile wh q (i2n (z.rowOf (z.pointSeries q))) (wN (z.pointTimes q - z.windowsFrom) z.width)).2.1) (((MS.s_hasBefore (MS.s_befores (MS.s_keySeries (MS.s_keyTimes (MS.s_isCell (MS.s_cells z c2) c1) c3) c4) c5) c6).ga x.pile wh q (i2n (z.rowOf (z.pointSeries q))) (wN (z.pointTimes q - z.windowsFrom) z.width)).2.2.1) (((MS.s_hasBefore (MS.s_befores (MS.s_keySeries (MS.s_keyTimes (MS.s_isCell (MS.s_cells z c2) c1) c3) c4) c5) c6).ga x.pile wh q (i2n (z.rowOf (z.pointSeries q))) (wN (z.pointTimes q - z.windowsFrom) z.width)).2.2.2) (if_pos (by show (!decide _ && (!decide _ && !decide _)) = true; rw [decide_eq_false g8, decide_eq_false g9, decide_eq_false g10]; rfl)) (ga_ks (x := z.pt (c1, c2, c3, c4, c5, c6)) i4 s8) H _ ls hP hD hS (lv_sub hl [1, 0, 2, 3, 4, 5, 6] rfl)
            · have g7 := mt (nI_ltI (a := z.pointSeries q) (b := z.seriesCount) (by omega) (by omega)).mpr g7
              refine lv_goto hx hb d_M_reckon_50 (tgt := 145) rfl ?_
              refine lv_iinc (k := 1) (v := nI (q + 1)) hx hb d_M_reckon_145 hl rfl (iincN (q) 1 1 (by decide)) (by decide) rfl (fun ls hl => ?_)
              have hl : lv_has ls 8 [(4, .int (nI (q + 1))), (5, .int (nI (z.pointSeries q))), (1, .int (nI wh)), (2, .int (nI p7)), (3, .int (nI x.pile)), (0, .ref h)] := hl
              refine lv_goto hx hb d_M_reckon_148 (tgt := 14) rfl ?_
              exact ih14 _ (by omega) (q + 1) c1 c2 c3 c4 c5 c6 (by omega) (rk_n i2 (Or.inr (by omega))) i4 rfl H _ ls hP hD hS (lv_sub hl [0, 2, 3, 4, 5] rfl)
    exact L14 _ 0 z.isCell z.cells z.keyTimes z.keySeries z.befores z.hasBefore (Nat.zero_le _) rfl (by rw [z5]; exact hks) rfl H _ ls hP hD hS (lv_sub hl [0, 1, 2, 3, 4] rfl)
  refine lv_aload_n hx hb d_M_reckon_5 rfl (lv_at hl 1 rfl) ?_
  refine lv_iload_n hx hb d_M_reckon_6 rfl (lv_at hl 0 rfl) ?_
  refine lv_iload_n hx hb d_M_reckon_7 rfl (lv_at hl 3 rfl) ?_
  refine jfV (rnV (As := [.int (nI x.pile), .int (nI p7)]) (rest := []) hx hb hml hown hE hK (hN _ _ hS) hP hD (k_group l D dA H.size h ad x x.pile p7 n9 rs9 ro9 hb9 v9 (show x.seriesCount ≤ 256 from by omega) hts hmo hno (show x.length ≤ 65536 from by omega) hgr) (q0 := 0) rfl rfl w999 w998 w1000 w1001 w328 rfl rfl ⟨⟨by decide, by decide⟩, rfl⟩ ⟨(Nat.le_of_ble_eq_true rfl), (Nat.le_of_ble_eq_true rfl)⟩ rfl hl.1 rfl (Nat.le_of_ble_eq_true rfl) d_M_reckon_8 ⟨(Nat.le_of_ble_eq_true rfl), (Nat.le_of_ble_eq_true rfl)⟩) hP hD hS hA (fun u14 H locs hp9 hP hD hS => ?_)
  have hP : va_P D vwCl (MW dA h ad (MS.s_hasBefore (MS.s_rowOf (MS.s_valueLength (MS.s_isCell (MS.s_cells (MS.s_rowSeries (MS.s_tableRows x (va_up x.tableRows x.pile n9)) rs9) (filG x.cells (x.pile * 256 * 64) 0 (n9 * 64))) (filG x.isCell (x.pile * 256 * 64) false (n9 * 64))) v9) ro9) hb9)) H := hP
  have hD : va_D A (MW dA h ad (MS.s_hasBefore (MS.s_rowOf (MS.s_valueLength (MS.s_isCell (MS.s_cells (MS.s_rowSeries (MS.s_tableRows x (va_up x.tableRows x.pile n9)) rs9) (filG x.cells (x.pile * 256 * 64) 0 (n9 * 64))) (filG x.isCell (x.pile * 256 * 64) false (n9 * 64))) v9) ro9) hb9)) := hD
  exact J11 (MS.s_hasBefore (MS.s_rowOf (MS.s_valueLength (MS.s_isCell (MS.s_cells (MS.s_rowSeries (MS.s_tableRows x (va_up x.tableRows x.pile n9)) rs9) (filG x.cells (x.pile * 256 * 64) 0 (n9 * 64))) (filG x.isCell (x.pile * 256 * 64) false (n9 * 64))) v9) ro9) hb9) (by unfold MS.grS; rw [hgr]) rfl rfl rfl rfl rfl rfl (va_us _ _ _) rfl rfl H _ ls hP hD hS (lv_sub hl [2, 3, 0, 1] rfl)
end
section
/-- the row of table b with the texts of series s, by the names of table a -/
def MS.fo (x : MS) (a s b : Nat) (rs : Nat → Nat) (n : Nat) : Nat → Nat → Nat → Nat × Nat
  | 0, o, v => (o, v)
  | w + 1, o, v => if n ≤ o then (o, v) else if ((MS.s_valueLength x v).cr a s (rs (256 * b + o))).1 = 0 then (o, ((MS.s_valueLength x v).cr a s (rs (256 * b + o))).2) else x.fo a s b rs n w (o + 1) ((MS.s_valueLength x v).cr a s (rs (256 * b + o))).2
theorem fo_e {x : MS} {a s b n w o v : Nat} {rs : Nat → Nat} (h : n ≤ o) : x.fo a s b rs n w o v = (o, v) := by
  cases w with
  | zero => rfl
  | succ w => exact if_pos h
theorem fo_y {x : MS} {a s b n w o v : Nat} {rs : Nat → Nat} (hw : 0 < w) (h : ¬ n ≤ o) (h2 : ((MS.s_valueLength x v).cr a s (rs (256 * b + o))).1 = 0) : x.fo a s b rs n w o v = (o, ((MS.s_valueLength x v).cr a s (rs (256 * b + o))).2) := by
  obtain ⟨d, rfl⟩ : ∃ d, w = d + 1 := ⟨w - 1, by omega⟩
  show (if n ≤ o then (o, v) else if ((MS.s_valueLength x v).cr a s (rs (256 * b + o))).1 = 0 then _ else _) = _
  rw [if_neg h, if_pos h2]
theorem fo_n {x : MS} {a s b n w o v : Nat} {rs : Nat → Nat} (hw : 0 < w) (h : ¬ n ≤ o) (h2 : ¬ ((MS.s_valueLength x v).cr a s (rs (256 * b + o))).1 = 0) : x.fo a s b rs n w o v = x.fo a s b rs n (w - 1) (o + 1) ((MS.s_valueLength x v).cr a s (rs (256 * b + o))).2 := by
  obtain ⟨d, rfl⟩ : ∃ d, w = d + 1 := ⟨w - 1, by omega⟩
  show (if n ≤ o then (o, v) else if ((MS.s_valueLength x v).cr a s (rs (256 * b + o))).1 = 0 then _ else _) = _
  rw [if_neg h, if_neg h2]
  rfl
abbrev meT : Type := Nat × jT × (Nat → Nat) × Nat
def MS.me2 (x : MS) (sg : Int32) (a b r : Nat) (n : Nat) (g : jT) (rs : Nat → Nat) (o v : Nat) : meT := if o = x.tableRows b then (n, g, rs, v) else (n + 1, jrG sg g (cA a n) (cA a r) (cA b o) x.windows, va_up rs (256 * a + n) (rs (256 * a + r)), v)
def MS.me1 (x : MS) (sg : Int32) (a b r : Nat) (g : meT) : meT :=
  x.me2 sg a b r g.1 g.2.1 g.2.2.1 (x.fo a (g.2.2.1 (256 * a + r)) b g.2.2.1 (x.tableRows b) (x.tableRows b + 1) 0 g.2.2.2).1 (x.fo a (g.2.2.1 (256 * a + r)) b g.2.2.1 (x.tableRows b) (x.tableRows b + 1) 0 g.2.2.2).2
/-- r rows of table a met with those of table b -/
def MS.meG (x : MS) (sg : Int32) (a b : Nat) : Nat → meT
  | 0 => (0, (x.isCell, x.cells), x.rowSeries, x.valueLength)
  | r + 1 => x.me1 sg a b r (x.meG sg a b r)
theorem me_s {x : MS} {sg : Int32} {a b r n v o v2 : Nat} {g : jT} {rs : Nat → Nat} (h : x.meG sg a b r = (n, g, rs, v)) (hf : x.fo a (rs (256 * a + r)) b rs (x.tableRows b) (x.tableRows b + 1) 0 v = (o, v2)) : x.meG sg a b (r + 1) = x.me2 sg a b r n g rs o v2 := by
  show x.me1 sg a b r (x.meG sg a b r) = _
  rw [h]
  show x.me2 sg a b r n g rs (x.fo a (rs (256 * a + r)) b rs (x.tableRows b) (x.tableRows b + 1) 0 v).1 (x.fo a (rs (256 * a + r)) b rs (x.tableRows b) (x.tableRows b + 1) 0 v).2 = _
  rw [hf]
theorem me_up {rs r0 : Nat → Nat} {a r n v : Nat} (h : ∀ q : Nat, 256 * a + r ≤ q → rs q = r0 q) (hn : n ≤ r) : ∀ q : Nat, 256 * a + (r + 1) ≤ q → va_up rs (256 * a + n) v q = r0 q := by
  intro q hq
  show (if q = 256 * a + n then v else rs q) = r0 q
  rw [if_neg (by omega)]
  exact h q (by omega)
/-- r rows of table a joined with the one row of table b -/
def obG (sg : Int32) (g : jT) (a b w : Nat) : Nat → jT
  | 0 => g
  | r + 1 => jrG sg (obG sg g a b w r) (cA a r) (cA a r) (cA b 0) w
theorem me_le' {x : MS} {sg : Int32} {a b : Nat} : ∀ r, (x.meG sg a b r).1 ≤ r
  | 0 => Nat.le_refl 0
  | r + 1 => by
    have ih := me_le' (x := x) (sg := sg) (a := a) (b := b) r
    show (x.me1 sg a b r (x.meG sg a b r)).1 ≤ r + 1
    unfold MS.me1 MS.me2
    split
    · exact Nat.le_succ_of_le ih
    · exact Nat.succ_le_succ ih
theorem me_le {x : MS} {sg : Int32} {a b r n v : Nat} {g : jT} {rs : Nat → Nat} (h : x.meG sg a b r = (n, g, rs, v)) : n ≤ r := by
  have := me_le' (x := x) (sg := sg) (a := a) (b := b) r
  rw [h] at this
  exact this
theorem sm_rows {x : MS} {a b : Nat} (h : x.smN a b = true) (hb : ∀ q : Nat, q < x.tableRows b → x.tableNames b = 0 ∨ x.tOK (x.rowSeries (256 * b + q))) : ∀ q : Nat, q < x.tableRows b → x.tableNames a = 0 ∨ x.tOK (x.rowSeries (256 * b + q)) := by
  intro q hq
  unfold MS.smN at h
  rw [Bool.and_eq_true] at h
  rw [of_decide_eq_true h.1]
  exact hb q hq
theorem ob_s {sg : Int32} {g0 : jT} {a b n w u r : Nat} {i2 i3 : Nat → Bool} {c2 c3 : Nat → Int64} (h : (if 0 < n then obG sg g0 a b u r else g0) = (i2, c2)) (hj : jrG sg (i2, c2) (cA a r) (cA a r) (cA b 0) w = (i3, c3)) (hw : w = u ∨ (w = 0 ∧ n = 0)) (h3 : w = 0 ∨ 0 < n) : (if 0 < n then obG sg g0 a b u (r + 1) else g0) = (i3, c3) := by
  by_cases hn : 0 < n
  · rw [if_pos hn] at h ⊢
    have hw2 : w = u := by omega
    subst hw2
    show jrG sg (obG sg g0 a b w r) (cA a r) (cA a r) (cA b 0) w = _
    rw [h]
    exact hj
  · rw [if_neg hn] at h ⊢
    have hw0 : w = 0 := by omega
    subst hw0
    exact h.trans hj
theorem d_M_meet_0 : decode prog_14_method_76_code 0 = .ok (.iconst 0, 1) := by decide +kernel
theorem d_M_meet_1 : decode prog_14_method_76_code 1 = .ok (.istore 4, 2) := by decide +kernel
theorem d_M_meet_3 : decode prog_14_method_76_code 3 = .ok (.iconst 0, 1) := by decide +kernel
theorem d_M_meet_4 : decode prog_14_method_76_code 4 = .ok (.istore 5, 2) := by decide +kernel
theorem d_M_meet_6 : decode prog_14_method_76_code 6 = .ok (.iload 5, 2) := by decide +kernel
theorem d_M_meet_8 : decode prog_14_method_76_code 8 = .ok (.aload_n 0, 1) := by decide +kernel
theorem d_M_meet_9 : decode prog_14_method_76_code 9 = .ok (.getfield 97, 3) := by decide +kernel
theorem d_M_meet_12 : decode prog_14_method_76_code 12 = .ok (.iload_n 2, 1) := by decide +kernel
theorem d_M_meet_13 : decode prog_14_method_76_code 13 = .ok (.iaload, 1) := by decide +kernel
theorem d_M_meet_14 : decode prog_14_method_76_code 14 = .ok (.if_icmp .ge 153, 3) := by decide +kernel
theorem d_M_meet_167 : decode prog_14_method_76_code 167 = .ok (.aload_n 0, 1) := by decide +kernel
theorem d_M_meet_168 : decode prog_14_method_76_code 168 = .ok (.getfield 97, 3) := by decide +kernel
theorem d_M_meet_171 : decode prog_14_method_76_code 171 = .ok (.iload_n 2, 1) := by decide +kernel
theorem d_M_meet_172 : decode prog_14_method_76_code 172 = .ok (.iload 4, 2) := by decide +kernel
theorem d_M_meet_174 : decode prog_14_method_76_code 174 = .ok (.iastore, 1) := by decide +kernel
theorem d_M_meet_175 : decode prog_14_method_76_code 175 = .ok (.return_, 1) := by decide +kernel
theorem d_M_meet_71 : decode prog_14_method_76_code 71 = .ok (.iload 6, 2) := by decide +kernel
theorem d_M_meet_73 : decode prog_14_method_76_code 73 = .ok (.aload_n 0, 1) := by decide +kernel
theorem d_M_meet_74 : decode prog_14_method_76_code 74 = .ok (.getfield 97, 3) := by decide +kernel
theorem d_M_meet_77 : decode prog_14_method_76_code 77 = .ok (.iload_n 3, 1) := by decide +kernel
theorem d_M_meet_78 : decode prog_14_method_76_code 78 = .ok (.iaload, 1) := by decide +kernel
theorem d_M_meet_79 : decode prog_14_method_76_code 79 = .ok (.if_icmp .ne 6, 3) := by decide +kernel
theorem d_M_meet_85 : decode prog_14_method_76_code 85 = .ok (.iconst 0, 1) := by decide +kernel
theorem d_M_meet_86 : decode prog_14_method_76_code 86 = .ok (.istore 7, 2) := by decide +kernel
theorem d_M_meet_88 : decode prog_14_method_76_code 88 = .ok (.iload 7, 2) := by decide +kernel
theorem d_M_meet_90 : decode prog_14_method_76_code 90 = .ok (.aload_n 0, 1) := by decide +kernel
theorem d_M_meet_91 : decode prog_14_method_76_code 91 = .ok (.getfield 412, 3) := by decide +kernel
theorem d_M_meet_94 : decode prog_14_method_76_code 94 = .ok (.if_icmp .ge 38, 3) := by decide +kernel
theorem d_M_meet_132 : decode prog_14_method_76_code 132 = .ok (.aload_n 0, 1) := by decide +kernel
theorem d_M_meet_133 : decode prog_14_method_76_code 133 = .ok (.getfield 100, 3) := by decide +kernel
theorem d_M_meet_136 : decode prog_14_method_76_code 136 = .ok (.sipush 256, 3) := by decide +kernel
theorem d_M_meet_139 : decode prog_14_method_76_code 139 = .ok (.iload_n 2, 1) := by decide +kernel
theorem d_M_meet_140 : decode prog_14_method_76_code 140 = .ok (.imul, 1) := by decide +kernel
theorem d_M_meet_141 : decode prog_14_method_76_code 141 = .ok (.iload 4, 2) := by decide +kernel
theorem d_M_meet_143 : decode prog_14_method_76_code 143 = .ok (.iadd, 1) := by decide +kernel
theorem d_M_meet_144 : decode prog_14_method_76_code 144 = .ok (.aload_n 0, 1) := by decide +kernel
theorem d_M_meet_145 : decode prog_14_method_76_code 145 = .ok (.getfield 100, 3) := by decide +kernel
theorem d_M_meet_148 : decode prog_14_method_76_code 148 = .ok (.sipush 256, 3) := by decide +kernel
theorem d_M_meet_151 : decode prog_14_method_76_code 151 = .ok (.iload_n 2, 1) := by decide +kernel
theorem d_M_meet_152 : decode prog_14_method_76_code 152 = .ok (.imul, 1) := by decide +kernel
theorem d_M_meet_153 : decode prog_14_method_76_code 153 = .ok (.iload 5, 2) := by decide +kernel
theorem d_M_meet_155 : decode prog_14_method_76_code 155 = .ok (.iadd, 1) := by decide +kernel
theorem d_M_meet_156 : decode prog_14_method_76_code 156 = .ok (.iaload, 1) := by decide +kernel
theorem d_M_meet_157 : decode prog_14_method_76_code 157 = .ok (.iastore, 1) := by decide +kernel
theorem d_M_meet_158 : decode prog_14_method_76_code 158 = .ok (.iinc 4 1, 3) := by decide +kernel
theorem d_M_meet_161 : decode prog_14_method_76_code 161 = .ok (.iinc 5 1, 3) := by decide +kernel
theorem d_M_meet_164 : decode prog_14_method_76_code 164 = .ok (.goto (-158), 3) := by decide +kernel
theorem d_M_meet_97 : decode prog_14_method_76_code 97 = .ok (.aload_n 0, 1) := by decide +kernel
theorem d_M_meet_98 : decode prog_14_method_76_code 98 = .ok (.iload_n 1, 1) := by decide +kernel
theorem d_M_meet_99 : decode prog_14_method_76_code 99 = .ok (.iload_n 2, 1) := by decide +kernel
theorem d_M_meet_100 : decode prog_14_method_76_code 100 = .ok (.iload 4, 2) := by decide +kernel
theorem d_M_meet_102 : decode prog_14_method_76_code 102 = .ok (.iload 7, 2) := by decide +kernel
theorem d_M_meet_104 : decode prog_14_method_76_code 104 = .ok (.invokestatic 397, 3) := by decide +kernel
theorem d_M_meet_107 : decode prog_14_method_76_code 107 = .ok (.iload_n 2, 1) := by decide +kernel
theorem d_M_meet_108 : decode prog_14_method_76_code 108 = .ok (.iload 5, 2) := by decide +kernel
theorem d_M_meet_110 : decode prog_14_method_76_code 110 = .ok (.iload 7, 2) := by decide +kernel
theorem d_M_meet_112 : decode prog_14_method_76_code 112 = .ok (.invokestatic 397, 3) := by decide +kernel
theorem d_M_meet_115 : decode prog_14_method_76_code 115 = .ok (.iload_n 3, 1) := by decide +kernel
theorem d_M_meet_116 : decode prog_14_method_76_code 116 = .ok (.iload 6, 2) := by decide +kernel
theorem d_M_meet_118 : decode prog_14_method_76_code 118 = .ok (.iload 7, 2) := by decide +kernel
theorem d_M_meet_120 : decode prog_14_method_76_code 120 = .ok (.invokestatic 397, 3) := by decide +kernel
theorem d_M_meet_123 : decode prog_14_method_76_code 123 = .ok (.invokevirtual 429, 3) := by decide +kernel
theorem d_M_meet_126 : decode prog_14_method_76_code 126 = .ok (.iinc 7 1, 3) := by decide +kernel
theorem d_M_meet_129 : decode prog_14_method_76_code 129 = .ok (.goto (-41), 3) := by decide +kernel
theorem d_M_meet_82 : decode prog_14_method_76_code 82 = .ok (.goto 79, 3) := by decide +kernel
theorem d_M_meet_17 : decode prog_14_method_76_code 17 = .ok (.iconst 0, 1) := by decide +kernel
theorem d_M_meet_18 : decode prog_14_method_76_code 18 = .ok (.istore 6, 2) := by decide +kernel
theorem d_M_meet_20 : decode prog_14_method_76_code 20 = .ok (.iload 6, 2) := by decide +kernel
theorem d_M_meet_22 : decode prog_14_method_76_code 22 = .ok (.aload_n 0, 1) := by decide +kernel
theorem d_M_meet_23 : decode prog_14_method_76_code 23 = .ok (.getfield 97, 3) := by decide +kernel
theorem d_M_meet_26 : decode prog_14_method_76_code 26 = .ok (.iload_n 3, 1) := by decide +kernel
theorem d_M_meet_27 : decode prog_14_method_76_code 27 = .ok (.iaload, 1) := by decide +kernel
theorem d_M_meet_28 : decode prog_14_method_76_code 28 = .ok (.if_icmp .ge 43, 3) := by decide +kernel
theorem d_M_meet_31 : decode prog_14_method_76_code 31 = .ok (.aload_n 0, 1) := by decide +kernel
theorem d_M_meet_32 : decode prog_14_method_76_code 32 = .ok (.iload_n 2, 1) := by decide +kernel
theorem d_M_meet_33 : decode prog_14_method_76_code 33 = .ok (.aload_n 0, 1) := by decide +kernel
theorem d_M_meet_34 : decode prog_14_method_76_code 34 = .ok (.getfield 100, 3) := by decide +kernel
theorem d_M_meet_37 : decode prog_14_method_76_code 37 = .ok (.sipush 256, 3) := by decide +kernel
theorem d_M_meet_40 : decode prog_14_method_76_code 40 = .ok (.iload_n 2, 1) := by decide +kernel
theorem d_M_meet_41 : decode prog_14_method_76_code 41 = .ok (.imul, 1) := by decide +kernel
theorem d_M_meet_42 : decode prog_14_method_76_code 42 = .ok (.iload 5, 2) := by decide +kernel
theorem d_M_meet_44 : decode prog_14_method_76_code 44 = .ok (.iadd, 1) := by decide +kernel
theorem d_M_meet_45 : decode prog_14_method_76_code 45 = .ok (.iaload, 1) := by decide +kernel
theorem d_M_meet_46 : decode prog_14_method_76_code 46 = .ok (.aload_n 0, 1) := by decide +kernel
theorem d_M_meet_47 : decode prog_14_method_76_code 47 = .ok (.getfield 100, 3) := by decide +kernel
theorem d_M_meet_50 : decode prog_14_method_76_code 50 = .ok (.sipush 256, 3) := by decide +kernel
theorem d_M_meet_53 : decode prog_14_method_76_code 53 = .ok (.iload_n 3, 1) := by decide +kernel
theorem d_M_meet_54 : decode prog_14_method_76_code 54 = .ok (.imul, 1) := by decide +kernel
theorem d_M_meet_55 : decode prog_14_method_76_code 55 = .ok (.iload 6, 2) := by decide +kernel
theorem d_M_meet_57 : decode prog_14_method_76_code 57 = .ok (.iadd, 1) := by decide +kernel
theorem d_M_meet_58 : decode prog_14_method_76_code 58 = .ok (.iaload, 1) := by decide +kernel
theorem d_M_meet_59 : decode prog_14_method_76_code 59 = .ok (.invokevirtual 394, 3) := by decide +kernel
theorem d_M_meet_62 : decode prog_14_method_76_code 62 = .ok (.ifCond .eq 9, 3) := by decide +kernel
theorem d_M_meet_65 : decode prog_14_method_76_code 65 = .ok (.iinc 6 1, 3) := by decide +kernel
theorem d_M_meet_68 : decode prog_14_method_76_code 68 = .ok (.goto (-48), 3) := by decide +kernel
set_option maxHeartbeats 4000000 in
set_option maxRecDepth 100000 in
theorem k_meet (l : Launch) (D : va_G) (dA : Nat → ClassId) (sz : Nat) (h : Nat) (ad : Nat → Nat) (x : MS) (sg : Int32) (a : Nat) (b : Nat) (n9 : Nat) (i9 : Nat → Bool) (c9 : Nat → Int64) (rs9 : Nat → Nat) (v9 : Nat) (hsg : isOp sg) (hab : a < b) (hb2 : b < 20) (hno : x.nOK a) (hwi : x.windows ≤ 64) (h3 : x.tableRows a ≤ 256) (h4 : x.tableRows b ≤ 256) (hra : ∀ q : Nat, q < x.tableRows a → x.tableNames a = 0 ∨ x.tOK (x.rowSeries (256 * a + q))) (hrb : ∀ q : Nat, q < x.tableRows b → x.tableNames a = 0 ∨ x.tOK (x.rowSeries (256 * b + q))) (hme : x.meG sg a b (x.tableRows a) = (n9, (i9, c9), rs9, v9)) : Met l ⟨"SeriesVaultModel", "meet", "(III)V"⟩ [Cond.code ⟨"SeriesVaultModel", "meet", "(III)V"⟩ prog_14_method_76_code 8 none] { frames := 3, cells := 0, slots := 0, locals := 58 } (pC D dA [.ref h, .int sg, .int (nI a), .int (nI b)] (MW dA h ad x) sz) (va_Qv (fun (u9 : Unit) => True) (fun (u9 : Unit) t9 => bW D (va_A (MW dA h ad x) sz) (MW dA h ad (MS.s_valueLength (MS.s_isCell (MS.s_cells (MS.s_rowSeries (MS.s_tableRows x (va_up x.tableRows a n9)) rs9) c9) i9) v9)) t9) (va_A (MW dA h ad x) sz)) 0 0 (va_A (MW dA h ad x) sz) := by
  refine mkC (y := ⟨"SeriesVaultModel", "meet", "(III)V"⟩) (cc := prog_14_method_76_code) (maxL := 8) (av := [.ref h, .int sg, .int (nI a), .int (nI b)]) (ws := MW dA h ad x) (sz := sz) (Qc := fun A => va_Qv (fun (u9 : Unit) => True) (fun (u9 : Unit) t9 => bW D A (MW dA h ad (MS.s_valueLength (MS.s_isCell (MS.s_cells (MS.s_rowSeries (MS.s_tableRows x (va_up x.tableRows a n9)) rs9) c9) i9) v9)) t9) A) (by decide) (Nat.le_of_ble_eq_true rfl) ?_
  intro A p e s m below meth c ls hsz hB
  obtain ⟨hx, hb, hr, hml, hown, hin, hlk, hE, hK, hP, hD, hS, hA, hN, hl⟩ := hB
  have hown : s.vm.findClass "SeriesVaultModel" = some m.cls := hown
  have hl : lv_has ls 8 [(0, .ref h), (1, .int sg), (2, .int (nI a)), (3, .int (nI b))] := hl
  obtain ⟨H, hH⟩ : ∃ z, z = s.heap := ⟨_, rfl⟩
  have hP : va_P D vwCl (MW dA h ad x) H := by rw [hH]; exact hP
  have hS : va_S A s.heap H [] := by rw [hH]; exact hS
  rw [← hH]
  refine lv_iconst (v := 0) hx hb d_M_meet_0 (by decide) ?_
  refine lv_istore hx hb d_M_meet_1 hl (by decide) rfl (fun ls hl => ?_)
  have hl : lv_has ls 8 [(4, .int 0), (0, .ref h), (1, .int sg), (2, .int (nI a)), (3, .int (nI b))] := hl
  refine lv_iconst (v := 0) hx hb d_M_meet_3 (by decide) ?_
  refine lv_istore hx hb d_M_meet_4 hl (by decide) rfl (fun ls hl => ?_)
  have hl : lv_has ls 8 [(5, .int 0), (4, .int 0), (0, .ref h), (1, .int sg), (2, .int (nI a)), (3, .int (nI b))] := hl
  have L6 : ∀ (k9 : Nat) (r : Nat) (n : Nat) (i2c : Nat → Bool) (c2 : Nat → Int64) (rs : Nat → Nat) (v : Nat) (i1 : r ≤ x.tableRows a) (i2 : x.meG sg a b r = (n, (i2c, c2), rs, v)) (i3 : n ≤ r) (i4 : ∀ q : Nat, 256 * a + r ≤ q → rs q = x.rowSeries q) (hk9 : x.tableRows a - r = k9), ∀ (H : Heap) (locs : List Loc) (ls : Array Slot) (hP : va_P D vwCl (MW dA h ad (MS.s_valueLength (MS.s_isCell (MS.s_cells (MS.s_rowSeries x rs) c2) i2c) v)) H) (hD : va_D A (MW dA h ad (MS.s_valueLength (MS.s_isCell (MS.s_cells (MS.s_rowSeries x rs) c2) i2c) v))) (hS : va_S A s.heap H locs) (hl : lv_has ls 8 [(4, .int (nI n)), (5, .int (nI r)), (1, .int sg), (2, .int (nI a)), (3, .int (nI b)), (0, .ref h)]), W p l e ({ frames := 3, cells := 0, slots := 0, locals := 58 } : Room) s m ([.ref h, .int sg, .int (nI a), .int (nI b)] : List Value).toArray below meth c H locs 0 0 (MQ below (va_Qv (fun (u9 : Unit) => True) (fun (u9 : Unit) t9 => bW D A (MW dA h ad (MS.s_valueLength (MS.s_isCell (MS.s_cells (MS.s_rowSeries (MS.s_tableRows x (va_up x.tableRows a n9)) rs9) c9) i9) v9)) t9) A) ([.ref h, .int sg, .int (nI a), .int (nI b)] : List Value).toArray s 0 0 A) (F0 m 6 ls []) := by
    intro k9
    induction k9 using Nat.strongRecOn with
    | ind k9 ih6 =>
      intro r n i2c c2 rs v i1 i2 i3 i4 hk9 H locs ls hP hD hS hl
      refine lv_iload hx hb d_M_meet_6 (lv_at hl 1 rfl) ?_
      refine lv_aload_n hx hb d_M_meet_8 rfl (lv_at hl 5 rfl) ?_
      refine gF (v := .ref (ad 51)) hx hb hown hE hK hP 0 rfl rfl layM 51 (by decide) w521 rfl d_M_meet_9 ?_
      refine lv_iload_n hx hb d_M_meet_12 rfl (lv_at hl 3 rfl) ?_
      refine nild (f := (fun z9 => nI (x.tableRows z9))) hx hb hK hP 24 1 rfl rfl (a) (by omega) (by decide) d_M_meet_13 ?_
      refine lv_icmp_ge hx hb d_M_meet_14 (tgt := 167) rfl (fun g1 => ?_) (fun g1 => ?_)
      · have g1 := (nI_leI (a := x.tableRows a) (b := r) (by omega) (by omega)).mp g1
        refine lv_aload_n hx hb d_M_meet_167 rfl (lv_at hl 5 rfl) ?_
        refine gF (v := .ref (ad 51)) hx hb hown hE hK hP 0 rfl rfl layM 51 (by decide) w521 rfl d_M_meet_168 ?_
        refine lv_iload_n hx hb d_M_meet_171 rfl (lv_at hl 3 rfl) ?_
        refine lv_iload hx hb d_M_meet_172 (lv_at hl 0 rfl) ?_
        refine nistN (v := n) hx hb hK hP hD hS 24 1 rfl rfl (a) (by omega) (by decide) d_M_meet_174 (fun H locs hP hD hS => ?_)
        have hP : va_P D vwCl (MW dA h ad (MS.s_valueLength (MS.s_isCell (MS.s_cells (MS.s_rowSeries (MS.s_tableRows x (va_up x.tableRows a n)) rs) c2) i2c) v)) H := hP
        have hD : va_D A (MW dA h ad (MS.s_valueLength (MS.s_isCell (MS.s_cells (MS.s_rowSeries (MS.s_tableRows x (va_up x.tableRows a n)) rs) c2) i2c) v)) := hD
        have e9 : (MS.s_valueLength (MS.s_isCell (MS.s_cells (MS.s_rowSeries (MS.s_tableRows x (va_up x.tableRows a n)) rs) c2) i2c) v : MS) = MS.s_valueLength (MS.s_isCell (MS.s_cells (MS.s_rowSeries (MS.s_tableRows x (va_up x.tableRows a n9)) rs9) c9) i9) v9 := by rw [show (va_up x.tableRows a n9) = (va_up x.tableRows a n) from by (rw [show n9 = n from congrArg (fun z => z.1) (hme.symm.trans ((congrArg (x.meG sg a b) (show x.tableRows a = r by omega)).trans i2))]), show rs9 = rs from by (exact congrArg (fun z => z.2.2.1) (hme.symm.trans ((congrArg (x.meG sg a b) (show x.tableRows a = r by omega)).trans i2))), show c9 = c2 from by (exact congrArg (fun z => z.2.1.2) (hme.symm.trans ((congrArg (x.meG sg a b) (show x.tableRows a = r by omega)).trans i2))), show i9 = i2c from by (exact congrArg (fun z => z.2.1.1) (hme.symm.trans ((congrArg (x.meG sg a b) (show x.tableRows a = r by omega)).trans i2))), show v9 = v from by (exact congrArg (fun z => z.2.2.2) (hme.symm.trans ((congrArg (x.meG sg a b) (show x.tableRows a = r by omega)).trans i2)))] <;> rfl
        exact rfV hx hb hr hlk hS () trivial (cvP e9 hP) (cvD e9 hD) (Nat.le_of_ble_eq_true rfl) (Nat.le_of_ble_eq_true rfl) d_M_meet_175
      · have g1 := mt (nI_leI (a := x.tableRows a) (b := r) (by omega) (by omega)).mpr g1
        have J71 : ∀ (w : Nat) (v3 : Nat) (f1 : x.fo a (rs (256 * a + r)) b rs (x.tableRows b) (x.tableRows b + 1) 0 v = (w, v3)) (f2 : w ≤ x.tableRows b), ∀ (H : Heap) (locs : List Loc) (ls : Array Slot) (hP : va_P D vwCl (MW dA h ad (MS.s_valueLength (MS.s_isCell (MS.s_cells (MS.s_rowSeries x rs) c2) i2c) v3)) H) (hD : va_D A (MW dA h ad (MS.s_valueLength (MS.s_isCell (MS.s_cells (MS.s_rowSeries x rs) c2) i2c) v3))) (hS : va_S A s.heap H locs) (hl : lv_has ls 8 [(6, .int (nI w)), (4, .int (nI n)), (5, .int (nI r)), (1, .int sg), (2, .int (nI a)), (3, .int (nI b)), (0, .ref h)]), W p l e ({ frames := 3, cells := 0, slots := 0, locals := 58 } : Room) s m ([.ref h, .int sg, .int (nI a), .int (nI b)] : List Value).toArray below meth c H locs 0 0 (MQ below (va_Qv (fun (u9 : Unit) => True) (fun (u9 : Unit) t9 => bW D A (MW dA h ad (MS.s_valueLength (MS.s_isCell (MS.s_cells (MS.s_rowSeries (MS.s_tableRows x (va_up x.tableRows a n9)) rs9) c9) i9) v9)) t9) A) ([.ref h, .int sg, .int (nI a), .int (nI b)] : List Value).toArray s 0 0 A) (F0 m 71 ls []) := by
          intro w v3 f1 f2 H locs ls hP hD hS hl
          refine lv_iload hx hb d_M_meet_71 (lv_at hl 0 rfl) ?_
          refine lv_aload_n hx hb d_M_meet_73 rfl (lv_at hl 6 rfl) ?_
          refine gF (v := .ref (ad 51)) hx hb hown hE hK hP 0 rfl rfl layM 51 (by decide) w521 rfl d_M_meet_74 ?_
          refine lv_iload_n hx hb d_M_meet_77 rfl (lv_at hl 5 rfl) ?_
          refine nild (f := (fun z9 => nI (x.tableRows z9))) hx hb hK hP 24 1 rfl rfl (b) (by omega) (by decide) d_M_meet_78 ?_
          refine lv_icmp_ne hx hb d_M_meet_79 (tgt := 85) rfl (fun g2 => ?_) (fun g2 => ?_)
          · have g2 := mt (nI_eq (a := w) (b := x.tableRows b) (by omega) (by omega)).mpr g2
            refine lv_iconst (v := 0) hx hb d_M_meet_85 (by decide) ?_
            refine lv_istore hx hb d_M_meet_86 hl (by decide) rfl (fun ls hl => ?_)
            have hl : lv_has ls 8 [(7, .int 0), (6, .int (nI w)), (4, .int (nI n)), (5, .int (nI r)), (1, .int sg), (2, .int (nI a)), (3, .int (nI b)), (0, .ref h)] := hl
            have L88 : ∀ (k9 : Nat) (k : Nat) (i3c : Nat → Bool) (c3 : Nat → Int64) (m1 : k ≤ x.windows) (m2 : jrG sg (i2c, c2) (cA a n) (cA a r) (cA b w) k = (i3c, c3)) (hk9 : x.windows - k = k9), ∀ (H : Heap) (locs : List Loc) (ls : Array Slot) (hP : va_P D vwCl (MW dA h ad (MS.s_valueLength (MS.s_isCell (MS.s_cells (MS.s_rowSeries x rs) c3) i3c) v3)) H) (hD : va_D A (MW dA h ad (MS.s_valueLength (MS.s_isCell (MS.s_cells (MS.s_rowSeries x rs) c3) i3c) v3))) (hS : va_S A s.heap H locs) (hl : lv_has ls 8 [(7, .int (nI k)), (6, .int (nI w)), (4, .int (nI n)), (5, .int (nI r)), (1, .int sg), (2, .int (nI a)), (3, .int (nI b)), (0, .ref h)]), W p l e ({ frames := 3, cells := 0, slots := 0, locals := 58 } : Room) s m ([.ref h, .int sg, .int (nI a), .int (nI b)] : List Value).toArray below meth c H locs 0 0 (MQ below (va_Qv (fun (u9 : Unit) => True) (fun (u9 : Unit) t9 => bW D A (MW dA h ad (MS.s_valueLength (MS.s_isCell (MS.s_cells (MS.s_rowSeries (MS.s_tableRows x (va_up x.tableRows a n9)) rs9) c9) i9) v9)) t9) A) ([.ref h, .int sg, .int (nI a), .int (nI b)] : List Value).toArray s 0 0 A) (F0 m 88 ls []) := by
              intro k9
              induction k9 using Nat.strongRecOn with
              | ind k9 ih88 =>
                intro k i3c c3 m1 m2 hk9 H locs ls hP hD hS hl
                refine lv_iload hx hb d_M_meet_88 (lv_at hl 0 rfl) ?_
                refine lv_aload_n hx hb d_M_meet_90 rfl (lv_at hl 7 rfl) ?_
                refine gF (v := .int (nI x.windows)) hx hb hown hE hK hP 0 rfl rfl layM 59 (by decide) w489 rfl d_M_meet_91 ?_
                refine lv_icmp_ge hx hb d_M_meet_94 (tgt := 132) rfl (fun g3 => ?_) (fun g3 => ?_)
                · have g3 := (nI_leI (a := x.windows) (b := k) (by omega) (by omega)).mp g3
                  have me9 : x.meG sg a b (r + 1) = (n + 1, (i3c, c3), va_up rs (256 * a + n) (rs (256 * a + r)), v3) := (me_s i2 f1).trans ((if_neg (by omega)).trans (by rw [show x.windows = k by omega, m2]))
                  refine lv_aload_n hx hb d_M_meet_132 rfl (lv_at hl 7 rfl) ?_
                  refine gF (v := .ref (ad 52)) hx hb hown hE hK hP 0 rfl rfl layM 52 (by decide) w522 rfl d_M_meet_133 ?_
                  refine lv_sipush (v := 256) hx hb d_M_meet_136 (by decide) ?_
                  refine lv_iload_n hx hb d_M_meet_139 rfl (lv_at hl 5 rfl) ?_
                  refine lv_imul hx hb d_M_meet_140 (tpi (y := nI (256 * a)) (pk_mul (256) (a)) ?_)
                  refine lv_iload hx hb d_M_meet_141 (lv_at hl 2 rfl) ?_
                  refine lv_iadd hx hb d_M_meet_143 (tpi (y := nI ((256 * a) + n)) (nI_add (256 * a) (n)) ?_)
                  refine lv_aload_n hx hb d_M_meet_144 rfl (lv_at hl 7 rfl) ?_
                  refine gF (v := .ref (ad 52)) hx hb hown hE hK hP 0 rfl rfl layM 52 (by decide) w522 rfl d_M_meet_145 ?_
                  refine lv_sipush (v := 256) hx hb d_M_meet_148 (by decide) ?_
                  refine lv_iload_n hx hb d_M_meet_151 rfl (lv_at hl 5 rfl) ?_
                  refine lv_imul hx hb d_M_meet_152 (tpi (y := nI (256 * a)) (pk_mul (256) (a)) ?_)
                  refine lv_iload hx hb d_M_meet_153 (lv_at hl 3 rfl) ?_
                  refine lv_iadd hx hb d_M_meet_155 (tpi (y := nI ((256 * a) + r)) (nI_add (256 * a) (r)) ?_)
                  refine nild (f := (fun z9 => nI (rs z9))) hx hb hK hP 25 1 rfl rfl ((256 * a) + r) (by omega) (by decide) d_M_meet_156 ?_
                  refine nistN (v := rs ((256 * a) + r)) hx hb hK hP hD hS 25 1 rfl rfl ((256 * a) + n) (by omega) (by decide) d_M_meet_157 (fun H locs hP hD hS => ?_)
                  have hP : va_P D vwCl (MW dA h ad (MS.s_valueLength (MS.s_isCell (MS.s_cells (MS.s_rowSeries x (va_up rs ((256 * a) + n) (rs ((256 * a) + r)))) c3) i3c) v3)) H := hP
                  have hD : va_D A (MW dA h ad (MS.s_valueLength (MS.s_isCell (MS.s_cells (MS.s_rowSeries x (va_up rs ((256 * a) + n) (rs ((256 * a) + r)))) c3) i3c) v3)) := hD
                  refine lv_iinc (k := 2) (v := nI (n + 1)) hx hb d_M_meet_158 hl rfl (iincN (n) 1 1 (by decide)) (by decide) rfl (fun ls hl => ?_)
                  have hl : lv_has ls 8 [(4, .int (nI (n + 1))), (7, .int (nI k)), (6, .int (nI w)), (5, .int (nI r)), (1, .int sg), (2, .int (nI a)), (3, .int (nI b)), (0, .ref h)] := hl
                  refine lv_iinc (k := 3) (v := nI (r + 1)) hx hb d_M_meet_161 hl rfl (iincN (r) 1 1 (by decide)) (by decide) rfl (fun ls hl => ?_)
                  have hl : lv_has ls 8 [(5, .int (nI (r + 1))), (4, .int (nI (n + 1))), (7, .int (nI k)), (6, .int (nI w)), (1, .int sg), (2, .int (nI a)), (3, .int (nI b)), (0, .ref h)] := hl
                  refine lv_goto hx hb d_M_meet_164 (tgt := 6) rfl ?_
                  exact ih6 _ (by omega) (r + 1) (n + 1) i3c c3 (va_up rs ((256 * a) + n) (rs ((256 * a) + r))) v3 (by omega) me9 (by omega) (me_up i4 i3) rfl H _ ls hP hD hS (lv_sub hl [1, 0, 4, 5, 6, 7] rfl)
                · have g3 := mt (nI_leI (a := x.windows) (b := k) (by omega) (by omega)).mpr g3
                  refine lv_aload_n hx hb d_M_meet_97 rfl (lv_at hl 7 rfl) ?_
                  refine lv_iload_n hx hb d_M_meet_98 rfl (lv_at hl 4 rfl) ?_
                  refine lv_iload_n hx hb d_M_meet_99 rfl (lv_at hl 5 rfl) ?_
                  refine lv_iload hx hb d_M_meet_100 (lv_at hl 2 rfl) ?_
                  refine lv_iload hx hb d_M_meet_102 (lv_at hl 0 rfl) ?_
                  have hPc := hP.sub (ws' := []) [] rfl
                  have hDc := hD.sub (ws' := []) [] (by decide) rfl
                  refine jnI (rnS (As := [.int (nI a), .int (nI n), .int (nI k)]) (rest := [.int sg, .ref h]) hx hb hml hown hE hK (hN _ _ hS) hPc hDc (k_cellAt l D dA H.size a n k) w971 w970 w972 w328 rfl rfl ⟨⟨by decide, by decide⟩, rfl⟩ ⟨(Nat.le_of_ble_eq_true rfl), (Nat.le_of_ble_eq_true rfl)⟩ rfl hl.1 rfl (Nat.le_of_ble_eq_true rfl) d_M_meet_104 ⟨(Nat.le_of_ble_eq_true rfl), (Nat.le_of_ble_eq_true rfl)⟩) hP hD hS hA [] [0, 1, 2, 3, 4, 5, 6, 7, 8, 9, 10, 11, 12, 13, 14, 15, 16, 17, 18, 19, 20, 21, 22, 23, 24, 25, 26, 27, 28, 29, 30, 31, 32, 33, 34, 35, 36, 37, 38] (wr := MW dA h ad (MS.s_valueLength (MS.s_isCell (MS.s_cells (MS.s_rowSeries x rs) c3) i3c) v3)) rfl rfl (by decide) (by decide) (fun r4 u9 H locs hp9 hP hD hS => ?_)
                  have hP : va_P D vwCl (MW dA h ad (MS.s_valueLength (MS.s_isCell (MS.s_cells (MS.s_rowSeries x rs) c3) i3c) v3)) H := hP
                  have hD : va_D A (MW dA h ad (MS.s_valueLength (MS.s_isCell (MS.s_cells (MS.s_rowSeries x rs) c3) i3c) v3)) := hD
                  replace hp9 : nI ((a * 256 + n) * 64 + k) = r4 := Eq.symm hp9
                  subst hp9
                  refine lv_iload_n hx hb d_M_meet_107 rfl (lv_at hl 5 rfl) ?_
                  refine lv_iload hx hb d_M_meet_108 (lv_at hl 3 rfl) ?_
                  refine lv_iload hx hb d_M_meet_110 (lv_at hl 0 rfl) ?_
                  have hPc := hP.sub (ws' := []) [] rfl
                  have hDc := hD.sub (ws' := []) [] (by decide) rfl
                  refine jnI (rnS (As := [.int (nI a), .int (nI r), .int (nI k)]) (rest := [.int (nI ((a * 256 + n) * 64 + k)), .int sg, .ref h]) hx hb hml hown hE hK (hN _ _ hS) hPc hDc (k_cellAt l D dA H.size a r k) w971 w970 w972 w328 rfl rfl ⟨⟨by decide, by decide⟩, rfl⟩ ⟨(Nat.le_of_ble_eq_true rfl), (Nat.le_of_ble_eq_true rfl)⟩ rfl hl.1 rfl (Nat.le_of_ble_eq_true rfl) d_M_meet_112 ⟨(Nat.le_of_ble_eq_true rfl), (Nat.le_of_ble_eq_true rfl)⟩) hP hD hS hA [] [0, 1, 2, 3, 4, 5, 6, 7, 8, 9, 10, 11, 12, 13, 14, 15, 16, 17, 18, 19, 20, 21, 22, 23, 24, 25, 26, 27, 28, 29, 30, 31, 32, 33, 34, 35, 36, 37, 38] (wr := MW dA h ad (MS.s_valueLength (MS.s_isCell (MS.s_cells (MS.s_rowSeries x rs) c3) i3c) v3)) rfl rfl (by decide) (by decide) (fun r6 u9 H locs hp9 hP hD hS => ?_)
                  have hP : va_P D vwCl (MW dA h ad (MS.s_valueLength (MS.s_isCell (MS.s_cells (MS.s_rowSeries x rs) c3) i3c) v3)) H := hP
                  have hD : va_D A (MW dA h ad (MS.s_valueLength (MS.s_isCell (MS.s_cells (MS.s_rowSeries x rs) c3) i3c) v3)) := hD
                  replace hp9 : nI ((a * 256 + r) * 64 + k) = r6 := Eq.symm hp9
                  subst hp9
                  refine lv_iload_n hx hb d_M_meet_115 rfl (lv_at hl 6 rfl) ?_
                  refine lv_iload hx hb d_M_meet_116 (lv_at hl 1 rfl) ?_
                  refine lv_iload hx hb d_M_meet_118 (lv_at hl 0 rfl) ?_
                  have hPc := hP.sub (ws' := []) [] rfl
                  have hDc := hD.sub (ws' := []) [] (by decide) rfl
                  refine jnI (rnS (As := [.int (nI b), .int (nI w), .int (nI k)]) (rest := [.int (nI ((a * 256 + r) * 64 + k)), .int (nI ((a * 256 + n) * 64 + k)), .int sg, .ref h]) hx hb hml hown hE hK (hN _ _ hS) hPc hDc (k_cellAt l D dA H.size b w k) w971 w970 w972 w328 rfl rfl ⟨⟨by decide, by decide⟩, rfl⟩ ⟨(Nat.le_of_ble_eq_true rfl), (Nat.le_of_ble_eq_true rfl)⟩ rfl hl.1 rfl (Nat.le_of_ble_eq_true rfl) d_M_meet_120 ⟨(Nat.le_of_ble_eq_true rfl), (Nat.le_of_ble_eq_true rfl)⟩) hP hD hS hA [] [0, 1, 2, 3, 4, 5, 6, 7, 8, 9, 10, 11, 12, 13, 14, 15, 16, 17, 18, 19, 20, 21, 22, 23, 24, 25, 26, 27, 28, 29, 30, 31, 32, 33, 34, 35, 36, 37, 38] (wr := MW dA h ad (MS.s_valueLength (MS.s_isCell (MS.s_cells (MS.s_rowSeries x rs) c3) i3c) v3)) rfl rfl (by decide) (by decide) (fun r8 u9 H locs hp9 hP hD hS => ?_)
                  have hP : va_P D vwCl (MW dA h ad (MS.s_valueLength (MS.s_isCell (MS.s_cells (MS.s_rowSeries x rs) c3) i3c) v3)) H := hP
                  have hD : va_D A (MW dA h ad (MS.s_valueLength (MS.s_isCell (MS.s_cells (MS.s_rowSeries x rs) c3) i3c) v3)) := hD
                  replace hp9 : nI ((b * 256 + w) * 64 + k) = r8 := Eq.symm hp9
                  subst hp9
                  refine jfV (rnV (As := [.int sg, .int (nI ((a * 256 + n) * 64 + k)), .int (nI ((a * 256 + r) * 64 + k)), .int (nI ((b * 256 + w) * 64 + k))]) (rest := []) hx hb hml hown hE hK (hN _ _ hS) hP hD (k_join l D dA H.size h ad (MS.s_valueLength (MS.s_isCell (MS.s_cells (MS.s_rowSeries x rs) c3) i3c) v3) sg ((a * 256 + n) * 64 + k) ((a * 256 + r) * 64 + k) ((b * 256 + w) * 64 + k) hsg (show ((a * 256 + n) * 64 + k) < 327680 from by omega) (show ((a * 256 + r) * 64 + k) < 327680 from by omega) (show ((b * 256 + w) * 64 + k) < 327680 from by omega)) (q0 := 0) rfl rfl w974 w973 w975 w976 w328 rfl rfl ⟨⟨by decide, by decide⟩, rfl⟩ ⟨(Nat.le_of_ble_eq_true rfl), (Nat.le_of_ble_eq_true rfl)⟩ rfl hl.1 rfl (Nat.le_of_ble_eq_true rfl) d_M_meet_123 ⟨(Nat.le_of_ble_eq_true rfl), (Nat.le_of_ble_eq_true rfl)⟩) hP hD hS hA (fun u11 H locs hp9 hP hD hS => ?_)
                  have hP : va_P D vwCl (MW dA h ad (MS.s_valueLength (MS.s_isCell (MS.s_cells (MS.s_rowSeries x rs) (va_up c3 ((a * 256 + n) * 64 + k) (jnW sg (jnB sg (i3c ((a * 256 + r) * 64 + k)) (i3c ((b * 256 + w) * 64 + k)) (c3 ((b * 256 + w) * 64 + k))) (c3 ((a * 256 + r) * 64 + k)) (c3 ((b * 256 + w) * 64 + k))))) (va_up i3c ((a * 256 + n) * 64 + k) (jnB sg (i3c ((a * 256 + r) * 64 + k)) (i3c ((b * 256 + w) * 64 + k)) (c3 ((b * 256 + w) * 64 + k))))) v3)) H := hP
                  have hD : va_D A (MW dA h ad (MS.s_valueLength (MS.s_isCell (MS.s_cells (MS.s_rowSeries x rs) (va_up c3 ((a * 256 + n) * 64 + k) (jnW sg (jnB sg (i3c ((a * 256 + r) * 64 + k)) (i3c ((b * 256 + w) * 64 + k)) (c3 ((b * 256 + w) * 64 + k))) (c3 ((a * 256 + r) * 64 + k)) (c3 ((b * 256 + w) * 64 + k))))) (va_up i3c ((a * 256 + n) * 64 + k) (jnB sg (i3c ((a * 256 + r) * 64 + k)) (i3c ((b * 256 + w) * 64 + k)) (c3 ((b * 256 + w) * 64 + k))))) v3)) := hD
                  refine lv_iinc (k := 0) (v := nI (k + 1)) hx hb d_M_meet_126 hl rfl (iincN (k) 1 1 (by decide)) (by decide) rfl (fun ls hl => ?_)
                  have hl : lv_has ls 8 [(7, .int (nI (k + 1))), (6, .int (nI w)), (4, .int (nI n)), (5, .int (nI r)), (1, .int sg), (2, .int (nI a)), (3, .int (nI b)), (0, .ref h)] := hl
                  refine lv_goto hx hb d_M_meet_129 (tgt := 88) rfl ?_
                  exact ih88 _ (by omega) (k + 1) (va_up i3c ((a * 256 + n) * 64 + k) (jnB sg (i3c ((a * 256 + r) * 64 + k)) (i3c ((b * 256 + w) * 64 + k)) (c3 ((b * 256 + w) * 64 + k)))) (va_up c3 ((a * 256 + n) * 64 + k) (jnW sg (jnB sg (i3c ((a * 256 + r) * 64 + k)) (i3c ((b * 256 + w) * 64 + k)) (c3 ((b * 256 + w) * 64 + k))) (c3 ((a * 256 + r) * 64 + k)) (c3 ((b * 256 + w) * 64 + k)))) (by omega) (jrG_s m2) rfl H _ ls hP hD hS (lv_sub hl [0, 1, 2, 3, 4, 5, 6, 7] rfl)
            exact L88 _ 0 i2c c2 (Nat.zero_le _) rfl rfl H _ ls hP hD hS (lv_sub hl [0, 1, 2, 3, 4, 5, 6, 7] rfl)
          · have g2 := (nI_eq (a := w) (b := x.tableRows b) (by omega) (by omega)).mp g2
            refine lv_goto hx hb d_M_meet_82 (tgt := 161) rfl ?_
            refine lv_iinc (k := 2) (v := nI (r + 1)) hx hb d_M_meet_161 hl rfl (iincN (r) 1 1 (by decide)) (by decide) rfl (fun ls hl => ?_)
            have hl : lv_has ls 8 [(5, .int (nI (r + 1))), (6, .int (nI w)), (4, .int (nI n)), (1, .int sg), (2, .int (nI a)), (3, .int (nI b)), (0, .ref h)] := hl
            refine lv_goto hx hb d_M_meet_164 (tgt := 6) rfl ?_
            exact ih6 _ (by omega) (r + 1) n i2c c2 rs v3 (by omega) ((me_s i2 f1).trans (if_pos (by omega))) (by omega) (fun q hq => i4 q (by omega)) rfl H _ ls hP hD hS (lv_sub hl [2, 0, 3, 4, 5, 6] rfl)
        refine lv_iconst (v := 0) hx hb d_M_meet_17 (by decide) ?_
        refine lv_istore hx hb d_M_meet_18 hl (by decide) rfl (fun ls hl => ?_)
        have hl : lv_has ls 8 [(6, .int 0), (4, .int (nI n)), (5, .int (nI r)), (1, .int sg), (2, .int (nI a)), (3, .int (nI b)), (0, .ref h)] := hl
        have L20 : ∀ (k9 : Nat) (w : Nat) (v3 : Nat) (j1 : x.fo a (rs (256 * a + r)) b rs (x.tableRows b) (x.tableRows b + 1 - w) w v3 = x.fo a (rs (256 * a + r)) b rs (x.tableRows b) (x.tableRows b + 1) 0 v) (j2 : w ≤ x.tableRows b) (hk9 : x.tableRows b + 1 - w = k9), ∀ (H : Heap) (locs : List Loc) (ls : Array Slot) (hP : va_P D vwCl (MW dA h ad (MS.s_valueLength (MS.s_isCell (MS.s_cells (MS.s_rowSeries x rs) c2) i2c) v3)) H) (hD : va_D A (MW dA h ad (MS.s_valueLength (MS.s_isCell (MS.s_cells (MS.s_rowSeries x rs) c2) i2c) v3))) (hS : va_S A s.heap H locs) (hl : lv_has ls 8 [(6, .int (nI w)), (4, .int (nI n)), (5, .int (nI r)), (1, .int sg), (2, .int (nI a)), (3, .int (nI b)), (0, .ref h)]), W p l e ({ frames := 3, cells := 0, slots := 0, locals := 58 } : Room) s m ([.ref h, .int sg, .int (nI a), .int (nI b)] : List Value).toArray below meth c H locs 0 0 (MQ below (va_Qv (fun (u9 : Unit) => True) (fun (u9 : Unit) t9 => bW D A (MW dA h ad (MS.s_valueLength (MS.s_isCell (MS.s_cells (MS.s_rowSeries (MS.s_tableRows x (va_up x.tableRows a n9)) rs9) c9) i9) v9)) t9) A) ([.ref h, .int sg, .int (nI a), .int (nI b)] : List Value).toArray s 0 0 A) (F0 m 20 ls []) := by
          intro k9
          induction k9 using Nat.strongRecOn with
          | ind k9 ih20 =>
            intro w v3 j1 j2 hk9 H locs ls hP hD hS hl
            refine lv_iload hx hb d_M_meet_20 (lv_at hl 0 rfl) ?_
            refine lv_aload_n hx hb d_M_meet_22 rfl (lv_at hl 6 rfl) ?_
            refine gF (v := .ref (ad 51)) hx hb hown hE hK hP 0 rfl rfl layM 51 (by decide) w521 rfl d_M_meet_23 ?_
            refine lv_iload_n hx hb d_M_meet_26 rfl (lv_at hl 5 rfl) ?_
            refine nild (f := (fun z9 => nI (x.tableRows z9))) hx hb hK hP 24 1 rfl rfl (b) (by omega) (by decide) d_M_meet_27 ?_
            refine lv_icmp_ge hx hb d_M_meet_28 (tgt := 71) rfl (fun g12 => ?_) (fun g12 => ?_)
            · have g12 := (nI_leI (a := x.tableRows b) (b := w) (by omega) (by omega)).mp g12
              exact J71 w v3 (j1.symm.trans (fo_e g12)) (by omega) H _ ls hP hD hS (lv_sub hl [0, 1, 2, 3, 4, 5, 6] rfl)
            · have g12 := mt (nI_leI (a := x.tableRows b) (b := w) (by omega) (by omega)).mpr g12
              refine lv_aload_n hx hb d_M_meet_31 rfl (lv_at hl 6 rfl) ?_
              refine lv_iload_n hx hb d_M_meet_32 rfl (lv_at hl 4 rfl) ?_
              refine lv_aload_n hx hb d_M_meet_33 rfl (lv_at hl 6 rfl) ?_
              refine gF (v := .ref (ad 52)) hx hb hown hE hK hP 0 rfl rfl layM 52 (by decide) w522 rfl d_M_meet_34 ?_
              refine lv_sipush (v := 256) hx hb d_M_meet_37 (by decide) ?_
              refine lv_iload_n hx hb d_M_meet_40 rfl (lv_at hl 4 rfl) ?_
              refine lv_imul hx hb d_M_meet_41 (tpi (y := nI (256 * a)) (pk_mul (256) (a)) ?_)
              refine lv_iload hx hb d_M_meet_42 (lv_at hl 2 rfl) ?_
              refine lv_iadd hx hb d_M_meet_44 (tpi (y := nI ((256 * a) + r)) (nI_add (256 * a) (r)) ?_)
              refine nild (f := (fun z9 => nI (rs z9))) hx hb hK hP 25 1 rfl rfl ((256 * a) + r) (by omega) (by decide) d_M_meet_45 ?_
              refine lv_aload_n hx hb d_M_meet_46 rfl (lv_at hl 6 rfl) ?_
              refine gF (v := .ref (ad 52)) hx hb hown hE hK hP 0 rfl rfl layM 52 (by decide) w522 rfl d_M_meet_47 ?_
              refine lv_sipush (v := 256) hx hb d_M_meet_50 (by decide) ?_
              refine lv_iload_n hx hb d_M_meet_53 rfl (lv_at hl 5 rfl) ?_
              refine lv_imul hx hb d_M_meet_54 (tpi (y := nI (256 * b)) (pk_mul (256) (b)) ?_)
              refine lv_iload hx hb d_M_meet_55 (lv_at hl 0 rfl) ?_
              refine lv_iadd hx hb d_M_meet_57 (tpi (y := nI ((256 * b) + w)) (nI_add (256 * b) (w)) ?_)
              refine nild (f := (fun z9 => nI (rs z9))) hx hb hK hP 25 1 rfl rfl ((256 * b) + w) (by omega) (by decide) d_M_meet_58 ?_
              refine jfI (rnV (As := [.int (nI a), .int (nI (rs ((256 * a) + r))), .int (nI (rs ((256 * b) + w)))]) (rest := []) hx hb hml hown hE hK (hN _ _ hS) hP hD (k_compareRows l D dA H.size h ad (MS.s_valueLength (MS.s_isCell (MS.s_cells (MS.s_rowSeries x rs) c2) i2c) v3) a (rs ((256 * a) + r)) (rs ((256 * b) + w)) hno (by rw [i4 _ (by omega)]; exact hra r (by omega)) (by rw [i4 _ (by omega)]; exact hrb w (by omega))) (q0 := 0) rfl rfl w983 w982 w984 w985 w328 rfl rfl ⟨⟨by decide, by decide⟩, rfl⟩ ⟨(Nat.le_of_ble_eq_true rfl), (Nat.le_of_ble_eq_true rfl)⟩ rfl hl.1 rfl (Nat.le_of_ble_eq_true rfl) d_M_meet_59 ⟨(Nat.le_of_ble_eq_true rfl), (Nat.le_of_ble_eq_true rfl)⟩) hP hD hS hA (fun r13 u14 H locs hp9 hP hD hS => ?_)
              have hP : va_P D vwCl (MW dA h ad (MS.s_valueLength (MS.s_isCell (MS.s_cells (MS.s_rowSeries x rs) c2) i2c) (((MS.s_valueLength x v3).cr a (rs ((256 * a) + r)) (rs ((256 * b) + w))).2))) H := hP
              have hD : va_D A (MW dA h ad (MS.s_valueLength (MS.s_isCell (MS.s_cells (MS.s_rowSeries x rs) c2) i2c) (((MS.s_valueLength x v3).cr a (rs ((256 * a) + r)) (rs ((256 * b) + w))).2))) := hD
              replace hp9 : ((MS.s_valueLength x v3).cr a (rs ((256 * a) + r)) (rs ((256 * b) + w))).1 = r13 := Eq.symm hp9
              subst hp9
              refine lv_if_eq hx hb d_M_meet_62 (tgt := 71) rfl (fun g15 => ?_) (fun g15 => ?_)
              · have g15 := g15
                exact J71 w (((MS.s_valueLength x v3).cr a (rs ((256 * a) + r)) (rs ((256 * b) + w))).2) (j1.symm.trans (fo_y (by omega) g12 g15)) (by omega) H _ ls hP hD hS (lv_sub hl [0, 1, 2, 3, 4, 5, 6] rfl)
              · have g15 := g15
                refine lv_iinc (k := 0) (v := nI (w + 1)) hx hb d_M_meet_65 hl rfl (iincN (w) 1 1 (by decide)) (by decide) rfl (fun ls hl => ?_)
                have hl : lv_has ls 8 [(6, .int (nI (w + 1))), (4, .int (nI n)), (5, .int (nI r)), (1, .int sg), (2, .int (nI a)), (3, .int (nI b)), (0, .ref h)] := hl
                refine lv_goto hx hb d_M_meet_68 (tgt := 20) rfl ?_
                exact ih20 _ (by omega) (w + 1) (((MS.s_valueLength x v3).cr a (rs ((256 * a) + r)) (rs ((256 * b) + w))).2) (by rw [← j1, fo_n (w := x.tableRows b + 1 - w) (by omega) g12 g15, show x.tableRows b + 1 - w - 1 = x.tableRows b + 1 - (w + 1) by omega]) (by omega) rfl H _ ls hP hD hS (lv_sub hl [0, 1, 2, 3, 4, 5, 6] rfl)
        exact L20 _ 0 v rfl (Nat.zero_le _) rfl H _ ls hP hD hS (lv_sub hl [0, 1, 2, 3, 4, 5, 6] rfl)
  exact L6 _ 0 0 x.isCell x.cells x.rowSeries x.valueLength (Nat.zero_le _) rfl (Nat.le_refl _) (fun q _ => rfl) rfl H _ ls hP hD hS (lv_sub hl [1, 0, 3, 4, 5, 2] rfl)
def MS.meS (x : MS) (sg : Int32) (a b : Nat) : MS := MS.s_valueLength (MS.s_isCell (MS.s_cells (MS.s_rowSeries (MS.s_tableRows x (va_up x.tableRows a (x.meG sg a b (x.tableRows a)).1)) ((x.meG sg a b (x.tableRows a)).2.2.1)) ((x.meG sg a b (x.tableRows a)).2.1.2)) ((x.meG sg a b (x.tableRows a)).2.1.1)) ((x.meG sg a b (x.tableRows a)).2.2.2)
def MS.obS (x : MS) (sg : Int32) (a b : Nat) : MS := MS.s_isCell (MS.s_cells (MS.s_tableRows x (va_up x.tableRows a (if 0 < x.tableRows b then x.tableRows a else 0))) ((if 0 < x.tableRows b then obG sg (x.isCell, x.cells) a b x.windows (x.tableRows a) else (x.isCell, x.cells)).2)) ((if 0 < x.tableRows b then obG sg (x.isCell, x.cells) a b x.windows (x.tableRows a) else (x.isCell, x.cells)).1)
def MS.spS (x : MS) (sg : Int32) (a b : Nat) : MS := MS.s_isCell (MS.s_cells (MS.s_rowSeries (MS.s_tableRows (MS.s_nameLengths (MS.s_nameFroms (MS.s_tableNames x (va_up x.tableNames a (x.tableNames b))) (mvG x.nameFroms (6 * a) (6 * b) 6)) (mvG x.nameLengths (6 * a) (6 * b) 6)) (va_up x.tableRows a (if 0 < x.tableRows a then x.tableRows b else 0))) (mvG x.rowSeries (256 * a) (256 * b) (if 0 < x.tableRows a then x.tableRows b else 0))) ((spG sg (x.isCell, x.cells) a b (if 0 < x.tableRows a then x.tableRows b else 0) x.windows (if 0 < x.tableRows a then x.tableRows b else 0)).2)) ((spG sg (x.isCell, x.cells) a b (if 0 < x.tableRows a then x.tableRows b else 0) x.windows (if 0 < x.tableRows a then x.tableRows b else 0)).1)
/-- the two uppermost tables put together, if their names go together -/
def MS.opB (x : MS) : Bool := x.smN (x.pile - 2) (x.pile - 1) || (decide (x.tableNames (x.pile - 1) = 0) || decide (x.tableNames (x.pile - 2) = 0))
def MS.opM (x : MS) (sg : Int32) : MS := if x.smN (x.pile - 2) (x.pile - 1) = true then x.meS sg (x.pile - 2) (x.pile - 1) else if x.tableNames (x.pile - 1) = 0 then x.obS sg (x.pile - 2) (x.pile - 1) else x.spS sg (x.pile - 2) (x.pile - 1)
def MS.opS (x : MS) (sg : Int32) (q : Nat) : MS := if x.opB = true then MS.swS (MS.s_pile (x.opM sg) ((x.opM sg).pile - 1)) (x.pile - 2) else MS.s_faultPlace (MS.s_faultCode x 5) (nI q)
theorem d_M_operate_0 : decode prog_14_method_75_code 0 = .ok (.aload_n 0, 1) := by decide +kernel
theorem d_M_operate_1 : decode prog_14_method_75_code 1 = .ok (.getfield 400, 3) := by decide +kernel
theorem d_M_operate_4 : decode prog_14_method_75_code 4 = .ok (.iconst 2, 1) := by decide +kernel
theorem d_M_operate_5 : decode prog_14_method_75_code 5 = .ok (.isub, 1) := by decide +kernel
theorem d_M_operate_6 : decode prog_14_method_75_code 6 = .ok (.istore_n 3, 1) := by decide +kernel
theorem d_M_operate_7 : decode prog_14_method_75_code 7 = .ok (.aload_n 0, 1) := by decide +kernel
theorem d_M_operate_8 : decode prog_14_method_75_code 8 = .ok (.getfield 400, 3) := by decide +kernel
theorem d_M_operate_11 : decode prog_14_method_75_code 11 = .ok (.iconst 1, 1) := by decide +kernel
theorem d_M_operate_12 : decode prog_14_method_75_code 12 = .ok (.isub, 1) := by decide +kernel
theorem d_M_operate_13 : decode prog_14_method_75_code 13 = .ok (.istore 4, 2) := by decide +kernel
theorem d_M_operate_179 : decode prog_14_method_75_code 179 = .ok (.aload_n 0, 1) := by decide +kernel
theorem d_M_operate_180 : decode prog_14_method_75_code 180 = .ok (.dup, 1) := by decide +kernel
theorem d_M_operate_181 : decode prog_14_method_75_code 181 = .ok (.getfield 400, 3) := by decide +kernel
theorem d_M_operate_184 : decode prog_14_method_75_code 184 = .ok (.iconst 1, 1) := by decide +kernel
theorem d_M_operate_185 : decode prog_14_method_75_code 185 = .ok (.isub, 1) := by decide +kernel
theorem d_M_operate_186 : decode prog_14_method_75_code 186 = .ok (.putfield 400, 3) := by decide +kernel
theorem d_M_operate_189 : decode prog_14_method_75_code 189 = .ok (.aload_n 0, 1) := by decide +kernel
theorem d_M_operate_190 : decode prog_14_method_75_code 190 = .ok (.iload_n 3, 1) := by decide +kernel
theorem d_M_operate_191 : decode prog_14_method_75_code 191 = .ok (.invokevirtual 419, 3) := by decide +kernel
theorem d_M_operate_194 : decode prog_14_method_75_code 194 = .ok (.iconst 1, 1) := by decide +kernel
theorem d_M_operate_195 : decode prog_14_method_75_code 195 = .ok (.ireturn, 1) := by decide +kernel
theorem d_M_operate_15 : decode prog_14_method_75_code 15 = .ok (.aload_n 0, 1) := by decide +kernel
theorem d_M_operate_16 : decode prog_14_method_75_code 16 = .ok (.iload_n 3, 1) := by decide +kernel
theorem d_M_operate_17 : decode prog_14_method_75_code 17 = .ok (.iload 4, 2) := by decide +kernel
theorem d_M_operate_19 : decode prog_14_method_75_code 19 = .ok (.invokevirtual 422, 3) := by decide +kernel
theorem d_M_operate_22 : decode prog_14_method_75_code 22 = .ok (.ifCond .eq 14, 3) := by decide +kernel
theorem d_M_operate_36 : decode prog_14_method_75_code 36 = .ok (.aload_n 0, 1) := by decide +kernel
theorem d_M_operate_37 : decode prog_14_method_75_code 37 = .ok (.getfield 88, 3) := by decide +kernel
theorem d_M_operate_40 : decode prog_14_method_75_code 40 = .ok (.iload 4, 2) := by decide +kernel
theorem d_M_operate_42 : decode prog_14_method_75_code 42 = .ok (.iaload, 1) := by decide +kernel
theorem d_M_operate_43 : decode prog_14_method_75_code 43 = .ok (.ifCond .ne 109, 3) := by decide +kernel
theorem d_M_operate_152 : decode prog_14_method_75_code 152 = .ok (.aload_n 0, 1) := by decide +kernel
theorem d_M_operate_153 : decode prog_14_method_75_code 153 = .ok (.getfield 88, 3) := by decide +kernel
theorem d_M_operate_156 : decode prog_14_method_75_code 156 = .ok (.iload_n 3, 1) := by decide +kernel
theorem d_M_operate_157 : decode prog_14_method_75_code 157 = .ok (.iaload, 1) := by decide +kernel
theorem d_M_operate_158 : decode prog_14_method_75_code 158 = .ok (.ifCond .ne 14, 3) := by decide +kernel
theorem d_M_operate_172 : decode prog_14_method_75_code 172 = .ok (.aload_n 0, 1) := by decide +kernel
theorem d_M_operate_173 : decode prog_14_method_75_code 173 = .ok (.iconst 5, 1) := by decide +kernel
theorem d_M_operate_174 : decode prog_14_method_75_code 174 = .ok (.iload_n 2, 1) := by decide +kernel
theorem d_M_operate_175 : decode prog_14_method_75_code 175 = .ok (.invokevirtual 224, 3) := by decide +kernel
theorem d_M_operate_178 : decode prog_14_method_75_code 178 = .ok (.ireturn, 1) := by decide +kernel
theorem d_M_operate_161 : decode prog_14_method_75_code 161 = .ok (.aload_n 0, 1) := by decide +kernel
theorem d_M_operate_162 : decode prog_14_method_75_code 162 = .ok (.iload_n 1, 1) := by decide +kernel
theorem d_M_operate_163 : decode prog_14_method_75_code 163 = .ok (.iload_n 3, 1) := by decide +kernel
theorem d_M_operate_164 : decode prog_14_method_75_code 164 = .ok (.iload 4, 2) := by decide +kernel
theorem d_M_operate_166 : decode prog_14_method_75_code 166 = .ok (.invokevirtual 433, 3) := by decide +kernel
theorem d_M_operate_169 : decode prog_14_method_75_code 169 = .ok (.goto 10, 3) := by decide +kernel
theorem d_M_operate_46 : decode prog_14_method_75_code 46 = .ok (.iconst 0, 1) := by decide +kernel
theorem d_M_operate_47 : decode prog_14_method_75_code 47 = .ok (.istore 5, 2) := by decide +kernel
theorem d_M_operate_49 : decode prog_14_method_75_code 49 = .ok (.iload 5, 2) := by decide +kernel
theorem d_M_operate_51 : decode prog_14_method_75_code 51 = .ok (.aload_n 0, 1) := by decide +kernel
theorem d_M_operate_52 : decode prog_14_method_75_code 52 = .ok (.getfield 97, 3) := by decide +kernel
theorem d_M_operate_55 : decode prog_14_method_75_code 55 = .ok (.iload_n 3, 1) := by decide +kernel
theorem d_M_operate_56 : decode prog_14_method_75_code 56 = .ok (.iaload, 1) := by decide +kernel
theorem d_M_operate_57 : decode prog_14_method_75_code 57 = .ok (.if_icmp .ge 66, 3) := by decide +kernel
theorem d_M_operate_123 : decode prog_14_method_75_code 123 = .ok (.aload_n 0, 1) := by decide +kernel
theorem d_M_operate_124 : decode prog_14_method_75_code 124 = .ok (.getfield 97, 3) := by decide +kernel
theorem d_M_operate_127 : decode prog_14_method_75_code 127 = .ok (.iload_n 3, 1) := by decide +kernel
theorem d_M_operate_128 : decode prog_14_method_75_code 128 = .ok (.aload_n 0, 1) := by decide +kernel
theorem d_M_operate_129 : decode prog_14_method_75_code 129 = .ok (.getfield 97, 3) := by decide +kernel
theorem d_M_operate_132 : decode prog_14_method_75_code 132 = .ok (.iload 4, 2) := by decide +kernel
theorem d_M_operate_134 : decode prog_14_method_75_code 134 = .ok (.iaload, 1) := by decide +kernel
theorem d_M_operate_135 : decode prog_14_method_75_code 135 = .ok (.ifCond .le 12, 3) := by decide +kernel
theorem d_M_operate_147 : decode prog_14_method_75_code 147 = .ok (.iconst 0, 1) := by decide +kernel
theorem d_M_operate_148 : decode prog_14_method_75_code 148 = .ok (.iastore, 1) := by decide +kernel
theorem d_M_operate_149 : decode prog_14_method_75_code 149 = .ok (.goto 30, 3) := by decide +kernel
theorem d_M_operate_138 : decode prog_14_method_75_code 138 = .ok (.aload_n 0, 1) := by decide +kernel
theorem d_M_operate_139 : decode prog_14_method_75_code 139 = .ok (.getfield 97, 3) := by decide +kernel
theorem d_M_operate_142 : decode prog_14_method_75_code 142 = .ok (.iload_n 3, 1) := by decide +kernel
theorem d_M_operate_143 : decode prog_14_method_75_code 143 = .ok (.iaload, 1) := by decide +kernel
theorem d_M_operate_144 : decode prog_14_method_75_code 144 = .ok (.goto 4, 3) := by decide +kernel
theorem d_M_operate_117 : decode prog_14_method_75_code 117 = .ok (.iinc 5 1, 3) := by decide +kernel
theorem d_M_operate_120 : decode prog_14_method_75_code 120 = .ok (.goto (-71), 3) := by decide +kernel
theorem d_M_operate_60 : decode prog_14_method_75_code 60 = .ok (.iconst 0, 1) := by decide +kernel
theorem d_M_operate_61 : decode prog_14_method_75_code 61 = .ok (.istore 6, 2) := by decide +kernel
theorem d_M_operate_63 : decode prog_14_method_75_code 63 = .ok (.iload 6, 2) := by decide +kernel
theorem d_M_operate_65 : decode prog_14_method_75_code 65 = .ok (.aload_n 0, 1) := by decide +kernel
theorem d_M_operate_66 : decode prog_14_method_75_code 66 = .ok (.getfield 412, 3) := by decide +kernel
theorem d_M_operate_69 : decode prog_14_method_75_code 69 = .ok (.if_icmp .ge 48, 3) := by decide +kernel
theorem d_M_operate_72 : decode prog_14_method_75_code 72 = .ok (.aload_n 0, 1) := by decide +kernel
theorem d_M_operate_73 : decode prog_14_method_75_code 73 = .ok (.getfield 97, 3) := by decide +kernel
theorem d_M_operate_76 : decode prog_14_method_75_code 76 = .ok (.iload 4, 2) := by decide +kernel
theorem d_M_operate_78 : decode prog_14_method_75_code 78 = .ok (.iaload, 1) := by decide +kernel
theorem d_M_operate_79 : decode prog_14_method_75_code 79 = .ok (.ifCond .le 38, 3) := by decide +kernel
theorem d_M_operate_82 : decode prog_14_method_75_code 82 = .ok (.aload_n 0, 1) := by decide +kernel
theorem d_M_operate_83 : decode prog_14_method_75_code 83 = .ok (.iload_n 1, 1) := by decide +kernel
theorem d_M_operate_84 : decode prog_14_method_75_code 84 = .ok (.iload_n 3, 1) := by decide +kernel
theorem d_M_operate_85 : decode prog_14_method_75_code 85 = .ok (.iload 5, 2) := by decide +kernel
theorem d_M_operate_87 : decode prog_14_method_75_code 87 = .ok (.iload 6, 2) := by decide +kernel
theorem d_M_operate_89 : decode prog_14_method_75_code 89 = .ok (.invokestatic 397, 3) := by decide +kernel
theorem d_M_operate_92 : decode prog_14_method_75_code 92 = .ok (.iload_n 3, 1) := by decide +kernel
theorem d_M_operate_93 : decode prog_14_method_75_code 93 = .ok (.iload 5, 2) := by decide +kernel
theorem d_M_operate_95 : decode prog_14_method_75_code 95 = .ok (.iload 6, 2) := by decide +kernel
theorem d_M_operate_97 : decode prog_14_method_75_code 97 = .ok (.invokestatic 397, 3) := by decide +kernel
theorem d_M_operate_100 : decode prog_14_method_75_code 100 = .ok (.iload 4, 2) := by decide +kernel
theorem d_M_operate_102 : decode prog_14_method_75_code 102 = .ok (.iconst 0, 1) := by decide +kernel
theorem d_M_operate_103 : decode prog_14_method_75_code 103 = .ok (.iload 6, 2) := by decide +kernel
theorem d_M_operate_105 : decode prog_14_method_75_code 105 = .ok (.invokestatic 397, 3) := by decide +kernel
theorem d_M_operate_108 : decode prog_14_method_75_code 108 = .ok (.invokevirtual 429, 3) := by decide +kernel
theorem d_M_operate_111 : decode prog_14_method_75_code 111 = .ok (.iinc 6 1, 3) := by decide +kernel
theorem d_M_operate_114 : decode prog_14_method_75_code 114 = .ok (.goto (-51), 3) := by decide +kernel
theorem d_M_operate_25 : decode prog_14_method_75_code 25 = .ok (.aload_n 0, 1) := by decide +kernel
theorem d_M_operate_26 : decode prog_14_method_75_code 26 = .ok (.iload_n 1, 1) := by decide +kernel
theorem d_M_operate_27 : decode prog_14_method_75_code 27 = .ok (.iload_n 3, 1) := by decide +kernel
theorem d_M_operate_28 : decode prog_14_method_75_code 28 = .ok (.iload 4, 2) := by decide +kernel
theorem d_M_operate_30 : decode prog_14_method_75_code 30 = .ok (.invokevirtual 425, 3) := by decide +kernel
theorem d_M_operate_33 : decode prog_14_method_75_code 33 = .ok (.goto 146, 3) := by decide +kernel
theorem w1002 : Cond.methodLink "SeriesVaultModel" 422 ⟨"SeriesVaultModel", "hasSameNames", "(II)Z"⟩ ∈ aW := aw_of (tb_11 (List.mem_of_getElem? (i := 31) rfl)) rfl
theorem w1003 : Cond.code ⟨"SeriesVaultModel", "hasSameNames", "(II)Z"⟩ prog_14_method_73_code 7 (some FieldType.boolean) ∈ aW := aw_of (tb_11 (List.mem_of_getElem? (i := 34) rfl)) rfl
theorem w1004 : Cond.instanceMethod ⟨"SeriesVaultModel", "hasSameNames", "(II)Z"⟩ ∈ aW := aw_of (tb_11 (List.mem_of_getElem? (i := 33) rfl)) rfl
theorem w1005 : Cond.selects "SeriesVaultModel" ⟨"SeriesVaultModel", "hasSameNames", "(II)Z"⟩ ⟨"SeriesVaultModel", "hasSameNames", "(II)Z"⟩ ∈ aW := aw_pr (List.mem_map.mpr ⟨_, pv_8 (List.mem_of_getElem? (i := 8) rfl), rfl⟩) rfl
theorem w1006 : Cond.methodLink "SeriesVaultModel" 433 ⟨"SeriesVaultModel", "spread", "(III)V"⟩ ∈ aW := aw_of (tb_11 (List.mem_of_getElem? (i := 43) rfl)) rfl
theorem w1007 : Cond.code ⟨"SeriesVaultModel", "spread", "(III)V"⟩ prog_14_method_77_code 7 none ∈ aW := aw_of (tb_11 (List.mem_of_getElem? (i := 46) rfl)) rfl
theorem w1008 : Cond.instanceMethod ⟨"SeriesVaultModel", "spread", "(III)V"⟩ ∈ aW := aw_of (tb_11 (List.mem_of_getElem? (i := 45) rfl)) rfl
theorem w1009 : Cond.selects "SeriesVaultModel" ⟨"SeriesVaultModel", "spread", "(III)V"⟩ ⟨"SeriesVaultModel", "spread", "(III)V"⟩ ∈ aW := aw_pr (List.mem_map.mpr ⟨_, pv_8 (List.mem_of_getElem? (i := 11) rfl), rfl⟩) rfl
theorem w1010 : Cond.methodLink "SeriesVaultModel" 425 ⟨"SeriesVaultModel", "meet", "(III)V"⟩ ∈ aW := aw_of (tb_11 (List.mem_of_getElem? (i := 35) rfl)) rfl
theorem w1011 : Cond.code ⟨"SeriesVaultModel", "meet", "(III)V"⟩ prog_14_method_76_code 8 none ∈ aW := aw_of (tb_11 (List.mem_of_getElem? (i := 38) rfl)) rfl
theorem w1012 : Cond.instanceMethod ⟨"SeriesVaultModel", "meet", "(III)V"⟩ ∈ aW := aw_of (tb_11 (List.mem_of_getElem? (i := 37) rfl)) rfl
theorem w1013 : Cond.selects "SeriesVaultModel" ⟨"SeriesVaultModel", "meet", "(III)V"⟩ ⟨"SeriesVaultModel", "meet", "(III)V"⟩ ∈ aW := aw_pr (List.mem_map.mpr ⟨_, pv_8 (List.mem_of_getElem? (i := 9) rfl), rfl⟩) rfl
set_option maxHeartbeats 4000000 in
set_option maxRecDepth 100000 in
theorem k_operate (l : Launch) (D : va_G) (dA : Nat → ClassId) (sz : Nat) (h : Nat) (ad : Nat → Nat) (x : MS) (sg : Int32) (q7 : Nat) (hsg : isOp sg) (hp2 : 2 ≤ x.pile) (hp20 : x.pile ≤ 20) (hwi : x.windows ≤ 64) (hrw : ∀ t : Nat, t < x.pile → x.tableRows t ≤ 256 ∧ x.nOK t ∧ ∀ q : Nat, q < x.tableRows t → x.tableNames t = 0 ∨ x.tOK (x.rowSeries (256 * t + q))) (hn0 : ∀ t : Nat, t < x.pile → ∀ k : Nat, k < 6 → x.nameFroms (6 * t + k) + x.nameLengths (6 * t + k) ≤ 65536) (hf : x.faultCode = 0) : Met l ⟨"SeriesVaultModel", "operate", "(II)Z"⟩ [Cond.code ⟨"SeriesVaultModel", "operate", "(II)Z"⟩ prog_14_method_75_code 7 (some FieldType.boolean)] { frames := 4, cells := 0, slots := 0, locals := 85 } (pC D dA [.ref h, .int sg, .int (nI q7)] (MW dA h ad x) sz) (va_Qi (fun (r9 : Int32) (u9 : MS) => r9 = bI x.opB ∧ u9 = x.opS sg q7) (fun (u9 : MS) t9 => bW D (va_A (MW dA h ad x) sz) (MW dA h ad u9) t9) (va_A (MW dA h ad x) sz)) 0 0 (va_A (MW dA h ad x) sz) := by
  refine mkC (y := ⟨"SeriesVaultModel", "operate", "(II)Z"⟩) (cc := prog_14_method_75_code) (maxL := 7) (av := [.ref h, .int sg, .int (nI q7)]) (ws := MW dA h ad x) (sz := sz) (Qc := fun A => va_Qi (fun (r9 : Int32) (u9 : MS) => r9 = bI x.opB ∧ u9 = x.opS sg q7) (fun (u9 : MS) t9 => bW D A (MW dA h ad u9) t9) A) (by decide) (Nat.le_of_ble_eq_true rfl) ?_
  intro A p e s m below meth c ls hsz hB
  obtain ⟨hx, hb, hr, hml, hown, hin, hlk, hE, hK, hP, hD, hS, hA, hN, hl⟩ := hB
  have hown : s.vm.findClass "SeriesVaultModel" = some m.cls := hown
  have hl : lv_has ls 7 [(0, .ref h), (1, .int sg), (2, .int (nI q7))] := hl
  obtain ⟨H, hH⟩ : ∃ z, z = s.heap := ⟨_, rfl⟩
  have hP : va_P D vwCl (MW dA h ad x) H := by rw [hH]; exact hP
  have hS : va_S A s.heap H [] := by rw [hH]; exact hS
  rw [← hH]
  have ra0 := hrw (x.pile - 2) (by omega)
  have rb0 := hrw (x.pile - 1) (by omega)
  have ra1 := ra0.1
  have rb1 := rb0.1
  have na6 := ra0.2.1.2.1
  have nb6 := rb0.2.1.2.1
  obtain ⟨n9, i9, c9, rs9, v9, hme⟩ : ∃ z1 z2 z3 z4 z5, x.meG sg (x.pile - 2) (x.pile - 1) (x.tableRows (x.pile - 2)) = (z1, (z2, z3), z4, z5) := ⟨_, _, _, _, _, rfl⟩
  have n9l : n9 ≤ 256 := Nat.le_trans (me_le hme) ra1
  obtain ⟨ns, hns⟩ : ∃ z1, (if 0 < x.tableRows (x.pile - 2) then x.tableRows (x.pile - 1) else 0) = z1 := ⟨_, rfl⟩
  have nsl : ns ≤ 256 := by rw [← hns]; split <;> omega
  obtain ⟨is9, cs9, hsp⟩ : ∃ z1 z2, spG sg (x.isCell, x.cells) (x.pile - 2) (x.pile - 1) ns x.windows ns = (z1, z2) := ⟨_, _, rfl⟩
  refine lv_aload_n hx hb d_M_operate_0 rfl (lv_at hl 0 rfl) ?_
  refine gF (v := .int (nI x.pile)) hx hb hown hE hK hP 0 rfl rfl layM 55 (by decide) w476 rfl d_M_operate_1 ?_
  refine lv_iconst (v := 2) hx hb d_M_operate_4 (by decide) ?_
  refine lv_isub hx hb d_M_operate_5 (tpi (y := nI (x.pile - 2)) (pk_sub (a := x.pile) (b := 2) (by omega)) ?_)
  refine lv_istore_n hx hb d_M_operate_6 rfl hl (by decide) rfl (fun ls hl => ?_)
  have hl : lv_has ls 7 [(3, .int (nI (x.pile - 2))), (0, .ref h), (1, .int sg), (2, .int (nI q7))] := hl
  refine lv_aload_n hx hb d_M_operate_7 rfl (lv_at hl 1 rfl) ?_
  refine gF (v := .int (nI x.pile)) hx hb hown hE hK hP 0 rfl rfl layM 55 (by decide) w476 rfl d_M_operate_8 ?_
  refine lv_iconst (v := 1) hx hb d_M_operate_11 (by decide) ?_
  refine lv_isub hx hb d_M_operate_12 (tpi (y := nI (x.pile - 1)) (pk_sub (a := x.pile) (b := 1) (by omega)) ?_)
  refine lv_istore hx hb d_M_operate_13 hl (by decide) rfl (fun ls hl => ?_)
  have hl : lv_has ls 7 [(4, .int (nI (x.pile - 1))), (3, .int (nI (x.pile - 2))), (0, .ref h), (1, .int sg), (2, .int (nI q7))] := hl
  have J179 : ∀ (z : MS) (ez : z = x.opM sg) (eb : x.opB = true) (z1 : z.pile = x.pile) (z2 : z.windows = x.windows) (z3 : z.tableRows (x.pile - 2) ≤ 256), ∀ (H : Heap) (locs : List Loc) (ls : Array Slot) (hP : va_P D vwCl (MW dA h ad z) H) (hD : va_D A (MW dA h ad z)) (hS : va_S A s.heap H locs) (hl : lv_has ls 7 [(1, .int sg), (2, .int (nI q7)), (3, .int (nI (x.pile - 2))), (4, .int (nI (x.pile - 1))), (0, .ref h)]), W p l e ({ frames := 4, cells := 0, slots := 0, locals := 85 } : Room) s m ([.ref h, .int sg, .int (nI q7)] : List Value).toArray below meth c H locs 0 0 (MQ below (va_Qi (fun (r9 : Int32) (u9 : MS) => r9 = bI x.opB ∧ u9 = x.opS sg q7) (fun (u9 : MS) t9 => bW D A (MW dA h ad u9) t9) A) ([.ref h, .int sg, .int (nI q7)] : List Value).toArray s 0 0 A) (F0 m 179 ls []) := by
    intro z ez eb z1 z2 z3 H locs ls hP hD hS hl
    refine lv_aload_n hx hb d_M_operate_179 rfl (lv_at hl 4 rfl) ?_
    refine lv_dup hx hb d_M_operate_180 rfl ?_
    refine gF (v := .int (nI z.pile)) hx hb hown hE hK hP 0 rfl rfl layM 55 (by decide) w476 rfl d_M_operate_181 ?_
    refine lv_iconst (v := 1) hx hb d_M_operate_184 (by decide) ?_
    refine lv_isub hx hb d_M_operate_185 (tpi (y := nI (z.pile - 1)) (pk_sub (a := z.pile) (b := 1) (by omega)) ?_)
    refine pF (v := .int (nI (z.pile - 1))) hx hb hown hE hK hP hD hS 0 rfl rfl layM tyM tokM nmM 55 (by decide) w476 rfl rfl rfl (Nat.le_of_ble_eq_true rfl) d_M_operate_186 (fun H locs hP hD hS => ?_)
    have hP : va_P D vwCl (MW dA h ad (MS.s_pile z (z.pile - 1))) H := hP
    have hD : va_D A (MW dA h ad (MS.s_pile z (z.pile - 1))) := hD
    obtain ⟨b9, i9s, c9s, r9s, hsw⟩ : ∃ z1 z2 z3 z4, swG z.isCell z.cells z.rowSeries (x.pile - 2) z.windows (z.tableRows (x.pile - 2)) = (z1, z2, z3, z4) := ⟨_, _, _, _, rfl⟩
    refine lv_aload_n hx hb d_M_operate_189 rfl (lv_at hl 4 rfl) ?_
    refine lv_iload_n hx hb d_M_operate_190 rfl (lv_at hl 2 rfl) ?_
    refine jfV (rnV (As := [.int (nI (x.pile - 2))]) (rest := []) hx hb hml hown hE hK (hN _ _ hS) hP hD (k_sweep l D dA H.size h ad (MS.s_pile z (z.pile - 1)) (x.pile - 2) b9 i9s c9s r9s (show (x.pile - 2) < 20 from by omega) (show z.windows ≤ 64 from by omega) z3 hsw) (q0 := 0) rfl rfl w991 w990 w992 w993 w328 rfl rfl ⟨⟨by decide, by decide⟩, rfl⟩ ⟨(Nat.le_of_ble_eq_true rfl), (Nat.le_of_ble_eq_true rfl)⟩ rfl hl.1 rfl (Nat.le_of_ble_eq_true rfl) d_M_operate_191 ⟨(Nat.le_of_ble_eq_true rfl), (Nat.le_of_ble_eq_true rfl)⟩) hP hD hS hA (fun u2 H locs hp9 hP hD hS => ?_)
    have hP : va_P D vwCl (MW dA h ad (MS.s_pile (MS.s_isCell (MS.s_cells (MS.s_rowSeries (MS.s_tableRows z (va_up z.tableRows (x.pile - 2) b9)) r9s) c9s) i9s) (z.pile - 1))) H := hP
    have hD : va_D A (MW dA h ad (MS.s_pile (MS.s_isCell (MS.s_cells (MS.s_rowSeries (MS.s_tableRows z (va_up z.tableRows (x.pile - 2) b9)) r9s) c9s) i9s) (z.pile - 1))) := hD
    refine lv_iconst (v := 1) hx hb d_M_operate_194 (by decide) ?_
    exact rfZ hx hb hr (bI_nar true) hlk hS (MS.s_pile (MS.s_isCell (MS.s_cells (MS.s_rowSeries (MS.s_tableRows z (va_up z.tableRows (x.pile - 2) b9)) r9s) c9s) i9s) (z.pile - 1)) ⟨by rw [eb]; rfl, by unfold MS.opS; rw [if_pos eb, ← ez]; exact (swS_eq (x := MS.s_pile z (z.pile - 1)) (t := x.pile - 2) hsw).symm⟩ hP hD (Nat.le_of_ble_eq_true rfl) (Nat.le_of_ble_eq_true rfl) d_M_operate_195
  refine lv_aload_n hx hb d_M_operate_15 rfl (lv_at hl 2 rfl) ?_
  refine lv_iload_n hx hb d_M_operate_16 rfl (lv_at hl 1 rfl) ?_
  refine lv_iload hx hb d_M_operate_17 (lv_at hl 0 rfl) ?_
  refine jfI (rnV (As := [.int (nI (x.pile - 2)), .int (nI (x.pile - 1))]) (rest := []) hx hb hml hown hE hK (hN _ _ hS) hP hD (k_hasSameNames l D dA H.size h ad x (x.pile - 2) (x.pile - 1) (show (x.pile - 2) < 20 from by omega) (show (x.pile - 1) < 20 from by omega) na6 nb6 (fun k hk => ⟨hn0 _ (by omega) k hk, hn0 _ (by omega) k hk⟩)) (q0 := 0) rfl rfl w1003 w1002 w1004 w1005 w328 rfl rfl ⟨⟨by decide, by decide⟩, rfl⟩ ⟨(Nat.le_of_ble_eq_true rfl), (Nat.le_of_ble_eq_true rfl)⟩ rfl hl.1 rfl (Nat.le_of_ble_eq_true rfl) d_M_operate_19 ⟨(Nat.le_of_ble_eq_true rfl), (Nat.le_of_ble_eq_true rfl)⟩) hP hD hS hA (fun r3 u4 H locs hp9 hP hD hS => ?_)
  have hP : va_P D vwCl (MW dA h ad x) H := hP
  have hD : va_D A (MW dA h ad x) := hD
  replace hp9 : bI (x.smN (x.pile - 2) (x.pile - 1)) = r3 := Eq.symm hp9
  subst hp9
  refine lv_if_eq hx hb d_M_operate_22 (tgt := 36) rfl (fun g5 => ?_) (fun g5 => ?_)
  · have g5 := bI_0 g5
    refine lv_aload_n hx hb d_M_operate_36 rfl (lv_at hl 2 rfl) ?_
    refine gF (v := .ref (ad 48)) hx hb hown hE hK hP 0 rfl rfl layM 48 (by decide) w518 rfl d_M_operate_37 ?_
    refine lv_iload hx hb d_M_operate_40 (lv_at hl 0 rfl) ?_
    refine nild (f := (fun z9 => nI (x.tableNames z9))) hx hb hK hP 21 1 rfl rfl (x.pile - 1) (by omega) (by decide) d_M_operate_42 ?_
    refine lv_if_ne hx hb d_M_operate_43 (tgt := 152) rfl (fun g6 => ?_) (fun g6 => ?_)
    · have g6 := mt (nI_eq (a := x.tableNames (x.pile - 1)) (b := 0) (by omega) (by decide)).mpr g6
      refine lv_aload_n hx hb d_M_operate_152 rfl (lv_at hl 2 rfl) ?_
      refine gF (v := .ref (ad 48)) hx hb hown hE hK hP 0 rfl rfl layM 48 (by decide) w518 rfl d_M_operate_153 ?_
      refine lv_iload_n hx hb d_M_operate_156 rfl (lv_at hl 1 rfl) ?_
      refine nild (f := (fun z9 => nI (x.tableNames z9))) hx hb hK hP 21 1 rfl rfl (x.pile - 2) (by omega) (by decide) d_M_operate_157 ?_
      refine lv_if_ne hx hb d_M_operate_158 (tgt := 172) rfl (fun g7 => ?_) (fun g7 => ?_)
      · have g7 := mt (nI_eq (a := x.tableNames (x.pile - 2)) (b := 0) (by omega) (by decide)).mpr g7
        refine lv_aload_n hx hb d_M_operate_172 rfl (lv_at hl 2 rfl) ?_
        refine lv_iconst (v := 5) hx hb d_M_operate_173 (by decide) ?_
        refine lv_iload_n hx hb d_M_operate_174 rfl (lv_at hl 4 rfl) ?_
        refine jfI (rnV (As := [.int 5, .int (nI q7)]) (rest := []) hx hb hml hown hE hK (hN _ _ hS) hP hD (k_flaw_0 l D dA H.size h ad x 5 (nI q7) hf) (q0 := 0) rfl rfl w431 w430 w432 w433 w328 rfl rfl ⟨⟨by decide, by decide⟩, rfl⟩ ⟨(Nat.le_of_ble_eq_true rfl), (Nat.le_of_ble_eq_true rfl)⟩ rfl hl.1 rfl (Nat.le_of_ble_eq_true rfl) d_M_operate_175 ⟨(Nat.le_of_ble_eq_true rfl), (Nat.le_of_ble_eq_true rfl)⟩) hP hD hS hA (fun r8 u9 H locs hp9 hP hD hS => ?_)
        have hP : va_P D vwCl (MW dA h ad (MS.s_faultPlace (MS.s_faultCode x 5) (nI q7))) H := hP
        have hD : va_D A (MW dA h ad (MS.s_faultPlace (MS.s_faultCode x 5) (nI q7))) := hD
        replace hp9 : bI false = r8 := Eq.symm hp9
        subst hp9
        exact rfZ hx hb hr (bI_nar false) hlk hS (MS.s_faultPlace (MS.s_faultCode x 5) (nI q7)) (have e9 : x.opB = false := (by unfold MS.opB; rw [g5, decide_eq_false g6, decide_eq_false g7]; rfl); ⟨by rw [e9], by unfold MS.opS; rw [if_neg (by rw [e9]; decide)]⟩) hP hD (Nat.le_of_ble_eq_true rfl) (Nat.le_of_ble_eq_true rfl) d_M_operate_178
      · have g7 := (nI_eq (a := x.tableNames (x.pile - 2)) (b := 0) (by omega) (by decide)).mp g7
        refine lv_aload_n hx hb d_M_operate_161 rfl (lv_at hl 2 rfl) ?_
        refine lv_iload_n hx hb d_M_operate_162 rfl (lv_at hl 3 rfl) ?_
        refine lv_iload_n hx hb d_M_operate_163 rfl (lv_at hl 1 rfl) ?_
        refine lv_iload hx hb d_M_operate_164 (lv_at hl 0 rfl) ?_
        refine jfV (rnV (As := [.int sg, .int (nI (x.pile - 2)), .int (nI (x.pile - 1))]) (rest := []) hx hb hml hown hE hK (hN _ _ hS) hP hD (k_spread l D dA H.size h ad x sg (x.pile - 2) (x.pile - 1) ns is9 cs9 hsg (show (x.pile - 2) < 20 from by omega) (show (x.pile - 1) < 20 from by omega) (show x.windows ≤ 64 from by omega) (show x.tableRows (x.pile - 1) ≤ 256 from by omega) (show x.tableRows (x.pile - 2) ≤ 256 from by omega) hns hsp) (q0 := 0) rfl rfl w1007 w1006 w1008 w1009 w328 rfl rfl ⟨⟨by decide, by decide⟩, rfl⟩ ⟨(Nat.le_of_ble_eq_true rfl), (Nat.le_of_ble_eq_true rfl)⟩ rfl hl.1 rfl (Nat.le_of_ble_eq_true rfl) d_M_operate_166 ⟨(Nat.le_of_ble_eq_true rfl), (Nat.le_of_ble_eq_true rfl)⟩) hP hD hS hA (fun u11 H locs hp9 hP hD hS => ?_)
        have hP : va_P D vwCl (MW dA h ad (MS.s_isCell (MS.s_cells (MS.s_rowSeries (MS.s_tableRows (MS.s_nameLengths (MS.s_nameFroms (MS.s_tableNames x (va_up x.tableNames (x.pile - 2) (x.tableNames (x.pile - 1)))) (mvG x.nameFroms (6 * (x.pile - 2)) (6 * (x.pile - 1)) 6)) (mvG x.nameLengths (6 * (x.pile - 2)) (6 * (x.pile - 1)) 6)) (va_up x.tableRows (x.pile - 2) ns)) (mvG x.rowSeries (256 * (x.pile - 2)) (256 * (x.pile - 1)) ns)) cs9) is9)) H := hP
        have hD : va_D A (MW dA h ad (MS.s_isCell (MS.s_cells (MS.s_rowSeries (MS.s_tableRows (MS.s_nameLengths (MS.s_nameFroms (MS.s_tableNames x (va_up x.tableNames (x.pile - 2) (x.tableNames (x.pile - 1)))) (mvG x.nameFroms (6 * (x.pile - 2)) (6 * (x.pile - 1)) 6)) (mvG x.nameLengths (6 * (x.pile - 2)) (6 * (x.pile - 1)) 6)) (va_up x.tableRows (x.pile - 2) ns)) (mvG x.rowSeries (256 * (x.pile - 2)) (256 * (x.pile - 1)) ns)) cs9) is9)) := hD
        refine lv_goto hx hb d_M_operate_169 (tgt := 179) rfl ?_
        exact J179 (MS.s_isCell (MS.s_cells (MS.s_rowSeries (MS.s_tableRows (MS.s_nameLengths (MS.s_nameFroms (MS.s_tableNames x (va_up x.tableNames (x.pile - 2) (x.tableNames (x.pile - 1)))) (mvG x.nameFroms (6 * (x.pile - 2)) (6 * (x.pile - 1)) 6)) (mvG x.nameLengths (6 * (x.pile - 2)) (6 * (x.pile - 1)) 6)) (va_up x.tableRows (x.pile - 2) ns)) (mvG x.rowSeries (256 * (x.pile - 2)) (256 * (x.pile - 1)) ns)) cs9) is9) (by unfold MS.opM; rw [if_neg (by rw [g5]; decide), if_neg g6]; unfold MS.spS; rw [hns, hsp]) (by unfold MS.opB; rw [decide_eq_true g7]; simp) rfl rfl (by show va_up x.tableRows (x.pile - 2) _ (x.pile - 2) ≤ 256; rw [va_us]; omega) H _ ls hP hD hS (lv_sub hl [3, 4, 1, 0, 2] rfl)
    · have g6 := (nI_eq (a := x.tableNames (x.pile - 1)) (b := 0) (by omega) (by decide)).mp g6
      refine lv_iconst (v := 0) hx hb d_M_operate_46 (by decide) ?_
      refine lv_istore hx hb d_M_operate_47 hl (by decide) rfl (fun ls hl => ?_)
      have hl : lv_has ls 7 [(5, .int 0), (4, .int (nI (x.pile - 1))), (3, .int (nI (x.pile - 2))), (0, .ref h), (1, .int sg), (2, .int (nI q7))] := hl
      have L49 : ∀ (k9 : Nat) (r : Nat) (i2c : Nat → Bool) (c2 : Nat → Int64) (i1 : r ≤ x.tableRows (x.pile - 2)) (i2 : (if 0 < x.tableRows (x.pile - 1) then obG sg (x.isCell, x.cells) (x.pile - 2) (x.pile - 1) x.windows r else (x.isCell, x.cells)) = (i2c, c2)) (hk9 : x.tableRows (x.pile - 2) - r = k9), ∀ (H : Heap) (locs : List Loc) (ls : Array Slot) (hP : va_P D vwCl (MW dA h ad (MS.s_isCell (MS.s_cells x c2) i2c)) H) (hD : va_D A (MW dA h ad (MS.s_isCell (MS.s_cells x c2) i2c))) (hS : va_S A s.heap H locs) (hl : lv_has ls 7 [(5, .int (nI r)), (1, .int sg), (2, .int (nI q7)), (3, .int (nI (x.pile - 2))), (4, .int (nI (x.pile - 1))), (0, .ref h)]), W p l e ({ frames := 4, cells := 0, slots := 0, locals := 85 } : Room) s m ([.ref h, .int sg, .int (nI q7)] : List Value).toArray below meth c H locs 0 0 (MQ below (va_Qi (fun (r9 : Int32) (u9 : MS) => r9 = bI x.opB ∧ u9 = x.opS sg q7) (fun (u9 : MS) t9 => bW D A (MW dA h ad u9) t9) A) ([.ref h, .int sg, .int (nI q7)] : List Value).toArray s 0 0 A) (F0 m 49 ls []) := by
        intro k9
        induction k9 using Nat.strongRecOn with
        | ind k9 ih49 =>
          intro r i2c c2 i1 i2 hk9 H locs ls hP hD hS hl
          refine lv_iload hx hb d_M_operate_49 (lv_at hl 0 rfl) ?_
          refine lv_aload_n hx hb d_M_operate_51 rfl (lv_at hl 5 rfl) ?_
          refine gF (v := .ref (ad 51)) hx hb hown hE hK hP 0 rfl rfl layM 51 (by decide) w521 rfl d_M_operate_52 ?_
          refine lv_iload_n hx hb d_M_operate_55 rfl (lv_at hl 3 rfl) ?_
          refine nild (f := (fun z9 => nI (x.tableRows z9))) hx hb hK hP 24 1 rfl rfl (x.pile - 2) (by omega) (by decide) d_M_operate_56 ?_
          refine lv_icmp_ge hx hb d_M_operate_57 (tgt := 123) rfl (fun g12 => ?_) (fun g12 => ?_)
          · have g12 := (nI_leI (a := x.tableRows (x.pile - 2)) (b := r) (by omega) (by omega)).mp g12
            refine lv_aload_n hx hb d_M_operate_123 rfl (lv_at hl 5 rfl) ?_
            refine gF (v := .ref (ad 51)) hx hb hown hE hK hP 0 rfl rfl layM 51 (by decide) w521 rfl d_M_operate_124 ?_
            refine lv_iload_n hx hb d_M_operate_127 rfl (lv_at hl 3 rfl) ?_
            refine lv_aload_n hx hb d_M_operate_128 rfl (lv_at hl 5 rfl) ?_
            refine gF (v := .ref (ad 51)) hx hb hown hE hK hP 0 rfl rfl layM 51 (by decide) w521 rfl d_M_operate_129 ?_
            refine lv_iload hx hb d_M_operate_132 (lv_at hl 4 rfl) ?_
            refine nild (f := (fun z9 => nI (x.tableRows z9))) hx hb hK hP 24 1 rfl rfl (x.pile - 1) (by omega) (by decide) d_M_operate_134 ?_
            refine lv_if_le hx hb d_M_operate_135 (tgt := 147) rfl (fun g13 => ?_) (fun g13 => ?_)
            · have g13 := (nI_leI (a := x.tableRows (x.pile - 1)) (b := 0) (by omega) (by decide)).mp g13
              refine lv_iconst (v := 0) hx hb d_M_operate_147 (by decide) ?_
              have ob9 : (if 0 < x.tableRows (x.pile - 1) then obG sg (x.isCell, x.cells) (x.pile - 2) (x.pile - 1) x.windows (x.tableRows (x.pile - 2)) else (x.isCell, x.cells)) = (i2c, c2) := by rw [← show r = x.tableRows (x.pile - 2) by omega]; exact i2
              have ot9 : (if 0 < x.tableRows (x.pile - 1) then x.tableRows (x.pile - 2) else 0) = 0 := (if_neg (by omega))
              refine nistN (v := 0) hx hb hK hP hD hS 24 1 rfl rfl (x.pile - 2) (by omega) (by decide) d_M_operate_148 (fun H locs hP hD hS => ?_)
              have hP : va_P D vwCl (MW dA h ad (MS.s_isCell (MS.s_cells (MS.s_tableRows x (va_up x.tableRows (x.pile - 2) 0)) c2) i2c)) H := hP
              have hD : va_D A (MW dA h ad (MS.s_isCell (MS.s_cells (MS.s_tableRows x (va_up x.tableRows (x.pile - 2) 0)) c2) i2c)) := hD
              refine lv_goto hx hb d_M_operate_149 (tgt := 179) rfl ?_
              exact J179 (MS.s_isCell (MS.s_cells (MS.s_tableRows x (va_up x.tableRows (x.pile - 2) 0)) c2) i2c) (by unfold MS.opM; rw [if_neg (by rw [g5]; decide), if_pos g6]; unfold MS.obS; rw [ob9, ot9]) (by unfold MS.opB; rw [decide_eq_true g6]; simp) rfl rfl (by show va_up x.tableRows (x.pile - 2) _ (x.pile - 2) ≤ 256; rw [va_us]; omega) H _ ls hP hD hS (lv_sub hl [1, 2, 3, 4, 5] rfl)
            · have g13 := mt (nI_leI (a := x.tableRows (x.pile - 1)) (b := 0) (by omega) (by decide)).mpr g13
              refine lv_aload_n hx hb d_M_operate_138 rfl (lv_at hl 5 rfl) ?_
              refine gF (v := .ref (ad 51)) hx hb hown hE hK hP 0 rfl rfl layM 51 (by decide) w521 rfl d_M_operate_139 ?_
              refine lv_iload_n hx hb d_M_operate_142 rfl (lv_at hl 3 rfl) ?_
              refine nild (f := (fun z9 => nI (x.tableRows z9))) hx hb hK hP 24 1 rfl rfl (x.pile - 2) (by omega) (by decide) d_M_operate_143 ?_
              refine lv_goto hx hb d_M_operate_144 (tgt := 148) rfl ?_
              have ob9 : (if 0 < x.tableRows (x.pile - 1) then obG sg (x.isCell, x.cells) (x.pile - 2) (x.pile - 1) x.windows (x.tableRows (x.pile - 2)) else (x.isCell, x.cells)) = (i2c, c2) := by rw [← show r = x.tableRows (x.pile - 2) by omega]; exact i2
              have ot9 : (if 0 < x.tableRows (x.pile - 1) then x.tableRows (x.pile - 2) else 0) = x.tableRows (x.pile - 2) := (if_pos (by omega))
              refine nistN (v := x.tableRows (x.pile - 2)) hx hb hK hP hD hS 24 1 rfl rfl (x.pile - 2) (by omega) (by decide) d_M_operate_148 (fun H locs hP hD hS => ?_)
              have hP : va_P D vwCl (MW dA h ad (MS.s_isCell (MS.s_cells (MS.s_tableRows x (va_up x.tableRows (x.pile - 2) (x.tableRows (x.pile - 2)))) c2) i2c)) H := hP
              have hD : va_D A (MW dA h ad (MS.s_isCell (MS.s_cells (MS.s_tableRows x (va_up x.tableRows (x.pile - 2) (x.tableRows (x.pile - 2)))) c2) i2c)) := hD
              refine lv_goto hx hb d_M_operate_149 (tgt := 179) rfl ?_
              exact J179 (MS.s_isCell (MS.s_cells (MS.s_tableRows x (va_up x.tableRows (x.pile - 2) (x.tableRows (x.pile - 2)))) c2) i2c) (by unfold MS.opM; rw [if_neg (by rw [g5]; decide), if_pos g6]; unfold MS.obS; rw [ob9, ot9]) (by unfold MS.opB; rw [decide_eq_true g6]; simp) rfl rfl (by show va_up x.tableRows (x.pile - 2) _ (x.pile - 2) ≤ 256; rw [va_us]; omega) H _ ls hP hD hS (lv_sub hl [1, 2, 3, 4, 5] rfl)
          · have g12 := mt (nI_leI (a := x.tableRows (x.pile - 2)) (b := r) (by omega) (by omega)).mpr g12
            have J117 : ∀ (i3c : Nat → Bool) (c3 : Nat → Int64) (j9 : (if 0 < x.tableRows (x.pile - 1) then obG sg (x.isCell, x.cells) (x.pile - 2) (x.pile - 1) x.windows (r + 1) else (x.isCell, x.cells)) = (i3c, c3)), ∀ (H : Heap) (locs : List Loc) (ls : Array Slot) (hP : va_P D vwCl (MW dA h ad (MS.s_isCell (MS.s_cells x c3) i3c)) H) (hD : va_D A (MW dA h ad (MS.s_isCell (MS.s_cells x c3) i3c))) (hS : va_S A s.heap H locs) (hl : lv_has ls 7 [(5, .int (nI r)), (1, .int sg), (2, .int (nI q7)), (3, .int (nI (x.pile - 2))), (4, .int (nI (x.pile - 1))), (0, .ref h)]), W p l e ({ frames := 4, cells := 0, slots := 0, locals := 85 } : Room) s m ([.ref h, .int sg, .int (nI q7)] : List Value).toArray below meth c H locs 0 0 (MQ below (va_Qi (fun (r9 : Int32) (u9 : MS) => r9 = bI x.opB ∧ u9 = x.opS sg q7) (fun (u9 : MS) t9 => bW D A (MW dA h ad u9) t9) A) ([.ref h, .int sg, .int (nI q7)] : List Value).toArray s 0 0 A) (F0 m 117 ls []) := by
              intro i3c c3 j9 H locs ls hP hD hS hl
              refine lv_iinc (k := 0) (v := nI (r + 1)) hx hb d_M_operate_117 hl rfl (iincN (r) 1 1 (by decide)) (by decide) rfl (fun ls hl => ?_)
              have hl : lv_has ls 7 [(5, .int (nI (r + 1))), (1, .int sg), (2, .int (nI q7)), (3, .int (nI (x.pile - 2))), (4, .int (nI (x.pile - 1))), (0, .ref h)] := hl
              refine lv_goto hx hb d_M_operate_120 (tgt := 49) rfl ?_
              exact ih49 _ (by omega) (r + 1) i3c c3 (by omega) j9 rfl H _ ls hP hD hS (lv_sub hl [0, 1, 2, 3, 4, 5] rfl)
            refine lv_iconst (v := 0) hx hb d_M_operate_60 (by decide) ?_
            refine lv_istore hx hb d_M_operate_61 hl (by decide) rfl (fun ls hl => ?_)
            have hl : lv_has ls 7 [(6, .int 0), (5, .int (nI r)), (1, .int sg), (2, .int (nI q7)), (3, .int (nI (x.pile - 2))), (4, .int (nI (x.pile - 1))), (0, .ref h)] := hl
            have L63 : ∀ (k9 : Nat) (w : Nat) (i3c : Nat → Bool) (c3 : Nat → Int64) (m1 : w ≤ x.windows) (m2 : jrG sg (i2c, c2) (cA (x.pile - 2) r) (cA (x.pile - 2) r) (cA (x.pile - 1) 0) w = (i3c, c3)) (m3 : w = 0 ∨ 0 < x.tableRows (x.pile - 1)) (hk9 : x.windows - w = k9), ∀ (H : Heap) (locs : List Loc) (ls : Array Slot) (hP : va_P D vwCl (MW dA h ad (MS.s_isCell (MS.s_cells x c3) i3c)) H) (hD : va_D A (MW dA h ad (MS.s_isCell (MS.s_cells x c3) i3c))) (hS : va_S A s.heap H locs) (hl : lv_has ls 7 [(6, .int (nI w)), (5, .int (nI r)), (1, .int sg), (2, .int (nI q7)), (3, .int (nI (x.pile - 2))), (4, .int (nI (x.pile - 1))), (0, .ref h)]), W p l e ({ frames := 4, cells := 0, slots := 0, locals := 85 } : Room) s m ([.ref h, .int sg, .int (nI q7)] : List Value).toArray below meth c H locs 0 0 (MQ below (va_Qi (fun (r9 : Int32) (u9 : MS) => r9 = bI x.opB ∧ u9 = x.opS sg q7) (fun (u9 : MS) t9 => bW D A (MW dA h ad u9) t9) A) ([.ref h, .int sg, .int (nI q7)] : List Value).toArray s 0 0 A) (F0 m 63 ls []) := by
              intro k9
              induction k9 using Nat.strongRecOn with
              | ind k9 ih63 =>
                intro w i3c c3 m1 m2 m3 hk9 H locs ls hP hD hS hl
                refine lv_iload hx hb d_M_operate_63 (lv_at hl 0 rfl) ?_
                refine lv_aload_n hx hb d_M_operate_65 rfl (lv_at hl 6 rfl) ?_
                refine gF (v := .int (nI x.windows)) hx hb hown hE hK hP 0 rfl rfl layM 59 (by decide) w489 rfl d_M_operate_66 ?_
                refine lv_icmp_ge hx hb d_M_operate_69 (tgt := 117) rfl (fun g14 => ?_) (fun g14 => ?_)
                · have g14 := (nI_leI (a := x.windows) (b := w) (by omega) (by omega)).mp g14
                  exact J117 i3c c3 (ob_s i2 m2 (Or.inl (by omega)) m3) H _ ls hP hD hS (lv_sub hl [1, 2, 3, 4, 5, 6] rfl)
                · have g14 := mt (nI_leI (a := x.windows) (b := w) (by omega) (by omega)).mpr g14
                  refine lv_aload_n hx hb d_M_operate_72 rfl (lv_at hl 6 rfl) ?_
                  refine gF (v := .ref (ad 51)) hx hb hown hE hK hP 0 rfl rfl layM 51 (by decide) w521 rfl d_M_operate_73 ?_
                  refine lv_iload hx hb d_M_operate_76 (lv_at hl 5 rfl) ?_
                  refine nild (f := (fun z9 => nI (x.tableRows z9))) hx hb hK hP 24 1 rfl rfl (x.pile - 1) (by omega) (by decide) d_M_operate_78 ?_
                  refine lv_if_le hx hb d_M_operate_79 (tgt := 117) rfl (fun g15 => ?_) (fun g15 => ?_)
                  · have g15 := (nI_leI (a := x.tableRows (x.pile - 1)) (b := 0) (by omega) (by decide)).mp g15
                    exact J117 i3c c3 (ob_s i2 m2 (Or.inr ⟨by omega, by omega⟩) m3) H _ ls hP hD hS (lv_sub hl [1, 2, 3, 4, 5, 6] rfl)
                  · have g15 := mt (nI_leI (a := x.tableRows (x.pile - 1)) (b := 0) (by omega) (by decide)).mpr g15
                    refine lv_aload_n hx hb d_M_operate_82 rfl (lv_at hl 6 rfl) ?_
                    refine lv_iload_n hx hb d_M_operate_83 rfl (lv_at hl 2 rfl) ?_
                    refine lv_iload_n hx hb d_M_operate_84 rfl (lv_at hl 4 rfl) ?_
                    refine lv_iload hx hb d_M_operate_85 (lv_at hl 1 rfl) ?_
                    refine lv_iload hx hb d_M_operate_87 (lv_at hl 0 rfl) ?_
                    have hPc := hP.sub (ws' := []) [] rfl
                    have hDc := hD.sub (ws' := []) [] (by decide) rfl
                    refine jnI (rnS (As := [.int (nI (x.pile - 2)), .int (nI r), .int (nI w)]) (rest := [.int sg, .ref h]) hx hb hml hown hE hK (hN _ _ hS) hPc hDc (k_cellAt l D dA H.size (x.pile - 2) r w) w971 w970 w972 w328 rfl rfl ⟨⟨by decide, by decide⟩, rfl⟩ ⟨(Nat.le_of_ble_eq_true rfl), (Nat.le_of_ble_eq_true rfl)⟩ rfl hl.1 rfl (Nat.le_of_ble_eq_true rfl) d_M_operate_89 ⟨(Nat.le_of_ble_eq_true rfl), (Nat.le_of_ble_eq_true rfl)⟩) hP hD hS hA [] [0, 1, 2, 3, 4, 5, 6, 7, 8, 9, 10, 11, 12, 13, 14, 15, 16, 17, 18, 19, 20, 21, 22, 23, 24, 25, 26, 27, 28, 29, 30, 31, 32, 33, 34, 35, 36, 37, 38] (wr := MW dA h ad (MS.s_isCell (MS.s_cells x c3) i3c)) rfl rfl (by decide) (by decide) (fun r16 u9 H locs hp9 hP hD hS => ?_)
                    have hP : va_P D vwCl (MW dA h ad (MS.s_isCell (MS.s_cells x c3) i3c)) H := hP
                    have hD : va_D A (MW dA h ad (MS.s_isCell (MS.s_cells x c3) i3c)) := hD
                    replace hp9 : nI (((x.pile - 2) * 256 + r) * 64 + w) = r16 := Eq.symm hp9
                    subst hp9
                    refine lv_iload_n hx hb d_M_operate_92 rfl (lv_at hl 4 rfl) ?_
                    refine lv_iload hx hb d_M_operate_93 (lv_at hl 1 rfl) ?_
                    refine lv_iload hx hb d_M_operate_95 (lv_at hl 0 rfl) ?_
                    have hPc := hP.sub (ws' := []) [] rfl
                    have hDc := hD.sub (ws' := []) [] (by decide) rfl
                    refine jnI (rnS (As := [.int (nI (x.pile - 2)), .int (nI r), .int (nI w)]) (rest := [.int (nI (((x.pile - 2) * 256 + r) * 64 + w)), .int sg, .ref h]) hx hb hml hown hE hK (hN _ _ hS) hPc hDc (k_cellAt l D dA H.size (x.pile - 2) r w) w971 w970 w972 w328 rfl rfl ⟨⟨by decide, by decide⟩, rfl⟩ ⟨(Nat.le_of_ble_eq_true rfl), (Nat.le_of_ble_eq_true rfl)⟩ rfl hl.1 rfl (Nat.le_of_ble_eq_true rfl) d_M_operate_97 ⟨(Nat.le_of_ble_eq_true rfl), (Nat.le_of_ble_eq_true rfl)⟩) hP hD hS hA [] [0, 1, 2, 3, 4, 5, 6, 7, 8, 9, 10, 11, 12, 13, 14, 15, 16, 17, 18, 19, 20, 21, 22, 23, 24, 25, 26, 27, 28, 29, 30, 31, 32, 33, 34, 35, 36, 37, 38] (wr := MW dA h ad (MS.s_isCell (MS.s_cells x c3) i3c)) rfl rfl (by decide) (by decide) (fun r18 u9 H locs hp9 hP hD hS => ?_)
                    have hP : va_P D vwCl (MW dA h ad (MS.s_isCell (MS.s_cells x c3) i3c)) H := hP
                    have hD : va_D A (MW dA h ad (MS.s_isCell (MS.s_cells x c3) i3c)) := hD
                    replace hp9 : nI (((x.pile - 2) * 256 + r) * 64 + w) = r18 := Eq.symm hp9
                    subst hp9
                    refine lv_iload hx hb d_M_operate_100 (lv_at hl 5 rfl) ?_
                    refine lv_iconst (v := 0) hx hb d_M_operate_102 (by decide) ?_
                    refine lv_iload hx hb d_M_operate_103 (lv_at hl 0 rfl) ?_
                    have hPc := hP.sub (ws' := []) [] rfl
                    have hDc := hD.sub (ws' := []) [] (by decide) rfl
                    refine jnI (rnS (As := [.int (nI (x.pile - 1)), .int 0, .int (nI w)]) (rest := [.int (nI (((x.pile - 2) * 256 + r) * 64 + w)), .int (nI (((x.pile - 2) * 256 + r) * 64 + w)), .int sg, .ref h]) hx hb hml hown hE hK (hN _ _ hS) hPc hDc (k_cellAt l D dA H.size (x.pile - 1) 0 w) w971 w970 w972 w328 rfl rfl ⟨⟨by decide, by decide⟩, rfl⟩ ⟨(Nat.le_of_ble_eq_true rfl), (Nat.le_of_ble_eq_true rfl)⟩ rfl hl.1 rfl (Nat.le_of_ble_eq_true rfl) d_M_operate_105 ⟨(Nat.le_of_ble_eq_true rfl), (Nat.le_of_ble_eq_true rfl)⟩) hP hD hS hA [] [0, 1, 2, 3, 4, 5, 6, 7, 8, 9, 10, 11, 12, 13, 14, 15, 16, 17, 18, 19, 20, 21, 22, 23, 24, 25, 26, 27, 28, 29, 30, 31, 32, 33, 34, 35, 36, 37, 38] (wr := MW dA h ad (MS.s_isCell (MS.s_cells x c3) i3c)) rfl rfl (by decide) (by decide) (fun r20 u9 H locs hp9 hP hD hS => ?_)
                    have hP : va_P D vwCl (MW dA h ad (MS.s_isCell (MS.s_cells x c3) i3c)) H := hP
                    have hD : va_D A (MW dA h ad (MS.s_isCell (MS.s_cells x c3) i3c)) := hD
                    replace hp9 : nI (((x.pile - 1) * 256 + 0) * 64 + w) = r20 := Eq.symm hp9
                    subst hp9
                    refine jfV (rnV (As := [.int sg, .int (nI (((x.pile - 2) * 256 + r) * 64 + w)), .int (nI (((x.pile - 2) * 256 + r) * 64 + w)), .int (nI (((x.pile - 1) * 256 + 0) * 64 + w))]) (rest := []) hx hb hml hown hE hK (hN _ _ hS) hP hD (k_join l D dA H.size h ad (MS.s_isCell (MS.s_cells x c3) i3c) sg (((x.pile - 2) * 256 + r) * 64 + w) (((x.pile - 2) * 256 + r) * 64 + w) (((x.pile - 1) * 256 + 0) * 64 + w) hsg (show (((x.pile - 2) * 256 + r) * 64 + w) < 327680 from by omega) (show (((x.pile - 2) * 256 + r) * 64 + w) < 327680 from by omega) (show (((x.pile - 1) * 256 + 0) * 64 + w) < 327680 from by omega)) (q0 := 0) rfl rfl w974 w973 w975 w976 w328 rfl rfl ⟨⟨by decide, by decide⟩, rfl⟩ ⟨(Nat.le_of_ble_eq_true rfl), (Nat.le_of_ble_eq_true rfl)⟩ rfl hl.1 rfl (Nat.le_of_ble_eq_true rfl) d_M_operate_108 ⟨(Nat.le_of_ble_eq_true rfl), (Nat.le_of_ble_eq_true rfl)⟩) hP hD hS hA (fun u23 H locs hp9 hP hD hS => ?_)
                    have hP : va_P D vwCl (MW dA h ad (MS.s_isCell (MS.s_cells x (va_up c3 (((x.pile - 2) * 256 + r) * 64 + w) (jnW sg (jnB sg (i3c (((x.pile - 2) * 256 + r) * 64 + w)) (i3c (((x.pile - 1) * 256 + 0) * 64 + w)) (c3 (((x.pile - 1) * 256 + 0) * 64 + w))) (c3 (((x.pile - 2) * 256 + r) * 64 + w)) (c3 (((x.pile - 1) * 256 + 0) * 64 + w))))) (va_up i3c (((x.pile - 2) * 256 + r) * 64 + w) (jnB sg (i3c (((x.pile - 2) * 256 + r) * 64 + w)) (i3c (((x.pile - 1) * 256 + 0) * 64 + w)) (c3 (((x.pile - 1) * 256 + 0) * 64 + w)))))) H := hP
                    have hD : va_D A (MW dA h ad (MS.s_isCell (MS.s_cells x (va_up c3 (((x.pile - 2) * 256 + r) * 64 + w) (jnW sg (jnB sg (i3c (((x.pile - 2) * 256 + r) * 64 + w)) (i3c (((x.pile - 1) * 256 + 0) * 64 + w)) (c3 (((x.pile - 1) * 256 + 0) * 64 + w))) (c3 (((x.pile - 2) * 256 + r) * 64 + w)) (c3 (((x.pile - 1) * 256 + 0) * 64 + w))))) (va_up i3c (((x.pile - 2) * 256 + r) * 64 + w) (jnB sg (i3c (((x.pile - 2) * 256 + r) * 64 + w)) (i3c (((x.pile - 1) * 256 + 0) * 64 + w)) (c3 (((x.pile - 1) * 256 + 0) * 64 + w)))))) := hD
                    refine lv_iinc (k := 0) (v := nI (w + 1)) hx hb d_M_operate_111 hl rfl (iincN (w) 1 1 (by decide)) (by decide) rfl (fun ls hl => ?_)
                    have hl : lv_has ls 7 [(6, .int (nI (w + 1))), (5, .int (nI r)), (1, .int sg), (2, .int (nI q7)), (3, .int (nI (x.pile - 2))), (4, .int (nI (x.pile - 1))), (0, .ref h)] := hl
                    refine lv_goto hx hb d_M_operate_114 (tgt := 63) rfl ?_
                    exact ih63 _ (by omega) (w + 1) (va_up i3c (((x.pile - 2) * 256 + r) * 64 + w) (jnB sg (i3c (((x.pile - 2) * 256 + r) * 64 + w)) (i3c (((x.pile - 1) * 256 + 0) * 64 + w)) (c3 (((x.pile - 1) * 256 + 0) * 64 + w)))) (va_up c3 (((x.pile - 2) * 256 + r) * 64 + w) (jnW sg (jnB sg (i3c (((x.pile - 2) * 256 + r) * 64 + w)) (i3c (((x.pile - 1) * 256 + 0) * 64 + w)) (c3 (((x.pile - 1) * 256 + 0) * 64 + w))) (c3 (((x.pile - 2) * 256 + r) * 64 + w)) (c3 (((x.pile - 1) * 256 + 0) * 64 + w)))) (by omega) (jrG_s m2) (Or.inr (by omega)) rfl H _ ls hP hD hS (lv_sub hl [0, 1, 2, 3, 4, 5, 6] rfl)
            exact L63 _ 0 i2c c2 (Nat.zero_le _) rfl (Or.inl rfl) rfl H _ ls hP hD hS (lv_sub hl [0, 1, 2, 3, 4, 5, 6] rfl)
      exact L49 _ 0 x.isCell x.cells (Nat.zero_le _) (by split <;> rfl) rfl H _ ls hP hD hS (lv_sub hl [0, 4, 5, 2, 1, 3] rfl)
  · have g5 := bI_n0 g5
    refine lv_aload_n hx hb d_M_operate_25 rfl (lv_at hl 2 rfl) ?_
    refine lv_iload_n hx hb d_M_operate_26 rfl (lv_at hl 3 rfl) ?_
    refine lv_iload_n hx hb d_M_operate_27 rfl (lv_at hl 1 rfl) ?_
    refine lv_iload hx hb d_M_operate_28 (lv_at hl 0 rfl) ?_
    refine jfV (rnV (As := [.int sg, .int (nI (x.pile - 2)), .int (nI (x.pile - 1))]) (rest := []) hx hb hml hown hE hK (hN _ _ hS) hP hD (k_meet l D dA H.size h ad x sg (x.pile - 2) (x.pile - 1) n9 i9 c9 rs9 v9 hsg (show (x.pile - 2) < (x.pile - 1) from by omega) (show (x.pile - 1) < 20 from by omega) ra0.2.1 (show x.windows ≤ 64 from by omega) (show x.tableRows (x.pile - 2) ≤ 256 from by omega) (show x.tableRows (x.pile - 1) ≤ 256 from by omega) ra0.2.2 (sm_rows g5 rb0.2.2) hme) (q0 := 0) rfl rfl w1011 w1010 w1012 w1013 w328 rfl rfl ⟨⟨by decide, by decide⟩, rfl⟩ ⟨(Nat.le_of_ble_eq_true rfl), (Nat.le_of_ble_eq_true rfl)⟩ rfl hl.1 rfl (Nat.le_of_ble_eq_true rfl) d_M_operate_30 ⟨(Nat.le_of_ble_eq_true rfl), (Nat.le_of_ble_eq_true rfl)⟩) hP hD hS hA (fun u25 H locs hp9 hP hD hS => ?_)
    have hP : va_P D vwCl (MW dA h ad (MS.s_valueLength (MS.s_isCell (MS.s_cells (MS.s_rowSeries (MS.s_tableRows x (va_up x.tableRows (x.pile - 2) n9)) rs9) c9) i9) v9)) H := hP
    have hD : va_D A (MW dA h ad (MS.s_valueLength (MS.s_isCell (MS.s_cells (MS.s_rowSeries (MS.s_tableRows x (va_up x.tableRows (x.pile - 2) n9)) rs9) c9) i9) v9)) := hD
    refine lv_goto hx hb d_M_operate_33 (tgt := 179) rfl ?_
    exact J179 (MS.s_valueLength (MS.s_isCell (MS.s_cells (MS.s_rowSeries (MS.s_tableRows x (va_up x.tableRows (x.pile - 2) n9)) rs9) c9) i9) v9) (by unfold MS.opM; rw [if_pos g5]; unfold MS.meS; rw [hme]) (by unfold MS.opB; rw [g5]; rfl) rfl rfl (by show va_up x.tableRows (x.pile - 2) _ (x.pile - 2) ≤ 256; rw [va_us]; omega) H _ ls hP hD hS (lv_sub hl [3, 4, 1, 0, 2] rfl)
end
section
abbrev ktT : Type := (Nat → Nat) × (Nat → Int32) × Nat
def MS.ktV (x : MS) (r k : Nat) : Nat × Nat × Bool := x.vo (x.rowSeries r) (x.nameFroms k) (x.nameLengths k)
def MS.kt1 (x : MS) (r k : Nat) (g : ktT) : ktT := (va_up g.1 (6 * r + k) (x.ktV r k).2.1, cpG x.texts g.2.1 (x.ktV r k).1 ((6 * r + k) * 24) (x.ktV r k).2.1, (x.ktV r k).2.1)
/-- k texts of row r kept, r rows' texts kept -/
def MS.ktK (x : MS) (r : Nat) (g : ktT) : Nat → ktT
  | 0 => g
  | k + 1 => x.kt1 r k (x.ktK r g k)
def MS.ktR (x : MS) : Nat → ktT
  | 0 => (x.rowLengths, x.rowTexts, x.valueLength)
  | r + 1 => x.ktK r (x.ktR r) (x.tableNames 0)
theorem kt_k {x : MS} {r k v : Nat} {g : ktT} {rl : Nat → Nat} {rt : Nat → Int32} (h : x.ktK r g k = (rl, rt, v)) : x.ktK r g (k + 1) = (va_up rl (6 * r + k) (x.ktV r k).2.1, cpG x.texts rt (x.ktV r k).1 ((6 * r + k) * 24) (x.ktV r k).2.1, (x.ktV r k).2.1) := by
  show x.kt1 r k (x.ktK r g k) = _
  rw [h]
  rfl
theorem kt_r {x : MS} {r v : Nat} {rl : Nat → Nat} {rt : Nat → Int32} (h : x.ktR r = (rl, rt, v)) : x.ktR (r + 1) = x.ktK r (rl, rt, v) (x.tableNames 0) := by
  show x.ktK r (x.ktR r) (x.tableNames 0) = _
  rw [h]
/-- k of f's places from a on copied to g's from b on -/
def cpA {α : Type} (f g : Nat → α) (a b : Nat) : Nat → Nat → α
  | 0 => g
  | j + 1 => va_up (cpA f g a b j) (b + j) (f (a + j))
/-- r rows of w cells shown -/
def shG {α : Type} (f g : Nat → α) (w : Nat) : Nat → Nat → α
  | 0 => g
  | r + 1 => cpA f (shG f g w r) (cA 0 r) (64 * r) w
theorem d_M_keepTable_0 : decode prog_14_method_90_code 0 = .ok (.aload_n 0, 1) := by decide +kernel
theorem d_M_keepTable_1 : decode prog_14_method_90_code 1 = .ok (.iconst 1, 1) := by decide +kernel
theorem d_M_keepTable_2 : decode prog_14_method_90_code 2 = .ok (.putfield 197, 3) := by decide +kernel
theorem d_M_keepTable_5 : decode prog_14_method_90_code 5 = .ok (.aload_n 0, 1) := by decide +kernel
theorem d_M_keepTable_6 : decode prog_14_method_90_code 6 = .ok (.aload_n 0, 1) := by decide +kernel
theorem d_M_keepTable_7 : decode prog_14_method_90_code 7 = .ok (.getfield 88, 3) := by decide +kernel
theorem d_M_keepTable_10 : decode prog_14_method_90_code 10 = .ok (.iconst 0, 1) := by decide +kernel
theorem d_M_keepTable_11 : decode prog_14_method_90_code 11 = .ok (.iaload, 1) := by decide +kernel
theorem d_M_keepTable_12 : decode prog_14_method_90_code 12 = .ok (.putfield 495, 3) := by decide +kernel
theorem d_M_keepTable_15 : decode prog_14_method_90_code 15 = .ok (.aload_n 0, 1) := by decide +kernel
theorem d_M_keepTable_16 : decode prog_14_method_90_code 16 = .ok (.aload_n 0, 1) := by decide +kernel
theorem d_M_keepTable_17 : decode prog_14_method_90_code 17 = .ok (.getfield 97, 3) := by decide +kernel
theorem d_M_keepTable_20 : decode prog_14_method_90_code 20 = .ok (.iconst 0, 1) := by decide +kernel
theorem d_M_keepTable_21 : decode prog_14_method_90_code 21 = .ok (.iaload, 1) := by decide +kernel
theorem d_M_keepTable_22 : decode prog_14_method_90_code 22 = .ok (.putfield 498, 3) := by decide +kernel
theorem d_M_keepTable_25 : decode prog_14_method_90_code 25 = .ok (.aload_n 0, 1) := by decide +kernel
theorem d_M_keepTable_26 : decode prog_14_method_90_code 26 = .ok (.aload_n 0, 1) := by decide +kernel
theorem d_M_keepTable_27 : decode prog_14_method_90_code 27 = .ok (.getfield 412, 3) := by decide +kernel
theorem d_M_keepTable_30 : decode prog_14_method_90_code 30 = .ok (.putfield 501, 3) := by decide +kernel
theorem d_M_keepTable_33 : decode prog_14_method_90_code 33 = .ok (.iconst 0, 1) := by decide +kernel
theorem d_M_keepTable_34 : decode prog_14_method_90_code 34 = .ok (.istore_n 1, 1) := by decide +kernel
theorem d_M_keepTable_35 : decode prog_14_method_90_code 35 = .ok (.iload_n 1, 1) := by decide +kernel
theorem d_M_keepTable_36 : decode prog_14_method_90_code 36 = .ok (.aload_n 0, 1) := by decide +kernel
theorem d_M_keepTable_37 : decode prog_14_method_90_code 37 = .ok (.getfield 498, 3) := by decide +kernel
theorem d_M_keepTable_40 : decode prog_14_method_90_code 40 = .ok (.if_icmp .ge 167, 3) := by decide +kernel
theorem d_M_keepTable_207 : decode prog_14_method_90_code 207 = .ok (.return_, 1) := by decide +kernel
theorem d_M_keepTable_141 : decode prog_14_method_90_code 141 = .ok (.iconst 0, 1) := by decide +kernel
theorem d_M_keepTable_142 : decode prog_14_method_90_code 142 = .ok (.istore_n 2, 1) := by decide +kernel
theorem d_M_keepTable_143 : decode prog_14_method_90_code 143 = .ok (.iload_n 2, 1) := by decide +kernel
theorem d_M_keepTable_144 : decode prog_14_method_90_code 144 = .ok (.aload_n 0, 1) := by decide +kernel
theorem d_M_keepTable_145 : decode prog_14_method_90_code 145 = .ok (.getfield 412, 3) := by decide +kernel
theorem d_M_keepTable_148 : decode prog_14_method_90_code 148 = .ok (.if_icmp .ge 53, 3) := by decide +kernel
theorem d_M_keepTable_201 : decode prog_14_method_90_code 201 = .ok (.iinc 1 1, 3) := by decide +kernel
theorem d_M_keepTable_204 : decode prog_14_method_90_code 204 = .ok (.goto (-169), 3) := by decide +kernel
theorem d_M_keepTable_151 : decode prog_14_method_90_code 151 = .ok (.aload_n 0, 1) := by decide +kernel
theorem d_M_keepTable_152 : decode prog_14_method_90_code 152 = .ok (.getfield 139, 3) := by decide +kernel
theorem d_M_keepTable_155 : decode prog_14_method_90_code 155 = .ok (.bipush 64, 2) := by decide +kernel
theorem d_M_keepTable_157 : decode prog_14_method_90_code 157 = .ok (.iload_n 1, 1) := by decide +kernel
theorem d_M_keepTable_158 : decode prog_14_method_90_code 158 = .ok (.imul, 1) := by decide +kernel
theorem d_M_keepTable_159 : decode prog_14_method_90_code 159 = .ok (.iload_n 2, 1) := by decide +kernel
theorem d_M_keepTable_160 : decode prog_14_method_90_code 160 = .ok (.iadd, 1) := by decide +kernel
theorem d_M_keepTable_161 : decode prog_14_method_90_code 161 = .ok (.aload_n 0, 1) := by decide +kernel
theorem d_M_keepTable_162 : decode prog_14_method_90_code 162 = .ok (.getfield 104, 3) := by decide +kernel
theorem d_M_keepTable_165 : decode prog_14_method_90_code 165 = .ok (.iconst 0, 1) := by decide +kernel
theorem d_M_keepTable_166 : decode prog_14_method_90_code 166 = .ok (.iload_n 1, 1) := by decide +kernel
theorem d_M_keepTable_167 : decode prog_14_method_90_code 167 = .ok (.iload_n 2, 1) := by decide +kernel
theorem d_M_keepTable_168 : decode prog_14_method_90_code 168 = .ok (.invokestatic 397, 3) := by decide +kernel
theorem d_M_keepTable_171 : decode prog_14_method_90_code 171 = .ok (.laload, 1) := by decide +kernel
theorem d_M_keepTable_172 : decode prog_14_method_90_code 172 = .ok (.lastore, 1) := by decide +kernel
theorem d_M_keepTable_173 : decode prog_14_method_90_code 173 = .ok (.aload_n 0, 1) := by decide +kernel
theorem d_M_keepTable_174 : decode prog_14_method_90_code 174 = .ok (.getfield 142, 3) := by decide +kernel
theorem d_M_keepTable_177 : decode prog_14_method_90_code 177 = .ok (.bipush 64, 2) := by decide +kernel
theorem d_M_keepTable_179 : decode prog_14_method_90_code 179 = .ok (.iload_n 1, 1) := by decide +kernel
theorem d_M_keepTable_180 : decode prog_14_method_90_code 180 = .ok (.imul, 1) := by decide +kernel
theorem d_M_keepTable_181 : decode prog_14_method_90_code 181 = .ok (.iload_n 2, 1) := by decide +kernel
theorem d_M_keepTable_182 : decode prog_14_method_90_code 182 = .ok (.iadd, 1) := by decide +kernel
theorem d_M_keepTable_183 : decode prog_14_method_90_code 183 = .ok (.aload_n 0, 1) := by decide +kernel
theorem d_M_keepTable_184 : decode prog_14_method_90_code 184 = .ok (.getfield 107, 3) := by decide +kernel
theorem d_M_keepTable_187 : decode prog_14_method_90_code 187 = .ok (.iconst 0, 1) := by decide +kernel
theorem d_M_keepTable_188 : decode prog_14_method_90_code 188 = .ok (.iload_n 1, 1) := by decide +kernel
theorem d_M_keepTable_189 : decode prog_14_method_90_code 189 = .ok (.iload_n 2, 1) := by decide +kernel
theorem d_M_keepTable_190 : decode prog_14_method_90_code 190 = .ok (.invokestatic 397, 3) := by decide +kernel
theorem d_M_keepTable_193 : decode prog_14_method_90_code 193 = .ok (.baload, 1) := by decide +kernel
theorem d_M_keepTable_194 : decode prog_14_method_90_code 194 = .ok (.bastore, 1) := by decide +kernel
theorem d_M_keepTable_195 : decode prog_14_method_90_code 195 = .ok (.iinc 2 1, 3) := by decide +kernel
theorem d_M_keepTable_198 : decode prog_14_method_90_code 198 = .ok (.goto (-55), 3) := by decide +kernel
theorem d_M_keepTable_43 : decode prog_14_method_90_code 43 = .ok (.iconst 0, 1) := by decide +kernel
theorem d_M_keepTable_44 : decode prog_14_method_90_code 44 = .ok (.istore_n 2, 1) := by decide +kernel
theorem d_M_keepTable_45 : decode prog_14_method_90_code 45 = .ok (.iload_n 2, 1) := by decide +kernel
theorem d_M_keepTable_46 : decode prog_14_method_90_code 46 = .ok (.aload_n 0, 1) := by decide +kernel
theorem d_M_keepTable_47 : decode prog_14_method_90_code 47 = .ok (.getfield 495, 3) := by decide +kernel
theorem d_M_keepTable_50 : decode prog_14_method_90_code 50 = .ok (.if_icmp .ge 91, 3) := by decide +kernel
theorem d_M_keepTable_53 : decode prog_14_method_90_code 53 = .ok (.aload_n 0, 1) := by decide +kernel
theorem d_M_keepTable_54 : decode prog_14_method_90_code 54 = .ok (.aload_n 0, 1) := by decide +kernel
theorem d_M_keepTable_55 : decode prog_14_method_90_code 55 = .ok (.getfield 100, 3) := by decide +kernel
theorem d_M_keepTable_58 : decode prog_14_method_90_code 58 = .ok (.iload_n 1, 1) := by decide +kernel
theorem d_M_keepTable_59 : decode prog_14_method_90_code 59 = .ok (.iaload, 1) := by decide +kernel
theorem d_M_keepTable_60 : decode prog_14_method_90_code 60 = .ok (.aload_n 0, 1) := by decide +kernel
theorem d_M_keepTable_61 : decode prog_14_method_90_code 61 = .ok (.getfield 91, 3) := by decide +kernel
theorem d_M_keepTable_64 : decode prog_14_method_90_code 64 = .ok (.iload_n 2, 1) := by decide +kernel
theorem d_M_keepTable_65 : decode prog_14_method_90_code 65 = .ok (.iaload, 1) := by decide +kernel
theorem d_M_keepTable_66 : decode prog_14_method_90_code 66 = .ok (.aload_n 0, 1) := by decide +kernel
theorem d_M_keepTable_67 : decode prog_14_method_90_code 67 = .ok (.getfield 94, 3) := by decide +kernel
theorem d_M_keepTable_70 : decode prog_14_method_90_code 70 = .ok (.iload_n 2, 1) := by decide +kernel
theorem d_M_keepTable_71 : decode prog_14_method_90_code 71 = .ok (.iaload, 1) := by decide +kernel
theorem d_M_keepTable_72 : decode prog_14_method_90_code 72 = .ok (.invokevirtual 387, 3) := by decide +kernel
theorem d_M_keepTable_75 : decode prog_14_method_90_code 75 = .ok (.istore_n 3, 1) := by decide +kernel
theorem d_M_keepTable_76 : decode prog_14_method_90_code 76 = .ok (.aload_n 0, 1) := by decide +kernel
theorem d_M_keepTable_77 : decode prog_14_method_90_code 77 = .ok (.getfield 136, 3) := by decide +kernel
theorem d_M_keepTable_80 : decode prog_14_method_90_code 80 = .ok (.bipush 6, 2) := by decide +kernel
theorem d_M_keepTable_82 : decode prog_14_method_90_code 82 = .ok (.iload_n 1, 1) := by decide +kernel
theorem d_M_keepTable_83 : decode prog_14_method_90_code 83 = .ok (.imul, 1) := by decide +kernel
theorem d_M_keepTable_84 : decode prog_14_method_90_code 84 = .ok (.iload_n 2, 1) := by decide +kernel
theorem d_M_keepTable_85 : decode prog_14_method_90_code 85 = .ok (.iadd, 1) := by decide +kernel
theorem d_M_keepTable_86 : decode prog_14_method_90_code 86 = .ok (.aload_n 0, 1) := by decide +kernel
theorem d_M_keepTable_87 : decode prog_14_method_90_code 87 = .ok (.getfield 384, 3) := by decide +kernel
theorem d_M_keepTable_90 : decode prog_14_method_90_code 90 = .ok (.iastore, 1) := by decide +kernel
theorem d_M_keepTable_91 : decode prog_14_method_90_code 91 = .ok (.iconst 0, 1) := by decide +kernel
theorem d_M_keepTable_92 : decode prog_14_method_90_code 92 = .ok (.istore 4, 2) := by decide +kernel
theorem d_M_keepTable_94 : decode prog_14_method_90_code 94 = .ok (.iload 4, 2) := by decide +kernel
theorem d_M_keepTable_96 : decode prog_14_method_90_code 96 = .ok (.aload_n 0, 1) := by decide +kernel
theorem d_M_keepTable_97 : decode prog_14_method_90_code 97 = .ok (.getfield 384, 3) := by decide +kernel
theorem d_M_keepTable_100 : decode prog_14_method_90_code 100 = .ok (.if_icmp .ge 35, 3) := by decide +kernel
theorem d_M_keepTable_135 : decode prog_14_method_90_code 135 = .ok (.iinc 2 1, 3) := by decide +kernel
theorem d_M_keepTable_138 : decode prog_14_method_90_code 138 = .ok (.goto (-93), 3) := by decide +kernel
theorem d_M_keepTable_103 : decode prog_14_method_90_code 103 = .ok (.aload_n 0, 1) := by decide +kernel
theorem d_M_keepTable_104 : decode prog_14_method_90_code 104 = .ok (.getfield 133, 3) := by decide +kernel
theorem d_M_keepTable_107 : decode prog_14_method_90_code 107 = .ok (.bipush 6, 2) := by decide +kernel
theorem d_M_keepTable_109 : decode prog_14_method_90_code 109 = .ok (.iload_n 1, 1) := by decide +kernel
theorem d_M_keepTable_110 : decode prog_14_method_90_code 110 = .ok (.imul, 1) := by decide +kernel
theorem d_M_keepTable_111 : decode prog_14_method_90_code 111 = .ok (.iload_n 2, 1) := by decide +kernel
theorem d_M_keepTable_112 : decode prog_14_method_90_code 112 = .ok (.iadd, 1) := by decide +kernel
theorem d_M_keepTable_113 : decode prog_14_method_90_code 113 = .ok (.bipush 24, 2) := by decide +kernel
theorem d_M_keepTable_115 : decode prog_14_method_90_code 115 = .ok (.imul, 1) := by decide +kernel
theorem d_M_keepTable_116 : decode prog_14_method_90_code 116 = .ok (.iload 4, 2) := by decide +kernel
theorem d_M_keepTable_118 : decode prog_14_method_90_code 118 = .ok (.iadd, 1) := by decide +kernel
theorem d_M_keepTable_119 : decode prog_14_method_90_code 119 = .ok (.aload_n 0, 1) := by decide +kernel
theorem d_M_keepTable_120 : decode prog_14_method_90_code 120 = .ok (.getfield 29, 3) := by decide +kernel
theorem d_M_keepTable_123 : decode prog_14_method_90_code 123 = .ok (.iload_n 3, 1) := by decide +kernel
theorem d_M_keepTable_124 : decode prog_14_method_90_code 124 = .ok (.iload 4, 2) := by decide +kernel
theorem d_M_keepTable_126 : decode prog_14_method_90_code 126 = .ok (.iadd, 1) := by decide +kernel
theorem d_M_keepTable_127 : decode prog_14_method_90_code 127 = .ok (.baload, 1) := by decide +kernel
theorem d_M_keepTable_128 : decode prog_14_method_90_code 128 = .ok (.bastore, 1) := by decide +kernel
theorem d_M_keepTable_129 : decode prog_14_method_90_code 129 = .ok (.iinc 4 1, 3) := by decide +kernel
theorem d_M_keepTable_132 : decode prog_14_method_90_code 132 = .ok (.goto (-38), 3) := by decide +kernel
set_option maxHeartbeats 4000000 in
set_option maxRecDepth 100000 in
theorem k_keepTable (l : Launch) (D : va_G) (dA : Nat → ClassId) (sz : Nat) (h : Nat) (ad : Nat → Nat) (x : MS) (rl9 : Nat → Nat) (rt9 : Nat → Int32) (v9 : Nat) (h6 : x.tableNames 0 ≤ 6) (h3 : x.tableRows 0 ≤ 256) (hwi : x.windows ≤ 64) (hra : ∀ q : Nat, q < x.tableRows 0 → x.tableNames 0 = 0 ∨ x.tOK (x.rowSeries q)) (hnm : ∀ k : Nat, k < x.tableNames 0 → x.nameFroms k + x.nameLengths k ≤ 65536) (hby : byteF x.texts) (hkt : x.ktR (x.tableRows 0) = (rl9, rt9, v9)) : Met l ⟨"SeriesVaultModel", "keepTable", "()V"⟩ [Cond.code ⟨"SeriesVaultModel", "keepTable", "()V"⟩ prog_14_method_90_code 5 none] { frames := 2, cells := 0, slots := 0, locals := 29 } (pC D dA [.ref h] (MW dA h ad x) sz) (va_Qv (fun (u9 : Unit) => True) (fun (u9 : Unit) t9 => bW D (va_A (MW dA h ad x) sz) (MW dA h ad (MS.s_isShown (MS.s_shown (MS.s_rowLengths (MS.s_rowTexts (MS.s_shownWindows (MS.s_rows (MS.s_names (MS.s_isTable (MS.s_valueLength x v9) true) (x.tableNames 0)) (x.tableRows 0)) x.windows) rt9) rl9) (shG x.cells x.shown x.windows (x.tableRows 0))) (shG x.isCell x.isShown x.windows (x.tableRows 0)))) t9) (va_A (MW dA h ad x) sz)) 0 0 (va_A (MW dA h ad x) sz) := by
  refine mkC (y := ⟨"SeriesVaultModel", "keepTable", "()V"⟩) (cc := prog_14_method_90_code) (maxL := 5) (av := [.ref h]) (ws := MW dA h ad x) (sz := sz) (Qc := fun A => va_Qv (fun (u9 : Unit) => True) (fun (u9 : Unit) t9 => bW D A (MW dA h ad (MS.s_isShown (MS.s_shown (MS.s_rowLengths (MS.s_rowTexts (MS.s_shownWindows (MS.s_rows (MS.s_names (MS.s_isTable (MS.s_valueLength x v9) true) (x.tableNames 0)) (x.tableRows 0)) x.windows) rt9) rl9) (shG x.cells x.shown x.windows (x.tableRows 0))) (shG x.isCell x.isShown x.windows (x.tableRows 0)))) t9) A) (by decide) (Nat.le_of_ble_eq_true rfl) ?_
  intro A p e s m below meth c ls hsz hB
  obtain ⟨hx, hb, hr, hml, hown, hin, hlk, hE, hK, hP, hD, hS, hA, hN, hl⟩ := hB
  have hown : s.vm.findClass "SeriesVaultModel" = some m.cls := hown
  have hl : lv_has ls 5 [(0, .ref h)] := hl
  obtain ⟨H, hH⟩ : ∃ z, z = s.heap := ⟨_, rfl⟩
  have hP : va_P D vwCl (MW dA h ad x) H := by rw [hH]; exact hP
  have hS : va_S A s.heap H [] := by rw [hH]; exact hS
  rw [← hH]
  refine lv_aload_n hx hb d_M_keepTable_0 rfl (lv_at hl 0 rfl) ?_
  refine lv_iconst (v := 1) hx hb d_M_keepTable_1 (by decide) ?_
  refine pF (v := .int (bI true)) hx hb hown hE hK hP hD hS 0 rfl rfl layM tyM tokM nmM 71 (by decide) w326 rfl (bI_nar true) (bI_fit true) (Nat.le_of_ble_eq_true rfl) d_M_keepTable_2 (fun H locs hP hD hS => ?_)
  have hP : va_P D vwCl (MW dA h ad (MS.s_isTable x true)) H := hP
  have hD : va_D A (MW dA h ad (MS.s_isTable x true)) := hD
  refine lv_aload_n hx hb d_M_keepTable_5 rfl (lv_at hl 0 rfl) ?_
  refine lv_aload_n hx hb d_M_keepTable_6 rfl (lv_at hl 0 rfl) ?_
  refine gF (v := .ref (ad 48)) hx hb hown hE hK hP 0 rfl rfl layM 48 (by decide) w518 rfl d_M_keepTable_7 ?_
  refine lv_iconst (v := 0) hx hb d_M_keepTable_10 (by decide) ?_
  refine nild (f := (fun z9 => nI (x.tableNames z9))) hx hb hK hP 21 1 rfl rfl (0) (by omega) (by decide) d_M_keepTable_11 ?_
  refine pF (v := .int (nI (x.tableNames 0))) hx hb hown hE hK hP hD hS 0 rfl rfl layM tyM tokM nmM 72 (by decide) w950 rfl rfl rfl (Nat.le_of_ble_eq_true rfl) d_M_keepTable_12 (fun H locs hP hD hS => ?_)
  have hP : va_P D vwCl (MW dA h ad (MS.s_names (MS.s_isTable x true) (x.tableNames 0))) H := hP
  have hD : va_D A (MW dA h ad (MS.s_names (MS.s_isTable x true) (x.tableNames 0))) := hD
  refine lv_aload_n hx hb d_M_keepTable_15 rfl (lv_at hl 0 rfl) ?_
  refine lv_aload_n hx hb d_M_keepTable_16 rfl (lv_at hl 0 rfl) ?_
  refine gF (v := .ref (ad 51)) hx hb hown hE hK hP 0 rfl rfl layM 51 (by decide) w521 rfl d_M_keepTable_17 ?_
  refine lv_iconst (v := 0) hx hb d_M_keepTable_20 (by decide) ?_
  refine nild (f := (fun z9 => nI (x.tableRows z9))) hx hb hK hP 24 1 rfl rfl (0) (by omega) (by decide) d_M_keepTable_21 ?_
  refine pF (v := .int (nI (x.tableRows 0))) hx hb hown hE hK hP hD hS 0 rfl rfl layM tyM tokM nmM 73 (by decide) w951 rfl rfl rfl (Nat.le_of_ble_eq_true rfl) d_M_keepTable_22 (fun H locs hP hD hS => ?_)
  have hP : va_P D vwCl (MW dA h ad (MS.s_rows (MS.s_names (MS.s_isTable x true) (x.tableNames 0)) (x.tableRows 0))) H := hP
  have hD : va_D A (MW dA h ad (MS.s_rows (MS.s_names (MS.s_isTable x true) (x.tableNames 0)) (x.tableRows 0))) := hD
  refine lv_aload_n hx hb d_M_keepTable_25 rfl (lv_at hl 0 rfl) ?_
  refine lv_aload_n hx hb d_M_keepTable_26 rfl (lv_at hl 0 rfl) ?_
  refine gF (v := .int (nI x.windows)) hx hb hown hE hK hP 0 rfl rfl layM 59 (by decide) w489 rfl d_M_keepTable_27 ?_
  refine pF (v := .int (nI x.windows)) hx hb hown hE hK hP hD hS 0 rfl rfl layM tyM tokM nmM 74 (by decide) w952 rfl rfl rfl (Nat.le_of_ble_eq_true rfl) d_M_keepTable_30 (fun H locs hP hD hS => ?_)
  have hP : va_P D vwCl (MW dA h ad (MS.s_shownWindows (MS.s_rows (MS.s_names (MS.s_isTable x true) (x.tableNames 0)) (x.tableRows 0)) x.windows)) H := hP
  have hD : va_D A (MW dA h ad (MS.s_shownWindows (MS.s_rows (MS.s_names (MS.s_isTable x true) (x.tableNames 0)) (x.tableRows 0)) x.windows)) := hD
  refine lv_iconst (v := 0) hx hb d_M_keepTable_33 (by decide) ?_
  refine lv_istore_n hx hb d_M_keepTable_34 rfl hl (by decide) rfl (fun ls hl => ?_)
  have hl : lv_has ls 5 [(1, .int 0), (0, .ref h)] := hl
  have L35 : ∀ (k9 : Nat) (r : Nat) (rl : Nat → Nat) (rt : Nat → Int32) (v : Nat) (i1 : r ≤ x.tableRows 0) (i2 : x.ktR r = (rl, rt, v)) (hk9 : x.tableRows 0 - r = k9), ∀ (H : Heap) (locs : List Loc) (ls : Array Slot) (hP : va_P D vwCl (MW dA h ad (MS.s_isShown (MS.s_shown (MS.s_rowLengths (MS.s_rowTexts (MS.s_shownWindows (MS.s_rows (MS.s_names (MS.s_isTable (MS.s_valueLength x v) true) (x.tableNames 0)) (x.tableRows 0)) x.windows) rt) rl) (shG x.cells x.shown x.windows r)) (shG x.isCell x.isShown x.windows r))) H) (hD : va_D A (MW dA h ad (MS.s_isShown (MS.s_shown (MS.s_rowLengths (MS.s_rowTexts (MS.s_shownWindows (MS.s_rows (MS.s_names (MS.s_isTable (MS.s_valueLength x v) true) (x.tableNames 0)) (x.tableRows 0)) x.windows) rt) rl) (shG x.cells x.shown x.windows r)) (shG x.isCell x.isShown x.windows r)))) (hS : va_S A s.heap H locs) (hl : lv_has ls 5 [(1, .int (nI r)), (0, .ref h)]), W p l e ({ frames := 2, cells := 0, slots := 0, locals := 29 } : Room) s m ([.ref h] : List Value).toArray below meth c H locs 0 0 (MQ below (va_Qv (fun (u9 : Unit) => True) (fun (u9 : Unit) t9 => bW D A (MW dA h ad (MS.s_isShown (MS.s_shown (MS.s_rowLengths (MS.s_rowTexts (MS.s_shownWindows (MS.s_rows (MS.s_names (MS.s_isTable (MS.s_valueLength x v9) true) (x.tableNames 0)) (x.tableRows 0)) x.windows) rt9) rl9) (shG x.cells x.shown x.windows (x.tableRows 0))) (shG x.isCell x.isShown x.windows (x.tableRows 0)))) t9) A) ([.ref h] : List Value).toArray s 0 0 A) (F0 m 35 ls []) := by
    intro k9
    induction k9 using Nat.strongRecOn with
    | ind k9 ih35 =>
      intro r rl rt v i1 i2 hk9 H locs ls hP hD hS hl
      refine lv_iload_n hx hb d_M_keepTable_35 rfl (lv_at hl 0 rfl) ?_
      refine lv_aload_n hx hb d_M_keepTable_36 rfl (lv_at hl 1 rfl) ?_
      refine gF (v := .int (nI (x.tableRows 0))) hx hb hown hE hK hP 0 rfl rfl layM 73 (by decide) w951 rfl d_M_keepTable_37 ?_
      refine lv_icmp_ge hx hb d_M_keepTable_40 (tgt := 207) rfl (fun g1 => ?_) (fun g1 => ?_)
      · have g1 := (nI_leI (a := x.tableRows 0) (b := r) (by omega) (by omega)).mp g1
        have e9 : (MS.s_isShown (MS.s_shown (MS.s_rowLengths (MS.s_rowTexts (MS.s_shownWindows (MS.s_rows (MS.s_names (MS.s_isTable (MS.s_valueLength x v) true) (x.tableNames 0)) (x.tableRows 0)) x.windows) rt) rl) (shG x.cells x.shown x.windows r)) (shG x.isCell x.isShown x.windows r) : MS) = MS.s_isShown (MS.s_shown (MS.s_rowLengths (MS.s_rowTexts (MS.s_shownWindows (MS.s_rows (MS.s_names (MS.s_isTable (MS.s_valueLength x v9) true) (x.tableNames 0)) (x.tableRows 0)) x.windows) rt9) rl9) (shG x.cells x.shown x.windows (x.tableRows 0))) (shG x.isCell x.isShown x.windows (x.tableRows 0)) := by rw [show (shG x.isCell x.isShown x.windows (x.tableRows 0)) = (shG x.isCell x.isShown x.windows r) from by (rw [show x.tableRows 0 = r by omega]), show (shG x.cells x.shown x.windows (x.tableRows 0)) = (shG x.cells x.shown x.windows r) from by (rw [show x.tableRows 0 = r by omega]), show rl9 = rl from by (exact congrArg (fun z => z.1) (hkt.symm.trans ((congrArg x.ktR (show x.tableRows 0 = r by omega)).trans i2))), show rt9 = rt from by (exact congrArg (fun z => z.2.1) (hkt.symm.trans ((congrArg x.ktR (show x.tableRows 0 = r by omega)).trans i2))), show v9 = v from by (exact congrArg (fun z => z.2.2) (hkt.symm.trans ((congrArg x.ktR (show x.tableRows 0 = r by omega)).trans i2)))] <;> rfl
        exact rfV hx hb hr hlk hS () trivial (cvP e9 hP) (cvD e9 hD) (Nat.le_of_ble_eq_true rfl) (Nat.le_of_ble_eq_true rfl) d_M_keepTable_207
      · have g1 := mt (nI_leI (a := x.tableRows 0) (b := r) (by omega) (by omega)).mpr g1
        have J141 : ∀ (rl2 : Nat → Nat) (rt2 : Nat → Int32) (v2 : Nat) (kk9 : x.ktK r (rl, rt, v) (x.tableNames 0) = (rl2, rt2, v2)), ∀ (H : Heap) (locs : List Loc) (ls : Array Slot) (hP : va_P D vwCl (MW dA h ad (MS.s_isShown (MS.s_shown (MS.s_rowLengths (MS.s_rowTexts (MS.s_shownWindows (MS.s_rows (MS.s_names (MS.s_isTable (MS.s_valueLength x v2) true) (x.tableNames 0)) (x.tableRows 0)) x.windows) rt2) rl2) (shG x.cells x.shown x.windows r)) (shG x.isCell x.isShown x.windows r))) H) (hD : va_D A (MW dA h ad (MS.s_isShown (MS.s_shown (MS.s_rowLengths (MS.s_rowTexts (MS.s_shownWindows (MS.s_rows (MS.s_names (MS.s_isTable (MS.s_valueLength x v2) true) (x.tableNames 0)) (x.tableRows 0)) x.windows) rt2) rl2) (shG x.cells x.shown x.windows r)) (shG x.isCell x.isShown x.windows r)))) (hS : va_S A s.heap H locs) (hl : lv_has ls 5 [(1, .int (nI r)), (0, .ref h)]), W p l e ({ frames := 2, cells := 0, slots := 0, locals := 29 } : Room) s m ([.ref h] : List Value).toArray below meth c H locs 0 0 (MQ below (va_Qv (fun (u9 : Unit) => True) (fun (u9 : Unit) t9 => bW D A (MW dA h ad (MS.s_isShown (MS.s_shown (MS.s_rowLengths (MS.s_rowTexts (MS.s_shownWindows (MS.s_rows (MS.s_names (MS.s_isTable (MS.s_valueLength x v9) true) (x.tableNames 0)) (x.tableRows 0)) x.windows) rt9) rl9) (shG x.cells x.shown x.windows (x.tableRows 0))) (shG x.isCell x.isShown x.windows (x.tableRows 0)))) t9) A) ([.ref h] : List Value).toArray s 0 0 A) (F0 m 141 ls []) := by
          intro rl2 rt2 v2 kk9 H locs ls hP hD hS hl
          refine lv_iconst (v := 0) hx hb d_M_keepTable_141 (by decide) ?_
          refine lv_istore_n hx hb d_M_keepTable_142 rfl hl (by decide) rfl (fun ls hl => ?_)
          have hl : lv_has ls 5 [(2, .int 0), (1, .int (nI r)), (0, .ref h)] := hl
          have L143 : ∀ (k9 : Nat) (w : Nat) (w1 : w ≤ x.windows) (hk9 : x.windows - w = k9), ∀ (H : Heap) (locs : List Loc) (ls : Array Slot) (hP : va_P D vwCl (MW dA h ad (MS.s_isShown (MS.s_shown (MS.s_rowLengths (MS.s_rowTexts (MS.s_shownWindows (MS.s_rows (MS.s_names (MS.s_isTable (MS.s_valueLength x v2) true) (x.tableNames 0)) (x.tableRows 0)) x.windows) rt2) rl2) (cpA x.cells (shG x.cells x.shown x.windows r) (cA 0 r) (64 * r) w)) (cpA x.isCell (shG x.isCell x.isShown x.windows r) (cA 0 r) (64 * r) w))) H) (hD : va_D A (MW dA h ad (MS.s_isShown (MS.s_shown (MS.s_rowLengths (MS.s_rowTexts (MS.s_shownWindows (MS.s_rows (MS.s_names (MS.s_isTable (MS.s_valueLength x v2) true) (x.tableNames 0)) (x.tableRows 0)) x.windows) rt2) rl2) (cpA x.cells (shG x.cells x.shown x.windows r) (cA 0 r) (64 * r) w)) (cpA x.isCell (shG x.isCell x.isShown x.windows r) (cA 0 r) (64 * r) w)))) (hS : va_S A s.heap H locs) (hl : lv_has ls 5 [(2, .int (nI w)), (1, .int (nI r)), (0, .ref h)]), W p l e ({ frames := 2, cells := 0, slots := 0, locals := 29 } : Room) s m ([.ref h] : List Value).toArray below meth c H locs 0 0 (MQ below (va_Qv (fun (u9 : Unit) => True) (fun (u9 : Unit) t9 => bW D A (MW dA h ad (MS.s_isShown (MS.s_shown (MS.s_rowLengths (MS.s_rowTexts (MS.s_shownWindows (MS.s_rows (MS.s_names (MS.s_isTable (MS.s_valueLength x v9) true) (x.tableNames 0)) (x.tableRows 0)) x.windows) rt9) rl9) (shG x.cells x.shown x.windows (x.tableRows 0))) (shG x.isCell x.isShown x.windows (x.tableRows 0)))) t9) A) ([.ref h] : List Value).toArray s 0 0 A) (F0 m 143 ls []) := by
            intro k9
            induction k9 using Nat.strongRecOn with
            | ind k9 ih143 =>
              intro w w1 hk9 H locs ls hP hD hS hl
              refine lv_iload_n hx hb d_M_keepTable_143 rfl (lv_at hl 0 rfl) ?_
              refine lv_aload_n hx hb d_M_keepTable_144 rfl (lv_at hl 2 rfl) ?_
              refine gF (v := .int (nI x.windows)) hx hb hown hE hK hP 0 rfl rfl layM 59 (by decide) w489 rfl d_M_keepTable_145 ?_
              refine lv_icmp_ge hx hb d_M_keepTable_148 (tgt := 201) rfl (fun g2 => ?_) (fun g2 => ?_)
              · have g2 := (nI_leI (a := x.windows) (b := w) (by omega) (by omega)).mp g2
                refine lv_iinc (k := 1) (v := nI (r + 1)) hx hb d_M_keepTable_201 hl rfl (iincN (r) 1 1 (by decide)) (by decide) rfl (fun ls hl => ?_)
                have hl : lv_has ls 5 [(1, .int (nI (r + 1))), (2, .int (nI w)), (0, .ref h)] := hl
                refine lv_goto hx hb d_M_keepTable_204 (tgt := 35) rfl ?_
                have e9 : (MS.s_isShown (MS.s_shown (MS.s_rowLengths (MS.s_rowTexts (MS.s_shownWindows (MS.s_rows (MS.s_names (MS.s_isTable (MS.s_valueLength x v2) true) (x.tableNames 0)) (x.tableRows 0)) x.windows) rt2) rl2) (cpA x.cells (shG x.cells x.shown x.windows r) (cA 0 r) (64 * r) w)) (cpA x.isCell (shG x.isCell x.isShown x.windows r) (cA 0 r) (64 * r) w) : MS) = MS.s_isShown (MS.s_shown (MS.s_rowLengths (MS.s_rowTexts (MS.s_shownWindows (MS.s_rows (MS.s_names (MS.s_isTable (MS.s_valueLength x v2) true) (x.tableNames 0)) (x.tableRows 0)) x.windows) rt2) rl2) (shG x.cells x.shown x.windows (r + 1))) (shG x.isCell x.isShown x.windows (r + 1)) := by rw [show (shG x.isCell x.isShown x.windows (r + 1)) = (cpA x.isCell (shG x.isCell x.isShown x.windows r) (cA 0 r) (64 * r) w) from (by rw [show w = x.windows by omega]; rfl), show (shG x.cells x.shown x.windows (r + 1)) = (cpA x.cells (shG x.cells x.shown x.windows r) (cA 0 r) (64 * r) w) from (by rw [show w = x.windows by omega]; rfl)] <;> rfl
                exact ih35 _ (by omega) (r + 1) rl2 rt2 v2 (by omega) ((kt_r i2).trans kk9) rfl H _ ls (cvP e9 hP) (cvD e9 hD) hS (lv_sub hl [0, 2] rfl)
              · have g2 := mt (nI_leI (a := x.windows) (b := w) (by omega) (by omega)).mpr g2
                refine lv_aload_n hx hb d_M_keepTable_151 rfl (lv_at hl 2 rfl) ?_
                refine gF (v := .ref (ad 77)) hx hb hown hE hK hP 0 rfl rfl layM 77 (by decide) w537 rfl d_M_keepTable_152 ?_
                refine lv_bipush (v := 64) hx hb d_M_keepTable_155 (by decide) ?_
                refine lv_iload_n hx hb d_M_keepTable_157 rfl (lv_at hl 1 rfl) ?_
                refine lv_imul hx hb d_M_keepTable_158 (tpi (y := nI (64 * r)) (pk_mul (64) (r)) ?_)
                refine lv_iload_n hx hb d_M_keepTable_159 rfl (lv_at hl 0 rfl) ?_
                refine lv_iadd hx hb d_M_keepTable_160 (tpi (y := nI ((64 * r) + w)) (nI_add (64 * r) (w)) ?_)
                refine lv_aload_n hx hb d_M_keepTable_161 rfl (lv_at hl 2 rfl) ?_
                refine gF (v := .ref (ad 53)) hx hb hown hE hK hP 0 rfl rfl layM 53 (by decide) w524 rfl d_M_keepTable_162 ?_
                refine lv_iconst (v := 0) hx hb d_M_keepTable_165 (by decide) ?_
                refine lv_iload_n hx hb d_M_keepTable_166 rfl (lv_at hl 1 rfl) ?_
                refine lv_iload_n hx hb d_M_keepTable_167 rfl (lv_at hl 0 rfl) ?_
                have hPc := hP.sub (ws' := []) [] rfl
                have hDc := hD.sub (ws' := []) [] (by decide) rfl
                refine jnI (rnS (As := [.int 0, .int (nI r), .int (nI w)]) (rest := [.ref (ad 53), .int (nI ((64 * r) + w)), .ref (ad 77)]) hx hb hml hown hE hK (hN _ _ hS) hPc hDc (k_cellAt l D dA H.size 0 r w) w971 w970 w972 w328 rfl rfl ⟨⟨by decide, by decide⟩, rfl⟩ ⟨(Nat.le_of_ble_eq_true rfl), (Nat.le_of_ble_eq_true rfl)⟩ rfl hl.1 rfl (Nat.le_of_ble_eq_true rfl) d_M_keepTable_168 ⟨(Nat.le_of_ble_eq_true rfl), (Nat.le_of_ble_eq_true rfl)⟩) hP hD hS hA [] [0, 1, 2, 3, 4, 5, 6, 7, 8, 9, 10, 11, 12, 13, 14, 15, 16, 17, 18, 19, 20, 21, 22, 23, 24, 25, 26, 27, 28, 29, 30, 31, 32, 33, 34, 35, 36, 37, 38] (wr := MW dA h ad (MS.s_isShown (MS.s_shown (MS.s_rowLengths (MS.s_rowTexts (MS.s_shownWindows (MS.s_rows (MS.s_names (MS.s_isTable (MS.s_valueLength x v2) true) (x.tableNames 0)) (x.tableRows 0)) x.windows) rt2) rl2) (cpA x.cells (shG x.cells x.shown x.windows r) (cA 0 r) (64 * r) w)) (cpA x.isCell (shG x.isCell x.isShown x.windows r) (cA 0 r) (64 * r) w))) rfl rfl (by decide) (by decide) (fun r3 u9 H locs hp9 hP hD hS => ?_)
                have hP : va_P D vwCl (MW dA h ad (MS.s_isShown (MS.s_shown (MS.s_rowLengths (MS.s_rowTexts (MS.s_shownWindows (MS.s_rows (MS.s_names (MS.s_isTable (MS.s_valueLength x v2) true) (x.tableNames 0)) (x.tableRows 0)) x.windows) rt2) rl2) (cpA x.cells (shG x.cells x.shown x.windows r) (cA 0 r) (64 * r) w)) (cpA x.isCell (shG x.isCell x.isShown x.windows r) (cA 0 r) (64 * r) w))) H := hP
                have hD : va_D A (MW dA h ad (MS.s_isShown (MS.s_shown (MS.s_rowLengths (MS.s_rowTexts (MS.s_shownWindows (MS.s_rows (MS.s_names (MS.s_isTable (MS.s_valueLength x v2) true) (x.tableNames 0)) (x.tableRows 0)) x.windows) rt2) rl2) (cpA x.cells (shG x.cells x.shown x.windows r) (cA 0 r) (64 * r) w)) (cpA x.isCell (shG x.isCell x.isShown x.windows r) (cA 0 r) (64 * r) w))) := hD
                replace hp9 : nI ((0 * 256 + r) * 64 + w) = r3 := Eq.symm hp9
                subst hp9
                refine nlld (f := x.cells) hx hb hK hP 26 2 rfl rfl ((0 * 256 + r) * 64 + w) (by omega) (by decide) d_M_keepTable_171 ?_
                refine nlst hx hb hK hP hD hS 37 2 rfl rfl ((64 * r) + w) (by omega) (by decide) d_M_keepTable_172 (fun H locs hP hD hS => ?_)
                have hP : va_P D vwCl (MW dA h ad (MS.s_isShown (MS.s_shown (MS.s_rowLengths (MS.s_rowTexts (MS.s_shownWindows (MS.s_rows (MS.s_names (MS.s_isTable (MS.s_valueLength x v2) true) (x.tableNames 0)) (x.tableRows 0)) x.windows) rt2) rl2) (va_up (cpA x.cells (shG x.cells x.shown x.windows r) (cA 0 r) (64 * r) w) ((64 * r) + w) (x.cells ((0 * 256 + r) * 64 + w)))) (cpA x.isCell (shG x.isCell x.isShown x.windows r) (cA 0 r) (64 * r) w))) H := hP
                have hD : va_D A (MW dA h ad (MS.s_isShown (MS.s_shown (MS.s_rowLengths (MS.s_rowTexts (MS.s_shownWindows (MS.s_rows (MS.s_names (MS.s_isTable (MS.s_valueLength x v2) true) (x.tableNames 0)) (x.tableRows 0)) x.windows) rt2) rl2) (va_up (cpA x.cells (shG x.cells x.shown x.windows r) (cA 0 r) (64 * r) w) ((64 * r) + w) (x.cells ((0 * 256 + r) * 64 + w)))) (cpA x.isCell (shG x.isCell x.isShown x.windows r) (cA 0 r) (64 * r) w))) := hD
                refine lv_aload_n hx hb d_M_keepTable_173 rfl (lv_at hl 2 rfl) ?_
                refine gF (v := .ref (ad 78)) hx hb hown hE hK hP 0 rfl rfl layM 78 (by decide) w538 rfl d_M_keepTable_174 ?_
                refine lv_bipush (v := 64) hx hb d_M_keepTable_177 (by decide) ?_
                refine lv_iload_n hx hb d_M_keepTable_179 rfl (lv_at hl 1 rfl) ?_
                refine lv_imul hx hb d_M_keepTable_180 (tpi (y := nI (64 * r)) (pk_mul (64) (r)) ?_)
                refine lv_iload_n hx hb d_M_keepTable_181 rfl (lv_at hl 0 rfl) ?_
                refine lv_iadd hx hb d_M_keepTable_182 (tpi (y := nI ((64 * r) + w)) (nI_add (64 * r) (w)) ?_)
                refine lv_aload_n hx hb d_M_keepTable_183 rfl (lv_at hl 2 rfl) ?_
                refine gF (v := .ref (ad 54)) hx hb hown hE hK hP 0 rfl rfl layM 54 (by decide) w526 rfl d_M_keepTable_184 ?_
                refine lv_iconst (v := 0) hx hb d_M_keepTable_187 (by decide) ?_
                refine lv_iload_n hx hb d_M_keepTable_188 rfl (lv_at hl 1 rfl) ?_
                refine lv_iload_n hx hb d_M_keepTable_189 rfl (lv_at hl 0 rfl) ?_
                have hPc := hP.sub (ws' := []) [] rfl
                have hDc := hD.sub (ws' := []) [] (by decide) rfl
                refine jnI (rnS (As := [.int 0, .int (nI r), .int (nI w)]) (rest := [.ref (ad 54), .int (nI ((64 * r) + w)), .ref (ad 78)]) hx hb hml hown hE hK (hN _ _ hS) hPc hDc (k_cellAt l D dA H.size 0 r w) w971 w970 w972 w328 rfl rfl ⟨⟨by decide, by decide⟩, rfl⟩ ⟨(Nat.le_of_ble_eq_true rfl), (Nat.le_of_ble_eq_true rfl)⟩ rfl hl.1 rfl (Nat.le_of_ble_eq_true rfl) d_M_keepTable_190 ⟨(Nat.le_of_ble_eq_true rfl), (Nat.le_of_ble_eq_true rfl)⟩) hP hD hS hA [] [0, 1, 2, 3, 4, 5, 6, 7, 8, 9, 10, 11, 12, 13, 14, 15, 16, 17, 18, 19, 20, 21, 22, 23, 24, 25, 26, 27, 28, 29, 30, 31, 32, 33, 34, 35, 36, 37, 38] (wr := MW dA h ad (MS.s_isShown (MS.s_shown (MS.s_rowLengths (MS.s_rowTexts (MS.s_shownWindows (MS.s_rows (MS.s_names (MS.s_isTable (MS.s_valueLength x v2) true) (x.tableNames 0)) (x.tableRows 0)) x.windows) rt2) rl2) (va_up (cpA x.cells (shG x.cells x.shown x.windows r) (cA 0 r) (64 * r) w) ((64 * r) + w) (x.cells ((0 * 256 + r) * 64 + w)))) (cpA x.isCell (shG x.isCell x.isShown x.windows r) (cA 0 r) (64 * r) w))) rfl rfl (by decide) (by decide) (fun r5 u9 H locs hp9 hP hD hS => ?_)
                have hP : va_P D vwCl (MW dA h ad (MS.s_isShown (MS.s_shown (MS.s_rowLengths (MS.s_rowTexts (MS.s_shownWindows (MS.s_rows (MS.s_names (MS.s_isTable (MS.s_valueLength x v2) true) (x.tableNames 0)) (x.tableRows 0)) x.windows) rt2) rl2) (va_up (cpA x.cells (shG x.cells x.shown x.windows r) (cA 0 r) (64 * r) w) ((64 * r) + w) (x.cells ((0 * 256 + r) * 64 + w)))) (cpA x.isCell (shG x.isCell x.isShown x.windows r) (cA 0 r) (64 * r) w))) H := hP
                have hD : va_D A (MW dA h ad (MS.s_isShown (MS.s_shown (MS.s_rowLengths (MS.s_rowTexts (MS.s_shownWindows (MS.s_rows (MS.s_names (MS.s_isTable (MS.s_valueLength x v2) true) (x.tableNames 0)) (x.tableRows 0)) x.windows) rt2) rl2) (va_up (cpA x.cells (shG x.cells x.shown x.windows r) (cA 0 r) (64 * r) w) ((64 * r) + w) (x.cells ((0 * 256 + r) * 64 + w)))) (cpA x.isCell (shG x.isCell x.isShown x.windows r) (cA 0 r) (64 * r) w))) := hD
                replace hp9 : nI ((0 * 256 + r) * 64 + w) = r5 := Eq.symm hp9
                subst hp9
                refine nzld (f := (fun z9 => bI (x.isCell z9))) hx hb hK hP 27 3 rfl rfl ((0 * 256 + r) * 64 + w) (by omega) (by decide) d_M_keepTable_193 ?_
                refine nzstB (v := x.isCell ((0 * 256 + r) * 64 + w)) hx hb hK hP hD hS 38 3 rfl rfl ((64 * r) + w) (by omega) (by decide) d_M_keepTable_194 (fun H locs hP hD hS => ?_)
                have hP : va_P D vwCl (MW dA h ad (MS.s_isShown (MS.s_shown (MS.s_rowLengths (MS.s_rowTexts (MS.s_shownWindows (MS.s_rows (MS.s_names (MS.s_isTable (MS.s_valueLength x v2) true) (x.tableNames 0)) (x.tableRows 0)) x.windows) rt2) rl2) (va_up (cpA x.cells (shG x.cells x.shown x.windows r) (cA 0 r) (64 * r) w) ((64 * r) + w) (x.cells ((0 * 256 + r) * 64 + w)))) (va_up (cpA x.isCell (shG x.isCell x.isShown x.windows r) (cA 0 r) (64 * r) w) ((64 * r) + w) (x.isCell ((0 * 256 + r) * 64 + w))))) H := hP
                have hD : va_D A (MW dA h ad (MS.s_isShown (MS.s_shown (MS.s_rowLengths (MS.s_rowTexts (MS.s_shownWindows (MS.s_rows (MS.s_names (MS.s_isTable (MS.s_valueLength x v2) true) (x.tableNames 0)) (x.tableRows 0)) x.windows) rt2) rl2) (va_up (cpA x.cells (shG x.cells x.shown x.windows r) (cA 0 r) (64 * r) w) ((64 * r) + w) (x.cells ((0 * 256 + r) * 64 + w)))) (va_up (cpA x.isCell (shG x.isCell x.isShown x.windows r) (cA 0 r) (64 * r) w) ((64 * r) + w) (x.isCell ((0 * 256 + r) * 64 + w))))) := hD
                refine lv_iinc (k := 0) (v := nI (w + 1)) hx hb d_M_keepTable_195 hl rfl (iincN (w) 1 1 (by decide)) (by decide) rfl (fun ls hl => ?_)
                have hl : lv_has ls 5 [(2, .int (nI (w + 1))), (1, .int (nI r)), (0, .ref h)] := hl
                refine lv_goto hx hb d_M_keepTable_198 (tgt := 143) rfl ?_
                exact ih143 _ (by omega) (w + 1) (by omega) rfl H _ ls hP hD hS (lv_sub hl [0, 1, 2] rfl)
          exact L143 _ 0 (Nat.zero_le _) rfl H _ ls hP hD hS (lv_sub hl [0, 1, 2] rfl)
        refine lv_iconst (v := 0) hx hb d_M_keepTable_43 (by decide) ?_
        refine lv_istore_n hx hb d_M_keepTable_44 rfl hl (by decide) rfl (fun ls hl => ?_)
        have hl : lv_has ls 5 [(2, .int 0), (1, .int (nI r)), (0, .ref h)] := hl
        have L45 : ∀ (k9 : Nat) (k : Nat) (rl2 : Nat → Nat) (rt2 : Nat → Int32) (v2 : Nat) (j1 : k ≤ x.tableNames 0) (j2 : x.ktK r (rl, rt, v) k = (rl2, rt2, v2)) (hk9 : x.tableNames 0 - k = k9), ∀ (H : Heap) (locs : List Loc) (ls : Array Slot) (hP : va_P D vwCl (MW dA h ad (MS.s_isShown (MS.s_shown (MS.s_rowLengths (MS.s_rowTexts (MS.s_shownWindows (MS.s_rows (MS.s_names (MS.s_isTable (MS.s_valueLength x v2) true) (x.tableNames 0)) (x.tableRows 0)) x.windows) rt2) rl2) (shG x.cells x.shown x.windows r)) (shG x.isCell x.isShown x.windows r))) H) (hD : va_D A (MW dA h ad (MS.s_isShown (MS.s_shown (MS.s_rowLengths (MS.s_rowTexts (MS.s_shownWindows (MS.s_rows (MS.s_names (MS.s_isTable (MS.s_valueLength x v2) true) (x.tableNames 0)) (x.tableRows 0)) x.windows) rt2) rl2) (shG x.cells x.shown x.windows r)) (shG x.isCell x.isShown x.windows r)))) (hS : va_S A s.heap H locs) (hl : lv_has ls 5 [(2, .int (nI k)), (1, .int (nI r)), (0, .ref h)]), W p l e ({ frames := 2, cells := 0, slots := 0, locals := 29 } : Room) s m ([.ref h] : List Value).toArray below meth c H locs 0 0 (MQ below (va_Qv (fun (u9 : Unit) => True) (fun (u9 : Unit) t9 => bW D A (MW dA h ad (MS.s_isShown (MS.s_shown (MS.s_rowLengths (MS.s_rowTexts (MS.s_shownWindows (MS.s_rows (MS.s_names (MS.s_isTable (MS.s_valueLength x v9) true) (x.tableNames 0)) (x.tableRows 0)) x.windows) rt9) rl9) (shG x.cells x.shown x.windows (x.tableRows 0))) (shG x.isCell x.isShown x.windows (x.tableRows 0)))) t9) A) ([.ref h] : List Value).toArray s 0 0 A) (F0 m 45 ls []) := by
          intro k9
          induction k9 using Nat.strongRecOn with
          | ind k9 ih45 =>
            intro k rl2 rt2 v2 j1 j2 hk9 H locs ls hP hD hS hl
            refine lv_iload_n hx hb d_M_keepTable_45 rfl (lv_at hl 0 rfl) ?_
            refine lv_aload_n hx hb d_M_keepTable_46 rfl (lv_at hl 2 rfl) ?_
            refine gF (v := .int (nI (x.tableNames 0))) hx hb hown hE hK hP 0 rfl rfl layM 72 (by decide) w950 rfl d_M_keepTable_47 ?_
            refine lv_icmp_ge hx hb d_M_keepTable_50 (tgt := 141) rfl (fun g7 => ?_) (fun g7 => ?_)
            · have g7 := (nI_leI (a := x.tableNames 0) (b := k) (by omega) (by omega)).mp g7
              exact J141 rl2 rt2 v2 (by rw [← show k = x.tableNames 0 by omega]; exact j2) H _ ls hP hD hS (lv_sub hl [1, 2] rfl)
            · have g7 := mt (nI_leI (a := x.tableNames 0) (b := k) (by omega) (by omega)).mpr g7
              have tk : x.tOK (x.rowSeries r) := (hra r (by omega)).resolve_left (by omega)
              have tk1 := tk.1
              have tk2 := vo_24 (x := x) (s := x.rowSeries r) (nm := x.nameFroms k) (n := x.nameLengths k) tk
              have tk2 : (x.ktV r k).2.1 ≤ 24 := tk2
              have tk3 := vo_in (x := x) (s := x.rowSeries r) (nm := x.nameFroms k) (n := x.nameLengths k) tk
              have tk3 : (x.ktV r k).1 + (x.ktV r k).2.1 ≤ 77824 := tk3
              refine lv_aload_n hx hb d_M_keepTable_53 rfl (lv_at hl 2 rfl) ?_
              refine lv_aload_n hx hb d_M_keepTable_54 rfl (lv_at hl 2 rfl) ?_
              refine gF (v := .ref (ad 52)) hx hb hown hE hK hP 0 rfl rfl layM 52 (by decide) w522 rfl d_M_keepTable_55 ?_
              refine lv_iload_n hx hb d_M_keepTable_58 rfl (lv_at hl 1 rfl) ?_
              refine nild (f := (fun z9 => nI (x.rowSeries z9))) hx hb hK hP 25 1 rfl rfl (r) (by omega) (by decide) d_M_keepTable_59 ?_
              refine lv_aload_n hx hb d_M_keepTable_60 rfl (lv_at hl 2 rfl) ?_
              refine gF (v := .ref (ad 49)) hx hb hown hE hK hP 0 rfl rfl layM 49 (by decide) w519 rfl d_M_keepTable_61 ?_
              refine lv_iload_n hx hb d_M_keepTable_64 rfl (lv_at hl 0 rfl) ?_
              refine nild (f := (fun z9 => nI (x.nameFroms z9))) hx hb hK hP 22 1 rfl rfl (k) (by omega) (by decide) d_M_keepTable_65 ?_
              refine lv_aload_n hx hb d_M_keepTable_66 rfl (lv_at hl 2 rfl) ?_
              refine gF (v := .ref (ad 50)) hx hb hown hE hK hP 0 rfl rfl layM 50 (by decide) w520 rfl d_M_keepTable_67 ?_
              refine lv_iload_n hx hb d_M_keepTable_70 rfl (lv_at hl 0 rfl) ?_
              refine nild (f := (fun z9 => nI (x.nameLengths z9))) hx hb hK hP 23 1 rfl rfl (k) (by omega) (by decide) d_M_keepTable_71 ?_
              refine jfI (rnV (As := [.int (nI (x.rowSeries r)), .int (nI (x.nameFroms k)), .int (nI (x.nameLengths k))]) (rest := []) hx hb hml hown hE hK (hN _ _ hS) hP hD (k_valueOf l D dA H.size h ad (MS.s_isShown (MS.s_shown (MS.s_rowLengths (MS.s_rowTexts (MS.s_shownWindows (MS.s_rows (MS.s_names (MS.s_isTable (MS.s_valueLength x v2) true) (x.tableNames 0)) (x.tableRows 0)) x.windows) rt2) rl2) (shG x.cells x.shown x.windows r)) (shG x.isCell x.isShown x.windows r)) (x.rowSeries r) (x.nameFroms k) (x.nameLengths k) tk (hnm k (by omega))) (q0 := 0) rfl rfl w979 w978 w980 w981 w328 rfl rfl ⟨⟨by decide, by decide⟩, rfl⟩ ⟨(Nat.le_of_ble_eq_true rfl), (Nat.le_of_ble_eq_true rfl)⟩ rfl hl.1 rfl (Nat.le_of_ble_eq_true rfl) d_M_keepTable_72 ⟨(Nat.le_of_ble_eq_true rfl), (Nat.le_of_ble_eq_true rfl)⟩) hP hD hS hA (fun r8 u9 H locs hp9 hP hD hS => ?_)
              have hP : va_P D vwCl (MW dA h ad (MS.s_isShown (MS.s_shown (MS.s_rowLengths (MS.s_rowTexts (MS.s_shownWindows (MS.s_rows (MS.s_names (MS.s_isTable (MS.s_valueLength x ((x.vo (x.rowSeries r) (x.nameFroms k) (x.nameLengths k)).2.1)) true) (x.tableNames 0)) (x.tableRows 0)) x.windows) rt2) rl2) (shG x.cells x.shown x.windows r)) (shG x.isCell x.isShown x.windows r))) H := hP
              have hD : va_D A (MW dA h ad (MS.s_isShown (MS.s_shown (MS.s_rowLengths (MS.s_rowTexts (MS.s_shownWindows (MS.s_rows (MS.s_names (MS.s_isTable (MS.s_valueLength x ((x.vo (x.rowSeries r) (x.nameFroms k) (x.nameLengths k)).2.1)) true) (x.tableNames 0)) (x.tableRows 0)) x.windows) rt2) rl2) (shG x.cells x.shown x.windows r)) (shG x.isCell x.isShown x.windows r))) := hD
              replace hp9 : voI (x.vo (x.rowSeries r) (x.nameFroms k) (x.nameLengths k)) = r8 := Eq.symm hp9
              subst hp9
              refine lv_istore_n hx hb d_M_keepTable_75 rfl hl (by decide) rfl (fun ls hl => ?_)
              have hl : lv_has ls 5 [(3, .int (voI (x.vo (x.rowSeries r) (x.nameFroms k) (x.nameLengths k)))), (2, .int (nI k)), (1, .int (nI r)), (0, .ref h)] := hl
              refine lv_aload_n hx hb d_M_keepTable_76 rfl (lv_at hl 3 rfl) ?_
              refine gF (v := .ref (ad 76)) hx hb hown hE hK hP 0 rfl rfl layM 76 (by decide) w536 rfl d_M_keepTable_77 ?_
              refine lv_bipush (v := 6) hx hb d_M_keepTable_80 (by decide) ?_
              refine lv_iload_n hx hb d_M_keepTable_82 rfl (lv_at hl 2 rfl) ?_
              refine lv_imul hx hb d_M_keepTable_83 (tpi (y := nI (6 * r)) (pk_mul (6) (r)) ?_)
              refine lv_iload_n hx hb d_M_keepTable_84 rfl (lv_at hl 1 rfl) ?_
              refine lv_iadd hx hb d_M_keepTable_85 (tpi (y := nI ((6 * r) + k)) (nI_add (6 * r) (k)) ?_)
              refine lv_aload_n hx hb d_M_keepTable_86 rfl (lv_at hl 3 rfl) ?_
              refine gF (v := .int (nI ((x.vo (x.rowSeries r) (x.nameFroms k) (x.nameLengths k)).2.1))) hx hb hown hE hK hP 0 rfl rfl layM 60 (by decide) w977 rfl d_M_keepTable_87 ?_
              refine nistN (v := (x.vo (x.rowSeries r) (x.nameFroms k) (x.nameLengths k)).2.1) hx hb hK hP hD hS 36 1 rfl rfl ((6 * r) + k) (by omega) (by decide) d_M_keepTable_90 (fun H locs hP hD hS => ?_)
              have hP : va_P D vwCl (MW dA h ad (MS.s_isShown (MS.s_shown (MS.s_rowLengths (MS.s_rowTexts (MS.s_shownWindows (MS.s_rows (MS.s_names (MS.s_isTable (MS.s_valueLength x ((x.vo (x.rowSeries r) (x.nameFroms k) (x.nameLengths k)).2.1)) true) (x.tableNames 0)) (x.tableRows 0)) x.windows) rt2) (va_up rl2 ((6 * r) + k) ((x.vo (x.rowSeries r) (x.nameFroms k) (x.nameLengths k)).2.1))) (shG x.cells x.shown x.windows r)) (shG x.isCell x.isShown x.windows r))) H := hP
              have hD : va_D A (MW dA h ad (MS.s_isShown (MS.s_shown (MS.s_rowLengths (MS.s_rowTexts (MS.s_shownWindows (MS.s_rows (MS.s_names (MS.s_isTable (MS.s_valueLength x ((x.vo (x.rowSeries r) (x.nameFroms k) (x.nameLengths k)).2.1)) true) (x.tableNames 0)) (x.tableRows 0)) x.windows) rt2) (va_up rl2 ((6 * r) + k) ((x.vo (x.rowSeries r) (x.nameFroms k) (x.nameLengths k)).2.1))) (shG x.cells x.shown x.windows r)) (shG x.isCell x.isShown x.windows r))) := hD
              refine lv_iconst (v := 0) hx hb d_M_keepTable_91 (by decide) ?_
              refine lv_istore hx hb d_M_keepTable_92 hl (by decide) rfl (fun ls hl => ?_)
              have hl : lv_has ls 5 [(4, .int 0), (3, .int (voI (x.vo (x.rowSeries r) (x.nameFroms k) (x.nameLengths k)))), (2, .int (nI k)), (1, .int (nI r)), (0, .ref h)] := hl
              have L94 : ∀ (k9 : Nat) (j : Nat) (m1 : j ≤ (x.ktV r k).2.1) (hk9 : (x.ktV r k).2.1 - j = k9), ∀ (H : Heap) (locs : List Loc) (ls : Array Slot) (hP : va_P D vwCl (MW dA h ad (MS.s_isShown (MS.s_shown (MS.s_rowLengths (MS.s_rowTexts (MS.s_shownWindows (MS.s_rows (MS.s_names (MS.s_isTable (MS.s_valueLength x ((x.ktV r k).2.1)) true) (x.tableNames 0)) (x.tableRows 0)) x.windows) (cpG x.texts rt2 (x.ktV r k).1 ((6 * r + k) * 24) j)) (va_up rl2 (6 * r + k) (x.ktV r k).2.1)) (shG x.cells x.shown x.windows r)) (shG x.isCell x.isShown x.windows r))) H) (hD : va_D A (MW dA h ad (MS.s_isShown (MS.s_shown (MS.s_rowLengths (MS.s_rowTexts (MS.s_shownWindows (MS.s_rows (MS.s_names (MS.s_isTable (MS.s_valueLength x ((x.ktV r k).2.1)) true) (x.tableNames 0)) (x.tableRows 0)) x.windows) (cpG x.texts rt2 (x.ktV r k).1 ((6 * r + k) * 24) j)) (va_up rl2 (6 * r + k) (x.ktV r k).2.1)) (shG x.cells x.shown x.windows r)) (shG x.isCell x.isShown x.windows r)))) (hS : va_S A s.heap H locs) (hl : lv_has ls 5 [(4, .int (nI j)), (3, .int (voI (x.ktV r k))), (2, .int (nI k)), (1, .int (nI r)), (0, .ref h)]), W p l e ({ frames := 2, cells := 0, slots := 0, locals := 29 } : Room) s m ([.ref h] : List Value).toArray below meth c H locs 0 0 (MQ below (va_Qv (fun (u9 : Unit) => True) (fun (u9 : Unit) t9 => bW D A (MW dA h ad (MS.s_isShown (MS.s_shown (MS.s_rowLengths (MS.s_rowTexts (MS.s_shownWindows (MS.s_rows (MS.s_names (MS.s_isTable (MS.s_valueLength x v9) true) (x.tableNames 0)) (x.tableRows 0)) x.windows) rt9) rl9) (shG x.cells x.shown x.windows (x.tableRows 0))) (shG x.isCell x.isShown x.windows (x.tableRows 0)))) t9) A) ([.ref h] : List Value).toArray s 0 0 A) (F0 m 94 ls []) := by
                intro k9
                induction k9 using Nat.strongRecOn with
                | ind k9 ih94 =>
                  intro j m1 hk9 H locs ls hP hD hS hl
                  refine lv_iload hx hb d_M_keepTable_94 (lv_at hl 0 rfl) ?_
                  refine lv_aload_n hx hb d_M_keepTable_96 rfl (lv_at hl 4 rfl) ?_
                  refine gF (v := .int (nI ((x.ktV r k).2.1))) hx hb hown hE hK hP 0 rfl rfl layM 60 (by decide) w977 rfl d_M_keepTable_97 ?_
                  refine lv_icmp_ge hx hb d_M_keepTable_100 (tgt := 135) rfl (fun g10 => ?_) (fun g10 => ?_)
                  · have g10 := (nI_leI (a := (x.ktV r k).2.1) (b := j) (by omega) (by omega)).mp g10
                    refine lv_iinc (k := 2) (v := nI (k + 1)) hx hb d_M_keepTable_135 hl rfl (iincN (k) 1 1 (by decide)) (by decide) rfl (fun ls hl => ?_)
                    have hl : lv_has ls 5 [(2, .int (nI (k + 1))), (4, .int (nI j)), (3, .int (voI (x.ktV r k))), (1, .int (nI r)), (0, .ref h)] := hl
                    refine lv_goto hx hb d_M_keepTable_138 (tgt := 45) rfl ?_
                    exact ih45 _ (by omega) (k + 1) (va_up rl2 (6 * r + k) (x.ktV r k).2.1) (cpG x.texts rt2 (x.ktV r k).1 ((6 * r + k) * 24) j) ((x.ktV r k).2.1) (by omega) ((kt_k j2).trans (by rw [show (x.ktV r k).2.1 = j by omega])) rfl H _ ls hP hD hS (lv_sub hl [0, 3, 4] rfl)
                  · have g10 := mt (nI_leI (a := (x.ktV r k).2.1) (b := j) (by omega) (by omega)).mpr g10
                    refine lv_aload_n hx hb d_M_keepTable_103 rfl (lv_at hl 4 rfl) ?_
                    refine gF (v := .ref (ad 75)) hx hb hown hE hK hP 0 rfl rfl layM 75 (by decide) w535 rfl d_M_keepTable_104 ?_
                    refine lv_bipush (v := 6) hx hb d_M_keepTable_107 (by decide) ?_
                    refine lv_iload_n hx hb d_M_keepTable_109 rfl (lv_at hl 3 rfl) ?_
                    refine lv_imul hx hb d_M_keepTable_110 (tpi (y := nI (6 * r)) (pk_mul (6) (r)) ?_)
                    refine lv_iload_n hx hb d_M_keepTable_111 rfl (lv_at hl 2 rfl) ?_
                    refine lv_iadd hx hb d_M_keepTable_112 (tpi (y := nI ((6 * r) + k)) (nI_add (6 * r) (k)) ?_)
                    refine lv_bipush (v := 24) hx hb d_M_keepTable_113 (by decide) ?_
                    refine lv_imul hx hb d_M_keepTable_115 (tpi (y := nI (((6 * r) + k) * 24)) (pk_mul ((6 * r) + k) (24)) ?_)
                    refine lv_iload hx hb d_M_keepTable_116 (lv_at hl 0 rfl) ?_
                    refine lv_iadd hx hb d_M_keepTable_118 (tpi (y := nI ((((6 * r) + k) * 24) + j)) (nI_add (((6 * r) + k) * 24) (j)) ?_)
                    refine lv_aload_n hx hb d_M_keepTable_119 rfl (lv_at hl 4 rfl) ?_
                    refine gF (v := .ref (ad 10)) hx hb hown hE hK hP 0 rfl rfl layM 10 (by decide) w499 rfl d_M_keepTable_120 ?_
                    refine lv_iload_n hx hb d_M_keepTable_123 rfl (lv_at hl 1 rfl) ?_
                    refine lv_iload hx hb d_M_keepTable_124 (lv_at hl 0 rfl) ?_
                    refine lv_iadd hx hb d_M_keepTable_126 ?_
                    refine tpi (y := nI ((x.ktV r k).1 + j)) (vo_add tk (by first | exact Nat.lt_of_not_le (by assumption) | (show j < (x.ktV r k).2.1; omega))) ?_
                    refine nbld (f := x.texts) hx hb hK hP 2 0 rfl rfl ((x.ktV r k).1 + j) (by omega) (by decide) d_M_keepTable_127 ?_
                    refine nbst hx hb hK hP hD hS 35 0 rfl rfl ((((6 * r) + k) * 24) + j) (by omega) (by decide) (x.texts ((x.ktV r k).1 + j)) (byteF_n hby _) d_M_keepTable_128 (fun H locs hP hD hS => ?_)
                    have hP : va_P D vwCl (MW dA h ad (MS.s_isShown (MS.s_shown (MS.s_rowLengths (MS.s_rowTexts (MS.s_shownWindows (MS.s_rows (MS.s_names (MS.s_isTable (MS.s_valueLength x ((x.ktV r k).2.1)) true) (x.tableNames 0)) (x.tableRows 0)) x.windows) (va_up (cpG x.texts rt2 (x.ktV r k).1 ((6 * r + k) * 24) j) ((((6 * r) + k) * 24) + j) (x.texts ((x.ktV r k).1 + j)))) (va_up rl2 (6 * r + k) (x.ktV r k).2.1)) (shG x.cells x.shown x.windows r)) (shG x.isCell x.isShown x.windows r))) H := hP
                    have hD : va_D A (MW dA h ad (MS.s_isShown (MS.s_shown (MS.s_rowLengths (MS.s_rowTexts (MS.s_shownWindows (MS.s_rows (MS.s_names (MS.s_isTable (MS.s_valueLength x ((x.ktV r k).2.1)) true) (x.tableNames 0)) (x.tableRows 0)) x.windows) (va_up (cpG x.texts rt2 (x.ktV r k).1 ((6 * r + k) * 24) j) ((((6 * r) + k) * 24) + j) (x.texts ((x.ktV r k).1 + j)))) (va_up rl2 (6 * r + k) (x.ktV r k).2.1)) (shG x.cells x.shown x.windows r)) (shG x.isCell x.isShown x.windows r))) := hD
                    refine lv_iinc (k := 0) (v := nI (j + 1)) hx hb d_M_keepTable_129 hl rfl (iincN (j) 1 1 (by decide)) (by decide) rfl (fun ls hl => ?_)
                    have hl : lv_has ls 5 [(4, .int (nI (j + 1))), (3, .int (voI (x.ktV r k))), (2, .int (nI k)), (1, .int (nI r)), (0, .ref h)] := hl
                    refine lv_goto hx hb d_M_keepTable_132 (tgt := 94) rfl ?_
                    exact ih94 _ (by omega) (j + 1) (by omega) rfl H _ ls hP hD hS (lv_sub hl [0, 1, 2, 3, 4] rfl)
              exact L94 _ 0 (Nat.zero_le _) rfl H _ ls hP hD hS (lv_sub hl [0, 1, 2, 3, 4] rfl)
        exact L45 _ 0 rl rt v (Nat.zero_le _) rfl rfl H _ ls hP hD hS (lv_sub hl [0, 1, 2] rfl)
  have e9 : (MS.s_shownWindows (MS.s_rows (MS.s_names (MS.s_isTable x true) (x.tableNames 0)) (x.tableRows 0)) x.windows : MS) = MS.s_isShown (MS.s_shown (MS.s_rowLengths (MS.s_rowTexts (MS.s_shownWindows (MS.s_rows (MS.s_names (MS.s_isTable (MS.s_valueLength x x.valueLength) true) (x.tableNames 0)) (x.tableRows 0)) x.windows) x.rowTexts) x.rowLengths) (shG x.cells x.shown x.windows 0)) (shG x.isCell x.isShown x.windows 0) := by rw [show (shG x.isCell x.isShown x.windows 0) = x.isShown from rfl, show (shG x.cells x.shown x.windows 0) = x.shown from rfl] <;> rfl
  exact L35 _ 0 x.rowLengths x.rowTexts x.valueLength (Nat.zero_le _) rfl rfl H _ ls (cvP e9 hP) (cvD e9 hD) hS (lv_sub hl [0, 1] rfl)
end
section
def MS.sk (x : MS) : Nat := skG x.tape x.length (x.length + 1 - x.too) x.too
def MS.nu (x : MS) (d : Nat) : Nat × Bool × Int64 := numG x.tape x.length (x.length + 1 - d) d true 0
def MS.tx (x : MS) (d : Nat) : Nat := txG x.tape x.length (x.length + 1 - (d + 1)) (d + 1)
def MS.idE (x : MS) (d : Nat) : Nat := idG x.tape x.length (x.length + 1 - d) d
def MS.tw (x : MS) (d : Nat) : Nat := sgTwo (x.atN d) (x.atN (d + 1))
/-- a token read, it begins at d -/
def MS.nxD (x : MS) (d : Nat) : Bool × MS :=
  if x.length ≤ d then (true, MS.s_too (MS.s_frm (MS.s_kind x 0) d) d)
  else if isDg (x.atN d) = true then (if (x.nu d).2.1 = true then (true, MS.s_amount (MS.s_too (MS.s_frm (MS.s_kind x 1) d) (x.nu d).1) (x.nu d).2.2) else (false, MS.s_amount (MS.s_too (MS.s_frm (MS.s_kind (MS.s_faultPlace (MS.s_faultCode x 1) (nI d)) 1) d) (x.nu d).1) (x.nu d).2.2))
  else if isLt (x.atN d) = true then (true, MS.s_too (MS.s_frm (MS.s_kind x 2) d) (x.idE d))
  else if x.atN d = 34 then (if x.atN (x.tx d) = 34 then (true, MS.s_too (MS.s_frm (MS.s_kind x 3) d) (x.tx d + 1)) else (false, MS.s_too (MS.s_frm (MS.s_kind (MS.s_faultPlace (MS.s_faultCode x 1) (nI d)) 3) d) (x.tx d)))
  else if x.tw d = 0 then (if sgOne (x.atN d) = true then (true, MS.s_too (MS.s_frm (MS.s_kind x (x.atN d)) d) (d + 1)) else (false, MS.s_too (MS.s_frm (MS.s_faultPlace (MS.s_faultCode x 1) (nI d)) d) d))
  else (true, MS.s_too (MS.s_frm (MS.s_kind x (nI (x.tw d))) d) (d + 2))
def MS.nx (x : MS) : Bool × MS := x.nxD x.sk
theorem sgTwo_le (a b : Int32) : sgTwo a b ≤ 258 := by
  unfold sgTwo
  repeat' split
  all_goals decide
theorem nx_e {x : MS} {d : Nat} (h : x.length ≤ d) : x.nxD d = (true, MS.s_too (MS.s_frm (MS.s_kind x 0) d) d) := if_pos h
theorem nx_n {x : MS} {d b : Nat} {k : Int64} (h : ¬ x.length ≤ d) (h1 : isDg (x.atN d) = true) (h2 : x.nu d = (b, true, k)) : x.nxD d = (true, MS.s_amount (MS.s_too (MS.s_frm (MS.s_kind x 1) d) b) k) := by
  unfold MS.nxD
  rw [if_neg h, if_pos h1, h2]
  rfl
theorem nx_nx {x : MS} {d b : Nat} {k : Int64} (h : ¬ x.length ≤ d) (h1 : isDg (x.atN d) = true) (h2 : x.nu d = (b, false, k)) : x.nxD d = (false, MS.s_amount (MS.s_too (MS.s_frm (MS.s_kind (MS.s_faultPlace (MS.s_faultCode x 1) (nI d)) 1) d) b) k) := by
  unfold MS.nxD
  rw [if_neg h, if_pos h1, h2]
  rfl
theorem nx_i {x : MS} {d : Nat} (h : ¬ x.length ≤ d) (h1 : isDg (x.atN d) = false) (h2 : isLt (x.atN d) = true) : x.nxD d = (true, MS.s_too (MS.s_frm (MS.s_kind x 2) d) (x.idE d)) := by
  unfold MS.nxD
  rw [if_neg h, if_neg (by rw [h1]; decide), if_pos h2]
theorem nx_t {x : MS} {d : Nat} (h : ¬ x.length ≤ d) (h1 : isDg (x.atN d) = false) (h2 : isLt (x.atN d) = false) (h3 : x.atN d = 34) (h4 : x.atN (x.tx d) = 34) : x.nxD d = (true, MS.s_too (MS.s_frm (MS.s_kind x 3) d) (x.tx d + 1)) := by
  unfold MS.nxD
  rw [if_neg h, if_neg (by rw [h1]; decide), if_neg (by rw [h2]; decide), if_pos h3, if_pos h4]
theorem nx_tx {x : MS} {d : Nat} (h : ¬ x.length ≤ d) (h1 : isDg (x.atN d) = false) (h2 : isLt (x.atN d) = false) (h3 : x.atN d = 34) (h4 : ¬ x.atN (x.tx d) = 34) : x.nxD d = (false, MS.s_too (MS.s_frm (MS.s_kind (MS.s_faultPlace (MS.s_faultCode x 1) (nI d)) 3) d) (x.tx d)) := by
  unfold MS.nxD
  rw [if_neg h, if_neg (by rw [h1]; decide), if_neg (by rw [h2]; decide), if_pos h3, if_neg h4]
theorem nx_sx {x : MS} {d : Nat} (h : ¬ x.length ≤ d) (h1 : isDg (x.atN d) = false) (h2 : isLt (x.atN d) = false) (h3 : ¬ x.atN d = 34) (h4 : x.tw d = 0) (h5 : sgOne (x.atN d) = false) : x.nxD d = (false, MS.s_too (MS.s_frm (MS.s_faultPlace (MS.s_faultCode x 1) (nI d)) d) d) := by
  unfold MS.nxD
  rw [if_neg h, if_neg (by rw [h1]; decide), if_neg (by rw [h2]; decide), if_neg h3, if_pos h4, if_neg (by rw [h5]; decide)]
theorem nx_s1 {x : MS} {d : Nat} (h : ¬ x.length ≤ d) (h1 : isDg (x.atN d) = false) (h2 : isLt (x.atN d) = false) (h3 : ¬ x.atN d = 34) (h4 : x.tw d = 0) (h5 : sgOne (x.atN d) = true) : x.nxD d = (true, MS.s_too (MS.s_frm (MS.s_kind x (x.atN d)) d) (d + 1)) := by
  unfold MS.nxD
  rw [if_neg h, if_neg (by rw [h1]; decide), if_neg (by rw [h2]; decide), if_neg h3, if_pos h4, if_pos h5]
theorem nx_s2 {x : MS} {d : Nat} (h : ¬ x.length ≤ d) (h1 : isDg (x.atN d) = false) (h2 : isLt (x.atN d) = false) (h3 : ¬ x.atN d = 34) (h4 : ¬ x.tw d = 0) : x.nxD d = (true, MS.s_too (MS.s_frm (MS.s_kind x (nI (x.tw d))) d) (d + 2)) := by
  unfold MS.nxD
  rw [if_neg h, if_neg (by rw [h1]; decide), if_neg (by rw [h2]; decide), if_neg h3, if_neg h4]
set_option maxHeartbeats 4000000 in
set_option maxRecDepth 100000 in
theorem k_next (l : Launch) (D : va_G) (dA : Nat → ClassId) (sz : Nat) (h : Nat) (ad : Nat → Nat) (x : MS) (hl1 : x.length ≤ 65536) (ht : x.too ≤ x.length) (hf : x.faultCode = 0) : Met l ⟨"SeriesVaultModel", "next", "()Z"⟩ [Cond.code ⟨"SeriesVaultModel", "next", "()Z"⟩ prog_14_method_57_code 2 (some FieldType.boolean)] { frames := 3, cells := 0, slots := 0, locals := 46 } (pC D dA [.ref h] (MW dA h ad x) sz) (va_Qi (fun (r9 : Int32) (u9 : MS) => r9 = bI (x.nx).1 ∧ u9 = (x.nx).2) (fun (u9 : MS) t9 => bW D (va_A (MW dA h ad x) sz) (MW dA h ad u9) t9) (va_A (MW dA h ad x) sz)) 0 0 (va_A (MW dA h ad x) sz) := by
  have hd : x.sk ≤ x.length := skG_le ht
  by_cases g0 : x.length ≤ x.sk
  · exact metI (k_next_e l D dA sz h ad x x.sk hl1 ht rfl g0) (fun r9 u9 hu => ⟨x.nx.2, ⟨by rw [hu, show x.nx = _ from (nx_e g0)], rfl⟩, by show MW dA h ad _ = MW dA h ad x.nx.2; rw [show x.nx = _ from (nx_e g0)] <;> rfl⟩)
  have g1 : x.sk < x.length := Nat.lt_of_not_le g0
  cases c1 : isDg (x.atN x.sk) with
  | true =>
    obtain ⟨b, v, k, hv⟩ : ∃ b v k, x.nu x.sk = (b, v, k) := ⟨_, _, _, rfl⟩
    cases v with
    | true =>
      exact metI (k_next_n l D dA sz h ad x x.sk b k hl1 ht rfl g1 c1 hv) (fun r9 u9 hu => ⟨x.nx.2, ⟨by rw [hu.1, show x.nx = _ from (nx_n g0 c1 hv)], rfl⟩, by show MW dA h ad u9 = MW dA h ad x.nx.2; rw [hu.2, show x.nx = _ from (nx_n g0 c1 hv)] <;> rfl⟩)
    | false =>
      exact metI (k_next_nx l D dA sz h ad x x.sk b k hl1 ht rfl g1 c1 hv hf) (fun r9 u9 hu => ⟨x.nx.2, ⟨by rw [hu.1, show x.nx = _ from (nx_nx g0 c1 hv)], rfl⟩, by show MW dA h ad u9 = MW dA h ad x.nx.2; rw [hu.2, show x.nx = _ from (nx_nx g0 c1 hv)] <;> rfl⟩)
  | false =>
    cases c2 : isLt (x.atN x.sk) with
    | true =>
      exact metI (k_next_i l D dA sz h ad x x.sk (x.idE x.sk) hl1 ht rfl g1 c1 c2 rfl) (fun r9 u9 hu => ⟨x.nx.2, ⟨by rw [hu, show x.nx = _ from (nx_i g0 c1 c2)], rfl⟩, by show MW dA h ad _ = MW dA h ad x.nx.2; rw [show x.nx = _ from (nx_i g0 c1 c2)] <;> rfl⟩)
    | false =>
      by_cases c3 : x.atN x.sk = 34
      · by_cases c4 : x.atN (x.tx x.sk) = 34
        · exact metI (k_next_t l D dA sz h ad x x.sk (x.tx x.sk) hl1 ht rfl g1 c1 c2 c3 rfl c4) (fun r9 u9 hu => ⟨x.nx.2, ⟨by rw [hu, show x.nx = _ from (nx_t g0 c1 c2 c3 c4)], rfl⟩, by show MW dA h ad _ = MW dA h ad x.nx.2; rw [show x.nx = _ from (nx_t g0 c1 c2 c3 c4)] <;> rfl⟩)
        · exact metI (k_next_tx l D dA sz h ad x x.sk (x.tx x.sk) hl1 ht rfl g1 c1 c2 c3 rfl c4 hf) (fun r9 u9 hu => ⟨x.nx.2, ⟨by rw [hu, show x.nx = _ from (nx_tx g0 c1 c2 c3 c4)], rfl⟩, by show MW dA h ad _ = MW dA h ad x.nx.2; rw [show x.nx = _ from (nx_tx g0 c1 c2 c3 c4)] <;> rfl⟩)
      · by_cases c4 : x.tw x.sk = 0
        · cases c5 : sgOne (x.atN x.sk) with
          | true => exact metI (k_next_s1 l D dA sz h ad x x.sk hl1 ht rfl g1 c1 c2 c3 c4 c5) (fun r9 u9 hu => ⟨x.nx.2, ⟨by rw [hu, show x.nx = _ from (nx_s1 g0 c1 c2 c3 c4 c5)], rfl⟩, by show MW dA h ad _ = MW dA h ad x.nx.2; rw [show x.nx = _ from (nx_s1 g0 c1 c2 c3 c4 c5)] <;> rfl⟩)
          | false => exact metI (k_next_sx l D dA sz h ad x x.sk hl1 ht rfl g1 c1 c2 c3 c4 c5 hf) (fun r9 u9 hu => ⟨x.nx.2, ⟨by rw [hu, show x.nx = _ from (nx_sx g0 c1 c2 c3 c4 c5)], rfl⟩, by show MW dA h ad _ = MW dA h ad x.nx.2; rw [show x.nx = _ from (nx_sx g0 c1 c2 c3 c4 c5)] <;> rfl⟩)
        · exact metI (k_next_s2 l D dA sz h ad x x.sk (x.tw x.sk) hl1 ht rfl g1 c1 c2 c3 rfl (Nat.pos_of_ne_zero c4) (sgTwo_le _ _)) (fun r9 u9 hu => ⟨x.nx.2, ⟨by rw [hu, show x.nx = _ from (nx_s2 g0 c1 c2 c3 c4)], rfl⟩, by show MW dA h ad _ = MW dA h ad x.nx.2; rw [show x.nx = _ from (nx_s2 g0 c1 c2 c3 c4)] <;> rfl⟩)
end
section
/-- what reading tokens wants -/
def MS.lx (x : MS) : Prop := x.length ≤ 65536 ∧ x.frm ≤ x.too ∧ x.too ≤ x.length ∧ x.faultCode = 0
/-- x with the token and the fault of y -/
def MS.tkS (x y : MS) : MS := MS.s_amount (MS.s_too (MS.s_frm (MS.s_kind (MS.s_faultPlace (MS.s_faultCode x y.faultCode) y.faultPlace) y.kind) y.frm) y.too) y.amount
/-- only the token and the fault differ -/
def MS.tk (x y : MS) : Prop := y = x.tkS y
theorem tk_rf (x : MS) : x.tk x := rfl
theorem tk_tr {x y z : MS} (h1 : x.tk y) (h2 : y.tk z) : x.tk z := h2.trans ((congrArg (fun w => MS.tkS w z) h1).trans rfl)
def MS.flS (x : MS) (k : Int32) (q : Nat) : MS := MS.s_faultPlace (MS.s_faultCode x k) (nI q)
theorem tk_fl (x : MS) (k : Int32) (q : Nat) : x.tk (x.flS k q) := rfl
theorem tk_nxD (x : MS) (d : Nat) : x.tk (x.nxD d).2 := by
  unfold MS.nxD
  repeat' split
  all_goals exact rfl
theorem tk_nx (x : MS) : x.tk x.nx.2 := tk_nxD x x.sk
theorem skG_ge {f : Nat → Int32} {len : Nat} : ∀ {w q : Nat}, q ≤ skG f len w q
  | 0, q => Nat.le_refl q
  | w + 1, q => by
    unfold skG
    split
    · exact Nat.le_refl q
    · split
      · have := skG_ge (f := f) (len := len) (w := w) (q := q + 1)
        omega
      · exact Nat.le_refl q
theorem numG_in {f : Nat → Int32} {len : Nat} : ∀ {w q : Nat} {g : Bool} {m : Int64}, q ≤ len → q ≤ (numG f len w q g m).1 ∧ (numG f len w q g m).1 ≤ len
  | 0, q, g, m, h => ⟨Nat.le_refl q, h⟩
  | w + 1, q, g, m, h => by
    unfold numG
    split
    · rename_i e
      have h1 := atI_lt e
      have := numG_in (f := f) (len := len) (w := w) (q := q + 1) (g := ngB g m (atI f len q - 48)) (m := ngA g m (atI f len q - 48)) (by omega)
      omega
    · exact ⟨Nat.le_refl q, h⟩
theorem txG_in {f : Nat → Int32} {len : Nat} : ∀ {w q : Nat}, q ≤ len → q ≤ txG f len w q ∧ txG f len w q ≤ len
  | 0, q, h => ⟨Nat.le_refl q, h⟩
  | w + 1, q, h => by
    unfold txG
    split
    · exact ⟨Nat.le_refl q, h⟩
    · split
      · have := txG_in (f := f) (len := len) (w := w) (q := q + 1) (by omega)
        omega
      · exact ⟨Nat.le_refl q, h⟩
/-- the token behind: it lies on the tape, behind the one before, and is not empty but at the end -/
theorem nx_in0 {x : MS} (h1 : x.length ≤ 65536) (h3 : x.too ≤ x.length) (h4 : x.faultCode = 0) (hn : x.nx.1 = true) : x.nx.2.lx ∧ x.too ≤ x.nx.2.frm ∧ (x.nx.2.kind = 0 ∨ x.nx.2.frm < x.nx.2.too) := by
  have hd : x.sk ≤ x.length := skG_le h3
  have hg : x.too ≤ x.sk := skG_ge
  unfold MS.nx at hn ⊢
  by_cases g0 : x.length ≤ x.sk
  · rw [nx_e g0]
    exact ⟨⟨h1, Nat.le_refl _, hd, h4⟩, hg, Or.inl rfl⟩
  cases c1 : isDg (x.atN x.sk) with
  | true =>
    obtain ⟨b, v, k, hv⟩ : ∃ b v k, x.nu x.sk = (b, v, k) := ⟨_, _, _, rfl⟩
    cases v with
    | true =>
      rw [nx_n g0 c1 hv]
      have z1 : x.nu x.sk = numG x.tape x.length (x.length + 1 - x.sk - 1) (x.sk + 1) (ngB true 0 (x.atN x.sk - 48)) (ngA true 0 (x.atN x.sk - 48)) := numG_t (by omega) c1
      have z2 := numG_in (f := x.tape) (len := x.length) (w := x.length + 1 - x.sk - 1) (q := x.sk + 1) (g := ngB true 0 (x.atN x.sk - 48)) (m := ngA true 0 (x.atN x.sk - 48)) (by omega)
      rw [← z1, hv] at z2
      have z3 : x.sk + 1 ≤ b := z2.1
      have z4 : b ≤ x.length := z2.2
      refine ⟨⟨h1, ?_, z4, h4⟩, hg, Or.inr z3⟩
      show x.sk ≤ b
      omega
    | false =>
      rw [nx_nx g0 c1 hv] at hn
      cases hn
  | false =>
    cases c2 : isLt (x.atN x.sk) with
    | true =>
      rw [nx_i g0 c1 c2]
      have z1 : x.idE x.sk = idG x.tape x.length (x.length + 1 - x.sk - 1) (x.sk + 1) := idG_t (by omega) (by show (isLt (x.atN x.sk) || _) = true; rw [c2]; rfl)
      have z2 : x.sk + 1 ≤ x.idE x.sk := by rw [z1]; exact idG_ge
      have z3 : x.idE x.sk ≤ x.length := idG_le hd
      refine ⟨⟨h1, ?_, z3, h4⟩, hg, Or.inr z2⟩
      show x.sk ≤ x.idE x.sk
      omega
    | false =>
      by_cases c3 : x.atN x.sk = 34
      · by_cases c4 : x.atN (x.tx x.sk) = 34
        · rw [nx_t g0 c1 c2 c3 c4]
          have z1 := txG_in (f := x.tape) (len := x.length) (w := x.length + 1 - (x.sk + 1)) (q := x.sk + 1) (by omega)
          have z2 : x.sk + 1 ≤ x.tx x.sk := z1.1
          have z3 : x.tx x.sk < x.length := atI_in c4 (by decide)
          refine ⟨⟨h1, ?_, z3, h4⟩, hg, Or.inr ?_⟩
          · show x.sk ≤ x.tx x.sk + 1
            omega
          · show x.sk < x.tx x.sk + 1
            omega
        · rw [nx_tx g0 c1 c2 c3 c4] at hn
          cases hn
      · by_cases c4 : x.tw x.sk = 0
        · cases c5 : sgOne (x.atN x.sk) with
          | true =>
            rw [nx_s1 g0 c1 c2 c3 c4 c5]
            refine ⟨⟨h1, Nat.le_succ _, Nat.lt_of_not_le g0, h4⟩, hg, Or.inr (Nat.lt_succ_self _)⟩
          | false =>
            rw [nx_sx g0 c1 c2 c3 c4 c5] at hn
            cases hn
        · rw [nx_s2 g0 c1 c2 c3 c4]
          have z1 : x.sk + 1 < x.length := by
            refine Nat.lt_of_not_le fun z => c4 ?_
            have e : x.atN (x.sk + 1) = 0 := if_pos z
            unfold MS.tw
            rw [e]
            unfold sgTwo
            rw [if_neg (fun z => absurd z.2 (by decide)), if_neg (fun z => absurd z.2 (by decide)), if_neg (fun z => absurd z.2 (by decide))]
          refine ⟨⟨h1, ?_, z1, h4⟩, hg, Or.inr ?_⟩
          · show x.sk ≤ x.sk + 2
            omega
          · show x.sk < x.sk + 2
            omega
theorem nx_in {x : MS} (h : x.lx) (hn : x.nx.1 = true) : x.nx.2.lx ∧ x.too ≤ x.nx.2.frm ∧ (x.nx.2.kind = 0 ∨ x.nx.2.frm < x.nx.2.too) := nx_in0 h.1 h.2.2.1 h.2.2.2 hn
def MS.ndF (x : MS) (k : Int32) : Bool × MS := if x.kind = k then x.nx else (false, x.flS 2 x.frm)
theorem tk_nd (x : MS) (k : Int32) : x.tk (x.ndF k).2 := by
  unfold MS.ndF
  split
  · exact tk_nx x
  · exact tk_fl x 2 x.frm
theorem nd_in {x : MS} {k : Int32} (h : x.lx) (hn : (x.ndF k).1 = true) : (x.ndF k).2.lx ∧ x.too ≤ (x.ndF k).2.frm ∧ ((x.ndF k).2.kind = 0 ∨ (x.ndF k).2.frm < (x.ndF k).2.too) ∧ x.kind = k := by
  unfold MS.ndF at hn ⊢
  split
  · rename_i g
    rw [if_pos g] at hn
    obtain ⟨a, b, c⟩ := nx_in h hn
    exact ⟨a, b, c, g⟩
  · rename_i g
    rw [if_neg g] at hn
    cases hn
/-- the byte at a place that may be below 0 -/
def MS.atZ (x : MS) (z : Int32) : Int32 := if z < 0 then 0 else x.atN (i2n z)
def MS.fnN (x : MS) : Nat := if x.kind = 2 then x.too - x.frm else 0
def MS.fn5 (x : MS) (a b : Int32) : Int32 := if x.stB 99 111 117 = true ∧ b = 110 ∧ a = 116 then 1 else if x.stB 108 101 97 = true ∧ b = 115 ∧ a = 116 then 2 else if x.stB 102 105 114 = true ∧ b = 115 ∧ a = 116 then 4 else -1
def MS.fn6 (x : MS) (a b : Int32) : Int32 := if x.stB 108 97 116 = true ∧ x.atN (x.frm + 3) = 101 ∧ b = 115 ∧ a = 116 then 5 else if x.stB 103 114 111 = true ∧ x.atN (x.frm + 3) = 119 ∧ b = 116 ∧ a = 104 then 6 else -1
/-- the number of the function that the token names, or -1 -/
def MS.fnI (x : MS) : Int32 :=
  if x.fnN = 3 then (if x.nmB 115 117 109 32 3 = true then 0 else -1) else if x.fnN = 4 then (if x.nmB 109 111 115 116 4 = true then 3 else -1) else if x.fnN = 5 then x.fn5 (x.atZ (nI x.too - 1)) (x.atZ (nI x.too - 2)) else if x.fnN = 6 then x.fn6 (x.atZ (nI x.too - 1)) (x.atZ (nI x.too - 2)) else -1
theorem d_M_need_0 : decode prog_14_method_60_code 0 = .ok (.aload_n 0, 1) := by decide +kernel
theorem d_M_need_1 : decode prog_14_method_60_code 1 = .ok (.getfield 351, 3) := by decide +kernel
theorem d_M_need_4 : decode prog_14_method_60_code 4 = .ok (.iload_n 1, 1) := by decide +kernel
theorem d_M_need_5 : decode prog_14_method_60_code 5 = .ok (.if_icmp .ne 10, 3) := by decide +kernel
theorem d_M_need_15 : decode prog_14_method_60_code 15 = .ok (.aload_n 0, 1) := by decide +kernel
theorem d_M_need_16 : decode prog_14_method_60_code 16 = .ok (.iconst 2, 1) := by decide +kernel
theorem d_M_need_17 : decode prog_14_method_60_code 17 = .ok (.aload_n 0, 1) := by decide +kernel
theorem d_M_need_18 : decode prog_14_method_60_code 18 = .ok (.getfield 345, 3) := by decide +kernel
theorem d_M_need_21 : decode prog_14_method_60_code 21 = .ok (.invokevirtual 224, 3) := by decide +kernel
theorem d_M_need_24 : decode prog_14_method_60_code 24 = .ok (.ireturn, 1) := by decide +kernel
theorem d_M_need_8 : decode prog_14_method_60_code 8 = .ok (.aload_n 0, 1) := by decide +kernel
theorem d_M_need_9 : decode prog_14_method_60_code 9 = .ok (.invokevirtual 373, 3) := by decide +kernel
theorem d_M_need_12 : decode prog_14_method_60_code 12 = .ok (.goto 12, 3) := by decide +kernel
set_option maxHeartbeats 4000000 in
set_option maxRecDepth 100000 in
theorem k_need (l : Launch) (D : va_G) (dA : Nat → ClassId) (sz : Nat) (h : Nat) (ad : Nat → Nat) (x : MS) (k : Int32) (hlx : x.lx) : Met l ⟨"SeriesVaultModel", "need", "(I)Z"⟩ [Cond.code ⟨"SeriesVaultModel", "need", "(I)Z"⟩ prog_14_method_60_code 2 (some FieldType.boolean)] { frames := 4, cells := 0, slots := 0, locals := 67 } (pC D dA [.ref h, .int k] (MW dA h ad x) sz) (va_Qi (fun (r9 : Int32) (u9 : MS) => r9 = bI (x.ndF k).1 ∧ u9 = (x.ndF k).2) (fun (u9 : MS) t9 => bW D (va_A (MW dA h ad x) sz) (MW dA h ad u9) t9) (va_A (MW dA h ad x) sz)) 0 0 (va_A (MW dA h ad x) sz) := by
  refine mkC (y := ⟨"SeriesVaultModel", "need", "(I)Z"⟩) (cc := prog_14_method_60_code) (maxL := 2) (av := [.ref h, .int k]) (ws := MW dA h ad x) (sz := sz) (Qc := fun A => va_Qi (fun (r9 : Int32) (u9 : MS) => r9 = bI (x.ndF k).1 ∧ u9 = (x.ndF k).2) (fun (u9 : MS) t9 => bW D A (MW dA h ad u9) t9) A) (by decide) (Nat.le_of_ble_eq_true rfl) ?_
  intro A p e s m below meth c ls hsz hB
  obtain ⟨hx, hb, hr, hml, hown, hin, hlk, hE, hK, hP, hD, hS, hA, hN, hl⟩ := hB
  have hown : s.vm.findClass "SeriesVaultModel" = some m.cls := hown
  have hl : lv_has ls 2 [(0, .ref h), (1, .int k)] := hl
  obtain ⟨H, hH⟩ : ∃ z, z = s.heap := ⟨_, rfl⟩
  have hP : va_P D vwCl (MW dA h ad x) H := by rw [hH]; exact hP
  have hS : va_S A s.heap H [] := by rw [hH]; exact hS
  rw [← hH]
  obtain ⟨hl1, hft, htl, hf0⟩ := hlx
  refine lv_aload_n hx hb d_M_need_0 rfl (lv_at hl 0 rfl) ?_
  refine gF (v := .int x.kind) hx hb hown hE hK hP 0 rfl rfl layM 44 (by decide) w469 rfl d_M_need_1 ?_
  refine lv_iload_n hx hb d_M_need_4 rfl (lv_at hl 1 rfl) ?_
  refine lv_icmp_ne hx hb d_M_need_5 (tgt := 15) rfl (fun g1 => ?_) (fun g1 => ?_)
  · have g1 := g1
    refine lv_aload_n hx hb d_M_need_15 rfl (lv_at hl 0 rfl) ?_
    refine lv_iconst (v := 2) hx hb d_M_need_16 (by decide) ?_
    refine lv_aload_n hx hb d_M_need_17 rfl (lv_at hl 0 rfl) ?_
    refine gF (v := .int (nI x.frm)) hx hb hown hE hK hP 0 rfl rfl layM 45 (by decide) w464 rfl d_M_need_18 ?_
    refine jfI (rnV (As := [.int 2, .int (nI x.frm)]) (rest := []) hx hb hml hown hE hK (hN _ _ hS) hP hD (k_flaw_0 l D dA H.size h ad x 2 (nI x.frm) hf0) (q0 := 0) rfl rfl w431 w430 w432 w433 w328 rfl rfl ⟨⟨by decide, by decide⟩, rfl⟩ ⟨(Nat.le_of_ble_eq_true rfl), (Nat.le_of_ble_eq_true rfl)⟩ rfl hl.1 rfl (Nat.le_of_ble_eq_true rfl) d_M_need_21 ⟨(Nat.le_of_ble_eq_true rfl), (Nat.le_of_ble_eq_true rfl)⟩) hP hD hS hA (fun r2 u3 H locs hp9 hP hD hS => ?_)
    have hP : va_P D vwCl (MW dA h ad (MS.s_faultPlace (MS.s_faultCode x 2) (nI x.frm))) H := hP
    have hD : va_D A (MW dA h ad (MS.s_faultPlace (MS.s_faultCode x 2) (nI x.frm))) := hD
    replace hp9 : bI false = r2 := Eq.symm hp9
    subst hp9
    exact rfZ hx hb hr (bI_nar false) hlk hS (MS.s_faultPlace (MS.s_faultCode x 2) (nI x.frm)) (by have e9 : x.ndF k = (false, x.flS 2 x.frm) := if_neg g1; rw [e9]; exact ⟨rfl, rfl⟩) hP hD (Nat.le_of_ble_eq_true rfl) (Nat.le_of_ble_eq_true rfl) d_M_need_24
  · have g1 := g1
    refine lv_aload_n hx hb d_M_need_8 rfl (lv_at hl 0 rfl) ?_
    refine jfI (rnV (As := []) (rest := []) hx hb hml hown hE hK (hN _ _ hS) hP hD (k_next l D dA H.size h ad x hl1 htl hf0) (q0 := 0) rfl rfl w480 w479 w481 w482 w328 rfl rfl ⟨⟨by decide, by decide⟩, rfl⟩ ⟨(Nat.le_of_ble_eq_true rfl), (Nat.le_of_ble_eq_true rfl)⟩ rfl hl.1 rfl (Nat.le_of_ble_eq_true rfl) d_M_need_9 ⟨(Nat.le_of_ble_eq_true rfl), (Nat.le_of_ble_eq_true rfl)⟩) hP hD hS hA (fun r4 u5 H locs hp9 hP hD hS => ?_)
    obtain ⟨y6, h9u⟩ : ∃ z9, z9 = u5 := ⟨_, rfl⟩
    subst h9u
    have hP : va_P D vwCl (MW dA h ad y6) H := hP
    have hD : va_D A (MW dA h ad y6) := hD
    obtain ⟨hp9, f_e_7⟩ := hp9
    replace hp9 : bI (x.nx).1 = r4 := Eq.symm hp9
    subst hp9
    refine lv_goto hx hb d_M_need_12 (tgt := 24) rfl ?_
    exact rfZ hx hb hr (bI_nar ((x.nx).1)) hlk hS y6 (by have e9 : x.ndF k = x.nx := if_pos g1; rw [e9]; exact ⟨rfl, f_e_7⟩) hP hD (Nat.le_of_ble_eq_true rfl) (Nat.le_of_ble_eq_true rfl) d_M_need_24
set_option maxHeartbeats 4000000 in
set_option maxRecDepth 100000 in
theorem k_at_z (l : Launch) (D : va_G) (dA : Nat → ClassId) (sz : Nat) (h : Nat) (ad : Nat → Nat) (x : MS) (z : Int32) (hl1 : x.length ≤ 65536) : Met l ⟨"SeriesVaultModel", "at", "(I)I"⟩ [Cond.code ⟨"SeriesVaultModel", "at", "(I)I"⟩ prog_14_method_56_code 2 (some FieldType.int)] { frames := 1, cells := 0, slots := 0, locals := 0 } (pC D dA [.ref h, .int z] (MW dA h ad x) sz) (va_Qi (fun (r9 : Int32) (u9 : Unit) => r9 = x.atZ z) (fun (u9 : Unit) t9 => bW D (va_A (MW dA h ad x) sz) (MW dA h ad x) t9) (va_A (MW dA h ad x) sz)) 0 0 (va_A (MW dA h ad x) sz) := by
  by_cases g : z < 0
  · exact metI (k_at_x l D dA sz h ad x z g) (fun r9 u9 hu => ⟨u9, hu.trans (if_pos g).symm, rfl⟩)
  · have g2 := i2n_nI (Int32.not_lt.mp g)
    have g3 : i2n z < 2 ^ 31 := by
      have := Int32.toInt_lt z
      unfold i2n
      omega
    have g4 : x.atZ z = x.atN (i2n z) := if_neg g
    have g5 := k_at l D dA sz h ad x (i2n z) g3 hl1
    rw [← g2] at g5
    exact metI g5 (fun r9 u9 hu => ⟨u9, hu.trans g4.symm, rfl⟩)
theorem d_M_function_210 : decode prog_14_method_62_code 210 = .ok (.aload_n 0, 1) := by decide +kernel
theorem d_M_function_211 : decode prog_14_method_62_code 211 = .ok (.bipush 108, 2) := by decide +kernel
theorem d_M_function_213 : decode prog_14_method_62_code 213 = .ok (.bipush 97, 2) := by decide +kernel
theorem d_M_function_215 : decode prog_14_method_62_code 215 = .ok (.bipush 116, 2) := by decide +kernel
theorem d_M_function_217 : decode prog_14_method_62_code 217 = .ok (.invokevirtual 380, 3) := by decide +kernel
theorem d_M_function_220 : decode prog_14_method_62_code 220 = .ok (.ifCond .eq 33, 3) := by decide +kernel
theorem d_M_function_253 : decode prog_14_method_62_code 253 = .ok (.aload_n 0, 1) := by decide +kernel
theorem d_M_function_254 : decode prog_14_method_62_code 254 = .ok (.bipush 103, 2) := by decide +kernel
theorem d_M_function_256 : decode prog_14_method_62_code 256 = .ok (.bipush 114, 2) := by decide +kernel
theorem d_M_function_258 : decode prog_14_method_62_code 258 = .ok (.bipush 111, 2) := by decide +kernel
theorem d_M_function_260 : decode prog_14_method_62_code 260 = .ok (.invokevirtual 380, 3) := by decide +kernel
theorem d_M_function_263 : decode prog_14_method_62_code 263 = .ok (.ifCond .eq 35, 3) := by decide +kernel
theorem d_M_function_298 : decode prog_14_method_62_code 298 = .ok (.iconst (-1), 1) := by decide +kernel
theorem d_M_function_299 : decode prog_14_method_62_code 299 = .ok (.ireturn, 1) := by decide +kernel
theorem d_M_function_266 : decode prog_14_method_62_code 266 = .ok (.aload_n 0, 1) := by decide +kernel
theorem d_M_function_267 : decode prog_14_method_62_code 267 = .ok (.aload_n 0, 1) := by decide +kernel
theorem d_M_function_268 : decode prog_14_method_62_code 268 = .ok (.getfield 345, 3) := by decide +kernel
theorem d_M_function_271 : decode prog_14_method_62_code 271 = .ok (.iconst 3, 1) := by decide +kernel
theorem d_M_function_272 : decode prog_14_method_62_code 272 = .ok (.iadd, 1) := by decide +kernel
theorem d_M_function_273 : decode prog_14_method_62_code 273 = .ok (.invokevirtual 348, 3) := by decide +kernel
theorem d_M_function_276 : decode prog_14_method_62_code 276 = .ok (.bipush 119, 2) := by decide +kernel
theorem d_M_function_278 : decode prog_14_method_62_code 278 = .ok (.if_icmp .ne 20, 3) := by decide +kernel
theorem d_M_function_281 : decode prog_14_method_62_code 281 = .ok (.iload_n 3, 1) := by decide +kernel
theorem d_M_function_282 : decode prog_14_method_62_code 282 = .ok (.bipush 116, 2) := by decide +kernel
theorem d_M_function_284 : decode prog_14_method_62_code 284 = .ok (.if_icmp .ne 14, 3) := by decide +kernel
theorem d_M_function_287 : decode prog_14_method_62_code 287 = .ok (.iload_n 2, 1) := by decide +kernel
theorem d_M_function_288 : decode prog_14_method_62_code 288 = .ok (.bipush 104, 2) := by decide +kernel
theorem d_M_function_290 : decode prog_14_method_62_code 290 = .ok (.if_icmp .ne 8, 3) := by decide +kernel
theorem d_M_function_293 : decode prog_14_method_62_code 293 = .ok (.bipush 6, 2) := by decide +kernel
theorem d_M_function_295 : decode prog_14_method_62_code 295 = .ok (.goto 4, 3) := by decide +kernel
theorem d_M_function_223 : decode prog_14_method_62_code 223 = .ok (.aload_n 0, 1) := by decide +kernel
theorem d_M_function_224 : decode prog_14_method_62_code 224 = .ok (.aload_n 0, 1) := by decide +kernel
theorem d_M_function_225 : decode prog_14_method_62_code 225 = .ok (.getfield 345, 3) := by decide +kernel
theorem d_M_function_228 : decode prog_14_method_62_code 228 = .ok (.iconst 3, 1) := by decide +kernel
theorem d_M_function_229 : decode prog_14_method_62_code 229 = .ok (.iadd, 1) := by decide +kernel
theorem d_M_function_230 : decode prog_14_method_62_code 230 = .ok (.invokevirtual 348, 3) := by decide +kernel
theorem d_M_function_233 : decode prog_14_method_62_code 233 = .ok (.bipush 101, 2) := by decide +kernel
theorem d_M_function_235 : decode prog_14_method_62_code 235 = .ok (.if_icmp .ne 18, 3) := by decide +kernel
theorem d_M_function_238 : decode prog_14_method_62_code 238 = .ok (.iload_n 3, 1) := by decide +kernel
theorem d_M_function_239 : decode prog_14_method_62_code 239 = .ok (.bipush 115, 2) := by decide +kernel
theorem d_M_function_241 : decode prog_14_method_62_code 241 = .ok (.if_icmp .ne 12, 3) := by decide +kernel
theorem d_M_function_244 : decode prog_14_method_62_code 244 = .ok (.iload 4, 2) := by decide +kernel
theorem d_M_function_246 : decode prog_14_method_62_code 246 = .ok (.ifCond .eq 7, 3) := by decide +kernel
theorem d_M_function_249 : decode prog_14_method_62_code 249 = .ok (.iconst 5, 1) := by decide +kernel
theorem d_M_function_250 : decode prog_14_method_62_code 250 = .ok (.goto 49, 3) := by decide +kernel
theorem d_M_function_116 : decode prog_14_method_62_code 116 = .ok (.aload_n 0, 1) := by decide +kernel
theorem d_M_function_117 : decode prog_14_method_62_code 117 = .ok (.bipush 99, 2) := by decide +kernel
theorem d_M_function_119 : decode prog_14_method_62_code 119 = .ok (.bipush 111, 2) := by decide +kernel
theorem d_M_function_121 : decode prog_14_method_62_code 121 = .ok (.bipush 117, 2) := by decide +kernel
theorem d_M_function_123 : decode prog_14_method_62_code 123 = .ok (.invokevirtual 380, 3) := by decide +kernel
theorem d_M_function_126 : decode prog_14_method_62_code 126 = .ok (.ifCond .eq 18, 3) := by decide +kernel
theorem d_M_function_144 : decode prog_14_method_62_code 144 = .ok (.aload_n 0, 1) := by decide +kernel
theorem d_M_function_145 : decode prog_14_method_62_code 145 = .ok (.bipush 108, 2) := by decide +kernel
theorem d_M_function_147 : decode prog_14_method_62_code 147 = .ok (.bipush 101, 2) := by decide +kernel
theorem d_M_function_149 : decode prog_14_method_62_code 149 = .ok (.bipush 97, 2) := by decide +kernel
theorem d_M_function_151 : decode prog_14_method_62_code 151 = .ok (.invokevirtual 380, 3) := by decide +kernel
theorem d_M_function_154 : decode prog_14_method_62_code 154 = .ok (.ifCond .eq 18, 3) := by decide +kernel
theorem d_M_function_172 : decode prog_14_method_62_code 172 = .ok (.aload_n 0, 1) := by decide +kernel
theorem d_M_function_173 : decode prog_14_method_62_code 173 = .ok (.bipush 102, 2) := by decide +kernel
theorem d_M_function_175 : decode prog_14_method_62_code 175 = .ok (.bipush 105, 2) := by decide +kernel
theorem d_M_function_177 : decode prog_14_method_62_code 177 = .ok (.bipush 114, 2) := by decide +kernel
theorem d_M_function_179 : decode prog_14_method_62_code 179 = .ok (.invokevirtual 380, 3) := by decide +kernel
theorem d_M_function_182 : decode prog_14_method_62_code 182 = .ok (.ifCond .eq 18, 3) := by decide +kernel
theorem d_M_function_200 : decode prog_14_method_62_code 200 = .ok (.iconst (-1), 1) := by decide +kernel
theorem d_M_function_201 : decode prog_14_method_62_code 201 = .ok (.ireturn, 1) := by decide +kernel
theorem d_M_function_185 : decode prog_14_method_62_code 185 = .ok (.iload_n 3, 1) := by decide +kernel
theorem d_M_function_186 : decode prog_14_method_62_code 186 = .ok (.bipush 115, 2) := by decide +kernel
theorem d_M_function_188 : decode prog_14_method_62_code 188 = .ok (.if_icmp .ne 12, 3) := by decide +kernel
theorem d_M_function_191 : decode prog_14_method_62_code 191 = .ok (.iload 4, 2) := by decide +kernel
theorem d_M_function_193 : decode prog_14_method_62_code 193 = .ok (.ifCond .eq 7, 3) := by decide +kernel
theorem d_M_function_196 : decode prog_14_method_62_code 196 = .ok (.iconst 4, 1) := by decide +kernel
theorem d_M_function_197 : decode prog_14_method_62_code 197 = .ok (.goto 4, 3) := by decide +kernel
theorem d_M_function_157 : decode prog_14_method_62_code 157 = .ok (.iload_n 3, 1) := by decide +kernel
theorem d_M_function_158 : decode prog_14_method_62_code 158 = .ok (.bipush 115, 2) := by decide +kernel
theorem d_M_function_160 : decode prog_14_method_62_code 160 = .ok (.if_icmp .ne 12, 3) := by decide +kernel
theorem d_M_function_163 : decode prog_14_method_62_code 163 = .ok (.iload 4, 2) := by decide +kernel
theorem d_M_function_165 : decode prog_14_method_62_code 165 = .ok (.ifCond .eq 7, 3) := by decide +kernel
theorem d_M_function_168 : decode prog_14_method_62_code 168 = .ok (.iconst 2, 1) := by decide +kernel
theorem d_M_function_169 : decode prog_14_method_62_code 169 = .ok (.goto 32, 3) := by decide +kernel
theorem d_M_function_129 : decode prog_14_method_62_code 129 = .ok (.iload_n 3, 1) := by decide +kernel
theorem d_M_function_130 : decode prog_14_method_62_code 130 = .ok (.bipush 110, 2) := by decide +kernel
theorem d_M_function_132 : decode prog_14_method_62_code 132 = .ok (.if_icmp .ne 12, 3) := by decide +kernel
theorem d_M_function_135 : decode prog_14_method_62_code 135 = .ok (.iload 4, 2) := by decide +kernel
theorem d_M_function_137 : decode prog_14_method_62_code 137 = .ok (.ifCond .eq 7, 3) := by decide +kernel
theorem d_M_function_140 : decode prog_14_method_62_code 140 = .ok (.iconst 1, 1) := by decide +kernel
theorem d_M_function_141 : decode prog_14_method_62_code 141 = .ok (.goto 60, 3) := by decide +kernel
theorem d_M_function_104 : decode prog_14_method_62_code 104 = .ok (.iconst 1, 1) := by decide +kernel
theorem d_M_function_105 : decode prog_14_method_62_code 105 = .ok (.goto 4, 3) := by decide +kernel
theorem d_M_function_54 : decode prog_14_method_62_code 54 = .ok (.aload_n 0, 1) := by decide +kernel
theorem d_M_function_55 : decode prog_14_method_62_code 55 = .ok (.bipush 109, 2) := by decide +kernel
theorem d_M_function_57 : decode prog_14_method_62_code 57 = .ok (.bipush 111, 2) := by decide +kernel
theorem d_M_function_59 : decode prog_14_method_62_code 59 = .ok (.bipush 115, 2) := by decide +kernel
theorem d_M_function_61 : decode prog_14_method_62_code 61 = .ok (.bipush 116, 2) := by decide +kernel
theorem d_M_function_63 : decode prog_14_method_62_code 63 = .ok (.iconst 4, 1) := by decide +kernel
theorem d_M_function_64 : decode prog_14_method_62_code 64 = .ok (.invokevirtual 376, 3) := by decide +kernel
theorem d_M_function_67 : decode prog_14_method_62_code 67 = .ok (.ifCond .eq 7, 3) := by decide +kernel
theorem d_M_function_74 : decode prog_14_method_62_code 74 = .ok (.iconst (-1), 1) := by decide +kernel
theorem d_M_function_75 : decode prog_14_method_62_code 75 = .ok (.ireturn, 1) := by decide +kernel
theorem d_M_function_70 : decode prog_14_method_62_code 70 = .ok (.iconst 3, 1) := by decide +kernel
theorem d_M_function_71 : decode prog_14_method_62_code 71 = .ok (.goto 4, 3) := by decide +kernel
theorem d_M_function_27 : decode prog_14_method_62_code 27 = .ok (.aload_n 0, 1) := by decide +kernel
theorem d_M_function_28 : decode prog_14_method_62_code 28 = .ok (.bipush 115, 2) := by decide +kernel
theorem d_M_function_30 : decode prog_14_method_62_code 30 = .ok (.bipush 117, 2) := by decide +kernel
theorem d_M_function_32 : decode prog_14_method_62_code 32 = .ok (.bipush 109, 2) := by decide +kernel
theorem d_M_function_34 : decode prog_14_method_62_code 34 = .ok (.bipush 32, 2) := by decide +kernel
theorem d_M_function_36 : decode prog_14_method_62_code 36 = .ok (.iconst 3, 1) := by decide +kernel
theorem d_M_function_37 : decode prog_14_method_62_code 37 = .ok (.invokevirtual 376, 3) := by decide +kernel
theorem d_M_function_40 : decode prog_14_method_62_code 40 = .ok (.ifCond .eq 7, 3) := by decide +kernel
theorem d_M_function_47 : decode prog_14_method_62_code 47 = .ok (.iconst (-1), 1) := by decide +kernel
theorem d_M_function_48 : decode prog_14_method_62_code 48 = .ok (.ireturn, 1) := by decide +kernel
theorem d_M_function_43 : decode prog_14_method_62_code 43 = .ok (.iconst 0, 1) := by decide +kernel
theorem d_M_function_44 : decode prog_14_method_62_code 44 = .ok (.goto 4, 3) := by decide +kernel
theorem d_M_function_8 : decode prog_14_method_62_code 8 = .ok (.aload_n 0, 1) := by decide +kernel
theorem d_M_function_9 : decode prog_14_method_62_code 9 = .ok (.getfield 342, 3) := by decide +kernel
theorem d_M_function_12 : decode prog_14_method_62_code 12 = .ok (.aload_n 0, 1) := by decide +kernel
theorem d_M_function_13 : decode prog_14_method_62_code 13 = .ok (.getfield 345, 3) := by decide +kernel
theorem d_M_function_16 : decode prog_14_method_62_code 16 = .ok (.isub, 1) := by decide +kernel
theorem d_M_function_17 : decode prog_14_method_62_code 17 = .ok (.goto 4, 3) := by decide +kernel
theorem w1014 : Cond.methodLink "SeriesVaultModel" 380 ⟨"SeriesVaultModel", "isStart", "(CCC)Z"⟩ ∈ aW := aw_of (tb_10 (List.mem_of_getElem? (i := 197) rfl)) rfl
theorem w1015 : Cond.code ⟨"SeriesVaultModel", "isStart", "(CCC)Z"⟩ prog_14_method_63_code 4 (some FieldType.boolean) ∈ aW := aw_of (tb_10 (List.mem_of_getElem? (i := 200) rfl)) rfl
theorem w1016 : Cond.instanceMethod ⟨"SeriesVaultModel", "isStart", "(CCC)Z"⟩ ∈ aW := aw_of (tb_10 (List.mem_of_getElem? (i := 199) rfl)) rfl
theorem w1017 : Cond.selects "SeriesVaultModel" ⟨"SeriesVaultModel", "isStart", "(CCC)Z"⟩ ⟨"SeriesVaultModel", "isStart", "(CCC)Z"⟩ ∈ aW := aw_pr (List.mem_map.mpr ⟨_, pv_7 (List.mem_of_getElem? (i := 7) rfl), rfl⟩) rfl
theorem w1018 : Cond.methodLink "SeriesVaultModel" 376 ⟨"SeriesVaultModel", "isName", "(CCCCI)Z"⟩ ∈ aW := aw_of (tb_10 (List.mem_of_getElem? (i := 193) rfl)) rfl
theorem w1019 : Cond.code ⟨"SeriesVaultModel", "isName", "(CCCCI)Z"⟩ prog_14_method_61_code 6 (some FieldType.boolean) ∈ aW := aw_of (tb_10 (List.mem_of_getElem? (i := 196) rfl)) rfl
theorem w1020 : Cond.instanceMethod ⟨"SeriesVaultModel", "isName", "(CCCCI)Z"⟩ ∈ aW := aw_of (tb_10 (List.mem_of_getElem? (i := 195) rfl)) rfl
theorem w1021 : Cond.selects "SeriesVaultModel" ⟨"SeriesVaultModel", "isName", "(CCCCI)Z"⟩ ⟨"SeriesVaultModel", "isName", "(CCCCI)Z"⟩ ∈ aW := aw_pr (List.mem_map.mpr ⟨_, pv_7 (List.mem_of_getElem? (i := 6) rfl), rfl⟩) rfl
set_option maxHeartbeats 4000000 in
set_option maxRecDepth 100000 in
theorem k_function (l : Launch) (D : va_G) (dA : Nat → ClassId) (sz : Nat) (h : Nat) (ad : Nat → Nat) (x : MS) (hlx : x.lx) : Met l ⟨"SeriesVaultModel", "function", "()I"⟩ [Cond.code ⟨"SeriesVaultModel", "function", "()I"⟩ prog_14_method_62_code 5 (some FieldType.int)] { frames := 3, cells := 0, slots := 0, locals := 46 } (pC D dA [.ref h] (MW dA h ad x) sz) (va_Qi (fun (r9 : Int32) (u9 : Unit) => r9 = x.fnI) (fun (u9 : Unit) t9 => bW D (va_A (MW dA h ad x) sz) (MW dA h ad x) t9) (va_A (MW dA h ad x) sz)) 0 0 (va_A (MW dA h ad x) sz) := by
  refine mkC (y := ⟨"SeriesVaultModel", "function", "()I"⟩) (cc := prog_14_method_62_code) (maxL := 5) (av := [.ref h]) (ws := MW dA h ad x) (sz := sz) (Qc := fun A => va_Qi (fun (r9 : Int32) (u9 : Unit) => r9 = x.fnI) (fun (u9 : Unit) t9 => bW D A (MW dA h ad x) t9) A) (by decide) (Nat.le_of_ble_eq_true rfl) ?_
  intro A p e s m below meth c ls hsz hB
  obtain ⟨hx, hb, hr, hml, hown, hin, hlk, hE, hK, hP, hD, hS, hA, hN, hl⟩ := hB
  have hown : s.vm.findClass "SeriesVaultModel" = some m.cls := hown
  have hl : lv_has ls 5 [(0, .ref h)] := hl
  obtain ⟨H, hH⟩ : ∃ z, z = s.heap := ⟨_, rfl⟩
  have hP : va_P D vwCl (MW dA h ad x) H := by rw [hH]; exact hP
  have hS : va_S A s.heap H [] := by rw [hH]; exact hS
  rw [← hH]
  obtain ⟨hl1, hft, htl, hf0⟩ := hlx
  have J21 : ∀ (n : Nat) (n1 : x.fnN = n) (n2 : n ≤ 65536), ∀ (H : Heap) (locs : List Loc) (ls : Array Slot) (hP : va_P D vwCl (MW dA h ad x) H) (hD : va_D A (MW dA h ad x)) (hS : va_S A s.heap H locs) (hl : lv_has ls 5 [(0, .ref h)]), W p l e ({ frames := 3, cells := 0, slots := 0, locals := 46 } : Room) s m ([.ref h] : List Value).toArray below meth c H locs 0 0 (MQ below (va_Qi (fun (r9 : Int32) (u9 : Unit) => r9 = x.fnI) (fun (u9 : Unit) t9 => bW D A (MW dA h ad x) t9) A) ([.ref h] : List Value).toArray s 0 0 A) (F0 m 21 ls [.int (nI n)]) := by
    intro n n1 n2 H locs ls hP hD hS hl
    refine lv_istore_n hx hb d_M_function_21 rfl hl (by decide) rfl (fun ls hl => ?_)
    have hl : lv_has ls 5 [(1, .int (nI n)), (0, .ref h)] := hl
    refine lv_iload_n hx hb d_M_function_22 rfl (lv_at hl 0 rfl) ?_
    refine lv_iconst (v := 3) hx hb d_M_function_23 (by decide) ?_
    refine lv_icmp_ne hx hb d_M_function_24 (tgt := 49) rfl (fun g1 => ?_) (fun g1 => ?_)
    · have g1 := mt (nI_eq (a := n) (b := 3) (by omega) (by omega)).mpr g1
      refine lv_iload_n hx hb d_M_function_49 rfl (lv_at hl 0 rfl) ?_
      refine lv_iconst (v := 4) hx hb d_M_function_50 (by decide) ?_
      refine lv_icmp_ne hx hb d_M_function_51 (tgt := 76) rfl (fun g2 => ?_) (fun g2 => ?_)
      · have g2 := mt (nI_eq (a := n) (b := 4) (by omega) (by omega)).mpr g2
        refine lv_aload_n hx hb d_M_function_76 rfl (lv_at hl 1 rfl) ?_
        refine lv_aload_n hx hb d_M_function_77 rfl (lv_at hl 1 rfl) ?_
        refine gF (v := .int (nI x.too)) hx hb hown hE hK hP 0 rfl rfl layM 46 (by decide) w463 rfl d_M_function_78 ?_
        refine lv_iconst (v := 1) hx hb d_M_function_81 (by decide) ?_
        refine lv_isub hx hb d_M_function_82 ?_
        refine jfI (rnV (As := [.int ((nI x.too) - 1)]) (rest := []) hx hb hml hown hE hK (hN _ _ hS) hP hD (k_at_z l D dA H.size h ad x ((nI x.too) - 1) (show x.length ≤ 65536 from by omega)) (q0 := 0) rfl rfl w466 w465 w467 w468 w328 rfl rfl ⟨⟨by decide, by decide⟩, rfl⟩ ⟨(Nat.le_of_ble_eq_true rfl), (Nat.le_of_ble_eq_true rfl)⟩ rfl hl.1 rfl (Nat.le_of_ble_eq_true rfl) d_M_function_83 ⟨(Nat.le_of_ble_eq_true rfl), (Nat.le_of_ble_eq_true rfl)⟩) hP hD hS hA (fun r3 u4 H locs hp9 hP hD hS => ?_)
        have hP : va_P D vwCl (MW dA h ad x) H := hP
        have hD : va_D A (MW dA h ad x) := hD
        replace hp9 : x.atZ ((nI x.too) - 1) = r3 := Eq.symm hp9
        subst hp9
        refine lv_istore_n hx hb d_M_function_86 rfl hl (by decide) rfl (fun ls hl => ?_)
        have hl : lv_has ls 5 [(2, .int (x.atZ ((nI x.too) - 1))), (1, .int (nI n)), (0, .ref h)] := hl
        refine lv_aload_n hx hb d_M_function_87 rfl (lv_at hl 2 rfl) ?_
        refine lv_aload_n hx hb d_M_function_88 rfl (lv_at hl 2 rfl) ?_
        refine gF (v := .int (nI x.too)) hx hb hown hE hK hP 0 rfl rfl layM 46 (by decide) w463 rfl d_M_function_89 ?_
        refine lv_iconst (v := 2) hx hb d_M_function_92 (by decide) ?_
        refine lv_isub hx hb d_M_function_93 ?_
        refine jfI (rnV (As := [.int ((nI x.too) - 2)]) (rest := []) hx hb hml hown hE hK (hN _ _ hS) hP hD (k_at_z l D dA H.size h ad x ((nI x.too) - 2) (show x.length ≤ 65536 from by omega)) (q0 := 0) rfl rfl w466 w465 w467 w468 w328 rfl rfl ⟨⟨by decide, by decide⟩, rfl⟩ ⟨(Nat.le_of_ble_eq_true rfl), (Nat.le_of_ble_eq_true rfl)⟩ rfl hl.1 rfl (Nat.le_of_ble_eq_true rfl) d_M_function_94 ⟨(Nat.le_of_ble_eq_true rfl), (Nat.le_of_ble_eq_true rfl)⟩) hP hD hS hA (fun r5 u6 H locs hp9 hP hD hS => ?_)
        have hP : va_P D vwCl (MW dA h ad x) H := hP
        have hD : va_D A (MW dA h ad x) := hD
        replace hp9 : x.atZ ((nI x.too) - 2) = r5 := Eq.symm hp9
        subst hp9
        refine lv_istore_n hx hb d_M_function_97 rfl hl (by decide) rfl (fun ls hl => ?_)
        have hl : lv_has ls 5 [(3, .int (x.atZ ((nI x.too) - 2))), (2, .int (x.atZ ((nI x.too) - 1))), (1, .int (nI n)), (0, .ref h)] := hl
        have J109 : ∀ (t7 : Bool) (t1 : decide (x.atZ ((nI x.too) - 1) = 116) = t7), ∀ (H : Heap) (locs : List Loc) (ls : Array Slot) (hP : va_P D vwCl (MW dA h ad x) H) (hD : va_D A (MW dA h ad x)) (hS : va_S A s.heap H locs) (hl : lv_has ls 5 [(0, .ref h), (1, .int (nI n)), (2, .int (x.atZ ((nI x.too) - 1))), (3, .int (x.atZ ((nI x.too) - 2)))]), W p l e ({ frames := 3, cells := 0, slots := 0, locals := 46 } : Room) s m ([.ref h] : List Value).toArray below meth c H locs 0 0 (MQ below (va_Qi (fun (r9 : Int32) (u9 : Unit) => r9 = x.fnI) (fun (u9 : Unit) t9 => bW D A (MW dA h ad x) t9) A) ([.ref h] : List Value).toArray s 0 0 A) (F0 m 109 ls [.int (bI t7)]) := by
          intro t7 t1 H locs ls hP hD hS hl
          refine lv_istore hx hb d_M_function_109 hl (by decide) rfl (fun ls hl => ?_)
          have hl : lv_has ls 5 [(4, .int (bI t7)), (0, .ref h), (1, .int (nI n)), (2, .int (x.atZ ((nI x.too) - 1))), (3, .int (x.atZ ((nI x.too) - 2)))] := hl
          refine lv_iload_n hx hb d_M_function_111 rfl (lv_at hl 2 rfl) ?_
          refine lv_iconst (v := 5) hx hb d_M_function_112 (by decide) ?_
          refine lv_icmp_ne hx hb d_M_function_113 (tgt := 202) rfl (fun g7 => ?_) (fun g7 => ?_)
          · have g7 := mt (nI_eq (a := n) (b := 5) (by omega) (by omega)).mpr g7
            refine lv_iload_n hx hb d_M_function_202 rfl (lv_at hl 2 rfl) ?_
            refine lv_bipush (v := 6) hx hb d_M_function_203 (by decide) ?_
            refine lv_icmp_eq hx hb d_M_function_205 (tgt := 210) rfl (fun g8 => ?_) (fun g8 => ?_)
            · have g8 := (nI_eq (a := n) (b := 6) (by omega) (by omega)).mp g8
              refine lv_aload_n hx hb d_M_function_210 rfl (lv_at hl 1 rfl) ?_
              refine lv_bipush (v := 108) hx hb d_M_function_211 (by decide) ?_
              refine lv_bipush (v := 97) hx hb d_M_function_213 (by decide) ?_
              refine lv_bipush (v := 116) hx hb d_M_function_215 (by decide) ?_
              refine jfI (rnV (As := [.int 108, .int 97, .int 116]) (rest := []) hx hb hml hown hE hK (hN _ _ hS) hP hD (k_isStart l D dA H.size h ad x 108 97 116 (show x.length ≤ 65536 from by omega) (show x.frm ≤ x.too from by omega) (show x.too ≤ 65537 from by omega)) (q0 := 0) rfl rfl w1015 w1014 w1016 w1017 w328 rfl rfl ⟨⟨by decide, by decide⟩, rfl⟩ ⟨(Nat.le_of_ble_eq_true rfl), (Nat.le_of_ble_eq_true rfl)⟩ rfl hl.1 rfl (Nat.le_of_ble_eq_true rfl) d_M_function_217 ⟨(Nat.le_of_ble_eq_true rfl), (Nat.le_of_ble_eq_true rfl)⟩) hP hD hS hA (fun r9 u10 H locs hp9 hP hD hS => ?_)
              have hP : va_P D vwCl (MW dA h ad x) H := hP
              have hD : va_D A (MW dA h ad x) := hD
              replace hp9 : bI (x.stB 108 97 116) = r9 := Eq.symm hp9
              subst hp9
              refine lv_if_eq hx hb d_M_function_220 (tgt := 253) rfl (fun g11 => ?_) (fun g11 => ?_)
              · have g11 := bI_0 g11
                refine lv_aload_n hx hb d_M_function_253 rfl (lv_at hl 1 rfl) ?_
                refine lv_bipush (v := 103) hx hb d_M_function_254 (by decide) ?_
                refine lv_bipush (v := 114) hx hb d_M_function_256 (by decide) ?_
                refine lv_bipush (v := 111) hx hb d_M_function_258 (by decide) ?_
                refine jfI (rnV (As := [.int 103, .int 114, .int 111]) (rest := []) hx hb hml hown hE hK (hN _ _ hS) hP hD (k_isStart l D dA H.size h ad x 103 114 111 (show x.length ≤ 65536 from by omega) (show x.frm ≤ x.too from by omega) (show x.too ≤ 65537 from by omega)) (q0 := 0) rfl rfl w1015 w1014 w1016 w1017 w328 rfl rfl ⟨⟨by decide, by decide⟩, rfl⟩ ⟨(Nat.le_of_ble_eq_true rfl), (Nat.le_of_ble_eq_true rfl)⟩ rfl hl.1 rfl (Nat.le_of_ble_eq_true rfl) d_M_function_260 ⟨(Nat.le_of_ble_eq_true rfl), (Nat.le_of_ble_eq_true rfl)⟩) hP hD hS hA (fun r12 u13 H locs hp9 hP hD hS => ?_)
                have hP : va_P D vwCl (MW dA h ad x) H := hP
                have hD : va_D A (MW dA h ad x) := hD
                replace hp9 : bI (x.stB 103 114 111) = r12 := Eq.symm hp9
                subst hp9
                refine lv_if_eq hx hb d_M_function_263 (tgt := 298) rfl (fun g14 => ?_) (fun g14 => ?_)
                · have g14 := bI_0 g14
                  refine lv_iconst (v := (-1)) hx hb d_M_function_298 (by decide) ?_
                  exact rfI hx hb hr hlk hS () (by unfold MS.fnI MS.fn5 MS.fn6; rw [n1]; simp [g1, g2, g7, g8, g11, g14]) hP hD (Nat.le_of_ble_eq_true rfl) (Nat.le_of_ble_eq_true rfl) d_M_function_299
                · have g14 := bI_n0 g14
                  refine lv_aload_n hx hb d_M_function_266 rfl (lv_at hl 1 rfl) ?_
                  refine lv_aload_n hx hb d_M_function_267 rfl (lv_at hl 1 rfl) ?_
                  refine gF (v := .int (nI x.frm)) hx hb hown hE hK hP 0 rfl rfl layM 45 (by decide) w464 rfl d_M_function_268 ?_
                  refine lv_iconst (v := 3) hx hb d_M_function_271 (by decide) ?_
                  refine lv_iadd hx hb d_M_function_272 (tpi (y := nI (x.frm + 3)) (nI_add (x.frm) (3)) ?_)
                  refine jfI (rnV (As := [.int (nI (x.frm + 3))]) (rest := []) hx hb hml hown hE hK (hN _ _ hS) hP hD (k_at l D dA H.size h ad x (x.frm + 3) (show (x.frm + 3) < 2 ^ 31 from by omega) (show x.length ≤ 65536 from by omega)) (q0 := 0) rfl rfl w466 w465 w467 w468 w328 rfl rfl ⟨⟨by decide, by decide⟩, rfl⟩ ⟨(Nat.le_of_ble_eq_true rfl), (Nat.le_of_ble_eq_true rfl)⟩ rfl hl.1 rfl (Nat.le_of_ble_eq_true rfl) d_M_function_273 ⟨(Nat.le_of_ble_eq_true rfl), (Nat.le_of_ble_eq_true rfl)⟩) hP hD hS hA (fun r15 u16 H locs hp9 hP hD hS => ?_)
                  have hP : va_P D vwCl (MW dA h ad x) H := hP
                  have hD : va_D A (MW dA h ad x) := hD
                  replace hp9 : x.atN (x.frm + 3) = r15 := Eq.symm hp9
                  subst hp9
                  refine lv_bipush (v := 119) hx hb d_M_function_276 (by decide) ?_
                  refine lv_icmp_ne hx hb d_M_function_278 (tgt := 298) rfl (fun g17 => ?_) (fun g17 => ?_)
                  · have g17 := g17
                    refine lv_iconst (v := (-1)) hx hb d_M_function_298 (by decide) ?_
                    exact rfI hx hb hr hlk hS () (by unfold MS.fnI MS.fn5 MS.fn6; rw [n1]; simp [g1, g2, g7, g8, g11, g14, g17]) hP hD (Nat.le_of_ble_eq_true rfl) (Nat.le_of_ble_eq_true rfl) d_M_function_299
                  · have g17 := g17
                    refine lv_iload_n hx hb d_M_function_281 rfl (lv_at hl 4 rfl) ?_
                    refine lv_bipush (v := 116) hx hb d_M_function_282 (by decide) ?_
                    refine lv_icmp_ne hx hb d_M_function_284 (tgt := 298) rfl (fun g18 => ?_) (fun g18 => ?_)
                    · have g18 := g18
                      refine lv_iconst (v := (-1)) hx hb d_M_function_298 (by decide) ?_
                      exact rfI hx hb hr hlk hS () (by unfold MS.fnI MS.fn5 MS.fn6; rw [n1]; simp [g1, g2, g7, g8, g11, g14, g17, g18]) hP hD (Nat.le_of_ble_eq_true rfl) (Nat.le_of_ble_eq_true rfl) d_M_function_299
                    · have g18 := g18
                      refine lv_iload_n hx hb d_M_function_287 rfl (lv_at hl 3 rfl) ?_
                      refine lv_bipush (v := 104) hx hb d_M_function_288 (by decide) ?_
                      refine lv_icmp_ne hx hb d_M_function_290 (tgt := 298) rfl (fun g19 => ?_) (fun g19 => ?_)
                      · have g19 := g19
                        refine lv_iconst (v := (-1)) hx hb d_M_function_298 (by decide) ?_
                        exact rfI hx hb hr hlk hS () (by unfold MS.fnI MS.fn5 MS.fn6; rw [n1]; simp [g1, g2, g7, g8, g11, g14, g17, g18, g19]) hP hD (Nat.le_of_ble_eq_true rfl) (Nat.le_of_ble_eq_true rfl) d_M_function_299
                      · have g19 := g19
                        refine lv_bipush (v := 6) hx hb d_M_function_293 (by decide) ?_
                        refine lv_goto hx hb d_M_function_295 (tgt := 299) rfl ?_
                        exact rfI hx hb hr hlk hS () (by unfold MS.fnI MS.fn5 MS.fn6; rw [n1]; simp [g1, g2, g7, g8, g11, g14, g17, g18, g19]) hP hD (Nat.le_of_ble_eq_true rfl) (Nat.le_of_ble_eq_true rfl) d_M_function_299
              · have g11 := bI_n0 g11
                refine lv_aload_n hx hb d_M_function_223 rfl (lv_at hl 1 rfl) ?_
                refine lv_aload_n hx hb d_M_function_224 rfl (lv_at hl 1 rfl) ?_
                refine gF (v := .int (nI x.frm)) hx hb hown hE hK hP 0 rfl rfl layM 45 (by decide) w464 rfl d_M_function_225 ?_
                refine lv_iconst (v := 3) hx hb d_M_function_228 (by decide) ?_
                refine lv_iadd hx hb d_M_function_229 (tpi (y := nI (x.frm + 3)) (nI_add (x.frm) (3)) ?_)
                refine jfI (rnV (As := [.int (nI (x.frm + 3))]) (rest := []) hx hb hml hown hE hK (hN _ _ hS) hP hD (k_at l D dA H.size h ad x (x.frm + 3) (show (x.frm + 3) < 2 ^ 31 from by omega) (show x.length ≤ 65536 from by omega)) (q0 := 0) rfl rfl w466 w465 w467 w468 w328 rfl rfl ⟨⟨by decide, by decide⟩, rfl⟩ ⟨(Nat.le_of_ble_eq_true rfl), (Nat.le_of_ble_eq_true rfl)⟩ rfl hl.1 rfl (Nat.le_of_ble_eq_true rfl) d_M_function_230 ⟨(Nat.le_of_ble_eq_true rfl), (Nat.le_of_ble_eq_true rfl)⟩) hP hD hS hA (fun r20 u21 H locs hp9 hP hD hS => ?_)
                have hP : va_P D vwCl (MW dA h ad x) H := hP
                have hD : va_D A (MW dA h ad x) := hD
                replace hp9 : x.atN (x.frm + 3) = r20 := Eq.symm hp9
                subst hp9
                refine lv_bipush (v := 101) hx hb d_M_function_233 (by decide) ?_
                refine lv_icmp_ne hx hb d_M_function_235 (tgt := 253) rfl (fun g22 => ?_) (fun g22 => ?_)
                · have g22 := g22
                  refine lv_aload_n hx hb d_M_function_253 rfl (lv_at hl 1 rfl) ?_
                  refine lv_bipush (v := 103) hx hb d_M_function_254 (by decide) ?_
                  refine lv_bipush (v := 114) hx hb d_M_function_256 (by decide) ?_
                  refine lv_bipush (v := 111) hx hb d_M_function_258 (by decide) ?_
                  refine jfI (rnV (As := [.int 103, .int 114, .int 111]) (rest := []) hx hb hml hown hE hK (hN _ _ hS) hP hD (k_isStart l D dA H.size h ad x 103 114 111 (show x.length ≤ 65536 from by omega) (show x.frm ≤ x.too from by omega) (show x.too ≤ 65537 from by omega)) (q0 := 0) rfl rfl w1015 w1014 w1016 w1017 w328 rfl rfl ⟨⟨by decide, by decide⟩, rfl⟩ ⟨(Nat.le_of_ble_eq_true rfl), (Nat.le_of_ble_eq_true rfl)⟩ rfl hl.1 rfl (Nat.le_of_ble_eq_true rfl) d_M_function_260 ⟨(Nat.le_of_ble_eq_true rfl), (Nat.le_of_ble_eq_true rfl)⟩) hP hD hS hA (fun r23 u24 H locs hp9 hP hD hS => ?_)
                  have hP : va_P D vwCl (MW dA h ad x) H := hP
                  have hD : va_D A (MW dA h ad x) := hD
                  replace hp9 : bI (x.stB 103 114 111) = r23 := Eq.symm hp9
                  subst hp9
                  refine lv_if_eq hx hb d_M_function_263 (tgt := 298) rfl (fun g25 => ?_) (fun g25 => ?_)
                  · have g25 := bI_0 g25
                    refine lv_iconst (v := (-1)) hx hb d_M_function_298 (by decide) ?_
                    exact rfI hx hb hr hlk hS () (by unfold MS.fnI MS.fn5 MS.fn6; rw [n1]; simp [g1, g2, g7, g8, g11, g22, g25]) hP hD (Nat.le_of_ble_eq_true rfl) (Nat.le_of_ble_eq_true rfl) d_M_function_299
                  · have g25 := bI_n0 g25
                    refine lv_aload_n hx hb d_M_function_266 rfl (lv_at hl 1 rfl) ?_
                    refine lv_aload_n hx hb d_M_function_267 rfl (lv_at hl 1 rfl) ?_
                    refine gF (v := .int (nI x.frm)) hx hb hown hE hK hP 0 rfl rfl layM 45 (by decide) w464 rfl d_M_function_268 ?_
                    refine lv_iconst (v := 3) hx hb d_M_function_271 (by decide) ?_
                    refine lv_iadd hx hb d_M_function_272 (tpi (y := nI (x.frm + 3)) (nI_add (x.frm) (3)) ?_)
                    refine jfI (rnV (As := [.int (nI (x.frm + 3))]) (rest := []) hx hb hml hown hE hK (hN _ _ hS) hP hD (k_at l D dA H.size h ad x (x.frm + 3) (show (x.frm + 3) < 2 ^ 31 from by omega) (show x.length ≤ 65536 from by omega)) (q0 := 0) rfl rfl w466 w465 w467 w468 w328 rfl rfl ⟨⟨by decide, by decide⟩, rfl⟩ ⟨(Nat.le_of_ble_eq_true rfl), (Nat.le_of_ble_eq_true rfl)⟩ rfl hl.1 rfl (Nat.le_of_ble_eq_true rfl) d_M_function_273 ⟨(Nat.le_of_ble_eq_true rfl), (Nat.le_of_ble_eq_true rfl)⟩) hP hD hS hA (fun r26 u27 H locs hp9 hP hD hS => ?_)
                    have hP : va_P D vwCl (MW dA h ad x) H := hP
                    have hD : va_D A (MW dA h ad x) := hD
                    replace hp9 : x.atN (x.frm + 3) = r26 := Eq.symm hp9
                    subst hp9
                    refine lv_bipush (v := 119) hx hb d_M_function_276 (by decide) ?_
                    refine lv_icmp_ne hx hb d_M_function_278 (tgt := 298) rfl (fun g28 => ?_) (fun g28 => ?_)
                    · have g28 := g28
                      refine lv_iconst (v := (-1)) hx hb d_M_function_298 (by decide) ?_
                      exact rfI hx hb hr hlk hS () (by unfold MS.fnI MS.fn5 MS.fn6; rw [n1]; simp [g1, g2, g7, g8, g11, g22, g25, g28]) hP hD (Nat.le_of_ble_eq_true rfl) (Nat.le_of_ble_eq_true rfl) d_M_function_299
                    · have g28 := g28
                      refine lv_iload_n hx hb d_M_function_281 rfl (lv_at hl 4 rfl) ?_
                      refine lv_bipush (v := 116) hx hb d_M_function_282 (by decide) ?_
                      refine lv_icmp_ne hx hb d_M_function_284 (tgt := 298) rfl (fun g29 => ?_) (fun g29 => ?_)
                      · have g29 := g29
                        refine lv_iconst (v := (-1)) hx hb d_M_function_298 (by decide) ?_
                        exact rfI hx hb hr hlk hS () (by unfold MS.fnI MS.fn5 MS.fn6; rw [n1]; simp [g1, g2, g7, g8, g11, g22, g25, g28, g29]) hP hD (Nat.le_of_ble_eq_true rfl) (Nat.le_of_ble_eq_true rfl) d_M_function_299
                      · have g29 := g29
                        refine lv_iload_n hx hb d_M_function_287 rfl (lv_at hl 3 rfl) ?_
                        refine lv_bipush (v := 104) hx hb d_M_function_288 (by decide) ?_
                        refine lv_icmp_ne hx hb d_M_function_290 (tgt := 298) rfl (fun g30 => ?_) (fun g30 => ?_)
                        · have g30 := g30
                          refine lv_iconst (v := (-1)) hx hb d_M_function_298 (by decide) ?_
                          exact rfI hx hb hr hlk hS () (by unfold MS.fnI MS.fn5 MS.fn6; rw [n1]; simp [g1, g2, g7, g8, g11, g22, g25, g28, g29, g30]) hP hD (Nat.le_of_ble_eq_true rfl) (Nat.le_of_ble_eq_true rfl) d_M_function_299
                        · have g30 := g30
                          refine lv_bipush (v := 6) hx hb d_M_function_293 (by decide) ?_
                          refine lv_goto hx hb d_M_function_295 (tgt := 299) rfl ?_
                          exact rfI hx hb hr hlk hS () (by unfold MS.fnI MS.fn5 MS.fn6; rw [n1]; simp [g1, g2, g7, g8, g11, g22, g25, g28, g29, g30]) hP hD (Nat.le_of_ble_eq_true rfl) (Nat.le_of_ble_eq_true rfl) d_M_function_299
                · have g22 := g22
                  refine lv_iload_n hx hb d_M_function_238 rfl (lv_at hl 4 rfl) ?_
                  refine lv_bipush (v := 115) hx hb d_M_function_239 (by decide) ?_
                  refine lv_icmp_ne hx hb d_M_function_241 (tgt := 253) rfl (fun g31 => ?_) (fun g31 => ?_)
                  · have g31 := g31
                    refine lv_aload_n hx hb d_M_function_253 rfl (lv_at hl 1 rfl) ?_
                    refine lv_bipush (v := 103) hx hb d_M_function_254 (by decide) ?_
                    refine lv_bipush (v := 114) hx hb d_M_function_256 (by decide) ?_
                    refine lv_bipush (v := 111) hx hb d_M_function_258 (by decide) ?_
                    refine jfI (rnV (As := [.int 103, .int 114, .int 111]) (rest := []) hx hb hml hown hE hK (hN _ _ hS) hP hD (k_isStart l D dA H.size h ad x 103 114 111 (show x.length ≤ 65536 from by omega) (show x.frm ≤ x.too from by omega) (show x.too ≤ 65537 from by omega)) (q0 := 0) rfl rfl w1015 w1014 w1016 w1017 w328 rfl rfl ⟨⟨by decide, by decide⟩, rfl⟩ ⟨(Nat.le_of_ble_eq_true rfl), (Nat.le_of_ble_eq_true rfl)⟩ rfl hl.1 rfl (Nat.le_of_ble_eq_true rfl) d_M_function_260 ⟨(Nat.le_of_ble_eq_true rfl), (Nat.le_of_ble_eq_true rfl)⟩) hP hD hS hA (fun r32 u33 H locs hp9 hP hD hS => ?_)
                    have hP : va_P D vwCl (MW dA h ad x) H := hP
                    have hD : va_D A (MW dA h ad x) := hD
                    replace hp9 : bI (x.stB 103 114 111) = r32 := Eq.symm hp9
                    subst hp9
                    refine lv_if_eq hx hb d_M_function_263 (tgt := 298) rfl (fun g34 => ?_) (fun g34 => ?_)
                    · have g34 := bI_0 g34
                      refine lv_iconst (v := (-1)) hx hb d_M_function_298 (by decide) ?_
                      exact rfI hx hb hr hlk hS () (by unfold MS.fnI MS.fn5 MS.fn6; rw [n1]; simp [g1, g2, g7, g8, g11, g22, g31, g34]) hP hD (Nat.le_of_ble_eq_true rfl) (Nat.le_of_ble_eq_true rfl) d_M_function_299
                    · have g34 := bI_n0 g34
                      refine lv_aload_n hx hb d_M_function_266 rfl (lv_at hl 1 rfl) ?_
                      refine lv_aload_n hx hb d_M_function_267 rfl (lv_at hl 1 rfl) ?_
                      refine gF (v := .int (nI x.frm)) hx hb hown hE hK hP 0 rfl rfl layM 45 (by decide) w464 rfl d_M_function_268 ?_
                      refine lv_iconst (v := 3) hx hb d_M_function_271 (by decide) ?_
                      refine lv_iadd hx hb d_M_function_272 (tpi (y := nI (x.frm + 3)) (nI_add (x.frm) (3)) ?_)
                      refine jfI (rnV (As := [.int (nI (x.frm + 3))]) (rest := []) hx hb hml hown hE hK (hN _ _ hS) hP hD (k_at l D dA H.size h ad x (x.frm + 3) (show (x.frm + 3) < 2 ^ 31 from by omega) (show x.length ≤ 65536 from by omega)) (q0 := 0) rfl rfl w466 w465 w467 w468 w328 rfl rfl ⟨⟨by decide, by decide⟩, rfl⟩ ⟨(Nat.le_of_ble_eq_true rfl), (Nat.le_of_ble_eq_true rfl)⟩ rfl hl.1 rfl (Nat.le_of_ble_eq_true rfl) d_M_function_273 ⟨(Nat.le_of_ble_eq_true rfl), (Nat.le_of_ble_eq_true rfl)⟩) hP hD hS hA (fun r35 u36 H locs hp9 hP hD hS => ?_)
                      have hP : va_P D vwCl (MW dA h ad x) H := hP
                      have hD : va_D A (MW dA h ad x) := hD
                      replace hp9 : x.atN (x.frm + 3) = r35 := Eq.symm hp9
                      subst hp9
                      refine lv_bipush (v := 119) hx hb d_M_function_276 (by decide) ?_
                      refine lv_icmp_ne hx hb d_M_function_278 (tgt := 298) rfl (fun g37 => ?_) (fun g37 => ?_)
                      · have g37 := g37
                        refine lv_iconst (v := (-1)) hx hb d_M_function_298 (by decide) ?_
                        exact rfI hx hb hr hlk hS () (by unfold MS.fnI MS.fn5 MS.fn6; rw [n1]; simp [g1, g2, g7, g8, g11, g22, g31, g34, g37]) hP hD (Nat.le_of_ble_eq_true rfl) (Nat.le_of_ble_eq_true rfl) d_M_function_299
                      · have g37 := g37
                        refine lv_iload_n hx hb d_M_function_281 rfl (lv_at hl 4 rfl) ?_
                        refine lv_bipush (v := 116) hx hb d_M_function_282 (by decide) ?_
                        refine lv_icmp_ne hx hb d_M_function_284 (tgt := 298) rfl (fun g38 => ?_) (fun g38 => ?_)
                        · have g38 := g38
                          refine lv_iconst (v := (-1)) hx hb d_M_function_298 (by decide) ?_
                          exact rfI hx hb hr hlk hS () (absurd (g22.symm.trans g37) (by decide)) hP hD (Nat.le_of_ble_eq_true rfl) (Nat.le_of_ble_eq_true rfl) d_M_function_299
                        · have g38 := g38
                          refine lv_iload_n hx hb d_M_function_287 rfl (lv_at hl 3 rfl) ?_
                          refine lv_bipush (v := 104) hx hb d_M_function_288 (by decide) ?_
                          refine lv_icmp_ne hx hb d_M_function_290 (tgt := 298) rfl (fun g39 => ?_) (fun g39 => ?_)
                          · have g39 := g39
                            refine lv_iconst (v := (-1)) hx hb d_M_function_298 (by decide) ?_
                            exact rfI hx hb hr hlk hS () (absurd (g22.symm.trans g37) (by decide)) hP hD (Nat.le_of_ble_eq_true rfl) (Nat.le_of_ble_eq_true rfl) d_M_function_299
                          · have g39 := g39
                            refine lv_bipush (v := 6) hx hb d_M_function_293 (by decide) ?_
                            refine lv_goto hx hb d_M_function_295 (tgt := 299) rfl ?_
                            exact rfI hx hb hr hlk hS () (absurd (g22.symm.trans g37) (by decide)) hP hD (Nat.le_of_ble_eq_true rfl) (Nat.le_of_ble_eq_true rfl) d_M_function_299
                  · have g31 := g31
                    refine lv_iload hx hb d_M_function_244 (lv_at hl 0 rfl) ?_
                    refine lv_if_eq hx hb d_M_function_246 (tgt := 253) rfl (fun g40 => ?_) (fun g40 => ?_)
                    · have g40 := bI_0 g40
                      refine lv_aload_n hx hb d_M_function_253 rfl (lv_at hl 1 rfl) ?_
                      refine lv_bipush (v := 103) hx hb d_M_function_254 (by decide) ?_
                      refine lv_bipush (v := 114) hx hb d_M_function_256 (by decide) ?_
                      refine lv_bipush (v := 111) hx hb d_M_function_258 (by decide) ?_
                      refine jfI (rnV (As := [.int 103, .int 114, .int 111]) (rest := []) hx hb hml hown hE hK (hN _ _ hS) hP hD (k_isStart l D dA H.size h ad x 103 114 111 (show x.length ≤ 65536 from by omega) (show x.frm ≤ x.too from by omega) (show x.too ≤ 65537 from by omega)) (q0 := 0) rfl rfl w1015 w1014 w1016 w1017 w328 rfl rfl ⟨⟨by decide, by decide⟩, rfl⟩ ⟨(Nat.le_of_ble_eq_true rfl), (Nat.le_of_ble_eq_true rfl)⟩ rfl hl.1 rfl (Nat.le_of_ble_eq_true rfl) d_M_function_260 ⟨(Nat.le_of_ble_eq_true rfl), (Nat.le_of_ble_eq_true rfl)⟩) hP hD hS hA (fun r41 u42 H locs hp9 hP hD hS => ?_)
                      have hP : va_P D vwCl (MW dA h ad x) H := hP
                      have hD : va_D A (MW dA h ad x) := hD
                      replace hp9 : bI (x.stB 103 114 111) = r41 := Eq.symm hp9
                      subst hp9
                      refine lv_if_eq hx hb d_M_function_263 (tgt := 298) rfl (fun g43 => ?_) (fun g43 => ?_)
                      · have g43 := bI_0 g43
                        refine lv_iconst (v := (-1)) hx hb d_M_function_298 (by decide) ?_
                        exact rfI hx hb hr hlk hS () (by unfold MS.fnI MS.fn5 MS.fn6; rw [n1]; simp [g1, g2, g7, g8, g11, g22, g31, (of_decide_eq_false (t1.trans g40) : ¬ x.atZ ((nI x.too) - 1) = 116), g43]) hP hD (Nat.le_of_ble_eq_true rfl) (Nat.le_of_ble_eq_true rfl) d_M_function_299
                      · have g43 := bI_n0 g43
                        refine lv_aload_n hx hb d_M_function_266 rfl (lv_at hl 1 rfl) ?_
                        refine lv_aload_n hx hb d_M_function_267 rfl (lv_at hl 1 rfl) ?_
                        refine gF (v := .int (nI x.frm)) hx hb hown hE hK hP 0 rfl rfl layM 45 (by decide) w464 rfl d_M_function_268 ?_
                        refine lv_iconst (v := 3) hx hb d_M_function_271 (by decide) ?_
                        refine lv_iadd hx hb d_M_function_272 (tpi (y := nI (x.frm + 3)) (nI_add (x.frm) (3)) ?_)
                        refine jfI (rnV (As := [.int (nI (x.frm + 3))]) (rest := []) hx hb hml hown hE hK (hN _ _ hS) hP hD (k_at l D dA H.size h ad x (x.frm + 3) (show (x.frm + 3) < 2 ^ 31 from by omega) (show x.length ≤ 65536 from by omega)) (q0 := 0) rfl rfl w466 w465 w467 w468 w328 rfl rfl ⟨⟨by decide, by decide⟩, rfl⟩ ⟨(Nat.le_of_ble_eq_true rfl), (Nat.le_of_ble_eq_true rfl)⟩ rfl hl.1 rfl (Nat.le_of_ble_eq_true rfl) d_M_function_273 ⟨(Nat.le_of_ble_eq_true rfl), (Nat.le_of_ble_eq_true rfl)⟩) hP hD hS hA (fun r44 u45 H locs hp9 hP hD hS => ?_)
                        have hP : va_P D vwCl (MW dA h ad x) H := hP
                        have hD : va_D A (MW dA h ad x) := hD
                        replace hp9 : x.atN (x.frm + 3) = r44 := Eq.symm hp9
                        subst hp9
                        refine lv_bipush (v := 119) hx hb d_M_function_276 (by decide) ?_
                        refine lv_icmp_ne hx hb d_M_function_278 (tgt := 298) rfl (fun g46 => ?_) (fun g46 => ?_)
                        · have g46 := g46
                          refine lv_iconst (v := (-1)) hx hb d_M_function_298 (by decide) ?_
                          exact rfI hx hb hr hlk hS () (by unfold MS.fnI MS.fn5 MS.fn6; rw [n1]; simp [g1, g2, g7, g8, g11, g22, g31, (of_decide_eq_false (t1.trans g40) : ¬ x.atZ ((nI x.too) - 1) = 116), g43, g46]) hP hD (Nat.le_of_ble_eq_true rfl) (Nat.le_of_ble_eq_true rfl) d_M_function_299
                        · have g46 := g46
                          refine lv_iload_n hx hb d_M_function_281 rfl (lv_at hl 4 rfl) ?_
                          refine lv_bipush (v := 116) hx hb d_M_function_282 (by decide) ?_
                          refine lv_icmp_ne hx hb d_M_function_284 (tgt := 298) rfl (fun g47 => ?_) (fun g47 => ?_)
                          · have g47 := g47
                            refine lv_iconst (v := (-1)) hx hb d_M_function_298 (by decide) ?_
                            exact rfI hx hb hr hlk hS () (absurd (g22.symm.trans g46) (by decide)) hP hD (Nat.le_of_ble_eq_true rfl) (Nat.le_of_ble_eq_true rfl) d_M_function_299
                          · have g47 := g47
                            refine lv_iload_n hx hb d_M_function_287 rfl (lv_at hl 3 rfl) ?_
                            refine lv_bipush (v := 104) hx hb d_M_function_288 (by decide) ?_
                            refine lv_icmp_ne hx hb d_M_function_290 (tgt := 298) rfl (fun g48 => ?_) (fun g48 => ?_)
                            · have g48 := g48
                              refine lv_iconst (v := (-1)) hx hb d_M_function_298 (by decide) ?_
                              exact rfI hx hb hr hlk hS () (absurd (g22.symm.trans g46) (by decide)) hP hD (Nat.le_of_ble_eq_true rfl) (Nat.le_of_ble_eq_true rfl) d_M_function_299
                            · have g48 := g48
                              refine lv_bipush (v := 6) hx hb d_M_function_293 (by decide) ?_
                              refine lv_goto hx hb d_M_function_295 (tgt := 299) rfl ?_
                              exact rfI hx hb hr hlk hS () (absurd (g22.symm.trans g46) (by decide)) hP hD (Nat.le_of_ble_eq_true rfl) (Nat.le_of_ble_eq_true rfl) d_M_function_299
                    · have g40 := bI_n0 g40
                      refine lv_iconst (v := 5) hx hb d_M_function_249 (by decide) ?_
                      refine lv_goto hx hb d_M_function_250 (tgt := 299) rfl ?_
                      exact rfI hx hb hr hlk hS () (by unfold MS.fnI MS.fn5 MS.fn6; rw [n1]; simp [g1, g2, g7, g8, g11, g22, g31, (of_decide_eq_true (t1.trans g40) : x.atZ ((nI x.too) - 1) = 116)]) hP hD (Nat.le_of_ble_eq_true rfl) (Nat.le_of_ble_eq_true rfl) d_M_function_299
            · have g8 := mt (nI_eq (a := n) (b := 6) (by omega) (by omega)).mpr g8
              refine lv_iconst (v := (-1)) hx hb d_M_function_208 (by decide) ?_
              exact rfI hx hb hr hlk hS () (by unfold MS.fnI MS.fn5 MS.fn6; rw [n1]; simp [g1, g2, g7, g8]) hP hD (Nat.le_of_ble_eq_true rfl) (Nat.le_of_ble_eq_true rfl) d_M_function_209
          · have g7 := (nI_eq (a := n) (b := 5) (by omega) (by omega)).mp g7
            refine lv_aload_n hx hb d_M_function_116 rfl (lv_at hl 1 rfl) ?_
            refine lv_bipush (v := 99) hx hb d_M_function_117 (by decide) ?_
            refine lv_bipush (v := 111) hx hb d_M_function_119 (by decide) ?_
            refine lv_bipush (v := 117) hx hb d_M_function_121 (by decide) ?_
            refine jfI (rnV (As := [.int 99, .int 111, .int 117]) (rest := []) hx hb hml hown hE hK (hN _ _ hS) hP hD (k_isStart l D dA H.size h ad x 99 111 117 (show x.length ≤ 65536 from by omega) (show x.frm ≤ x.too from by omega) (show x.too ≤ 65537 from by omega)) (q0 := 0) rfl rfl w1015 w1014 w1016 w1017 w328 rfl rfl ⟨⟨by decide, by decide⟩, rfl⟩ ⟨(Nat.le_of_ble_eq_true rfl), (Nat.le_of_ble_eq_true rfl)⟩ rfl hl.1 rfl (Nat.le_of_ble_eq_true rfl) d_M_function_123 ⟨(Nat.le_of_ble_eq_true rfl), (Nat.le_of_ble_eq_true rfl)⟩) hP hD hS hA (fun r49 u50 H locs hp9 hP hD hS => ?_)
            have hP : va_P D vwCl (MW dA h ad x) H := hP
            have hD : va_D A (MW dA h ad x) := hD
            replace hp9 : bI (x.stB 99 111 117) = r49 := Eq.symm hp9
            subst hp9
            refine lv_if_eq hx hb d_M_function_126 (tgt := 144) rfl (fun g51 => ?_) (fun g51 => ?_)
            · have g51 := bI_0 g51
              refine lv_aload_n hx hb d_M_function_144 rfl (lv_at hl 1 rfl) ?_
              refine lv_bipush (v := 108) hx hb d_M_function_145 (by decide) ?_
              refine lv_bipush (v := 101) hx hb d_M_function_147 (by decide) ?_
              refine lv_bipush (v := 97) hx hb d_M_function_149 (by decide) ?_
              refine jfI (rnV (As := [.int 108, .int 101, .int 97]) (rest := []) hx hb hml hown hE hK (hN _ _ hS) hP hD (k_isStart l D dA H.size h ad x 108 101 97 (show x.length ≤ 65536 from by omega) (show x.frm ≤ x.too from by omega) (show x.too ≤ 65537 from by omega)) (q0 := 0) rfl rfl w1015 w1014 w1016 w1017 w328 rfl rfl ⟨⟨by decide, by decide⟩, rfl⟩ ⟨(Nat.le_of_ble_eq_true rfl), (Nat.le_of_ble_eq_true rfl)⟩ rfl hl.1 rfl (Nat.le_of_ble_eq_true rfl) d_M_function_151 ⟨(Nat.le_of_ble_eq_true rfl), (Nat.le_of_ble_eq_true rfl)⟩) hP hD hS hA (fun r52 u53 H locs hp9 hP hD hS => ?_)
              have hP : va_P D vwCl (MW dA h ad x) H := hP
              have hD : va_D A (MW dA h ad x) := hD
              replace hp9 : bI (x.stB 108 101 97) = r52 := Eq.symm hp9
              subst hp9
              refine lv_if_eq hx hb d_M_function_154 (tgt := 172) rfl (fun g54 => ?_) (fun g54 => ?_)
              · have g54 := bI_0 g54
                refine lv_aload_n hx hb d_M_function_172 rfl (lv_at hl 1 rfl) ?_
                refine lv_bipush (v := 102) hx hb d_M_function_173 (by decide) ?_
                refine lv_bipush (v := 105) hx hb d_M_function_175 (by decide) ?_
                refine lv_bipush (v := 114) hx hb d_M_function_177 (by decide) ?_
                refine jfI (rnV (As := [.int 102, .int 105, .int 114]) (rest := []) hx hb hml hown hE hK (hN _ _ hS) hP hD (k_isStart l D dA H.size h ad x 102 105 114 (show x.length ≤ 65536 from by omega) (show x.frm ≤ x.too from by omega) (show x.too ≤ 65537 from by omega)) (q0 := 0) rfl rfl w1015 w1014 w1016 w1017 w328 rfl rfl ⟨⟨by decide, by decide⟩, rfl⟩ ⟨(Nat.le_of_ble_eq_true rfl), (Nat.le_of_ble_eq_true rfl)⟩ rfl hl.1 rfl (Nat.le_of_ble_eq_true rfl) d_M_function_179 ⟨(Nat.le_of_ble_eq_true rfl), (Nat.le_of_ble_eq_true rfl)⟩) hP hD hS hA (fun r55 u56 H locs hp9 hP hD hS => ?_)
                have hP : va_P D vwCl (MW dA h ad x) H := hP
                have hD : va_D A (MW dA h ad x) := hD
                replace hp9 : bI (x.stB 102 105 114) = r55 := Eq.symm hp9
                subst hp9
                refine lv_if_eq hx hb d_M_function_182 (tgt := 200) rfl (fun g57 => ?_) (fun g57 => ?_)
                · have g57 := bI_0 g57
                  refine lv_iconst (v := (-1)) hx hb d_M_function_200 (by decide) ?_
                  exact rfI hx hb hr hlk hS () (by unfold MS.fnI MS.fn5 MS.fn6; rw [n1]; simp [g1, g2, g7, g51, g54, g57]) hP hD (Nat.le_of_ble_eq_true rfl) (Nat.le_of_ble_eq_true rfl) d_M_function_201
                · have g57 := bI_n0 g57
                  refine lv_iload_n hx hb d_M_function_185 rfl (lv_at hl 4 rfl) ?_
                  refine lv_bipush (v := 115) hx hb d_M_function_186 (by decide) ?_
                  refine lv_icmp_ne hx hb d_M_function_188 (tgt := 200) rfl (fun g58 => ?_) (fun g58 => ?_)
                  · have g58 := g58
                    refine lv_iconst (v := (-1)) hx hb d_M_function_200 (by decide) ?_
                    exact rfI hx hb hr hlk hS () (by unfold MS.fnI MS.fn5 MS.fn6; rw [n1]; simp [g1, g2, g7, g51, g54, g57, g58]) hP hD (Nat.le_of_ble_eq_true rfl) (Nat.le_of_ble_eq_true rfl) d_M_function_201
                  · have g58 := g58
                    refine lv_iload hx hb d_M_function_191 (lv_at hl 0 rfl) ?_
                    refine lv_if_eq hx hb d_M_function_193 (tgt := 200) rfl (fun g59 => ?_) (fun g59 => ?_)
                    · have g59 := bI_0 g59
                      refine lv_iconst (v := (-1)) hx hb d_M_function_200 (by decide) ?_
                      exact rfI hx hb hr hlk hS () (by unfold MS.fnI MS.fn5 MS.fn6; rw [n1]; simp [g1, g2, g7, g51, g54, g57, g58, (of_decide_eq_false (t1.trans g59) : ¬ x.atZ ((nI x.too) - 1) = 116)]) hP hD (Nat.le_of_ble_eq_true rfl) (Nat.le_of_ble_eq_true rfl) d_M_function_201
                    · have g59 := bI_n0 g59
                      refine lv_iconst (v := 4) hx hb d_M_function_196 (by decide) ?_
                      refine lv_goto hx hb d_M_function_197 (tgt := 201) rfl ?_
                      exact rfI hx hb hr hlk hS () (by unfold MS.fnI MS.fn5 MS.fn6; rw [n1]; simp [g1, g2, g7, g51, g54, g57, g58, (of_decide_eq_true (t1.trans g59) : x.atZ ((nI x.too) - 1) = 116)]) hP hD (Nat.le_of_ble_eq_true rfl) (Nat.le_of_ble_eq_true rfl) d_M_function_201
              · have g54 := bI_n0 g54
                refine lv_iload_n hx hb d_M_function_157 rfl (lv_at hl 4 rfl) ?_
                refine lv_bipush (v := 115) hx hb d_M_function_158 (by decide) ?_
                refine lv_icmp_ne hx hb d_M_function_160 (tgt := 172) rfl (fun g60 => ?_) (fun g60 => ?_)
                · have g60 := g60
                  refine lv_aload_n hx hb d_M_function_172 rfl (lv_at hl 1 rfl) ?_
                  refine lv_bipush (v := 102) hx hb d_M_function_173 (by decide) ?_
                  refine lv_bipush (v := 105) hx hb d_M_function_175 (by decide) ?_
                  refine lv_bipush (v := 114) hx hb d_M_function_177 (by decide) ?_
                  refine jfI (rnV (As := [.int 102, .int 105, .int 114]) (rest := []) hx hb hml hown hE hK (hN _ _ hS) hP hD (k_isStart l D dA H.size h ad x 102 105 114 (show x.length ≤ 65536 from by omega) (show x.frm ≤ x.too from by omega) (show x.too ≤ 65537 from by omega)) (q0 := 0) rfl rfl w1015 w1014 w1016 w1017 w328 rfl rfl ⟨⟨by decide, by decide⟩, rfl⟩ ⟨(Nat.le_of_ble_eq_true rfl), (Nat.le_of_ble_eq_true rfl)⟩ rfl hl.1 rfl (Nat.le_of_ble_eq_true rfl) d_M_function_179 ⟨(Nat.le_of_ble_eq_true rfl), (Nat.le_of_ble_eq_true rfl)⟩) hP hD hS hA (fun r61 u62 H locs hp9 hP hD hS => ?_)
                  have hP : va_P D vwCl (MW dA h ad x) H := hP
                  have hD : va_D A (MW dA h ad x) := hD
                  replace hp9 : bI (x.stB 102 105 114) = r61 := Eq.symm hp9
                  subst hp9
                  refine lv_if_eq hx hb d_M_function_182 (tgt := 200) rfl (fun g63 => ?_) (fun g63 => ?_)
                  · have g63 := bI_0 g63
                    refine lv_iconst (v := (-1)) hx hb d_M_function_200 (by decide) ?_
                    exact rfI hx hb hr hlk hS () (by unfold MS.fnI MS.fn5 MS.fn6; rw [n1]; simp [g1, g2, g7, g51, g54, g60, g63]) hP hD (Nat.le_of_ble_eq_true rfl) (Nat.le_of_ble_eq_true rfl) d_M_function_201
                  · have g63 := bI_n0 g63
                    refine lv_iload_n hx hb d_M_function_185 rfl (lv_at hl 4 rfl) ?_
                    refine lv_bipush (v := 115) hx hb d_M_function_186 (by decide) ?_
                    refine lv_icmp_ne hx hb d_M_function_188 (tgt := 200) rfl (fun _ => ?_) (fun h9 => absurd h9 g60)
                    refine lv_iconst (v := (-1)) hx hb d_M_function_200 (by decide) ?_
                    exact rfI hx hb hr hlk hS () (by unfold MS.fnI MS.fn5 MS.fn6; rw [n1]; simp [g1, g2, g7, g51, g54, g60, g63]) hP hD (Nat.le_of_ble_eq_true rfl) (Nat.le_of_ble_eq_true rfl) d_M_function_201
                · have g60 := g60
                  refine lv_iload hx hb d_M_function_163 (lv_at hl 0 rfl) ?_
                  refine lv_if_eq hx hb d_M_function_165 (tgt := 172) rfl (fun g64 => ?_) (fun g64 => ?_)
                  · have g64 := bI_0 g64
                    refine lv_aload_n hx hb d_M_function_172 rfl (lv_at hl 1 rfl) ?_
                    refine lv_bipush (v := 102) hx hb d_M_function_173 (by decide) ?_
                    refine lv_bipush (v := 105) hx hb d_M_function_175 (by decide) ?_
                    refine lv_bipush (v := 114) hx hb d_M_function_177 (by decide) ?_
                    refine jfI (rnV (As := [.int 102, .int 105, .int 114]) (rest := []) hx hb hml hown hE hK (hN _ _ hS) hP hD (k_isStart l D dA H.size h ad x 102 105 114 (show x.length ≤ 65536 from by omega) (show x.frm ≤ x.too from by omega) (show x.too ≤ 65537 from by omega)) (q0 := 0) rfl rfl w1015 w1014 w1016 w1017 w328 rfl rfl ⟨⟨by decide, by decide⟩, rfl⟩ ⟨(Nat.le_of_ble_eq_true rfl), (Nat.le_of_ble_eq_true rfl)⟩ rfl hl.1 rfl (Nat.le_of_ble_eq_true rfl) d_M_function_179 ⟨(Nat.le_of_ble_eq_true rfl), (Nat.le_of_ble_eq_true rfl)⟩) hP hD hS hA (fun r65 u66 H locs hp9 hP hD hS => ?_)
                    have hP : va_P D vwCl (MW dA h ad x) H := hP
                    have hD : va_D A (MW dA h ad x) := hD
                    replace hp9 : bI (x.stB 102 105 114) = r65 := Eq.symm hp9
                    subst hp9
                    refine lv_if_eq hx hb d_M_function_182 (tgt := 200) rfl (fun g67 => ?_) (fun g67 => ?_)
                    · have g67 := bI_0 g67
                      refine lv_iconst (v := (-1)) hx hb d_M_function_200 (by decide) ?_
                      exact rfI hx hb hr hlk hS () (by unfold MS.fnI MS.fn5 MS.fn6; rw [n1]; simp [g1, g2, g7, g51, g54, g60, (of_decide_eq_false (t1.trans g64) : ¬ x.atZ ((nI x.too) - 1) = 116), g67]) hP hD (Nat.le_of_ble_eq_true rfl) (Nat.le_of_ble_eq_true rfl) d_M_function_201
                    · have g67 := bI_n0 g67
                      refine lv_iload_n hx hb d_M_function_185 rfl (lv_at hl 4 rfl) ?_
                      refine lv_bipush (v := 115) hx hb d_M_function_186 (by decide) ?_
                      refine lv_icmp_ne hx hb d_M_function_188 (tgt := 200) rfl (fun h9 => absurd g60 h9) (fun _ => ?_)
                      refine lv_iload hx hb d_M_function_191 (lv_at hl 0 rfl) ?_
                      refine lv_if_eq hx hb d_M_function_193 (tgt := 200) rfl (fun _ => ?_) (fun h9 => absurd (by rw [g64]; decide) h9)
                      refine lv_iconst (v := (-1)) hx hb d_M_function_200 (by decide) ?_
                      exact rfI hx hb hr hlk hS () (by unfold MS.fnI MS.fn5 MS.fn6; rw [n1]; simp [g1, g2, g7, g51, g54, g60, (of_decide_eq_false (t1.trans g64) : ¬ x.atZ ((nI x.too) - 1) = 116), g67]) hP hD (Nat.le_of_ble_eq_true rfl) (Nat.le_of_ble_eq_true rfl) d_M_function_201
                  · have g64 := bI_n0 g64
                    refine lv_iconst (v := 2) hx hb d_M_function_168 (by decide) ?_
                    refine lv_goto hx hb d_M_function_169 (tgt := 201) rfl ?_
                    exact rfI hx hb hr hlk hS () (by unfold MS.fnI MS.fn5 MS.fn6; rw [n1]; simp [g1, g2, g7, g51, g54, g60, (of_decide_eq_true (t1.trans g64) : x.atZ ((nI x.too) - 1) = 116)]) hP hD (Nat.le_of_ble_eq_true rfl) (Nat.le_of_ble_eq_true rfl) d_M_function_201
            · have g51 := bI_n0 g51
              refine lv_iload_n hx hb d_M_function_129 rfl (lv_at hl 4 rfl) ?_
              refine lv_bipush (v := 110) hx hb d_M_function_130 (by decide) ?_
              refine lv_icmp_ne hx hb d_M_function_132 (tgt := 144) rfl (fun g68 => ?_) (fun g68 => ?_)
              · have g68 := g68
                refine lv_aload_n hx hb d_M_function_144 rfl (lv_at hl 1 rfl) ?_
                refine lv_bipush (v := 108) hx hb d_M_function_145 (by decide) ?_
                refine lv_bipush (v := 101) hx hb d_M_function_147 (by decide) ?_
                refine lv_bipush (v := 97) hx hb d_M_function_149 (by decide) ?_
                refine jfI (rnV (As := [.int 108, .int 101, .int 97]) (rest := []) hx hb hml hown hE hK (hN _ _ hS) hP hD (k_isStart l D dA H.size h ad x 108 101 97 (show x.length ≤ 65536 from by omega) (show x.frm ≤ x.too from by omega) (show x.too ≤ 65537 from by omega)) (q0 := 0) rfl rfl w1015 w1014 w1016 w1017 w328 rfl rfl ⟨⟨by decide, by decide⟩, rfl⟩ ⟨(Nat.le_of_ble_eq_true rfl), (Nat.le_of_ble_eq_true rfl)⟩ rfl hl.1 rfl (Nat.le_of_ble_eq_true rfl) d_M_function_151 ⟨(Nat.le_of_ble_eq_true rfl), (Nat.le_of_ble_eq_true rfl)⟩) hP hD hS hA (fun r69 u70 H locs hp9 hP hD hS => ?_)
                have hP : va_P D vwCl (MW dA h ad x) H := hP
                have hD : va_D A (MW dA h ad x) := hD
                replace hp9 : bI (x.stB 108 101 97) = r69 := Eq.symm hp9
                subst hp9
                refine lv_if_eq hx hb d_M_function_154 (tgt := 172) rfl (fun g71 => ?_) (fun g71 => ?_)
                · have g71 := bI_0 g71
                  refine lv_aload_n hx hb d_M_function_172 rfl (lv_at hl 1 rfl) ?_
                  refine lv_bipush (v := 102) hx hb d_M_function_173 (by decide) ?_
                  refine lv_bipush (v := 105) hx hb d_M_function_175 (by decide) ?_
                  refine lv_bipush (v := 114) hx hb d_M_function_177 (by decide) ?_
                  refine jfI (rnV (As := [.int 102, .int 105, .int 114]) (rest := []) hx hb hml hown hE hK (hN _ _ hS) hP hD (k_isStart l D dA H.size h ad x 102 105 114 (show x.length ≤ 65536 from by omega) (show x.frm ≤ x.too from by omega) (show x.too ≤ 65537 from by omega)) (q0 := 0) rfl rfl w1015 w1014 w1016 w1017 w328 rfl rfl ⟨⟨by decide, by decide⟩, rfl⟩ ⟨(Nat.le_of_ble_eq_true rfl), (Nat.le_of_ble_eq_true rfl)⟩ rfl hl.1 rfl (Nat.le_of_ble_eq_true rfl) d_M_function_179 ⟨(Nat.le_of_ble_eq_true rfl), (Nat.le_of_ble_eq_true rfl)⟩) hP hD hS hA (fun r72 u73 H locs hp9 hP hD hS => ?_)
                  have hP : va_P D vwCl (MW dA h ad x) H := hP
                  have hD : va_D A (MW dA h ad x) := hD
                  replace hp9 : bI (x.stB 102 105 114) = r72 := Eq.symm hp9
                  subst hp9
                  refine lv_if_eq hx hb d_M_function_182 (tgt := 200) rfl (fun g74 => ?_) (fun g74 => ?_)
                  · have g74 := bI_0 g74
                    refine lv_iconst (v := (-1)) hx hb d_M_function_200 (by decide) ?_
                    exact rfI hx hb hr hlk hS () (by unfold MS.fnI MS.fn5 MS.fn6; rw [n1]; simp [g1, g2, g7, g51, g68, g71, g74]) hP hD (Nat.le_of_ble_eq_true rfl) (Nat.le_of_ble_eq_true rfl) d_M_function_201
                  · have g74 := bI_n0 g74
                    refine lv_iload_n hx hb d_M_function_185 rfl (lv_at hl 4 rfl) ?_
                    refine lv_bipush (v := 115) hx hb d_M_function_186 (by decide) ?_
                    refine lv_icmp_ne hx hb d_M_function_188 (tgt := 200) rfl (fun g75 => ?_) (fun g75 => ?_)
                    · have g75 := g75
                      refine lv_iconst (v := (-1)) hx hb d_M_function_200 (by decide) ?_
                      exact rfI hx hb hr hlk hS () (by unfold MS.fnI MS.fn5 MS.fn6; rw [n1]; simp [g1, g2, g7, g51, g68, g71, g74, g75]) hP hD (Nat.le_of_ble_eq_true rfl) (Nat.le_of_ble_eq_true rfl) d_M_function_201
                    · have g75 := g75
                      refine lv_iload hx hb d_M_function_191 (lv_at hl 0 rfl) ?_
                      refine lv_if_eq hx hb d_M_function_193 (tgt := 200) rfl (fun g76 => ?_) (fun g76 => ?_)
                      · have g76 := bI_0 g76
                        refine lv_iconst (v := (-1)) hx hb d_M_function_200 (by decide) ?_
                        exact rfI hx hb hr hlk hS () (by unfold MS.fnI MS.fn5 MS.fn6; rw [n1]; simp [g1, g2, g7, g51, g68, g71, g74, g75, (of_decide_eq_false (t1.trans g76) : ¬ x.atZ ((nI x.too) - 1) = 116)]) hP hD (Nat.le_of_ble_eq_true rfl) (Nat.le_of_ble_eq_true rfl) d_M_function_201
                      · have g76 := bI_n0 g76
                        refine lv_iconst (v := 4) hx hb d_M_function_196 (by decide) ?_
                        refine lv_goto hx hb d_M_function_197 (tgt := 201) rfl ?_
                        exact rfI hx hb hr hlk hS () (by unfold MS.fnI MS.fn5 MS.fn6; rw [n1]; simp [g1, g2, g7, g51, g68, g71, g74, g75, (of_decide_eq_true (t1.trans g76) : x.atZ ((nI x.too) - 1) = 116)]) hP hD (Nat.le_of_ble_eq_true rfl) (Nat.le_of_ble_eq_true rfl) d_M_function_201
                · have g71 := bI_n0 g71
                  refine lv_iload_n hx hb d_M_function_157 rfl (lv_at hl 4 rfl) ?_
                  refine lv_bipush (v := 115) hx hb d_M_function_158 (by decide) ?_
                  refine lv_icmp_ne hx hb d_M_function_160 (tgt := 172) rfl (fun g77 => ?_) (fun g77 => ?_)
                  · have g77 := g77
                    refine lv_aload_n hx hb d_M_function_172 rfl (lv_at hl 1 rfl) ?_
                    refine lv_bipush (v := 102) hx hb d_M_function_173 (by decide) ?_
                    refine lv_bipush (v := 105) hx hb d_M_function_175 (by decide) ?_
                    refine lv_bipush (v := 114) hx hb d_M_function_177 (by decide) ?_
                    refine jfI (rnV (As := [.int 102, .int 105, .int 114]) (rest := []) hx hb hml hown hE hK (hN _ _ hS) hP hD (k_isStart l D dA H.size h ad x 102 105 114 (show x.length ≤ 65536 from by omega) (show x.frm ≤ x.too from by omega) (show x.too ≤ 65537 from by omega)) (q0 := 0) rfl rfl w1015 w1014 w1016 w1017 w328 rfl rfl ⟨⟨by decide, by decide⟩, rfl⟩ ⟨(Nat.le_of_ble_eq_true rfl), (Nat.le_of_ble_eq_true rfl)⟩ rfl hl.1 rfl (Nat.le_of_ble_eq_true rfl) d_M_function_179 ⟨(Nat.le_of_ble_eq_true rfl), (Nat.le_of_ble_eq_true rfl)⟩) hP hD hS hA (fun r78 u79 H locs hp9 hP hD hS => ?_)
                    have hP : va_P D vwCl (MW dA h ad x) H := hP
                    have hD : va_D A (MW dA h ad x) := hD
                    replace hp9 : bI (x.stB 102 105 114) = r78 := Eq.symm hp9
                    subst hp9
                    refine lv_if_eq hx hb d_M_function_182 (tgt := 200) rfl (fun g80 => ?_) (fun g80 => ?_)
                    · have g80 := bI_0 g80
                      refine lv_iconst (v := (-1)) hx hb d_M_function_200 (by decide) ?_
                      exact rfI hx hb hr hlk hS () (by unfold MS.fnI MS.fn5 MS.fn6; rw [n1]; simp [g1, g2, g7, g51, g68, g71, g77, g80]) hP hD (Nat.le_of_ble_eq_true rfl) (Nat.le_of_ble_eq_true rfl) d_M_function_201
                    · have g80 := bI_n0 g80
                      refine lv_iload_n hx hb d_M_function_185 rfl (lv_at hl 4 rfl) ?_
                      refine lv_bipush (v := 115) hx hb d_M_function_186 (by decide) ?_
                      refine lv_icmp_ne hx hb d_M_function_188 (tgt := 200) rfl (fun _ => ?_) (fun h9 => absurd h9 g77)
                      refine lv_iconst (v := (-1)) hx hb d_M_function_200 (by decide) ?_
                      exact rfI hx hb hr hlk hS () (by unfold MS.fnI MS.fn5 MS.fn6; rw [n1]; simp [g1, g2, g7, g51, g68, g71, g77, g80]) hP hD (Nat.le_of_ble_eq_true rfl) (Nat.le_of_ble_eq_true rfl) d_M_function_201
                  · have g77 := g77
                    refine lv_iload hx hb d_M_function_163 (lv_at hl 0 rfl) ?_
                    refine lv_if_eq hx hb d_M_function_165 (tgt := 172) rfl (fun g81 => ?_) (fun g81 => ?_)
                    · have g81 := bI_0 g81
                      refine lv_aload_n hx hb d_M_function_172 rfl (lv_at hl 1 rfl) ?_
                      refine lv_bipush (v := 102) hx hb d_M_function_173 (by decide) ?_
                      refine lv_bipush (v := 105) hx hb d_M_function_175 (by decide) ?_
                      refine lv_bipush (v := 114) hx hb d_M_function_177 (by decide) ?_
                      refine jfI (rnV (As := [.int 102, .int 105, .int 114]) (rest := []) hx hb hml hown hE hK (hN _ _ hS) hP hD (k_isStart l D dA H.size h ad x 102 105 114 (show x.length ≤ 65536 from by omega) (show x.frm ≤ x.too from by omega) (show x.too ≤ 65537 from by omega)) (q0 := 0) rfl rfl w1015 w1014 w1016 w1017 w328 rfl rfl ⟨⟨by decide, by decide⟩, rfl⟩ ⟨(Nat.le_of_ble_eq_true rfl), (Nat.le_of_ble_eq_true rfl)⟩ rfl hl.1 rfl (Nat.le_of_ble_eq_true rfl) d_M_function_179 ⟨(Nat.le_of_ble_eq_true rfl), (Nat.le_of_ble_eq_true rfl)⟩) hP hD hS hA (fun r82 u83 H locs hp9 hP hD hS => ?_)
                      have hP : va_P D vwCl (MW dA h ad x) H := hP
                      have hD : va_D A (MW dA h ad x) := hD
                      replace hp9 : bI (x.stB 102 105 114) = r82 := Eq.symm hp9
                      subst hp9
                      refine lv_if_eq hx hb d_M_function_182 (tgt := 200) rfl (fun g84 => ?_) (fun g84 => ?_)
                      · have g84 := bI_0 g84
                        refine lv_iconst (v := (-1)) hx hb d_M_function_200 (by decide) ?_
                        exact rfI hx hb hr hlk hS () (by unfold MS.fnI MS.fn5 MS.fn6; rw [n1]; simp [g1, g2, g7, g51, g68, g71, g77, (of_decide_eq_false (t1.trans g81) : ¬ x.atZ ((nI x.too) - 1) = 116), g84]) hP hD (Nat.le_of_ble_eq_true rfl) (Nat.le_of_ble_eq_true rfl) d_M_function_201
                      · have g84 := bI_n0 g84
                        refine lv_iload_n hx hb d_M_function_185 rfl (lv_at hl 4 rfl) ?_
                        refine lv_bipush (v := 115) hx hb d_M_function_186 (by decide) ?_
                        refine lv_icmp_ne hx hb d_M_function_188 (tgt := 200) rfl (fun h9 => absurd g77 h9) (fun _ => ?_)
                        refine lv_iload hx hb d_M_function_191 (lv_at hl 0 rfl) ?_
                        refine lv_if_eq hx hb d_M_function_193 (tgt := 200) rfl (fun _ => ?_) (fun h9 => absurd (by rw [g81]; decide) h9)
                        refine lv_iconst (v := (-1)) hx hb d_M_function_200 (by decide) ?_
                        exact rfI hx hb hr hlk hS () (by unfold MS.fnI MS.fn5 MS.fn6; rw [n1]; simp [g1, g2, g7, g51, g68, g71, g77, (of_decide_eq_false (t1.trans g81) : ¬ x.atZ ((nI x.too) - 1) = 116), g84]) hP hD (Nat.le_of_ble_eq_true rfl) (Nat.le_of_ble_eq_true rfl) d_M_function_201
                    · have g81 := bI_n0 g81
                      refine lv_iconst (v := 2) hx hb d_M_function_168 (by decide) ?_
                      refine lv_goto hx hb d_M_function_169 (tgt := 201) rfl ?_
                      exact rfI hx hb hr hlk hS () (by unfold MS.fnI MS.fn5 MS.fn6; rw [n1]; simp [g1, g2, g7, g51, g68, g71, g77, (of_decide_eq_true (t1.trans g81) : x.atZ ((nI x.too) - 1) = 116)]) hP hD (Nat.le_of_ble_eq_true rfl) (Nat.le_of_ble_eq_true rfl) d_M_function_201
              · have g68 := g68
                refine lv_iload hx hb d_M_function_135 (lv_at hl 0 rfl) ?_
                refine lv_if_eq hx hb d_M_function_137 (tgt := 144) rfl (fun g85 => ?_) (fun g85 => ?_)
                · have g85 := bI_0 g85
                  refine lv_aload_n hx hb d_M_function_144 rfl (lv_at hl 1 rfl) ?_
                  refine lv_bipush (v := 108) hx hb d_M_function_145 (by decide) ?_
                  refine lv_bipush (v := 101) hx hb d_M_function_147 (by decide) ?_
                  refine lv_bipush (v := 97) hx hb d_M_function_149 (by decide) ?_
                  refine jfI (rnV (As := [.int 108, .int 101, .int 97]) (rest := []) hx hb hml hown hE hK (hN _ _ hS) hP hD (k_isStart l D dA H.size h ad x 108 101 97 (show x.length ≤ 65536 from by omega) (show x.frm ≤ x.too from by omega) (show x.too ≤ 65537 from by omega)) (q0 := 0) rfl rfl w1015 w1014 w1016 w1017 w328 rfl rfl ⟨⟨by decide, by decide⟩, rfl⟩ ⟨(Nat.le_of_ble_eq_true rfl), (Nat.le_of_ble_eq_true rfl)⟩ rfl hl.1 rfl (Nat.le_of_ble_eq_true rfl) d_M_function_151 ⟨(Nat.le_of_ble_eq_true rfl), (Nat.le_of_ble_eq_true rfl)⟩) hP hD hS hA (fun r86 u87 H locs hp9 hP hD hS => ?_)
                  have hP : va_P D vwCl (MW dA h ad x) H := hP
                  have hD : va_D A (MW dA h ad x) := hD
                  replace hp9 : bI (x.stB 108 101 97) = r86 := Eq.symm hp9
                  subst hp9
                  refine lv_if_eq hx hb d_M_function_154 (tgt := 172) rfl (fun g88 => ?_) (fun g88 => ?_)
                  · have g88 := bI_0 g88
                    refine lv_aload_n hx hb d_M_function_172 rfl (lv_at hl 1 rfl) ?_
                    refine lv_bipush (v := 102) hx hb d_M_function_173 (by decide) ?_
                    refine lv_bipush (v := 105) hx hb d_M_function_175 (by decide) ?_
                    refine lv_bipush (v := 114) hx hb d_M_function_177 (by decide) ?_
                    refine jfI (rnV (As := [.int 102, .int 105, .int 114]) (rest := []) hx hb hml hown hE hK (hN _ _ hS) hP hD (k_isStart l D dA H.size h ad x 102 105 114 (show x.length ≤ 65536 from by omega) (show x.frm ≤ x.too from by omega) (show x.too ≤ 65537 from by omega)) (q0 := 0) rfl rfl w1015 w1014 w1016 w1017 w328 rfl rfl ⟨⟨by decide, by decide⟩, rfl⟩ ⟨(Nat.le_of_ble_eq_true rfl), (Nat.le_of_ble_eq_true rfl)⟩ rfl hl.1 rfl (Nat.le_of_ble_eq_true rfl) d_M_function_179 ⟨(Nat.le_of_ble_eq_true rfl), (Nat.le_of_ble_eq_true rfl)⟩) hP hD hS hA (fun r89 u90 H locs hp9 hP hD hS => ?_)
                    have hP : va_P D vwCl (MW dA h ad x) H := hP
                    have hD : va_D A (MW dA h ad x) := hD
                    replace hp9 : bI (x.stB 102 105 114) = r89 := Eq.symm hp9
                    subst hp9
                    refine lv_if_eq hx hb d_M_function_182 (tgt := 200) rfl (fun g91 => ?_) (fun g91 => ?_)
                    · have g91 := bI_0 g91
                      refine lv_iconst (v := (-1)) hx hb d_M_function_200 (by decide) ?_
                      exact rfI hx hb hr hlk hS () (by unfold MS.fnI MS.fn5 MS.fn6; rw [n1]; simp [g1, g2, g7, g51, g68, (of_decide_eq_false (t1.trans g85) : ¬ x.atZ ((nI x.too) - 1) = 116), g88, g91]) hP hD (Nat.le_of_ble_eq_true rfl) (Nat.le_of_ble_eq_true rfl) d_M_function_201
                    · have g91 := bI_n0 g91
                      refine lv_iload_n hx hb d_M_function_185 rfl (lv_at hl 4 rfl) ?_
                      refine lv_bipush (v := 115) hx hb d_M_function_186 (by decide) ?_
                      refine lv_icmp_ne hx hb d_M_function_188 (tgt := 200) rfl (fun g92 => ?_) (fun g92 => ?_)
                      · have g92 := g92
                        refine lv_iconst (v := (-1)) hx hb d_M_function_200 (by decide) ?_
                        exact rfI hx hb hr hlk hS () (by unfold MS.fnI MS.fn5 MS.fn6; rw [n1]; simp [g1, g2, g7, g51, g68, (of_decide_eq_false (t1.trans g85) : ¬ x.atZ ((nI x.too) - 1) = 116), g88, g91, g92]) hP hD (Nat.le_of_ble_eq_true rfl) (Nat.le_of_ble_eq_true rfl) d_M_function_201
                      · have g92 := g92
                        refine lv_iload hx hb d_M_function_191 (lv_at hl 0 rfl) ?_
                        refine lv_if_eq hx hb d_M_function_193 (tgt := 200) rfl (fun _ => ?_) (fun h9 => absurd (by rw [g85]; decide) h9)
                        refine lv_iconst (v := (-1)) hx hb d_M_function_200 (by decide) ?_
                        exact rfI hx hb hr hlk hS () (absurd (g68.symm.trans g92) (by decide)) hP hD (Nat.le_of_ble_eq_true rfl) (Nat.le_of_ble_eq_true rfl) d_M_function_201
                  · have g88 := bI_n0 g88
                    refine lv_iload_n hx hb d_M_function_157 rfl (lv_at hl 4 rfl) ?_
                    refine lv_bipush (v := 115) hx hb d_M_function_158 (by decide) ?_
                    refine lv_icmp_ne hx hb d_M_function_160 (tgt := 172) rfl (fun g93 => ?_) (fun g93 => ?_)
                    · have g93 := g93
                      refine lv_aload_n hx hb d_M_function_172 rfl (lv_at hl 1 rfl) ?_
                      refine lv_bipush (v := 102) hx hb d_M_function_173 (by decide) ?_
                      refine lv_bipush (v := 105) hx hb d_M_function_175 (by decide) ?_
                      refine lv_bipush (v := 114) hx hb d_M_function_177 (by decide) ?_
                      refine jfI (rnV (As := [.int 102, .int 105, .int 114]) (rest := []) hx hb hml hown hE hK (hN _ _ hS) hP hD (k_isStart l D dA H.size h ad x 102 105 114 (show x.length ≤ 65536 from by omega) (show x.frm ≤ x.too from by omega) (show x.too ≤ 65537 from by omega)) (q0 := 0) rfl rfl w1015 w1014 w1016 w1017 w328 rfl rfl ⟨⟨by decide, by decide⟩, rfl⟩ ⟨(Nat.le_of_ble_eq_true rfl), (Nat.le_of_ble_eq_true rfl)⟩ rfl hl.1 rfl (Nat.le_of_ble_eq_true rfl) d_M_function_179 ⟨(Nat.le_of_ble_eq_true rfl), (Nat.le_of_ble_eq_true rfl)⟩) hP hD hS hA (fun r94 u95 H locs hp9 hP hD hS => ?_)
                      have hP : va_P D vwCl (MW dA h ad x) H := hP
                      have hD : va_D A (MW dA h ad x) := hD
                      replace hp9 : bI (x.stB 102 105 114) = r94 := Eq.symm hp9
                      subst hp9
                      refine lv_if_eq hx hb d_M_function_182 (tgt := 200) rfl (fun g96 => ?_) (fun g96 => ?_)
                      · have g96 := bI_0 g96
                        refine lv_iconst (v := (-1)) hx hb d_M_function_200 (by decide) ?_
                        exact rfI hx hb hr hlk hS () (by unfold MS.fnI MS.fn5 MS.fn6; rw [n1]; simp [g1, g2, g7, g51, g68, (of_decide_eq_false (t1.trans g85) : ¬ x.atZ ((nI x.too) - 1) = 116), g88, g93, g96]) hP hD (Nat.le_of_ble_eq_true rfl) (Nat.le_of_ble_eq_true rfl) d_M_function_201
                      · have g96 := bI_n0 g96
                        refine lv_iload_n hx hb d_M_function_185 rfl (lv_at hl 4 rfl) ?_
                        refine lv_bipush (v := 115) hx hb d_M_function_186 (by decide) ?_
                        refine lv_icmp_ne hx hb d_M_function_188 (tgt := 200) rfl (fun _ => ?_) (fun h9 => absurd h9 g93)
                        refine lv_iconst (v := (-1)) hx hb d_M_function_200 (by decide) ?_
                        exact rfI hx hb hr hlk hS () (by unfold MS.fnI MS.fn5 MS.fn6; rw [n1]; simp [g1, g2, g7, g51, g68, (of_decide_eq_false (t1.trans g85) : ¬ x.atZ ((nI x.too) - 1) = 116), g88, g93, g96]) hP hD (Nat.le_of_ble_eq_true rfl) (Nat.le_of_ble_eq_true rfl) d_M_function_201
                    · have g93 := g93
                      refine lv_iload hx hb d_M_function_163 (lv_at hl 0 rfl) ?_
                      refine lv_if_eq hx hb d_M_function_165 (tgt := 172) rfl (fun _ => ?_) (fun h9 => absurd (by rw [g85]; decide) h9)
                      refine lv_aload_n hx hb d_M_function_172 rfl (lv_at hl 1 rfl) ?_
                      refine lv_bipush (v := 102) hx hb d_M_function_173 (by decide) ?_
                      refine lv_bipush (v := 105) hx hb d_M_function_175 (by decide) ?_
                      refine lv_bipush (v := 114) hx hb d_M_function_177 (by decide) ?_
                      refine jfI (rnV (As := [.int 102, .int 105, .int 114]) (rest := []) hx hb hml hown hE hK (hN _ _ hS) hP hD (k_isStart l D dA H.size h ad x 102 105 114 (show x.length ≤ 65536 from by omega) (show x.frm ≤ x.too from by omega) (show x.too ≤ 65537 from by omega)) (q0 := 0) rfl rfl w1015 w1014 w1016 w1017 w328 rfl rfl ⟨⟨by decide, by decide⟩, rfl⟩ ⟨(Nat.le_of_ble_eq_true rfl), (Nat.le_of_ble_eq_true rfl)⟩ rfl hl.1 rfl (Nat.le_of_ble_eq_true rfl) d_M_function_179 ⟨(Nat.le_of_ble_eq_true rfl), (Nat.le_of_ble_eq_true rfl)⟩) hP hD hS hA (fun r97 u98 H locs hp9 hP hD hS => ?_)
                      have hP : va_P D vwCl (MW dA h ad x) H := hP
                      have hD : va_D A (MW dA h ad x) := hD
                      replace hp9 : bI (x.stB 102 105 114) = r97 := Eq.symm hp9
                      subst hp9
                      refine lv_if_eq hx hb d_M_function_182 (tgt := 200) rfl (fun g99 => ?_) (fun g99 => ?_)
                      · have g99 := bI_0 g99
                        refine lv_iconst (v := (-1)) hx hb d_M_function_200 (by decide) ?_
                        exact rfI hx hb hr hlk hS () (absurd (g68.symm.trans g93) (by decide)) hP hD (Nat.le_of_ble_eq_true rfl) (Nat.le_of_ble_eq_true rfl) d_M_function_201
                      · have g99 := bI_n0 g99
                        refine lv_iload_n hx hb d_M_function_185 rfl (lv_at hl 4 rfl) ?_
                        refine lv_bipush (v := 115) hx hb d_M_function_186 (by decide) ?_
                        refine lv_icmp_ne hx hb d_M_function_188 (tgt := 200) rfl (fun h9 => absurd g93 h9) (fun _ => ?_)
                        refine lv_iload hx hb d_M_function_191 (lv_at hl 0 rfl) ?_
                        refine lv_if_eq hx hb d_M_function_193 (tgt := 200) rfl (fun _ => ?_) (fun h9 => absurd (by rw [g85]; decide) h9)
                        refine lv_iconst (v := (-1)) hx hb d_M_function_200 (by decide) ?_
                        exact rfI hx hb hr hlk hS () (absurd (g68.symm.trans g93) (by decide)) hP hD (Nat.le_of_ble_eq_true rfl) (Nat.le_of_ble_eq_true rfl) d_M_function_201
                · have g85 := bI_n0 g85
                  refine lv_iconst (v := 1) hx hb d_M_function_140 (by decide) ?_
                  refine lv_goto hx hb d_M_function_141 (tgt := 201) rfl ?_
                  exact rfI hx hb hr hlk hS () (by unfold MS.fnI MS.fn5 MS.fn6; rw [n1]; simp [g1, g2, g7, g51, g68, (of_decide_eq_true (t1.trans g85) : x.atZ ((nI x.too) - 1) = 116)]) hP hD (Nat.le_of_ble_eq_true rfl) (Nat.le_of_ble_eq_true rfl) d_M_function_201
        refine lv_iload_n hx hb d_M_function_98 rfl (lv_at hl 1 rfl) ?_
        refine lv_bipush (v := 116) hx hb d_M_function_99 (by decide) ?_
        refine lv_icmp_ne hx hb d_M_function_101 (tgt := 108) rfl (fun g100 => ?_) (fun g100 => ?_)
        · have g100 := g100
          refine lv_iconst (v := 0) hx hb d_M_function_108 (by decide) ?_
          exact J109 false (decide_eq_false g100) H _ ls hP hD hS (lv_sub hl [3, 2, 1, 0] rfl)
        · have g100 := g100
          refine lv_iconst (v := 1) hx hb d_M_function_104 (by decide) ?_
          refine lv_goto hx hb d_M_function_105 (tgt := 109) rfl ?_
          exact J109 true (decide_eq_true g100) H _ ls hP hD hS (lv_sub hl [3, 2, 1, 0] rfl)
      · have g2 := (nI_eq (a := n) (b := 4) (by omega) (by omega)).mp g2
        refine lv_aload_n hx hb d_M_function_54 rfl (lv_at hl 1 rfl) ?_
        refine lv_bipush (v := 109) hx hb d_M_function_55 (by decide) ?_
        refine lv_bipush (v := 111) hx hb d_M_function_57 (by decide) ?_
        refine lv_bipush (v := 115) hx hb d_M_function_59 (by decide) ?_
        refine lv_bipush (v := 116) hx hb d_M_function_61 (by decide) ?_
        refine lv_iconst (v := 4) hx hb d_M_function_63 (by decide) ?_
        refine jfI (rnV (As := [.int 109, .int 111, .int 115, .int 116, .int 4]) (rest := []) hx hb hml hown hE hK (hN _ _ hS) hP hD (k_isName l D dA H.size h ad x 109 111 115 116 4 (show x.length ≤ 65536 from by omega) (show x.frm ≤ x.too from by omega) (show x.too ≤ 65537 from by omega) (show 4 ≤ 4 from by omega)) (q0 := 0) rfl rfl w1019 w1018 w1020 w1021 w328 rfl rfl ⟨⟨by decide, by decide⟩, rfl⟩ ⟨(Nat.le_of_ble_eq_true rfl), (Nat.le_of_ble_eq_true rfl)⟩ rfl hl.1 rfl (Nat.le_of_ble_eq_true rfl) d_M_function_64 ⟨(Nat.le_of_ble_eq_true rfl), (Nat.le_of_ble_eq_true rfl)⟩) hP hD hS hA (fun r101 u102 H locs hp9 hP hD hS => ?_)
        have hP : va_P D vwCl (MW dA h ad x) H := hP
        have hD : va_D A (MW dA h ad x) := hD
        replace hp9 : bI (x.nmB 109 111 115 116 4) = r101 := Eq.symm hp9
        subst hp9
        refine lv_if_eq hx hb d_M_function_67 (tgt := 74) rfl (fun g103 => ?_) (fun g103 => ?_)
        · have g103 := bI_0 g103
          refine lv_iconst (v := (-1)) hx hb d_M_function_74 (by decide) ?_
          exact rfI hx hb hr hlk hS () (by unfold MS.fnI MS.fn5 MS.fn6; rw [n1]; simp [g1, g2, g103]) hP hD (Nat.le_of_ble_eq_true rfl) (Nat.le_of_ble_eq_true rfl) d_M_function_75
        · have g103 := bI_n0 g103
          refine lv_iconst (v := 3) hx hb d_M_function_70 (by decide) ?_
          refine lv_goto hx hb d_M_function_71 (tgt := 75) rfl ?_
          exact rfI hx hb hr hlk hS () (by unfold MS.fnI MS.fn5 MS.fn6; rw [n1]; simp [g1, g2, g103]) hP hD (Nat.le_of_ble_eq_true rfl) (Nat.le_of_ble_eq_true rfl) d_M_function_75
    · have g1 := (nI_eq (a := n) (b := 3) (by omega) (by omega)).mp g1
      refine lv_aload_n hx hb d_M_function_27 rfl (lv_at hl 1 rfl) ?_
      refine lv_bipush (v := 115) hx hb d_M_function_28 (by decide) ?_
      refine lv_bipush (v := 117) hx hb d_M_function_30 (by decide) ?_
      refine lv_bipush (v := 109) hx hb d_M_function_32 (by decide) ?_
      refine lv_bipush (v := 32) hx hb d_M_function_34 (by decide) ?_
      refine lv_iconst (v := 3) hx hb d_M_function_36 (by decide) ?_
      refine jfI (rnV (As := [.int 115, .int 117, .int 109, .int 32, .int 3]) (rest := []) hx hb hml hown hE hK (hN _ _ hS) hP hD (k_isName l D dA H.size h ad x 115 117 109 32 3 (show x.length ≤ 65536 from by omega) (show x.frm ≤ x.too from by omega) (show x.too ≤ 65537 from by omega) (show 3 ≤ 4 from by omega)) (q0 := 0) rfl rfl w1019 w1018 w1020 w1021 w328 rfl rfl ⟨⟨by decide, by decide⟩, rfl⟩ ⟨(Nat.le_of_ble_eq_true rfl), (Nat.le_of_ble_eq_true rfl)⟩ rfl hl.1 rfl (Nat.le_of_ble_eq_true rfl) d_M_function_37 ⟨(Nat.le_of_ble_eq_true rfl), (Nat.le_of_ble_eq_true rfl)⟩) hP hD hS hA (fun r104 u105 H locs hp9 hP hD hS => ?_)
      have hP : va_P D vwCl (MW dA h ad x) H := hP
      have hD : va_D A (MW dA h ad x) := hD
      replace hp9 : bI (x.nmB 115 117 109 32 3) = r104 := Eq.symm hp9
      subst hp9
      refine lv_if_eq hx hb d_M_function_40 (tgt := 47) rfl (fun g106 => ?_) (fun g106 => ?_)
      · have g106 := bI_0 g106
        refine lv_iconst (v := (-1)) hx hb d_M_function_47 (by decide) ?_
        exact rfI hx hb hr hlk hS () (by unfold MS.fnI MS.fn5 MS.fn6; rw [n1]; simp [g1, g106]) hP hD (Nat.le_of_ble_eq_true rfl) (Nat.le_of_ble_eq_true rfl) d_M_function_48
      · have g106 := bI_n0 g106
        refine lv_iconst (v := 0) hx hb d_M_function_43 (by decide) ?_
        refine lv_goto hx hb d_M_function_44 (tgt := 48) rfl ?_
        exact rfI hx hb hr hlk hS () (by unfold MS.fnI MS.fn5 MS.fn6; rw [n1]; simp [g1, g106]) hP hD (Nat.le_of_ble_eq_true rfl) (Nat.le_of_ble_eq_true rfl) d_M_function_48
  refine lv_aload_n hx hb d_M_function_0 rfl (lv_at hl 0 rfl) ?_
  refine gF (v := .int x.kind) hx hb hown hE hK hP 0 rfl rfl layM 44 (by decide) w469 rfl d_M_function_1 ?_
  refine lv_iconst (v := 2) hx hb d_M_function_4 (by decide) ?_
  refine lv_icmp_ne hx hb d_M_function_5 (tgt := 20) rfl (fun g107 => ?_) (fun g107 => ?_)
  · have g107 := g107
    refine lv_iconst (v := 0) hx hb d_M_function_20 (by decide) ?_
    exact J21 0 (if_neg g107) (by omega) H _ ls hP hD hS (lv_sub hl [0] rfl)
  · have g107 := g107
    refine lv_aload_n hx hb d_M_function_8 rfl (lv_at hl 0 rfl) ?_
    refine gF (v := .int (nI x.too)) hx hb hown hE hK hP 0 rfl rfl layM 46 (by decide) w463 rfl d_M_function_9 ?_
    refine lv_aload_n hx hb d_M_function_12 rfl (lv_at hl 0 rfl) ?_
    refine gF (v := .int (nI x.frm)) hx hb hown hE hK hP 0 rfl rfl layM 45 (by decide) w464 rfl d_M_function_13 ?_
    refine lv_isub hx hb d_M_function_16 (tpi (y := nI (x.too - x.frm)) (pk_sub (a := x.too) (b := x.frm) (by omega)) ?_)
    refine lv_goto hx hb d_M_function_17 (tgt := 21) rfl ?_
    exact J21 (x.too - x.frm) (if_pos g107) (by omega) H _ ls hP hD hS (lv_sub hl [0] rfl)
end
