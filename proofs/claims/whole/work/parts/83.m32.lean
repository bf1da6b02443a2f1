abbrev gaT : Type := (Nat → Bool) × (Nat → Int64) × (Nat → Int64) × (Nat → Nat)
/-- point q gathered into a cell: is there a number, the numbers, the chosen points -/
def MS.ga (x : MS) (t what q r w : Nat) : gaT :=
  if what = 0 then (va_up x.isCell ((t * 256 + r) * 64 + w) true, va_up x.cells ((t * 256 + r) * 64 + w) (x.cells ((t * 256 + r) * 64 + w) + x.pointValues q), x.keyTimes, x.keySeries)
  else if what = 1 then (va_up x.isCell ((t * 256 + r) * 64 + w) true, va_up x.cells ((t * 256 + r) * 64 + w) (x.cells ((t * 256 + r) * 64 + w) + 1), x.keyTimes, x.keySeries)
  else if what = 2 then (va_up x.isCell ((t * 256 + r) * 64 + w) true, va_up x.cells ((t * 256 + r) * 64 + w) (gLe (x.isCell ((t * 256 + r) * 64 + w)) (x.pointValues q) (x.cells ((t * 256 + r) * 64 + w))), x.keyTimes, x.keySeries)
  else if what = 3 then (va_up x.isCell ((t * 256 + r) * 64 + w) true, va_up x.cells ((t * 256 + r) * 64 + w) (gMo (x.isCell ((t * 256 + r) * 64 + w)) (x.pointValues q) (x.cells ((t * 256 + r) * 64 + w))), x.keyTimes, x.keySeries)
  else if what = 6 then (if x.hasBefore (x.pointSeries q) = true then (va_up x.isCell ((t * 256 + r) * 64 + w) true, va_up x.cells ((t * 256 + r) * 64 + w) (x.cells ((t * 256 + r) * 64 + w) + (if x.befores (x.pointSeries q) ≤ x.pointValues q then x.pointValues q - x.befores (x.pointSeries q) else x.pointValues q)), x.keyTimes, x.keySeries) else (x.isCell, x.cells, x.keyTimes, x.keySeries))
  else if (if what = 4 then x.gSo ((t * 256 + r) * 64 + w) (r * 64 + w) (x.pointSeries q) (x.pointTimes q) else x.gLa ((t * 256 + r) * 64 + w) (r * 64 + w) (x.pointSeries q) (x.pointTimes q)) = true then (va_up x.isCell ((t * 256 + r) * 64 + w) true, va_up x.cells ((t * 256 + r) * 64 + w) (x.pointValues q), va_up x.keyTimes (r * 64 + w) (x.pointTimes q), va_up x.keySeries (r * 64 + w) (x.pointSeries q))
  else (va_up x.isCell ((t * 256 + r) * 64 + w) true, x.cells, x.keyTimes, x.keySeries)
theorem ga_0 {x : MS} {t q r w : Nat} : x.ga t 0 q r w = (va_up x.isCell ((t * 256 + r) * 64 + w) true, va_up x.cells ((t * 256 + r) * 64 + w) (x.cells ((t * 256 + r) * 64 + w) + x.pointValues q), x.keyTimes, x.keySeries) := rfl
theorem ga_1 {x : MS} {t q r w : Nat} : x.ga t 1 q r w = (va_up x.isCell ((t * 256 + r) * 64 + w) true, va_up x.cells ((t * 256 + r) * 64 + w) (x.cells ((t * 256 + r) * 64 + w) + 1), x.keyTimes, x.keySeries) := rfl
theorem ga_2 {x : MS} {t q r w : Nat} : x.ga t 2 q r w = (va_up x.isCell ((t * 256 + r) * 64 + w) true, va_up x.cells ((t * 256 + r) * 64 + w) (gLe (x.isCell ((t * 256 + r) * 64 + w)) (x.pointValues q) (x.cells ((t * 256 + r) * 64 + w))), x.keyTimes, x.keySeries) := rfl
theorem ga_3 {x : MS} {t q r w : Nat} : x.ga t 3 q r w = (va_up x.isCell ((t * 256 + r) * 64 + w) true, va_up x.cells ((t * 256 + r) * 64 + w) (gMo (x.isCell ((t * 256 + r) * 64 + w)) (x.pointValues q) (x.cells ((t * 256 + r) * 64 + w))), x.keyTimes, x.keySeries) := rfl
theorem ga_6n {x : MS} {t q r w : Nat} (h : x.hasBefore (x.pointSeries q) = false) : x.ga t 6 q r w = (x.isCell, x.cells, x.keyTimes, x.keySeries) := by
  show (if x.hasBefore (x.pointSeries q) = true then _ else _) = _
  rw [if_neg (by rw [h]; decide)]
theorem ga_6 {x : MS} {t q r w : Nat} (h : x.hasBefore (x.pointSeries q) = true) : x.ga t 6 q r w = (va_up x.isCell ((t * 256 + r) * 64 + w) true, va_up x.cells ((t * 256 + r) * 64 + w) (x.cells ((t * 256 + r) * 64 + w) + (if x.befores (x.pointSeries q) ≤ x.pointValues q then x.pointValues q - x.befores (x.pointSeries q) else x.pointValues q)), x.keyTimes, x.keySeries) := if_pos h
theorem ga_4 {x : MS} {t q r w : Nat} (h : x.gSo ((t * 256 + r) * 64 + w) (r * 64 + w) (x.pointSeries q) (x.pointTimes q) = true) : x.ga t 4 q r w = (va_up x.isCell ((t * 256 + r) * 64 + w) true, va_up x.cells ((t * 256 + r) * 64 + w) (x.pointValues q), va_up x.keyTimes (r * 64 + w) (x.pointTimes q), va_up x.keySeries (r * 64 + w) (x.pointSeries q)) := if_pos h
theorem ga_4n {x : MS} {t q r w : Nat} (h : x.gSo ((t * 256 + r) * 64 + w) (r * 64 + w) (x.pointSeries q) (x.pointTimes q) = false) : x.ga t 4 q r w = (va_up x.isCell ((t * 256 + r) * 64 + w) true, x.cells, x.keyTimes, x.keySeries) := by
  show (if x.gSo ((t * 256 + r) * 64 + w) (r * 64 + w) (x.pointSeries q) (x.pointTimes q) = true then _ else _) = _
  rw [if_neg (by rw [h]; decide)]
theorem ga_5 {x : MS} {t q r w : Nat} (h : x.gLa ((t * 256 + r) * 64 + w) (r * 64 + w) (x.pointSeries q) (x.pointTimes q) = true) : x.ga t 5 q r w = (va_up x.isCell ((t * 256 + r) * 64 + w) true, va_up x.cells ((t * 256 + r) * 64 + w) (x.pointValues q), va_up x.keyTimes (r * 64 + w) (x.pointTimes q), va_up x.keySeries (r * 64 + w) (x.pointSeries q)) := if_pos h
theorem ga_5n {x : MS} {t q r w : Nat} (h : x.gLa ((t * 256 + r) * 64 + w) (r * 64 + w) (x.pointSeries q) (x.pointTimes q) = false) : x.ga t 5 q r w = (va_up x.isCell ((t * 256 + r) * 64 + w) true, x.cells, x.keyTimes, x.keySeries) := by
  show (if x.gLa ((t * 256 + r) * 64 + w) (r * 64 + w) (x.pointSeries q) (x.pointTimes q) = true then _ else _) = _
  rw [if_neg (by rw [h]; decide)]
theorem ga_ks {x : MS} {t what q r w : Nat} (h : ∀ k : Nat, x.keySeries k < 256) (hs : x.pointSeries q < 256) : ∀ k : Nat, (x.ga t what q r w).2.2.2 k < 256 := by
  intro k
  unfold MS.ga
  repeat' split
  all_goals first | exact h k | (show (if k = r * 64 + w then x.pointSeries q else x.keySeries k) < 256; split <;> first | exact hs | exact h k)
def i2n (v : Int32) : Nat := v.toInt.toNat
theorem i2n_nI {v : Int32} (h : 0 ≤ v) : v = nI (i2n v) := by
  apply Int32.toInt_inj.mp
  have h1 : (0 : Int) ≤ v.toInt := Int32.le_iff_toInt_le.mp h
  have h2 : v.toInt < 2 ^ 31 := Int32.toInt_lt v
  rw [nI_toInt (by unfold i2n; omega)]
  unfold i2n
  omega
def l2n (v : Int64) : Nat := v.toInt.toNat
theorem lN_toInt' {n : Nat} (h : n < 2 ^ 63) : (lN n).toInt = (n : Int) := by
  unfold lN
  rw [Int64.toInt_ofNat_of_lt (by omega)]
theorem l2n_lN {v : Int64} (h : 0 ≤ v) : v = lN (l2n v) := by
  apply Int64.toInt_inj.mp
  have h1 : (0 : Int) ≤ v.toInt := Int64.le_iff_toInt_le.mp h
  have h2 : v.toInt < 2 ^ 63 := Int64.toInt_lt v
  rw [lN_toInt' (by unfold l2n; omega)]
  unfold l2n
  omega
/-- the window of a time -/
def wN (a d : Int64) : Nat := l2n a / l2n d
theorem wN_eq {a d : Int64} (ha : 0 ≤ a) (hd : 1 ≤ d) : a / d = lN (wN a d) := by
  have hd1 : (1 : Int) ≤ d.toInt := Int64.le_iff_toInt_le.mp hd
  have h0 : 0 ≤ d := Int64.le_iff_toInt_le.mpr (by show (0 : Int) ≤ d.toInt; omega)
  have h2 : a.toInt < 2 ^ 63 := Int64.toInt_lt a
  have h3 : d.toInt < 2 ^ 63 := Int64.toInt_lt d
  rw [l2n_lN ha, l2n_lN h0, pk_lDiv (by unfold l2n; omega) (by unfold l2n; omega) (by unfold l2n; omega)]
  rw [← l2n_lN ha, ← l2n_lN h0]
  rfl
theorem wN_lt {a d : Int64} {n : Nat} (ha : 0 ≤ a) (hd : 1 ≤ d) (hn : n ≤ 64) (h : a / d < lN n) : wN a d < n := by
  rw [wN_eq ha hd] at h
  have h1 := Int64.lt_iff_toInt_lt.mp h
  have h2 : a.toInt < 2 ^ 63 := Int64.toInt_lt a
  have h4 : wN a d < 2 ^ 63 := Nat.lt_of_le_of_lt (Nat.div_le_self _ _) (by unfold l2n; omega)
  rw [lN_toInt' h4, lN_toInt' (by omega)] at h1
  omega
abbrev rkT : Type := (Nat → Bool) × (Nat → Int64) × (Nat → Int64) × (Nat → Nat) × (Nat → Int64) × (Nat → Bool)
def MS.pt (x : MS) (g : rkT) : MS := MS.s_hasBefore (MS.s_befores (MS.s_keySeries (MS.s_keyTimes (MS.s_isCell (MS.s_cells x g.2.1) g.1) g.2.2.1) g.2.2.2.1) g.2.2.2.2.1) g.2.2.2.2.2
def MS.inW (x : MS) (q : Nat) : Bool := !decide (x.rowOf (x.pointSeries q) < 0) && (!decide (x.pointTimes q - x.windowsFrom < 0) && !decide (lN x.windows ≤ (x.pointTimes q - x.windowsFrom) / x.width))
def MS.rkA (x : MS) (t what q : Nat) (g : rkT) : gaT := if x.inW q = true then (x.pt g).ga t what q (i2n (x.rowOf (x.pointSeries q))) (wN (x.pointTimes q - x.windowsFrom) x.width) else (g.1, g.2.1, g.2.2.1, g.2.2.2.1)
/-- point q met -/
def MS.rk1 (x : MS) (t what q : Nat) (g : rkT) : rkT :=
  if x.seen q = false then g else if x.seriesCount ≤ x.pointSeries q then g else
  ((x.rkA t what q g).1, (x.rkA t what q g).2.1, (x.rkA t what q g).2.2.1, (x.rkA t what q g).2.2.2, va_up g.2.2.2.2.1 (x.pointSeries q) (x.pointValues q), va_up g.2.2.2.2.2 (x.pointSeries q) true)
def MS.rkG (x : MS) (t what : Nat) : Nat → rkT
  | 0 => (x.isCell, x.cells, x.keyTimes, x.keySeries, x.befores, x.hasBefore)
  | q + 1 => x.rk1 t what q (x.rkG t what q)
theorem rk_n {x : MS} {t what q : Nat} {g : rkT} (h : x.rkG t what q = g) (hn : x.seen q = false ∨ x.seriesCount ≤ x.pointSeries q) : x.rkG t what (q + 1) = g := by
  show x.rk1 t what q (x.rkG t what q) = g
  rw [h]
  unfold MS.rk1
  by_cases h1 : x.seen q = false
  · rw [if_pos h1]
  · rw [if_neg h1, if_pos (hn.resolve_left h1)]
theorem rk_y {x : MS} {t what q : Nat} {g : rkT} {a : gaT} (h : x.rkG t what q = g) (h1 : x.seen q = true) (h2 : ¬ x.seriesCount ≤ x.pointSeries q) (ha : x.rkA t what q g = a) : x.rkG t what (q + 1) = (a.1, a.2.1, a.2.2.1, a.2.2.2, va_up g.2.2.2.2.1 (x.pointSeries q) (x.pointValues q), va_up g.2.2.2.2.2 (x.pointSeries q) true) := by
  show x.rk1 t what q (x.rkG t what q) = _
  rw [h]
  unfold MS.rk1
  rw [if_neg (by rw [h1]; decide), if_neg h2, ha]
set_option maxHeartbeats 4000000 in
set_option maxRecDepth 100000 in
theorem k_gather (l : Launch) (D : va_G) (dA : Nat → ClassId) (sz : Nat) (h : Nat) (ad : Nat → Nat) (x : MS) (t : Nat) (wh : Nat) (q : Nat) (r : Nat) (w : Nat) (h1 : t < 20) (h2 : r < 256) (h3 : w < 64) (h4 : q < 12000) (h5 : x.pointSeries q < 256) (h6 : x.keySeries ((r * 64) + w) < 256) (hwh : wh ≤ 6) : Met l ⟨"SeriesVaultModel", "gather", "(IIIII)V"⟩ [Cond.code ⟨"SeriesVaultModel", "gather", "(IIIII)V"⟩ prog_14_method_69_code 17 none] { frames := 2, cells := 0, slots := 0, locals := 22 } (pC D dA [.ref h, .int (nI t), .int (nI wh), .int (nI q), .int (nI r), .int (nI w)] (MW dA h ad x) sz) (va_Qv (fun (u9 : Unit) => True) (fun (u9 : Unit) t9 => bW D (va_A (MW dA h ad x) sz) (MW dA h ad (MS.s_keySeries (MS.s_keyTimes (MS.s_isCell (MS.s_cells x ((x.ga t wh q r w).2.1)) ((x.ga t wh q r w).1)) ((x.ga t wh q r w).2.2.1)) ((x.ga t wh q r w).2.2.2))) t9) (va_A (MW dA h ad x) sz)) 0 0 (va_A (MW dA h ad x) sz) := by
  rcases (show wh = 0 ∨ wh = 1 ∨ wh = 2 ∨ wh = 3 ∨ wh = 4 ∨ wh = 5 ∨ wh = 6 by omega) with rfl | rfl | rfl | rfl | rfl | rfl | rfl
  · exact metV (k_gather_0 l D dA sz h ad x t q r w h1 h2 h3 h4 h5 h6) (fun u hu => ⟨u, trivial, by show MW dA h ad _ = MW dA h ad _; rw [ga_0] <;> rfl⟩)
  · exact metV (k_gather_1 l D dA sz h ad x t q r w h1 h2 h3 h4 h5 h6) (fun u hu => ⟨u, trivial, by show MW dA h ad _ = MW dA h ad _; rw [ga_1] <;> rfl⟩)
  · exact metV (k_gather_2 l D dA sz h ad x t q r w h1 h2 h3 h4 h5 h6) (fun u hu => ⟨u, trivial, by show MW dA h ad _ = MW dA h ad _; rw [ga_2] <;> rfl⟩)
  · exact metV (k_gather_3 l D dA sz h ad x t q r w h1 h2 h3 h4 h5 h6) (fun u hu => ⟨u, trivial, by show MW dA h ad _ = MW dA h ad _; rw [ga_3] <;> rfl⟩)
  · cases g : x.gSo ((t * 256 + r) * 64 + w) (r * 64 + w) (x.pointSeries q) (x.pointTimes q) with
    | true => exact metV (k_gather_4 l D dA sz h ad x t q r w h1 h2 h3 h4 h5 h6 g) (fun u hu => ⟨u, trivial, by show MW dA h ad _ = MW dA h ad _; rw [ga_4 g] <;> rfl⟩)
    | false => exact metV (k_gather_4n l D dA sz h ad x t q r w h1 h2 h3 h4 h5 h6 g) (fun u hu => ⟨u, trivial, by show MW dA h ad _ = MW dA h ad _; rw [ga_4n g] <;> rfl⟩)
  · cases g : x.gLa ((t * 256 + r) * 64 + w) (r * 64 + w) (x.pointSeries q) (x.pointTimes q) with
    | true => exact metV (k_gather_5 l D dA sz h ad x t q r w h1 h2 h3 h4 h5 h6 g) (fun u hu => ⟨u, trivial, by show MW dA h ad _ = MW dA h ad _; rw [ga_5 g] <;> rfl⟩)
    | false => exact metV (k_gather_5n l D dA sz h ad x t q r w h1 h2 h3 h4 h5 h6 g) (fun u hu => ⟨u, trivial, by show MW dA h ad _ = MW dA h ad _; rw [ga_5n g] <;> rfl⟩)
  · cases g : x.hasBefore (x.pointSeries q) with
    | true => exact metV (k_gather_6 l D dA sz h ad x t q r w h1 h2 h3 h4 h5 h6 g) (fun u hu => ⟨u, trivial, by show MW dA h ad _ = MW dA h ad _; rw [ga_6 g] <;> rfl⟩)
    | false => exact metV (k_gather_6n l D dA sz h ad x t q r w h1 h2 h3 h4 h5 h6 g) (fun u hu => ⟨u, trivial, by show MW dA h ad _ = MW dA h ad _; rw [ga_6n g] <;> rfl⟩)
def MS.grS (x : MS) (t p : Nat) : MS := MS.s_hasBefore (MS.s_rowOf (MS.s_valueLength (MS.s_isCell (MS.s_cells (MS.s_rowSeries (MS.s_tableRows x (va_up x.tableRows t (x.grG t p x.seriesCount).1)) ((x.grG t p x.seriesCount).2.1)) (filG x.cells (t * 256 * 64) 0 ((x.grG t p x.seriesCount).1 * 64))) (filG x.isCell (t * 256 * 64) false ((x.grG t p x.seriesCount).1 * 64))) ((x.grG t p x.seriesCount).2.2.2.2)) ((x.grG t p x.seriesCount).2.2.1)) ((x.grG t p x.seriesCount).2.2.2.1)
def MS.swS (x : MS) (t : Nat) : MS := MS.s_isCell (MS.s_cells (MS.s_rowSeries (MS.s_tableRows x (va_up x.tableRows t (swG x.isCell x.cells x.rowSeries t x.windows (x.tableRows t)).1)) ((swG x.isCell x.cells x.rowSeries t x.windows (x.tableRows t)).2.2.2)) ((swG x.isCell x.cells x.rowSeries t x.windows (x.tableRows t)).2.2.1)) ((swG x.isCell x.cells x.rowSeries t x.windows (x.tableRows t)).2.1)
theorem swS_eq {x : MS} {t b : Nat} {i : Nat → Bool} {u : Nat → Int64} {r : Nat → Nat} (h : swG x.isCell x.cells x.rowSeries t x.windows (x.tableRows t) = (b, i, u, r)) : x.swS t = MS.s_isCell (MS.s_cells (MS.s_rowSeries (MS.s_tableRows x (va_up x.tableRows t b)) r) u) i := by
  unfold MS.swS
  rw [h]
def MS.rkS (x : MS) (wh p : Nat) : MS := MS.swS (MS.s_pile (MS.pt (x.grS x.pile p) ((x.grS x.pile p).rkG x.pile wh (x.grS x.pile p).points)) ((x.grS x.pile p).pile + 1)) x.pile
theorem gr_ro {x : MS} {t p : Nat} : ∀ k, k ≤ 256 → ∀ s, s < k → (x.grG t p k).2.2.1 s = -1 ∨ ∃ r, r < (x.grG t p k).1 ∧ (x.grG t p k).2.2.1 s = nI r
  | 0, _, s, hs => absurd hs (Nat.not_lt_zero s)
  | k + 1, hk, s, hs => by
    have ih := gr_ro (x := x) (t := t) (p := p) k (by omega)
    obtain ⟨n, rs, ro, hb, v, hg⟩ : ∃ z1 z2 z3 z4 z5, x.grG t p k = (z1, z2, z3, z4, z5) := ⟨_, _, _, _, _, rfl⟩
    have hn : n ≤ k := by
      have := gr_le' (x := x) (t := t) (p := p) k
      rw [hg] at this
      exact this
    rw [hg] at ih
    have ih : ∀ s, s < k → ro s = -1 ∨ ∃ r, r < n ∧ ro s = nI r := ih
    cases hm : ((MS.s_valueLength x v).mt k p).1 with
    | false =>
      rw [gr_no hg hm]
      show va_up ro k (-1) s = -1 ∨ ∃ r, r < n ∧ va_up ro k (-1) s = nI r
      unfold va_up
      by_cases e : s = k
      · exact Or.inl (if_pos e)
      · rw [if_neg e]
        exact ih s (by omega)
    | true =>
      obtain ⟨v2, hv2⟩ : ∃ z, (MS.s_valueLength x v).mt k p = (true, z) := ⟨_, Prod.ext hm rfl⟩
      obtain ⟨r, v3, hf⟩ : ∃ z1 z2, x.fr t k rs n (n + 1) 0 v2 = (z1, z2) := ⟨_, _, rfl⟩
      have hr : r ≤ n := by
        have := fr_le (x := x) (t := t) (s := k) (rs := rs) (n := n) (n + 1) 0 v2 (Nat.zero_le n)
        rw [hf] at this
        exact this
      rw [gr_y hg hv2 hf]
      cases hi : (x.gi t k rs n r v3).1 with
      | false =>
        obtain ⟨v4, h4⟩ : ∃ z, x.gi t k rs n r v3 = (false, z) := ⟨_, Prod.ext hi rfl⟩
        have hrn : r < n := by
          refine Nat.lt_of_le_of_ne hr (fun z => ?_)
          rw [show x.gi t k rs n r v3 = (true, v3) from if_pos z.symm] at hi
          cases hi
        rw [gr_old h4]
        show va_up (va_up ro k (-1)) k (nI r) s = -1 ∨ ∃ r', r' < n ∧ va_up (va_up ro k (-1)) k (nI r) s = nI r'
        unfold va_up
        by_cases e : s = k
        · exact Or.inr ⟨r, hrn, if_pos e⟩
        · rw [if_neg e, if_neg e]
          exact ih s (by omega)
      | true =>
        obtain ⟨v4, h4⟩ : ∃ z, x.gi t k rs n r v3 = (true, z) := ⟨_, Prod.ext hi rfl⟩
        rw [grN_new h4]
        show va_up (mapT k (bmF (va_up ro k (-1)) r) (bmG (va_up ro k (-1))) (va_up ro k (-1))) k (nI r) s = -1 ∨ ∃ r', r' < n + 1 ∧ va_up (mapT k (bmF (va_up ro k (-1)) r) (bmG (va_up ro k (-1))) (va_up ro k (-1))) k (nI r) s = nI r'
        by_cases e : s = k
        · refine Or.inr ⟨r, by omega, ?_⟩
          rw [e]
          exact va_us _ _ _
        · have e1 : va_up (mapT k (bmF (va_up ro k (-1)) r) (bmG (va_up ro k (-1))) (va_up ro k (-1))) k (nI r) s = mapT k (bmF (va_up ro k (-1)) r) (bmG (va_up ro k (-1))) (va_up ro k (-1)) s := if_neg e
          have e2 : va_up ro k (-1) s = ro s := if_neg e
          rw [e1]
          unfold mapT bmF bmG
          rw [e2]
          rcases ih s (by omega) with h | ⟨r1, h1, h2⟩
          · rw [h, decide_eq_true (by
              have : (-1 : Int32) < 0 := by decide
              exact Int32.lt_of_lt_of_le this (by
                rw [Int32.le_iff_toInt_le, nI_toInt (by omega)]
                exact Int.natCast_nonneg r)), if_neg (fun z => by simp at z)]
            exact Or.inl rfl
          · refine Or.inr ?_
            rw [h2]
            by_cases c : s < k ∧ (!decide (nI r1 < nI r)) = true
            · rw [if_pos c]
              exact ⟨r1 + 1, by omega, nI_add r1 1⟩
            · rw [if_neg c]
              exact ⟨r1, by omega, rfl⟩
theorem ro_lt {v : Int32} {n : Nat} (hn : n ≤ 256) (h : v = -1 ∨ ∃ r, r < n ∧ v = nI r) : i2n v < 256 := by
  rcases h with h | ⟨r, h1, h2⟩
  · subst h
    decide
  · subst h2
    unfold i2n
    rw [nI_toInt (by omega)]
    omega
theorem wd_nz {d : Int64} (h : 1 ≤ d) : ¬ d = 0 := fun z => by
  subst z
  exact absurd h (by decide)
theorem d_M_reckon_0 : decode prog_14_method_70_code 0 = .ok (.aload_n 0, 1) := by decide +kernel
theorem d_M_reckon_1 : decode prog_14_method_70_code 1 = .ok (.getfield 400, 3) := by decide +kernel
theorem d_M_reckon_4 : decode prog_14_method_70_code 4 = .ok (.istore_n 3, 1) := by decide +kernel
theorem d_M_reckon_11 : decode prog_14_method_70_code 11 = .ok (.iconst 0, 1) := by decide +kernel
theorem d_M_reckon_12 : decode prog_14_method_70_code 12 = .ok (.istore 4, 2) := by decide +kernel
theorem d_M_reckon_14 : decode prog_14_method_70_code 14 = .ok (.iload 4, 2) := by decide +kernel
theorem d_M_reckon_16 : decode prog_14_method_70_code 16 = .ok (.aload_n 0, 1) := by decide +kernel
theorem d_M_reckon_17 : decode prog_14_method_70_code 17 = .ok (.getfield 169, 3) := by decide +kernel
theorem d_M_reckon_20 : decode prog_14_method_70_code 20 = .ok (.if_icmp .ge 131, 3) := by decide +kernel
theorem d_M_reckon_151 : decode prog_14_method_70_code 151 = .ok (.aload_n 0, 1) := by decide +kernel
theorem d_M_reckon_152 : decode prog_14_method_70_code 152 = .ok (.dup, 1) := by decide +kernel
theorem d_M_reckon_153 : decode prog_14_method_70_code 153 = .ok (.getfield 400, 3) := by decide +kernel
theorem d_M_reckon_156 : decode prog_14_method_70_code 156 = .ok (.iconst 1, 1) := by decide +kernel
theorem d_M_reckon_157 : decode prog_14_method_70_code 157 = .ok (.iadd, 1) := by decide +kernel
theorem d_M_reckon_158 : decode prog_14_method_70_code 158 = .ok (.putfield 400, 3) := by decide +kernel
theorem d_M_reckon_161 : decode prog_14_method_70_code 161 = .ok (.aload_n 0, 1) := by decide +kernel
theorem d_M_reckon_162 : decode prog_14_method_70_code 162 = .ok (.iload_n 3, 1) := by decide +kernel
theorem d_M_reckon_163 : decode prog_14_method_70_code 163 = .ok (.invokevirtual 419, 3) := by decide +kernel
theorem d_M_reckon_166 : decode prog_14_method_70_code 166 = .ok (.return_, 1) := by decide +kernel
theorem d_M_reckon_23 : decode prog_14_method_70_code 23 = .ok (.aload_n 0, 1) := by decide +kernel
theorem d_M_reckon_24 : decode prog_14_method_70_code 24 = .ok (.getfield 43, 3) := by decide +kernel
theorem d_M_reckon_27 : decode prog_14_method_70_code 27 = .ok (.iload 4, 2) := by decide +kernel
theorem d_M_reckon_29 : decode prog_14_method_70_code 29 = .ok (.iaload, 1) := by decide +kernel
theorem d_M_reckon_30 : decode prog_14_method_70_code 30 = .ok (.istore 5, 2) := by decide +kernel
theorem d_M_reckon_32 : decode prog_14_method_70_code 32 = .ok (.aload_n 0, 1) := by decide +kernel
theorem d_M_reckon_33 : decode prog_14_method_70_code 33 = .ok (.iload 4, 2) := by decide +kernel
theorem d_M_reckon_35 : decode prog_14_method_70_code 35 = .ok (.invokevirtual 207, 3) := by decide +kernel
theorem d_M_reckon_38 : decode prog_14_method_70_code 38 = .ok (.ifCond .eq 107, 3) := by decide +kernel
theorem d_M_reckon_145 : decode prog_14_method_70_code 145 = .ok (.iinc 4 1, 3) := by decide +kernel
theorem d_M_reckon_148 : decode prog_14_method_70_code 148 = .ok (.goto (-134), 3) := by decide +kernel
theorem d_M_reckon_41 : decode prog_14_method_70_code 41 = .ok (.iload 5, 2) := by decide +kernel
theorem d_M_reckon_43 : decode prog_14_method_70_code 43 = .ok (.aload_n 0, 1) := by decide +kernel
theorem d_M_reckon_44 : decode prog_14_method_70_code 44 = .ok (.getfield 160, 3) := by decide +kernel
theorem d_M_reckon_47 : decode prog_14_method_70_code 47 = .ok (.if_icmp .lt 6, 3) := by decide +kernel
theorem d_M_reckon_53 : decode prog_14_method_70_code 53 = .ok (.aload_n 0, 1) := by decide +kernel
theorem d_M_reckon_54 : decode prog_14_method_70_code 54 = .ok (.getfield 46, 3) := by decide +kernel
theorem d_M_reckon_57 : decode prog_14_method_70_code 57 = .ok (.iload 4, 2) := by decide +kernel
theorem d_M_reckon_59 : decode prog_14_method_70_code 59 = .ok (.laload, 1) := by decide +kernel
theorem d_M_reckon_60 : decode prog_14_method_70_code 60 = .ok (.aload_n 0, 1) := by decide +kernel
theorem d_M_reckon_61 : decode prog_14_method_70_code 61 = .ok (.getfield 406, 3) := by decide +kernel
theorem d_M_reckon_64 : decode prog_14_method_70_code 64 = .ok (.lsub, 1) := by decide +kernel
theorem d_M_reckon_65 : decode prog_14_method_70_code 65 = .ok (.lstore 6, 2) := by decide +kernel
theorem d_M_reckon_123 : decode prog_14_method_70_code 123 = .ok (.aload_n 0, 1) := by decide +kernel
theorem d_M_reckon_124 : decode prog_14_method_70_code 124 = .ok (.getfield 120, 3) := by decide +kernel
theorem d_M_reckon_127 : decode prog_14_method_70_code 127 = .ok (.iload 5, 2) := by decide +kernel
theorem d_M_reckon_129 : decode prog_14_method_70_code 129 = .ok (.aload_n 0, 1) := by decide +kernel
theorem d_M_reckon_130 : decode prog_14_method_70_code 130 = .ok (.getfield 49, 3) := by decide +kernel
theorem d_M_reckon_133 : decode prog_14_method_70_code 133 = .ok (.iload 4, 2) := by decide +kernel
theorem d_M_reckon_135 : decode prog_14_method_70_code 135 = .ok (.laload, 1) := by decide +kernel
theorem d_M_reckon_136 : decode prog_14_method_70_code 136 = .ok (.lastore, 1) := by decide +kernel
theorem d_M_reckon_137 : decode prog_14_method_70_code 137 = .ok (.aload_n 0, 1) := by decide +kernel
theorem d_M_reckon_138 : decode prog_14_method_70_code 138 = .ok (.getfield 123, 3) := by decide +kernel
theorem d_M_reckon_141 : decode prog_14_method_70_code 141 = .ok (.iload 5, 2) := by decide +kernel
theorem d_M_reckon_143 : decode prog_14_method_70_code 143 = .ok (.iconst 1, 1) := by decide +kernel
theorem d_M_reckon_144 : decode prog_14_method_70_code 144 = .ok (.bastore, 1) := by decide +kernel
theorem d_M_reckon_67 : decode prog_14_method_70_code 67 = .ok (.aload_n 0, 1) := by decide +kernel
theorem d_M_reckon_68 : decode prog_14_method_70_code 68 = .ok (.getfield 111, 3) := by decide +kernel
theorem d_M_reckon_71 : decode prog_14_method_70_code 71 = .ok (.iload 5, 2) := by decide +kernel
theorem d_M_reckon_73 : decode prog_14_method_70_code 73 = .ok (.iaload, 1) := by decide +kernel
theorem d_M_reckon_74 : decode prog_14_method_70_code 74 = .ok (.ifCond .lt 49, 3) := by decide +kernel
theorem d_M_reckon_77 : decode prog_14_method_70_code 77 = .ok (.lload 6, 2) := by decide +kernel
theorem d_M_reckon_79 : decode prog_14_method_70_code 79 = .ok (.lconst 0, 1) := by decide +kernel
theorem d_M_reckon_80 : decode prog_14_method_70_code 80 = .ok (.lcmp, 1) := by decide +kernel
theorem d_M_reckon_81 : decode prog_14_method_70_code 81 = .ok (.ifCond .lt 42, 3) := by decide +kernel
theorem d_M_reckon_84 : decode prog_14_method_70_code 84 = .ok (.lload 6, 2) := by decide +kernel
theorem d_M_reckon_86 : decode prog_14_method_70_code 86 = .ok (.aload_n 0, 1) := by decide +kernel
theorem d_M_reckon_87 : decode prog_14_method_70_code 87 = .ok (.getfield 409, 3) := by decide +kernel
theorem d_M_reckon_90 : decode prog_14_method_70_code 90 = .ok (.ldiv, 1) := by decide +kernel
theorem d_M_reckon_91 : decode prog_14_method_70_code 91 = .ok (.aload_n 0, 1) := by decide +kernel
theorem d_M_reckon_92 : decode prog_14_method_70_code 92 = .ok (.getfield 412, 3) := by decide +kernel
theorem d_M_reckon_95 : decode prog_14_method_70_code 95 = .ok (.i2l, 1) := by decide +kernel
theorem d_M_reckon_96 : decode prog_14_method_70_code 96 = .ok (.lcmp, 1) := by decide +kernel
theorem d_M_reckon_97 : decode prog_14_method_70_code 97 = .ok (.ifCond .ge 26, 3) := by decide +kernel
theorem d_M_reckon_100 : decode prog_14_method_70_code 100 = .ok (.aload_n 0, 1) := by decide +kernel
theorem d_M_reckon_101 : decode prog_14_method_70_code 101 = .ok (.iload_n 3, 1) := by decide +kernel
theorem d_M_reckon_102 : decode prog_14_method_70_code 102 = .ok (.iload_n 1, 1) := by decide +kernel
theorem d_M_reckon_103 : decode prog_14_method_70_code 103 = .ok (.iload 4, 2) := by decide +kernel
theorem d_M_reckon_105 : decode prog_14_method_70_code 105 = .ok (.aload_n 0, 1) := by decide +kernel
theorem d_M_reckon_106 : decode prog_14_method_70_code 106 = .ok (.getfield 111, 3) := by decide +kernel
theorem d_M_reckon_109 : decode prog_14_method_70_code 109 = .ok (.iload 5, 2) := by decide +kernel
theorem d_M_reckon_111 : decode prog_14_method_70_code 111 = .ok (.iaload, 1) := by decide +kernel
theorem d_M_reckon_112 : decode prog_14_method_70_code 112 = .ok (.lload 6, 2) := by decide +kernel
theorem d_M_reckon_114 : decode prog_14_method_70_code 114 = .ok (.aload_n 0, 1) := by decide +kernel
theorem d_M_reckon_115 : decode prog_14_method_70_code 115 = .ok (.getfield 409, 3) := by decide +kernel
theorem d_M_reckon_118 : decode prog_14_method_70_code 118 = .ok (.ldiv, 1) := by decide +kernel
theorem d_M_reckon_119 : decode prog_14_method_70_code 119 = .ok (.l2i, 1) := by decide +kernel
theorem d_M_reckon_120 : decode prog_14_method_70_code 120 = .ok (.invokevirtual 415, 3) := by decide +kernel
theorem d_M_reckon_50 : decode prog_14_method_70_code 50 = .ok (.goto 95, 3) := by decide +kernel
theorem d_M_reckon_5 : decode prog_14_method_70_code 5 = .ok (.aload_n 0, 1) := by decide +kernel
theorem d_M_reckon_6 : decode prog_14_method_70_code 6 = .ok (.iload_n 3, 1) := by decide +kernel
theorem d_M_reckon_7 : decode prog_14_method_70_code 7 = .ok (.iload_n 2, 1) := by decide +kernel
theorem d_M_reckon_8 : decode prog_14_method_70_code 8 = .ok (.invokevirtual 403, 3) := by decide +kernel
theorem w990 : Cond.methodLink "SeriesVaultModel" 419 ⟨"SeriesVaultModel", "sweep", "(I)V"⟩ ∈ aW := aw_of (tb_11 (List.mem_of_getElem? (i := 4) rfl)) rfl
theorem w991 : Cond.code ⟨"SeriesVaultModel", "sweep", "(I)V"⟩ prog_14_method_71_code 6 none ∈ aW := aw_of (tb_11 (List.mem_of_getElem? (i := 7) rfl)) rfl
theorem w992 : Cond.instanceMethod ⟨"SeriesVaultModel", "sweep", "(I)V"⟩ ∈ aW := aw_of (tb_11 (List.mem_of_getElem? (i := 6) rfl)) rfl
theorem w993 : Cond.selects "SeriesVaultModel" ⟨"SeriesVaultModel", "sweep", "(I)V"⟩ ⟨"SeriesVaultModel", "sweep", "(I)V"⟩ ∈ aW := aw_pr (List.mem_map.mpr ⟨_, pv_8 (List.mem_of_getElem? (i := 2) rfl), rfl⟩) rfl
theorem w994 : Cond.methodLink "SeriesVaultModel" 415 ⟨"SeriesVaultModel", "gather", "(IIIII)V"⟩ ∈ aW := aw_of (tb_10 (List.mem_of_getElem? (i := 237) rfl)) rfl
theorem w995 : Cond.code ⟨"SeriesVaultModel", "gather", "(IIIII)V"⟩ prog_14_method_69_code 17 none ∈ aW := aw_of (tb_11 (List.mem_of_getElem? (i := 0) rfl)) rfl
theorem w996 : Cond.instanceMethod ⟨"SeriesVaultModel", "gather", "(IIIII)V"⟩ ∈ aW := aw_of (tb_10 (List.mem_of_getElem? (i := 239) rfl)) rfl
theorem w997 : Cond.selects "SeriesVaultModel" ⟨"SeriesVaultModel", "gather", "(IIIII)V"⟩ ⟨"SeriesVaultModel", "gather", "(IIIII)V"⟩ ∈ aW := aw_pr (List.mem_map.mpr ⟨_, pv_8 (List.mem_of_getElem? (i := 1) rfl), rfl⟩) rfl
theorem w998 : Cond.methodLink "SeriesVaultModel" 403 ⟨"SeriesVaultModel", "group", "(II)V"⟩ ∈ aW := aw_of (tb_10 (List.mem_of_getElem? (i := 221) rfl)) rfl
theorem w999 : Cond.code ⟨"SeriesVaultModel", "group", "(II)V"⟩ prog_14_method_68_code 6 none ∈ aW := aw_of (tb_10 (List.mem_of_getElem? (i := 224) rfl)) rfl
theorem w1000 : Cond.instanceMethod ⟨"SeriesVaultModel", "group", "(II)V"⟩ ∈ aW := aw_of (tb_10 (List.mem_of_getElem? (i := 223) rfl)) rfl
theorem w1001 : Cond.selects "SeriesVaultModel" ⟨"SeriesVaultModel", "group", "(II)V"⟩ ⟨"SeriesVaultModel", "group", "(II)V"⟩ ∈ aW := aw_pr (List.mem_map.mpr ⟨_, pv_7 (List.mem_of_getElem? (i := 13) rfl), rfl⟩) rfl
set_option maxHeartbeats 4000000 in
set_option maxRecDepth 100000 in
theorem k_reckon (l : Launch) (D : va_G) (dA : Nat → ClassId) (sz : Nat) (h : Nat) (ad : Nat → Nat) (x : MS) (wh : Nat) (p7 : Nat) (hpl : x.pile < 20) (hsc : x.seriesCount ≤ 256) (hts : ∀ q : Nat, q < x.seriesCount → x.tOK q) (hmo : x.mOK p7) (hno : x.nOK x.pile) (hl1 : x.length ≤ 65536) (hpt : x.points ≤ 12000) (hps : ∀ q : Nat, q < x.points → x.pointSeries q < 256) (hwi : x.windows ≤ 64) (hwd : 1 ≤ x.width) (hks : ∀ q : Nat, x.keySeries q < 256) (hwh : wh ≤ 6) : Met l ⟨"SeriesVaultModel", "reckon", "(II)V"⟩ [Cond.code ⟨"SeriesVaultModel", "reckon", "(II)V"⟩ prog_14_method_70_code 8 none] { frames := 4, cells := 0, slots := 0, locals := 86 } (pC D dA [.ref h, .int (nI wh), .int (nI p7)] (MW dA h ad x) sz) (va_Qv (fun (u9 : MS) => u9 = x.rkS wh p7) (fun (u9 : MS) t9 => bW D (va_A (MW dA h ad x) sz) (MW dA h ad u9) t9) (va_A (MW dA h ad x) sz)) 0 0 (va_A (MW dA h ad x) sz) := by
  refine mkC (y := ⟨"SeriesVaultModel", "reckon", "(II)V"⟩) (cc := prog_14_method_70_code) (maxL := 8) (av := [.ref h, .int (nI wh), .int (nI p7)]) (ws := MW dA h ad x) (sz := sz) (Qc := fun A => va_Qv (fun (u9 : MS) => u9 = x.rkS wh p7) (fun (u9 : MS) t9 => bW D A (MW dA h ad u9) t9) A) (by decide) (Nat.le_of_ble_eq_true rfl) ?_
  intro A p e s m below meth c ls hsz hB
  obtain ⟨hx, hb, hr, hml, hown, hin, hlk, hE, hK, hP, hD, hS, hA, hN, hl⟩ := hB
  have hown : s.vm.findClass "SeriesVaultModel" = some m.cls := hown
  have hl : lv_has ls 8 [(0, .ref h), (1, .int (nI wh)), (2, .int (nI p7))] := hl
  obtain ⟨H, hH⟩ : ∃ z, z = s.heap := ⟨_, rfl⟩
  have hP : va_P D vwCl (MW dA h ad x) H := by rw [hH]; exact hP
  have hS : va_S A s.heap H [] := by rw [hH]; exact hS
  rw [← hH]
  obtain ⟨n9, rs9, ro9, hb9, v9, hgr⟩ : ∃ z1 z2 z3 z4 z5, x.grG x.pile p7 x.seriesCount = (z1, z2, z3, z4, z5) := ⟨_, _, _, _, _, rfl⟩
  have n9l : n9 ≤ 256 := gr_le hsc hgr
  have hro := gr_ro (x := x) (t := x.pile) (p := p7) x.seriesCount hsc
  rw [hgr] at hro
  refine lv_aload_n hx hb d_M_reckon_0 rfl (lv_at hl 0 rfl) ?_
  refine gF (v := .int (nI x.pile)) hx hb hown hE hK hP 0 rfl rfl layM 55 (by decide) w476 rfl d_M_reckon_1 ?_
  refine lv_istore_n hx hb d_M_reckon_4 rfl hl (by decide) rfl (fun ls hl => ?_)
  have hl : lv_has ls 8 [(3, .int (nI x.pile)), (0, .ref h), (1, .int (nI wh)), (2, .int (nI p7))] := hl
  have J11 : ∀ (z : MS) (ez : z = x.grS x.pile p7) (z1 : z.points = x.points) (z2 : z.pointSeries = x.pointSeries) (z3 : z.windows = x.windows) (z4 : z.width = x.width) (z5 : z.keySeries = x.keySeries) (z6 : z.rowOf = ro9) (z7 : z.tableRows x.pile = n9) (z8 : z.seriesCount = x.seriesCount) (z9p : z.pile = x.pile), ∀ (H : Heap) (locs : List Loc) (ls : Array Slot) (hP : va_P D vwCl (MW dA h ad z) H) (hD : va_D A (MW dA h ad z)) (hS : va_S A s.heap H locs) (hl : lv_has ls 8 [(1, .int (nI wh)), (2, .int (nI p7)), (3, .int (nI x.pile)), (0, .ref h)]), W p l e ({ frames := 4, cells := 0, slots := 0, locals := 86 } : Room) s m ([.ref h, .int (nI wh), .int (nI p7)] : List Value).toArray below meth c H locs 0 0 (MQ below (va_Qv (fun (u9 : MS) => u9 = x.rkS wh p7) (fun (u9 : MS) t9 => bW D A (MW dA h ad u9) t9) A) ([.ref h, .int (nI wh), .int (nI p7)] : List Value).toArray s 0 0 A) (F0 m 11 ls []) := by
    intro z ez z1 z2 z3 z4 z5 z6 z7 z8 z9p H locs ls hP hD hS hl
    refine lv_iconst (v := 0) hx hb d_M_reckon_11 (by decide) ?_
    refine lv_istore hx hb d_M_reckon_12 hl (by decide) rfl (fun ls hl => ?_)
    have hl : lv_has ls 8 [(4, .int 0), (1, .int (nI wh)), (2, .int (nI p7)), (3, .int (nI x.pile)), (0, .ref h)] := hl
    have L14 : ∀ (k9 : Nat) (q : Nat) (c1 : Nat → Bool) (c2 : Nat → Int64) (c3 : Nat → Int64) (c4 : Nat → Nat) (c5 : Nat → Int64) (c6 : Nat → Bool) (i1 : q ≤ z.points) (i2 : z.rkG x.pile wh q = (c1, c2, c3, c4, c5, c6)) (i4 : ∀ q : Nat, c4 q < 256) (hk9 : z.points - q = k9), ∀ (H : Heap) (locs : List Loc) (ls : Array Slot) (hP : va_P D vwCl (MW dA h ad (MS.s_hasBefore (MS.s_befores (MS.s_keySeries (MS.s_keyTimes (MS.s_isCell (MS.s_cells z c2) c1) c3) c4) c5) c6)) H) (hD : va_D A (MW dA h ad (MS.s_hasBefore (MS.s_befores (MS.s_keySeries (MS.s_keyTimes (MS.s_isCell (MS.s_cells z c2) c1) c3) c4) c5) c6))) (hS : va_S A s.heap H locs) (hl : lv_has ls 8 [(4, .int (nI q)), (1, .int (nI wh)), (2, .int (nI p7)), (3, .int (nI x.pile)), (0, .ref h)]), W p l e ({ frames := 4, cells := 0, slots := 0, locals := 86 } : Room) s m ([.ref h, .int (nI wh), .int (nI p7)] : List Value).toArray below meth c H locs 0 0 (MQ below (va_Qv (fun (u9 : MS) => u9 = x.rkS wh p7) (fun (u9 : MS) t9 => bW D A (MW dA h ad u9) t9) A) ([.ref h, .int (nI wh), .int (nI p7)] : List Value).toArray s 0 0 A) (F0 m 14 ls []) := by
      intro k9
      induction k9 using Nat.strongRecOn with
      | ind k9 ih14 =>
        intro q c1 c2 c3 c4 c5 c6 i1 i2 i4 hk9 H locs ls hP hD hS hl
        refine lv_iload hx hb d_M_reckon_14 (lv_at hl 0 rfl) ?_
        refine lv_aload_n hx hb d_M_reckon_16 rfl (lv_at hl 4 rfl) ?_
        refine gF (v := .int (nI z.points)) hx hb hown hE hK hP 0 rfl rfl layM 23 (by decide) w420 rfl d_M_reckon_17 ?_
        refine lv_icmp_ge hx hb d_M_reckon_20 (tgt := 151) rfl (fun g1 => ?_) (fun g1 => ?_)
        · have g1 := (nI_leI (a := z.points) (b := q) (by omega) (by omega)).mp g1
          refine lv_aload_n hx hb d_M_reckon_151 rfl (lv_at hl 4 rfl) ?_
          refine lv_dup hx hb d_M_reckon_152 rfl ?_
          refine gF (v := .int (nI z.pile)) hx hb hown hE hK hP 0 rfl rfl layM 55 (by decide) w476 rfl d_M_reckon_153 ?_
          refine lv_iconst (v := 1) hx hb d_M_reckon_156 (by decide) ?_
          refine lv_iadd hx hb d_M_reckon_157 (tpi (y := nI (z.pile + 1)) (nI_add (z.pile) (1)) ?_)
          refine pF (v := .int (nI (z.pile + 1))) hx hb hown hE hK hP hD hS 0 rfl rfl layM tyM tokM nmM 55 (by decide) w476 rfl rfl rfl (Nat.le_of_ble_eq_true rfl) d_M_reckon_158 (fun H locs hP hD hS => ?_)
          have hP : va_P D vwCl (MW dA h ad (MS.s_hasBefore (MS.s_befores (MS.s_keySeries (MS.s_keyTimes (MS.s_pile (MS.s_isCell (MS.s_cells z c2) c1) (z.pile + 1)) c3) c4) c5) c6)) H := hP
          have hD : va_D A (MW dA h ad (MS.s_hasBefore (MS.s_befores (MS.s_keySeries (MS.s_keyTimes (MS.s_pile (MS.s_isCell (MS.s_cells z c2) c1) (z.pile + 1)) c3) c4) c5) c6)) := hD
          have hk : z.rkG x.pile wh z.points = (c1, c2, c3, c4, c5, c6) := by rw [← show q = z.points by omega]; exact i2
          obtain ⟨b9, i9, u9c, r9x, hsw⟩ : ∃ z1 z2 z3 z4, swG c1 c2 z.rowSeries x.pile z.windows (z.tableRows x.pile) = (z1, z2, z3, z4) := ⟨_, _, _, _, rfl⟩
          refine lv_aload_n hx hb d_M_reckon_161 rfl (lv_at hl 4 rfl) ?_
          refine lv_iload_n hx hb d_M_reckon_162 rfl (lv_at hl 3 rfl) ?_
          refine jfV (rnV (As := [.int (nI x.pile)]) (rest := []) hx hb hml hown hE hK (hN _ _ hS) hP hD (k_sweep l D dA H.size h ad (MS.s_hasBefore (MS.s_befores (MS.s_keySeries (MS.s_keyTimes (MS.s_pile (MS.s_isCell (MS.s_cells z c2) c1) (z.pile + 1)) c3) c4) c5) c6) x.pile b9 i9 u9c r9x hpl (show z.windows ≤ 64 from by omega) (show z.tableRows x.pile ≤ 256 from by omega) hsw) (q0 := 0) rfl rfl w991 w990 w992 w993 w328 rfl rfl ⟨⟨by decide, by decide⟩, rfl⟩ ⟨(Nat.le_of_ble_eq_true rfl), (Nat.le_of_ble_eq_true rfl)⟩ rfl hl.1 rfl (Nat.le_of_ble_eq_true rfl) d_M_reckon_163 ⟨(Nat.le_of_ble_eq_true rfl), (Nat.le_of_ble_eq_true rfl)⟩) hP hD hS hA (fun u3 H locs hp9 hP hD hS => ?_)
          have hP : va_P D vwCl (MW dA h ad (MS.s_hasBefore (MS.s_befores (MS.s_keySeries (MS.s_keyTimes (MS.s_pile (MS.s_isCell (MS.s_cells (MS.s_rowSeries (MS.s_tableRows z (va_up z.tableRows x.pile b9)) r9x) u9c) i9) (z.pile + 1)) c3) c4) c5) c6)) H := hP
          have hD : va_D A (MW dA h ad (MS.s_hasBefore (MS.s_befores (MS.s_keySeries (MS.s_keyTimes (MS.s_pile (MS.s_isCell (MS.s_cells (MS.s_rowSeries (MS.s_tableRows z (va_up z.tableRows x.pile b9)) r9x) u9c) i9) (z.pile + 1)) c3) c4) c5) c6)) := hD
          exact rfV hx hb hr hlk hS (MS.s_hasBefore (MS.s_befores (MS.s_keySeries (MS.s_keyTimes (MS.s_pile (MS.s_isCell (MS.s_cells (MS.s_rowSeries (MS.s_tableRows z (va_up z.tableRows x.pile b9)) r9x) u9c) i9) (z.pile + 1)) c3) c4) c5) c6) (by show _ = MS.swS (MS.s_pile (MS.pt (x.grS x.pile p7) ((x.grS x.pile p7).rkG x.pile wh (x.grS x.pile p7).points)) ((x.grS x.pile p7).pile + 1)) x.pile; rw [← ez, hk]; exact (swS_eq (x := MS.s_pile (MS.pt z (c1, c2, c3, c4, c5, c6)) (z.pile + 1)) (t := x.pile) hsw).symm) hP hD (Nat.le_of_ble_eq_true rfl) (Nat.le_of_ble_eq_true rfl) d_M_reckon_166
        · have g1 := mt (nI_leI (a := z.points) (b := q) (by omega) (by omega)).mpr g1
          have s7 := hps q (by omega)
          have s8 : z.pointSeries q < 256 := by rw [z2]; exact s7
          refine lv_aload_n hx hb d_M_reckon_23 rfl (lv_at hl 4 rfl) ?_
          refine gF (v := .ref (ad 17)) hx hb hown hE hK hP 0 rfl rfl layM 17 (by decide) w503 rfl d_M_reckon_24 ?_
          refine lv_iload hx hb d_M_reckon_27 (lv_at hl 0 rfl) ?_
          refine nild (f := (fun z9 => nI (z.pointSeries z9))) hx hb hK hP 6 1 rfl rfl (q) (by omega) (by decide) d_M_reckon_29 ?_
          refine lv_istore hx hb d_M_reckon_30 hl (by decide) rfl (fun ls hl => ?_)
          have hl : lv_has ls 8 [(5, .int (nI (z.pointSeries q))), (4, .int (nI q)), (1, .int (nI wh)), (2, .int (nI p7)), (3, .int (nI x.pile)), (0, .ref h)] := hl
          refine lv_aload_n hx hb d_M_reckon_32 rfl (lv_at hl 5 rfl) ?_
          refine lv_iload hx hb d_M_reckon_33 (lv_at hl 1 rfl) ?_
          refine jfI (rnV (As := [.int (nI q)]) (rest := []) hx hb hml hown hE hK (hN _ _ hS) hP hD (k_isSeen l D dA H.size h ad (MS.s_hasBefore (MS.s_befores (MS.s_keySeries (MS.s_keyTimes (MS.s_isCell (MS.s_cells z c2) c1) c3) c4) c5) c6) q (show q < 12000 from by omega)) (q0 := 0) rfl rfl w861 w860 w862 w863 w328 rfl rfl ⟨⟨by decide, by decide⟩, rfl⟩ ⟨(Nat.le_of_ble_eq_true rfl), (Nat.le_of_ble_eq_true rfl)⟩ rfl hl.1 rfl (Nat.le_of_ble_eq_true rfl) d_M_reckon_35 ⟨(Nat.le_of_ble_eq_true rfl), (Nat.le_of_ble_eq_true rfl)⟩) hP hD hS hA (fun r4 u5 H locs hp9 hP hD hS => ?_)
          have hP : va_P D vwCl (MW dA h ad (MS.s_hasBefore (MS.s_befores (MS.s_keySeries (MS.s_keyTimes (MS.s_isCell (MS.s_cells z c2) c1) c3) c4) c5) c6)) H := hP
          have hD : va_D A (MW dA h ad (MS.s_hasBefore (MS.s_befores (MS.s_keySeries (MS.s_keyTimes (MS.s_isCell (MS.s_cells z c2) c1) c3) c4) c5) c6)) := hD
          replace hp9 : bI (z.seen q) = r4 := Eq.symm hp9
          subst hp9
          refine lv_if_eq hx hb d_M_reckon_38 (tgt := 145) rfl (fun g6 => ?_) (fun g6 => ?_)
          · have g6 := bI_0 g6
            refine lv_iinc (k := 1) (v := nI (q + 1)) hx hb d_M_reckon_145 hl rfl (iincN (q) 1 1 (by decide)) (by decide) rfl (fun ls hl => ?_)
            have hl : lv_has ls 8 [(4, .int (nI (q + 1))), (5, .int (nI (z.pointSeries q))), (1, .int (nI wh)), (2, .int (nI p7)), (3, .int (nI x.pile)), (0, .ref h)] := hl
            refine lv_goto hx hb d_M_reckon_148 (tgt := 14) rfl ?_
            exact ih14 _ (by omega) (q + 1) c1 c2 c3 c4 c5 c6 (by omega) (rk_n i2 (Or.inl g6)) i4 rfl H _ ls hP hD hS (lv_sub hl [0, 2, 3, 4, 5] rfl)
          · have g6 := bI_n0 g6
            refine lv_iload hx hb d_M_reckon_41 (lv_at hl 0 rfl) ?_
            refine lv_aload_n hx hb d_M_reckon_43 rfl (lv_at hl 5 rfl) ?_
            refine gF (v := .int (nI z.seriesCount)) hx hb hown hE hK hP 0 rfl rfl layM 12 (by decide) w332 rfl d_M_reckon_44 ?_
            refine lv_icmp_lt hx hb d_M_reckon_47 (tgt := 53) rfl (fun g7 => ?_) (fun g7 => ?_)
            · have g7 := (nI_ltI (a := z.pointSeries q) (b := z.seriesCount) (by omega) (by omega)).mp g7
              refine lv_aload_n hx hb d_M_reckon_53 rfl (lv_at hl 5 rfl) ?_
              refine gF (v := .ref (ad 18)) hx hb hown hE hK hP 0 rfl rfl layM 18 (by decide) w504 rfl d_M_reckon_54 ?_
              refine lv_iload hx hb d_M_reckon_57 (lv_at hl 1 rfl) ?_
              refine nlld (f := z.pointTimes) hx hb hK hP 7 2 rfl rfl (q) (by omega) (by decide) d_M_reckon_59 ?_
              refine lv_aload_n hx hb d_M_reckon_60 rfl (lv_at hl 5 rfl) ?_
              refine gF (v := .long z.windowsFrom) hx hb hown hE hK hP 0 rfl rfl layM 57 (by decide) w487 rfl d_M_reckon_61 ?_
              refine lv_lsub hx hb d_M_reckon_64 ?_
              refine lv_lstore hx hb d_M_reckon_65 hl (by decide) rfl (fun ls hl => ?_)
              have hl : lv_has ls 8 [(6, .long ((z.pointTimes q) - z.windowsFrom)), (5, .int (nI (z.pointSeries q))), (4, .int (nI q)), (1, .int (nI wh)), (2, .int (nI p7)), (3, .int (nI x.pile)), (0, .ref h)] := hl
              have J123 : ∀ (a1 : Nat → Bool) (a2 : Nat → Int64) (a3 : Nat → Int64) (a4 : Nat → Nat) (e9 : z.rkA x.pile wh q (c1, c2, c3, c4, c5, c6) = (a1, a2, a3, a4)) (e8 : ∀ q : Nat, a4 q < 256), ∀ (H : Heap) (locs : List Loc) (ls : Array Slot) (hP : va_P D vwCl (MW dA h ad (MS.s_hasBefore (MS.s_befores (MS.s_keySeries (MS.s_keyTimes (MS.s_isCell (MS.s_cells z a2) a1) a3) a4) c5) c6)) H) (hD : va_D A (MW dA h ad (MS.s_hasBefore (MS.s_befores (MS.s_keySeries (MS.s_keyTimes (MS.s_isCell (MS.s_cells z a2) a1) a3) a4) c5) c6))) (hS : va_S A s.heap H locs) (hl : lv_has ls 8 [(5, .int (nI (z.pointSeries q))), (6, .long (z.pointTimes q - z.windowsFrom)), (4, .int (nI q)), (1, .int (nI wh)), (2, .int (nI p7)), (3, .int (nI x.pile)), (0, .ref h)]), W p l e ({ frames := 4, cells := 0, slots := 0, locals := 86 } : Room) s m ([.ref h, .int (nI wh), .int (nI p7)] : List Value).toArray below meth c H locs 0 0 (MQ below (va_Qv (fun (u9 : MS) => u9 = x.rkS wh p7) (fun (u9 : MS) t9 => bW D A (MW dA h ad u9) t9) A) ([.ref h, .int (nI wh), .int (nI p7)] : List Value).toArray s 0 0 A) (F0 m 123 ls []) := by
                intro a1 a2 a3 a4 e9 e8 H locs ls hP hD hS hl
                refine lv_aload_n hx hb d_M_reckon_123 rfl (lv_at hl 6 rfl) ?_
                refine gF (v := .ref (ad 64)) hx hb hown hE hK hP 0 rfl rfl layM 64 (by decide) w530 rfl d_M_reckon_124 ?_
                refine lv_iload hx hb d_M_reckon_127 (lv_at hl 0 rfl) ?_
                refine lv_aload_n hx hb d_M_reckon_129 rfl (lv_at hl 6 rfl) ?_
                refine gF (v := .ref (ad 19)) hx hb hown hE hK hP 0 rfl rfl layM 19 (by decide) w505 rfl d_M_reckon_130 ?_
                refine lv_iload hx hb d_M_reckon_133 (lv_at hl 2 rfl) ?_
                refine nlld (f := z.pointValues) hx hb hK hP 8 2 rfl rfl (q) (by omega) (by decide) d_M_reckon_135 ?_
                refine nlst hx hb hK hP hD hS 31 2 rfl rfl (z.pointSeries q) (by omega) (by decide) d_M_reckon_136 (fun H locs hP hD hS => ?_)
                have hP : va_P D vwCl (MW dA h ad (MS.s_hasBefore (MS.s_befores (MS.s_keySeries (MS.s_keyTimes (MS.s_isCell (MS.s_cells z a2) a1) a3) a4) (va_up c5 (z.pointSeries q) (z.pointValues q))) c6)) H := hP
                have hD : va_D A (MW dA h ad (MS.s_hasBefore (MS.s_befores (MS.s_keySeries (MS.s_keyTimes (MS.s_isCell (MS.s_cells z a2) a1) a3) a4) (va_up c5 (z.pointSeries q) (z.pointValues q))) c6)) := hD
                refine lv_aload_n hx hb d_M_reckon_137 rfl (lv_at hl 6 rfl) ?_
                refine gF (v := .ref (ad 65)) hx hb hown hE hK hP 0 rfl rfl layM 65 (by decide) w531 rfl d_M_reckon_138 ?_
                refine lv_iload hx hb d_M_reckon_141 (lv_at hl 0 rfl) ?_
                refine lv_iconst (v := 1) hx hb d_M_reckon_143 (by decide) ?_
                refine nzstB (v := true) hx hb hK hP hD hS 32 3 rfl rfl (z.pointSeries q) (by omega) (by decide) d_M_reckon_144 (fun H locs hP hD hS => ?_)
                have hP : va_P D vwCl (MW dA h ad (MS.s_hasBefore (MS.s_befores (MS.s_keySeries (MS.s_keyTimes (MS.s_isCell (MS.s_cells z a2) a1) a3) a4) (va_up c5 (z.pointSeries q) (z.pointValues q))) (va_up c6 (z.pointSeries q) true))) H := hP
                have hD : va_D A (MW dA h ad (MS.s_hasBefore (MS.s_befores (MS.s_keySeries (MS.s_keyTimes (MS.s_isCell (MS.s_cells z a2) a1) a3) a4) (va_up c5 (z.pointSeries q) (z.pointValues q))) (va_up c6 (z.pointSeries q) true))) := hD
                refine lv_iinc (k := 2) (v := nI (q + 1)) hx hb d_M_reckon_145 hl rfl (iincN (q) 1 1 (by decide)) (by decide) rfl (fun ls hl => ?_)
                have hl : lv_has ls 8 [(4, .int (nI (q + 1))), (5, .int (nI (z.pointSeries q))), (6, .long (z.pointTimes q - z.windowsFrom)), (1, .int (nI wh)), (2, .int (nI p7)), (3, .int (nI x.pile)), (0, .ref h)] := hl
                refine lv_goto hx hb d_M_reckon_148 (tgt := 14) rfl ?_
                exact ih14 _ (by omega) (q + 1) a1 a2 a3 a4 (va_up c5 (z.pointSeries q) (z.pointValues q)) (va_up c6 (z.pointSeries q) true) (by omega) (rk_y i2 g6 (by omega) e9) e8 rfl H _ ls hP hD hS (lv_sub hl [0, 3, 4, 5, 6] rfl)
              refine lv_aload_n hx hb d_M_reckon_67 rfl (lv_at hl 6 rfl) ?_
              refine gF (v := .ref (ad 61)) hx hb hown hE hK hP 0 rfl rfl layM 61 (by decide) w527 rfl d_M_reckon_68 ?_
              refine lv_iload hx hb d_M_reckon_71 (lv_at hl 1 rfl) ?_
              refine nild (f := z.rowOf) hx hb hK hP 28 1 rfl rfl (z.pointSeries q) (by omega) (by decide) d_M_reckon_73 ?_
              refine lv_if_lt hx hb d_M_reckon_74 (tgt := 123) rfl (fun g8 => ?_) (fun g8 => ?_)
              · have g8 := g8
                exact J123 c1 c2 c3 c4 (if_neg (by show ¬ (!decide _ && (!decide _ && !decide _)) = true; rw [decide_eq_true g8]; exact fun z9 => Bool.noConfusion z9)) i4 H _ ls hP hD hS (lv_sub hl [1, 0, 2, 3, 4, 5, 6] rfl)
              · have g8 := g8
                refine lv_lload hx hb d_M_reckon_77 (lv_at hl 0 rfl) ?_
                refine lv_lconst (v := 0) hx hb d_M_reckon_79 (by decide) ?_
                refine W.lcmp hx hb d_M_reckon_80 ?_
                refine lv_if_lt hx hb d_M_reckon_81 (tgt := 123) rfl (fun g9 => ?_) (fun g9 => ?_)
                · have g9 := (lg_cmp_lt _ _).mp g9
                  exact J123 c1 c2 c3 c4 (if_neg (by show ¬ (!decide _ && (!decide _ && !decide _)) = true; rw [decide_eq_false g8, decide_eq_true g9]; exact fun z9 => Bool.noConfusion z9)) i4 H _ ls hP hD hS (lv_sub hl [1, 0, 2, 3, 4, 5, 6] rfl)
                · have g9 := mt (lg_cmp_lt _ _).mpr g9
                  refine lv_lload hx hb d_M_reckon_84 (lv_at hl 0 rfl) ?_
                  refine lv_aload_n hx hb d_M_reckon_86 rfl (lv_at hl 6 rfl) ?_
                  refine gF (v := .long z.width) hx hb hown hE hK hP 0 rfl rfl layM 58 (by decide) w488 rfl d_M_reckon_87 ?_
                  refine lv_ldiv hx hb d_M_reckon_90 (wd_nz (by rw [z4]; exact hwd)) ?_
                  refine lv_aload_n hx hb d_M_reckon_91 rfl (lv_at hl 6 rfl) ?_
                  refine gF (v := .int (nI z.windows)) hx hb hown hE hK hP 0 rfl rfl layM 59 (by decide) w489 rfl d_M_reckon_92 ?_
                  refine lv_i2l (v := lN (z.windows)) hx hb d_M_reckon_95 (nI_l (by omega)) ?_
                  refine W.lcmp hx hb d_M_reckon_96 ?_
                  refine lv_if_ge hx hb d_M_reckon_97 (tgt := 123) rfl (fun g10 => ?_) (fun g10 => ?_)
                  · have g10 := (lg_cmp_ge _ _).mp g10
                    exact J123 c1 c2 c3 c4 (if_neg (by show ¬ (!decide _ && (!decide _ && !decide _)) = true; rw [decide_eq_false g8, decide_eq_false g9, decide_eq_true g10]; exact fun z9 => Bool.noConfusion z9)) i4 H _ ls hP hD hS (lv_sub hl [1, 0, 2, 3, 4, 5, 6] rfl)
                  · have g10 := mt (lg_cmp_ge _ _).mpr g10
                    have y1 : 0 ≤ z.pointTimes q - z.windowsFrom := Int64.not_lt.mp g9
                    have y2 : 1 ≤ z.width := by rw [z4]; exact hwd
                    have y3 := wN_lt y1 y2 (by omega) (Int64.not_le.mp g10)
                    have y4 : i2n (z.rowOf (z.pointSeries q)) < 256 := by rw [z6]; exact ro_lt n9l (hro _ (by omega))
                    refine lv_aload_n hx hb d_M_reckon_100 rfl (lv_at hl 6 rfl) ?_
                    refine lv_iload_n hx hb d_M_reckon_101 rfl (lv_at hl 5 rfl) ?_
                    refine lv_iload_n hx hb d_M_reckon_102 rfl (lv_at hl 3 rfl) ?_
                    refine lv_iload hx hb d_M_reckon_103 (lv_at hl 2 rfl) ?_
                    refine lv_aload_n hx hb d_M_reckon_105 rfl (lv_at hl 6 rfl) ?_
                    refine gF (v := .ref (ad 61)) hx hb hown hE hK hP 0 rfl rfl layM 61 (by decide) w527 rfl d_M_reckon_106 ?_
                    refine lv_iload hx hb d_M_reckon_109 (lv_at hl 1 rfl) ?_
                    refine nild (f := z.rowOf) hx hb hK hP 28 1 rfl rfl (z.pointSeries q) (by omega) (by decide) d_M_reckon_111 ?_
                    refine tpi (y := nI (i2n (z.rowOf (z.pointSeries q)))) (i2n_nI (Int32.not_lt.mp g8)) ?_
                    refine lv_lload hx hb d_M_reckon_112 (lv_at hl 0 rfl) ?_
                    refine lv_aload_n hx hb d_M_reckon_114 rfl (lv_at hl 6 rfl) ?_
                    refine gF (v := .long z.width) hx hb hown hE hK hP 0 rfl rfl layM 58 (by decide) w488 rfl d_M_reckon_115 ?_
                    refine lv_ldiv hx hb d_M_reckon_118 (wd_nz (by rw [z4]; exact hwd)) ?_
                    refine lv_l2i hx hb d_M_reckon_119 rfl ?_
                    refine tpi (y := nI (wN (z.pointTimes q - z.windowsFrom) z.width)) (by rw [wN_eq y1 y2]; exact lN_i _) ?_
                    refine jfV (rnV (As := [.int (nI x.pile), .int (nI wh), .int (nI q), .int (nI (i2n (z.rowOf (z.pointSeries q)))), .int (nI (wN (z.pointTimes q - z.windowsFrom) z.width))]) (rest := []) hx hb hml hown hE hK (hN _ _ hS) hP hD (k_gather l D dA H.size h ad (MS.s_hasBefore (MS.s_befores (MS.s_keySeries (MS.s_keyTimes (MS.s_isCell (MS.s_cells z c2) c1) c3) c4) c5) c6) x.pile wh q (i2n (z.rowOf (z.pointSeries q))) (wN (z.pointTimes q - z.windowsFrom) z.width) hpl y4 (show (wN (z.pointTimes q - z.windowsFrom) z.width) < 64 from by omega) (show q < 12000 from by omega) s8 (i4 _) hwh) (q0 := 0) rfl rfl w995 w994 w996 w997 w328 rfl rfl ⟨⟨by decide, by decide⟩, rfl⟩ ⟨(Nat.le_of_ble_eq_true rfl), (Nat.le_of_ble_eq_true rfl)⟩ rfl hl.1 rfl (Nat.le_of_ble_eq_true rfl) d_M_reckon_120 ⟨(Nat.le_of_ble_eq_true rfl), (Nat.le_of_ble_eq_true rfl)⟩) hP hD hS hA (fun u12 H locs hp9 hP hD hS => ?_)
                    have hP : va_P D vwCl (MW dA h ad (MS.s_hasBefore (MS.s_befores (MS.s_keySeries (MS.s_keyTimes (MS.s_isCell (MS.s_cells z (((MS.s_hasBefore (MS.s_befores (MS.s_keySeries (MS.s_keyTimes (MS.s_isCell (MS.s_cells z c2) c1) c3) c4) c5) c6).ga x.pile wh q (i2n (z.rowOf (z.pointSeries q))) (wN (z.pointTimes q - z.windowsFrom) z.width)).2.1)) (((MS.s_hasBefore (MS.s_befores (MS.s_keySeries (MS.s_keyTimes (MS.s_isCell (MS.s_cells z c2) c1) c3) c4) c5) c6).ga x.pile wh q (i2n (z.rowOf (z.pointSeries q))) (wN (z.pointTimes q - z.windowsFrom) z.width)).1)) (((MS.s_hasBefore (MS.s_befores (MS.s_keySeries (MS.s_keyTimes (MS.s_isCell (MS.s_cells z c2) c1) c3) c4) c5) c6).ga x.pile wh q (i2n (z.rowOf (z.pointSeries q))) (wN (z.pointTimes q - z.windowsFrom) z.width)).2.2.1)) (((MS.s_hasBefore (MS.s_befores (MS.s_keySeries (MS.s_keyTimes (MS.s_isCell (MS.s_cells z c2) c1) c3) c4) c5) c6).ga x.pile wh q (i2n (z.rowOf (z.pointSeries q))) (wN (z.pointTimes q - z.windowsFrom) z.width)).2.2.2)) c5) c6)) H := hP
                    have hD : va_D A (MW dA h ad (MS.s_hasBefore (MS.s_befores (MS.s_keySeries (MS.s_keyTimes (MS.s_isCell (MS.s_cells z (((MS.s_hasBefore (MS.s_befores (MS.s_keySeries (MS.s_keyTimes (MS.s_isCell (MS.s_cells z c2) c1) c3) c4) c5) c6).ga x.pile wh q (i2n (z.rowOf (z.pointSeries q))) (wN (z.pointTimes q - z.windowsFrom) z.width)).2.1)) (((MS.s_hasBefore (MS.s_befores (MS.s_keySeries (MS.s_keyTimes (MS.s_isCell (MS.s_cells z c2) c1) c3) c4) c5) c6).ga x.pile wh q (i2n (z.rowOf (z.pointSeries q))) (wN (z.pointTimes q - z.windowsFrom) z.width)).1)) (((MS.s_hasBefore (MS.s_befores (MS.s_keySeries (MS.s_keyTimes (MS.s_isCell (MS.s_cells z c2) c1) c3) c4) c5) c6).ga x.pile wh q (i2n (z.rowOf (z.pointSeries q))) (wN (z.pointTimes q - z.windowsFrom) z.width)).2.2.1)) (((MS.s_hasBefore (MS.s_befores (MS.s_keySeries (MS.s_keyTimes (MS.s_isCell (MS.s_cells z c2) c1) c3) c4) c5) c6).ga x.pile wh q (i2n (z.rowOf (z.pointSeries q))) (wN (z.pointTimes q - z.windowsFrom) z.width)).2.2.2)) c5) c6)) := hD
                    exact J123 (((MS.s_hasBefore (MS.s_befores (MS.s_keySeries (MS.s_keyTimes (MS.s_isCell (MS.s_cells z c2) c1) c3) c4) c5) c6).ga x.pile wh q (i2n (z.rowOf (z.pointSeries q))) (wN (z.pointTimes q - z.windowsFrom) z.width)).1) (((MS.s_hasBefore (MS.s_befores (MS.s_keySeries (MS.s_keyTimes (MS.s_isCell (MS.s_cells z c2) c1) c3) c4) c5) c6).ga x.pile wh q (i2n (z.rowOf (z.pointSeries q))) (wN (z.pointTimes q - z.windowsFrom) z.width)).2.1) (((MS.s_hasBefore (MS.s_befores (MS.s_keySeries (MS.s_keyTimes (MS.s_isCell (MS.s_cells z c2) c1) c3) c4) c5) c6).ga x.pile wh q (i2n (z.rowOf (z.pointSeries q))) (wN (z.pointTimes q - z.windowsFrom) z.width)).2.2.1) (((MS.s_hasBefore (MS.s_befores (MS.s_keySeries (MS.s_keyTimes (MS.s_isCell (MS.s_cells z c2) c1) c3) c4) c5) c6).ga x.pile wh q (i2n (z.rowOf (z.pointSeries q))) (wN (z.pointTimes q - z.windowsFrom) z.width)).2.2.2) (if_pos (by show (!decide _ && (!decide _ && !decide _)) = true; rw [decide_eq_false g8, decide_eq_false g9, decide_eq_false g10]; rfl)) (ga_ks (x := z.pt (c1, c2, c3, c4, c5, c6)) i4 s8) H _ ls hP hD hS (lv_sub hl [1, 0, 2, 3, 4, 5, 6] rfl)
            · have g7 := mt (nI_ltI (a := z.pointSeries q) (b := z.seriesCount) (by omega) (by omega)).mpr g7
              refine lv_goto hx hb d_M_reckon_50 (tgt := 145) rfl ?_
              refine lv_iinc (k := 1) (v := nI (q + 1)) hx hb d_M_reckon_145 hl rfl (iincN (q) 1 1 (by decide)) (by decide) rfl (fun ls hl => ?_)
              have hl : lv_has ls 8 [(4, .int (nI (q + 1))), (5, .int (nI (z.pointSeries q))), (1, .int (nI wh)), (2, .int (nI p7)), (3, .int (nI x.pile)), (0, .ref h)] := hl
              refine lv_goto hx hb d_M_reckon_148 (tgt := 14) rfl ?_
              exact ih14 _ (by omega) (q + 1) c1 c2 c3 c4 c5 c6 (by omega) (rk_n i2 (Or.inr (by omega))) i4 rfl H _ ls hP hD hS (lv_sub hl [0, 2, 3, 4, 5] rfl)
    exact L14 _ 0 z.isCell z.cells z.keyTimes z.keySeries z.befores z.hasBefore (Nat.zero_le _) rfl (by rw [z5]; exact hks) rfl H _ ls hP hD hS (lv_sub hl [0, 1, 2, 3, 4] rfl)
  refine lv_aload_n hx hb d_M_reckon_5 rfl (lv_at hl 1 rfl) ?_
  refine lv_iload_n hx hb d_M_reckon_6 rfl (lv_at hl 0 rfl) ?_
  refine lv_iload_n hx hb d_M_reckon_7 rfl (lv_at hl 3 rfl) ?_
  refine jfV (rnV (As := [.int (nI x.pile), .int (nI p7)]) (rest := []) hx hb hml hown hE hK (hN _ _ hS) hP hD (k_group l D dA H.size h ad x x.pile p7 n9 rs9 ro9 hb9 v9 (show x.seriesCount ≤ 256 from by omega) hts hmo hno (show x.length ≤ 65536 from by omega) hgr) (q0 := 0) rfl rfl w999 w998 w1000 w1001 w328 rfl rfl ⟨⟨by decide, by decide⟩, rfl⟩ ⟨(Nat.le_of_ble_eq_true rfl), (Nat.le_of_ble_eq_true rfl)⟩ rfl hl.1 rfl (Nat.le_of_ble_eq_true rfl) d_M_reckon_8 ⟨(Nat.le_of_ble_eq_true rfl), (Nat.le_of_ble_eq_true rfl)⟩) hP hD hS hA (fun u14 H locs hp9 hP hD hS => ?_)
  have hP : va_P D vwCl (MW dA h ad (MS.s_hasBefore (MS.s_rowOf (MS.s_valueLength (MS.s_isCell (MS.s_cells (MS.s_rowSeries (MS.s_tableRows x (va_up x.tableRows x.pile n9)) rs9) (filG x.cells (x.pile * 256 * 64) 0 (n9 * 64))) (filG x.isCell (x.pile * 256 * 64) false (n9 * 64))) v9) ro9) hb9)) H := hP
  have hD : va_D A (MW dA h ad (MS.s_hasBefore (MS.s_rowOf (MS.s_valueLength (MS.s_isCell (MS.s_cells (MS.s_rowSeries (MS.s_tableRows x (va_up x.tableRows x.pile n9)) rs9) (filG x.cells (x.pile * 256 * 64) 0 (n9 * 64))) (filG x.isCell (x.pile * 256 * 64) false (n9 * 64))) v9) ro9) hb9)) := hD
  exact J11 (MS.s_hasBefore (MS.s_rowOf (MS.s_valueLength (MS.s_isCell (MS.s_cells (MS.s_rowSeries (MS.s_tableRows x (va_up x.tableRows x.pile n9)) rs9) (filG x.cells (x.pile * 256 * 64) 0 (n9 * 64))) (filG x.isCell (x.pile * 256 * 64) false (n9 * 64))) v9) ro9) hb9) (by unfold MS.grS; rw [hgr]) rfl rfl rfl rfl rfl rfl (va_us _ _ _) rfl rfl H _ ls hP hD hS (lv_sub hl [2, 3, 0, 1] rfl)
