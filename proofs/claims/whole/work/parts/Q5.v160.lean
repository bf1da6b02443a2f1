/-! A cell: what a point makes of it, in any order of the series. -/
abbrev CS : Type := Bool × Int64 × Int64 × Nat
def clO (fn : Int32) (c : CS) (s : Nat) (t v : Int64) (h : Bool) (b : Int64) : CS :=
  if fn = 0 then (true, c.2.1 + v, c.2.2)
  else if fn = 1 then (true, c.2.1 + 1, c.2.2)
  else if fn = 2 then (true, (if c.1 = true then minL c.2.1 v else v), c.2.2)
  else if fn = 3 then (true, (if c.1 = true then maxL c.2.1 v else v), c.2.2)
  else if fn = 6 then (if h = true then (true, c.2.1 + (if v < b then v else v - b), c.2.2) else c)
  else if chsB fn c.1 t c.2.2.1 s c.2.2.2 = true then (true, v, t, s) else c
/-- which of two points is to be taken -/
def kyB (fn : Int32) (t : Int64) (s : Nat) (t' : Int64) (s' : Nat) : Bool := btB fn t t' || (decide (t = t') && decide (s < s'))
theorem kyB_t {fn : Int32} {t t' : Int64} {s s' : Nat} : kyB fn t s t' s' = true ↔ ((if fn = 4 then t.toInt < t'.toInt else t'.toInt < t.toInt) ∨ (t.toInt = t'.toInt ∧ s < s')) := by
  unfold kyB btB
  rw [Bool.or_eq_true, Bool.and_eq_true, decide_eq_true_eq, decide_eq_true_eq, ← Int64.toInt_inj]
  split
  · rw [decide_eq_true_eq, Int64.lt_iff_toInt_lt]
  · rw [decide_eq_true_eq, Int64.lt_iff_toInt_lt]
theorem kyB_n {fn : Int32} {t t' : Int64} {s s' : Nat} (h : ¬ s = s') : kyB fn t s t' s' = !kyB fn t' s' t s := by
  have a := kyB_t (fn := fn) (t := t) (t' := t') (s := s) (s' := s')
  have b := kyB_t (fn := fn) (t := t') (t' := t) (s := s') (s' := s)
  cases c : kyB fn t s t' s' with
  | true =>
    cases d : kyB fn t' s' t s with
    | false => rfl
    | true =>
      have a := a.mp c
      have b := b.mp d
      split at a
      · rename_i g
        rw [if_pos g] at b
        omega
      · rename_i g
        rw [if_neg g] at b
        omega
  | false =>
    cases d : kyB fn t' s' t s with
    | true => rfl
    | false =>
      have a : ¬ ((if fn = 4 then t.toInt < t'.toInt else t'.toInt < t.toInt) ∨ (t.toInt = t'.toInt ∧ s < s')) := fun z => Bool.false_ne_true (c.symm.trans (a.mpr z))
      have b : ¬ ((if fn = 4 then t'.toInt < t.toInt else t.toInt < t'.toInt) ∨ (t'.toInt = t.toInt ∧ s' < s)) := fun z => Bool.false_ne_true (d.symm.trans (b.mpr z))
      by_cases g : fn = 4
      · rw [if_pos g] at a b
        omega
      · rw [if_neg g] at a b
        omega
theorem kyB_tr {fn : Int32} {t t' t'' : Int64} {s s' s'' : Nat} (h1 : kyB fn t s t'' s'' = true) (h2 : kyB fn t' s' t'' s'' = false) : kyB fn t' s' t s = false := by
  cases d : kyB fn t' s' t s with
  | false => rfl
  | true =>
    have a := kyB_t.mp h1
    have b := kyB_t.mp d
    have e : ¬ kyB fn t' s' t'' s'' = true := by rw [h2]; decide
    refine absurd (kyB_t.mpr ?_) e
    by_cases g : fn = 4
    · rw [if_pos g] at a b ⊢
      omega
    · rw [if_neg g] at a b ⊢
      omega
section CC
variable {fn : Int32} {c : CS} {s1 s2 : Nat} {t1 t2 v1 v2 b1 b2 : Int64} {h1 h2 : Bool}
theorem ad_rc (a b c : Int64) : a + b + c = a + c + b := by rw [Int64.add_assoc, Int64.add_comm b c, ← Int64.add_assoc]
theorem minL_i (a b : Int64) : (minL a b).toInt = min a.toInt b.toInt := by
  unfold minL
  split
  · rename_i g
    rw [Int64.lt_iff_toInt_lt] at g
    omega
  · rename_i g
    rw [Int64.lt_iff_toInt_lt] at g
    omega
theorem maxL_i (a b : Int64) : (maxL a b).toInt = max a.toInt b.toInt := by
  unfold maxL
  split
  · rename_i g
    rw [Int64.lt_iff_toInt_lt] at g
    omega
  · rename_i g
    rw [Int64.lt_iff_toInt_lt] at g
    omega
/-- the point taken, or the one that is there -/
def selC (fn : Int32) (c : CS) (s : Nat) (t v : Int64) : CS := if chsB fn c.1 t c.2.2.1 s c.2.2.2 = true then (true, v, t, s) else c
theorem selC_t {s : Nat} {t v : Int64} (h : (!c.1 || kyB fn t s c.2.2.1 c.2.2.2) = true) : selC fn c s t v = (true, v, t, s) := if_pos h
theorem selC_f {s : Nat} {t v : Int64} (h : (!c.1 || kyB fn t s c.2.2.1 c.2.2.2) = false) : selC fn c s t v = c := if_neg (fun e => Bool.false_ne_true (h.symm.trans e))
theorem selC_1 {s s' : Nat} {t v t' v' : Int64} (h : kyB fn t s t' s' = true) : selC fn (true, v', t', s') s t v = (true, v, t, s) := selC_t (c := (true, v', t', s')) h
theorem selC_0 {s s' : Nat} {t v t' v' : Int64} (h : kyB fn t s t' s' = false) : selC fn (true, v', t', s') s t v = (true, v', t', s') := selC_f (c := (true, v', t', s')) h
theorem selC_c (hs : ¬ s1 = s2) : selC fn (selC fn c s1 t1 v1) s2 t2 v2 = selC fn (selC fn c s2 t2 v2) s1 t1 v1 := by
  cases A : (!c.1 || kyB fn t1 s1 c.2.2.1 c.2.2.2) with
  | true =>
    rw [selC_t A]
    cases B : (!c.1 || kyB fn t2 s2 c.2.2.1 c.2.2.2) with
    | true =>
      rw [selC_t B]
      have n := kyB_n (fn := fn) (t := t1) (t' := t2) hs
      cases D : kyB fn t2 s2 t1 s1 with
      | true =>
        rw [D] at n
        rw [selC_1 D, selC_0 n]
      | false =>
        rw [D] at n
        rw [selC_0 D, selC_1 n]
    | false =>
      rw [selC_f B, selC_t A]
      rw [Bool.or_eq_false_iff] at B
      have A2 : kyB fn t1 s1 c.2.2.1 c.2.2.2 = true := by
        rw [B.1, Bool.false_or] at A
        exact A
      exact selC_0 (kyB_tr A2 B.2)
  | false =>
    rw [selC_f A]
    cases B : (!c.1 || kyB fn t2 s2 c.2.2.1 c.2.2.2) with
    | true =>
      rw [selC_t B]
      rw [Bool.or_eq_false_iff] at A
      have B2 : kyB fn t2 s2 c.2.2.1 c.2.2.2 = true := by
        rw [A.1, Bool.false_or] at B
        exact B
      exact (selC_0 (kyB_tr B2 A.2)).symm
    | false => rw [selC_f B, selC_f A]
theorem clO_0 {s : Nat} {t v b : Int64} {h : Bool} (f : fn = 0) : clO fn c s t v h b = (true, c.2.1 + v, c.2.2) := if_pos f
theorem clO_1 {s : Nat} {t v b : Int64} {h : Bool} (f0 : ¬ fn = 0) (f : fn = 1) : clO fn c s t v h b = (true, c.2.1 + 1, c.2.2) := (if_neg f0).trans (if_pos f)
theorem clO_2 {s : Nat} {t v b : Int64} {h : Bool} (f0 : ¬ fn = 0) (f1 : ¬ fn = 1) (f : fn = 2) : clO fn c s t v h b = (true, (if c.1 = true then minL c.2.1 v else v), c.2.2) := (if_neg f0).trans ((if_neg f1).trans (if_pos f))
theorem clO_3 {s : Nat} {t v b : Int64} {h : Bool} (f0 : ¬ fn = 0) (f1 : ¬ fn = 1) (f2 : ¬ fn = 2) (f : fn = 3) : clO fn c s t v h b = (true, (if c.1 = true then maxL c.2.1 v else v), c.2.2) := (if_neg f0).trans ((if_neg f1).trans ((if_neg f2).trans (if_pos f)))
theorem clO_6 {s : Nat} {t v b : Int64} {h : Bool} (f0 : ¬ fn = 0) (f1 : ¬ fn = 1) (f2 : ¬ fn = 2) (f3 : ¬ fn = 3) (f : fn = 6) : clO fn c s t v h b = (if h = true then (true, c.2.1 + (if v < b then v else v - b), c.2.2) else c) := (if_neg f0).trans ((if_neg f1).trans ((if_neg f2).trans ((if_neg f3).trans (if_pos f))))
theorem clO_4 {s : Nat} {t v b : Int64} {h : Bool} (f0 : ¬ fn = 0) (f1 : ¬ fn = 1) (f2 : ¬ fn = 2) (f3 : ¬ fn = 3) (f6 : ¬ fn = 6) : clO fn c s t v h b = selC fn c s t v := (if_neg f0).trans ((if_neg f1).trans ((if_neg f2).trans ((if_neg f3).trans (if_neg f6))))
theorem min_rc (i : Bool) (u a b : Int64) : minL (if i = true then minL u a else a) b = minL (if i = true then minL u b else b) a := by
  apply Int64.toInt_inj.mp
  rw [minL_i, minL_i]
  cases i with
  | true =>
    rw [if_pos rfl, if_pos rfl, minL_i, minL_i]
    omega
  | false =>
    rw [if_neg (by decide), if_neg (by decide)]
    omega
theorem max_rc (i : Bool) (u a b : Int64) : maxL (if i = true then maxL u a else a) b = maxL (if i = true then maxL u b else b) a := by
  apply Int64.toInt_inj.mp
  rw [maxL_i, maxL_i]
  cases i with
  | true =>
    rw [if_pos rfl, if_pos rfl, maxL_i, maxL_i]
    omega
  | false =>
    rw [if_neg (by decide), if_neg (by decide)]
    omega
theorem clO_6t {s : Nat} {t v b : Int64} {h : Bool} (f0 : ¬ fn = 0) (f1 : ¬ fn = 1) (f2 : ¬ fn = 2) (f3 : ¬ fn = 3) (f : fn = 6) (e : h = true) : clO fn c s t v h b = (true, c.2.1 + (if v < b then v else v - b), c.2.2) := (clO_6 f0 f1 f2 f3 f).trans (if_pos e)
theorem clO_6f {s : Nat} {t v b : Int64} {h : Bool} (f0 : ¬ fn = 0) (f1 : ¬ fn = 1) (f2 : ¬ fn = 2) (f3 : ¬ fn = 3) (f : fn = 6) (e : ¬ h = true) : clO fn c s t v h b = c := (clO_6 f0 f1 f2 f3 f).trans (if_neg e)
theorem tup_ad (i : Bool) (k : Int64 × Nat) {a a' b b' : Int64} (h : a + b = a' + b') : ((i, a + b, k) : CS) = (i, a' + b', k) := by rw [h]
theorem clO_c (hs : ¬ s1 = s2) : clO fn (clO fn c s1 t1 v1 h1 b1) s2 t2 v2 h2 b2 = clO fn (clO fn c s2 t2 v2 h2 b2) s1 t1 v1 h1 b1 := by
  by_cases f0 : fn = 0
  · rw [clO_0 f0 (c := c), clO_0 f0 (c := c), clO_0 f0, clO_0 f0]
    dsimp only
    exact tup_ad true c.2.2 (ad_rc c.2.1 v1 v2)
  by_cases f1 : fn = 1
  · rw [clO_1 f0 f1 (c := c), clO_1 f0 f1 (c := c), clO_1 f0 f1, clO_1 f0 f1]
  by_cases f2 : fn = 2
  · rw [clO_2 f0 f1 f2 (c := c), clO_2 f0 f1 f2 (c := c), clO_2 f0 f1 f2, clO_2 f0 f1 f2]
    dsimp only
    rw [if_pos rfl, if_pos rfl, min_rc c.1 c.2.1 v1 v2]
  by_cases f3 : fn = 3
  · rw [clO_3 f0 f1 f2 f3 (c := c), clO_3 f0 f1 f2 f3 (c := c), clO_3 f0 f1 f2 f3, clO_3 f0 f1 f2 f3]
    dsimp only
    rw [if_pos rfl, if_pos rfl, max_rc c.1 c.2.1 v1 v2]
  by_cases f6 : fn = 6
  · by_cases g1 : h1 = true
    · by_cases g2 : h2 = true
      · rw [clO_6t f0 f1 f2 f3 f6 g1 (c := c), clO_6t f0 f1 f2 f3 f6 g2 (c := c), clO_6t f0 f1 f2 f3 f6 g2, clO_6t f0 f1 f2 f3 f6 g1]
        dsimp only
        exact tup_ad true c.2.2 (ad_rc c.2.1 _ _)
      · rw [clO_6f f0 f1 f2 f3 f6 g2, clO_6f f0 f1 f2 f3 f6 g2 (c := c)]
    · rw [clO_6f f0 f1 f2 f3 f6 g1 (c := c), clO_6f f0 f1 f2 f3 f6 g1]
  rw [clO_4 f0 f1 f2 f3 f6, clO_4 f0 f1 f2 f3 f6, clO_4 f0 f1 f2 f3 f6, clO_4 f0 f1 f2 f3 f6]
  exact selC_c hs
end CC
/-- a cell, and the values before -/
abbrev CT : Type := CS × (Nat → Bool) × (Nat → Int64)
/-- point q comes; g: is it looked at, w: does it fall into the cell -/
def ctO (fn : Int32) (se : Nat → Nat) (ti va : Nat → Int64) (g w : Nat → Bool) (c : CT) (q : Nat) : CT := if g q = true then ((if w q = true then clO fn c.1 (se q) (ti q) (va q) (c.2.1 (se q)) (c.2.2 (se q)) else c.1), va_up c.2.1 (se q) true, va_up c.2.2 (se q) (va q)) else c
theorem va_cm {α : Type} (f : Nat → α) {a b : Nat} (u v : α) (h : ¬ a = b) : va_up (va_up f a u) b v = va_up (va_up f b v) a u := by
  funext q
  show (if q = b then v else if q = a then u else f q) = (if q = a then u else if q = b then v else f q)
  by_cases c : q = b
  · rw [if_pos c, if_neg (by omega), if_pos c]
  · rw [if_neg c, if_neg c]
theorem ctO_c {fn : Int32} {se : Nat → Nat} {ti va : Nat → Int64} {g w : Nat → Bool} (a b : Nat) (c : CT) (h : ¬ se a = se b) : ctO fn se ti va g w (ctO fn se ti va g w c a) b = ctO fn se ti va g w (ctO fn se ti va g w c b) a := by
  have h' : ¬ se b = se a := fun e => h e.symm
  unfold ctO
  cases ga : g a with
  | false =>
    cases gb : g b with
    | false => rfl
    | true => rfl
  | true =>
    cases gb : g b with
    | false => rfl
    | true =>
      simp only [if_true]
      rw [va_cm c.2.1 true true h, va_cm c.2.2 (va a) (va b) h, va_up_ne _ _ h', va_up_ne _ _ h', va_up_ne _ _ h, va_up_ne _ _ h]
      refine Prod.ext ?_ rfl
      cases wa : w a with
      | false =>
        cases wb : w b with
        | false => rfl
        | true => rfl
      | true =>
        cases wb : w b with
        | false => rfl
        | true => exact clO_c h
