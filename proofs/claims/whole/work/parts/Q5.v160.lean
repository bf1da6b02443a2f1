/-! A cell: what a point makes of it, in any order of the series. -/
abbrev CS : Type := Bool × Int64 × Int64 × Nat
def clO (fn : Int32) (c : CS) (s : Nat) (t v : Int64) (h : Bool) (b : Int64) : CS :=
  if fn = 0 then (true, c.2.1 + v, c.2.2)
  else if fn = 1 then (true, c.2.1 + 1, c.2.2)
  else if fn = 2 then (true, (if c.1 = true then minL c.2.1 v else v), c.2.2)
  else if fn = 3 then (true, (if c.1 = true then maxL c.2.1 v else v), c.2.2)
  else if fn = 6 then (if h = true then (true, c.2.1 + (if v < b then v else v - b), c.2.2) else c)
  else if chsB fn c.1 t c.2.2.1 s c.2.2.2 = true then (true, v, t, s) else c
/-- which of two points is to be taken -/
def kyB (fn : Int32) (t : Int64) (s : Nat) (t' : Int64) (s' : Nat) : Bool := btB fn t t' || (decide (t = t') && decide (s < s'))
theorem kyB_t {fn : Int32} {t t' : Int64} {s s' : Nat} : kyB fn t s t' s' = true ↔ ((if fn = 4 then t.toInt < t'.toInt else t'.toInt < t.toInt) ∨ (t.toInt = t'.toInt ∧ s < s')) := by
  unfold kyB btB
  rw [Bool.or_eq_true, Bool.and_eq_true, decide_eq_true_eq, decide_eq_true_eq, ← Int64.toInt_inj]
  split
  · rw [decide_eq_true_eq, Int64.lt_iff_toInt_lt]
  · rw [decide_eq_true_eq, Int64.lt_iff_toInt_lt]
theorem kyB_n {fn : Int32} {t t' : Int64} {s s' : Nat} (h : ¬ s = s') : kyB fn t s t' s' = !kyB fn t' s' t s := by
  have a := kyB_t (fn := fn) (t := t) (t' := t') (s := s) (s' := s')
  have b := kyB_t (fn := fn) (t := t') (t' := t) (s := s') (s' := s)
  cases c : kyB fn t s t' s' with
  | true =>
    cases d : kyB fn t' s' t s with
    | false => rfl
    | true =>
      have a := a.mp c
      have b := b.mp d
      split at a
      · rename_i g
        rw [if_pos g] at b
        omega
      · rename_i g
        rw [if_neg g] at b
        omega
  | false =>
    cases d : kyB fn t' s' t s with
    | true => rfl
    | false =>
      have a := fun z => Bool.false_ne_true (c.symm.trans (a.mpr z))
      have b := fun z => Bool.false_ne_true (d.symm.trans (b.mpr z))
      by_cases g : fn = 4
      · rw [if_pos g] at a b
        omega
      · rw [if_neg g] at a b
        omega
theorem kyB_tr {fn : Int32} {t t' t'' : Int64} {s s' s'' : Nat} (h1 : kyB fn t s t'' s'' = true) (h2 : kyB fn t' s' t'' s'' = false) : kyB fn t' s' t s = false := by
  cases d : kyB fn t' s' t s with
  | false => rfl
  | true =>
    have a := kyB_t.mp h1
    have b := kyB_t.mp d
    have e : ¬ kyB fn t' s' t'' s'' = true := by rw [h2]; decide
    refine absurd (kyB_t.mpr ?_) e
    by_cases g : fn = 4
    · rw [if_pos g] at a b ⊢
      omega
    · rw [if_neg g] at a b ⊢
      omega
section CC
variable {fn : Int32} {c : CS} {s1 s2 : Nat} {t1 t2 v1 v2 b1 b2 : Int64} {h1 h2 : Bool}
theorem ad_rc (a b c : Int64) : a + b + c = a + c + b := by rw [Int64.add_assoc, Int64.add_comm b c, ← Int64.add_assoc]
theorem minL_i (a b : Int64) : (minL a b).toInt = min a.toInt b.toInt := by
  unfold minL
  split
  · rename_i g
    rw [Int64.lt_iff_toInt_lt] at g
    omega
  · rename_i g
    rw [Int64.lt_iff_toInt_lt] at g
    omega
theorem maxL_i (a b : Int64) : (maxL a b).toInt = max a.toInt b.toInt := by
  unfold maxL
  split
  · rename_i g
    rw [Int64.lt_iff_toInt_lt] at g
    omega
  · rename_i g
    rw [Int64.lt_iff_toInt_lt] at g
    omega
theorem clO_c (hs : ¬ s1 = s2) : clO fn (clO fn c s1 t1 v1 h1 b1) s2 t2 v2 h2 b2 = clO fn (clO fn c s2 t2 v2 h2 b2) s1 t1 v1 h1 b1 := by
  obtain ⟨i, u, kt, ks⟩ := c
  unfold clO
  by_cases f0 : fn = 0
  · rw [if_pos f0, if_pos f0, if_pos f0, if_pos f0, ad_rc]
  rw [if_neg f0, if_neg f0, if_neg f0, if_neg f0]
  by_cases f1 : fn = 1
  · rw [if_pos f1, if_pos f1, if_pos f1, if_pos f1]
  rw [if_neg f1, if_neg f1, if_neg f1, if_neg f1]
  by_cases f2 : fn = 2
  · rw [if_pos f2, if_pos f2, if_pos f2, if_pos f2]
    refine Prod.ext rfl (Prod.ext ?_ rfl)
    show (if true = true then minL (if i = true then minL u v1 else v1) v2 else v2) = (if true = true then minL (if i = true then minL u v2 else v2) v1 else v1)
    rw [if_pos rfl, if_pos rfl]
    apply Int64.toInt_inj.mp
    rw [minL_i, minL_i]
    cases i with
    | true =>
      rw [if_pos rfl, if_pos rfl, minL_i, minL_i]
      omega
    | false =>
      rw [if_neg (by decide), if_neg (by decide)]
      omega
  rw [if_neg f2, if_neg f2, if_neg f2, if_neg f2]
  by_cases f3 : fn = 3
  · rw [if_pos f3, if_pos f3, if_pos f3, if_pos f3]
    refine Prod.ext rfl (Prod.ext ?_ rfl)
    show (if true = true then maxL (if i = true then maxL u v1 else v1) v2 else v2) = (if true = true then maxL (if i = true then maxL u v2 else v2) v1 else v1)
    rw [if_pos rfl, if_pos rfl]
    apply Int64.toInt_inj.mp
    rw [maxL_i, maxL_i]
    cases i with
    | true =>
      rw [if_pos rfl, if_pos rfl, maxL_i, maxL_i]
      omega
    | false =>
      rw [if_neg (by decide), if_neg (by decide)]
      omega
  rw [if_neg f3, if_neg f3, if_neg f3, if_neg f3]
  by_cases f6 : fn = 6
  · rw [if_pos f6, if_pos f6, if_pos f6, if_pos f6]
    cases h1 with
    | true =>
      cases h2 with
      | true =>
        rw [if_pos rfl, if_pos rfl, if_pos rfl, if_pos rfl, ad_rc]
      | false => rfl
    | false =>
      cases h2 with
      | true => rfl
      | false => rfl
  rw [if_neg f6, if_neg f6, if_neg f6, if_neg f6]
  -- first or latest
  have ch : ∀ (h : Bool) (t bt : Int64) (o bo : Nat), chsB fn h t bt o bo = (!h || kyB fn t o bt bo) := fun _ _ _ _ _ => rfl
  show (if chsB fn (if chsB fn i t1 kt s1 ks = true then (true, v1, t1, s1) else (i, u, kt, ks) : CS).1 t2 (if chsB fn i t1 kt s1 ks = true then (true, v1, t1, s1) else (i, u, kt, ks) : CS).2.2.1 s2 (if chsB fn i t1 kt s1 ks = true then (true, v1, t1, s1) else (i, u, kt, ks) : CS).2.2.2 = true then (true, v2, t2, s2) else (if chsB fn i t1 kt s1 ks = true then (true, v1, t1, s1) else (i, u, kt, ks) : CS)) = (if chsB fn (if chsB fn i t2 kt s2 ks = true then (true, v2, t2, s2) else (i, u, kt, ks) : CS).1 t1 (if chsB fn i t2 kt s2 ks = true then (true, v2, t2, s2) else (i, u, kt, ks) : CS).2.2.1 s1 (if chsB fn i t2 kt s2 ks = true then (true, v2, t2, s2) else (i, u, kt, ks) : CS).2.2.2 = true then (true, v1, t1, s1) else (if chsB fn i t2 kt s2 ks = true then (true, v2, t2, s2) else (i, u, kt, ks) : CS))
  simp only [ch]
  cases A : (!i || kyB fn t1 s1 kt ks) with
  | true =>
    rw [if_pos rfl]
    show (if (!true || kyB fn t2 s2 t1 s1) = true then _ else _) = _
    rw [Bool.not_true, Bool.false_or]
    cases B : (!i || kyB fn t2 s2 kt ks) with
    | true =>
      rw [if_pos rfl]
      show _ = (if (!true || kyB fn t1 s1 t2 s2) = true then _ else _)
      rw [Bool.not_true, Bool.false_or, kyB_n (fn := fn) (t := t1) (t' := t2) hs]
      cases kyB fn t2 s2 t1 s1 with
      | true => rfl
      | false => rfl
    | false =>
      rw [if_neg (by decide)]
      rw [Bool.or_eq_false_iff] at B
      have ei : i = true := by
        have := B.1
        cases i with
        | true => rfl
        | false => cases this
      subst ei
      have A : kyB fn t1 s1 kt ks = true := A
      rw [kyB_tr A B.2, if_neg (by decide)]
      show _ = (if (!true || kyB fn t1 s1 kt ks) = true then _ else _)
      rw [A]
      rfl
  | false =>
    rw [if_neg (by decide)]
    rw [Bool.or_eq_false_iff] at A
    have ei : i = true := by
      have := A.1
      cases i with
      | true => rfl
      | false => cases this
    subst ei
    show (if (!true || kyB fn t2 s2 kt ks) = true then _ else _) = _
    cases B : (!true || kyB fn t2 s2 kt ks) with
    | true =>
      rw [if_pos rfl]
      have B : kyB fn t2 s2 kt ks = true := B
      show _ = (if (!true || kyB fn t1 s1 t2 s2) = true then _ else _)
      rw [Bool.not_true, Bool.false_or, kyB_tr B A.2]
      rfl
    | false =>
      rw [if_neg (by decide)]
      show _ = (if (!true || kyB fn t1 s1 kt ks) = true then _ else _)
      rw [A.2]
      rfl
end CC
/-- a cell, and the values before -/
abbrev CT : Type := CS × (Nat → Bool) × (Nat → Int64)
/-- point q comes; g: is it looked at, w: does it fall into the cell -/
def ctO (fn : Int32) (se : Nat → Nat) (ti va : Nat → Int64) (g w : Nat → Bool) (c : CT) (q : Nat) : CT := if g q = true then ((if w q = true then clO fn c.1 (se q) (ti q) (va q) (c.2.1 (se q)) (c.2.2 (se q)) else c.1), va_up c.2.1 (se q) true, va_up c.2.2 (se q) (va q)) else c
theorem va_cm {α : Type} (f : Nat → α) {a b : Nat} (u v : α) (h : ¬ a = b) : va_up (va_up f a u) b v = va_up (va_up f b v) a u := by
  funext q
  show (if q = b then v else if q = a then u else f q) = (if q = a then u else if q = b then v else f q)
  by_cases c : q = b
  · rw [if_pos c, if_neg (by omega), if_pos c]
  · rw [if_neg c, if_neg c]
theorem ctO_c {fn : Int32} {se : Nat → Nat} {ti va : Nat → Int64} {g w : Nat → Bool} (a b : Nat) (c : CT) (h : ¬ se a = se b) : ctO fn se ti va g w (ctO fn se ti va g w c a) b = ctO fn se ti va g w (ctO fn se ti va g w c b) a := by
  have h' : ¬ se b = se a := fun e => h e.symm
  unfold ctO
  cases ga : g a with
  | false =>
    cases gb : g b with
    | false => rfl
    | true => rfl
  | true =>
    cases gb : g b with
    | false => rfl
    | true =>
      simp only [if_true]
      rw [va_cm c.2.1 true true h, va_cm c.2.2 (va a) (va b) h, va_up_ne _ _ h', va_up_ne _ _ h', va_up_ne _ _ h, va_up_ne _ _ h]
      refine Prod.ext ?_ rfl
      cases wa : w a with
      | false =>
        cases wb : w b with
        | false => rfl
        | true => rfl
      | true =>
        cases wb : w b with
        | false => rfl
        | true => exact clO_c h
