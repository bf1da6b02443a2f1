/-! What a question's text means: its steps. -/
abbrev SP1 : Type := Int32 × Nat × Int64 × Nat × (Nat → List Int32) × Nat × (Nat → Int32) × (Nat → List Int32) × (Nat → List Int32)
def isSP (dA : Nat → ClassId) (ws : va_W) (a : Nat) (s : SP1) : Prop := isStp dA ws a s.1 s.2.1 s.2.2.1 s.2.2.2.1 s.2.2.2.2.1 s.2.2.2.2.2.1 s.2.2.2.2.2.2.1 s.2.2.2.2.2.2.2.1 s.2.2.2.2.2.2.2.2
def spO (kd : Int32) (q : Nat) (nu : Int64) : SP1 := (kd, q, nu, 0, fun _ => [], 0, fun _ => 0, fun _ => [], fun _ => [])
theorem isSP_m {dA : Nat → ClassId} {ws ws' : va_W} {a : Nat} {s : SP1} (hs : ∀ c, c ∈ ws → c ∈ ws') (h : isSP dA ws a s) : isSP dA ws' a s := isStp_m hs h
/-- token and steps read -/
abbrev PR : Type := Bool × TKQ × List SP1
/-- from t on: on the tape, behind t, a byte at least for each step -/
def prG (n : Nat) (t : TKQ) (R : PR) : Prop := tkok n R.2.1 ∧ t.2.2.1 ≤ rqP R.1 R.2.1 ∧ t.2.1 + R.2.2.length ≤ R.2.1.2.1
/-- the same without steps -/
def prT (n : Nat) (t : TKQ) (b : Bool) (u : TKQ) : Prop := tkok n u ∧ t.2.2.1 ≤ rqP b u ∧ t.2.1 ≤ u.2.1
theorem prT_rf {n : Nat} {t : TKQ} {k : Int32} {q : Nat} (h : tkok n t) : prT n t false (rfT t k q) := ⟨rfT_ok h, Nat.le_of_eq (rfT_e t k q).2.2.symm, Nat.le_of_eq (rfT_e t k q).2.1.symm⟩
theorem prT_nx {f : Nat → Int32} {n : Nat} {t : TKQ} (h : tkok n t) : prT n t true (nxT f n t) := by
  have a := nx_ok (f := f) h.2.1
  refine ⟨a.1, a.2, ?_⟩
  have := h.1
  have := a.2
  omega
theorem prT_t {n : Nat} {t u : TKQ} (h : prT n t true u) : t.2.2.1 ≤ u.2.1 := h.2.1
theorem prT_tr {n : Nat} {t u v : TKQ} {b : Bool} (h1 : prT n t true u) (h2 : prT n u b v) (ht : t.2.1 ≤ t.2.2.1) : prT n t b v ∧ u.2.2.1 ≤ rqP b v := by
  obtain ⟨a1, a2, a3⟩ := h1
  obtain ⟨b1, b2, b3⟩ := h2
  have a2 : t.2.2.1 ≤ u.2.1 := a2
  have c1 := a1.1
  exact ⟨⟨b1, by omega, by omega⟩, b2⟩
theorem tk_P {f : Nat → Int32} {n : Nat} {t : TKQ} {k : Int32} (h : tkok n t) : prT n t (tkT f n t k).1 (tkT f n t k).2 := by
  unfold tkT
  split
  · exact prT_nx h
  · exact prT_rf h
theorem tk_y {f : Nat → Int32} {n : Nat} {t : TKQ} {k : Int32} (h : t.1 = k) : tkT f n t k = (true, nxT f n t) := if_pos h
theorem tk_n {f : Nat → Int32} {n : Nat} {t : TKQ} {k : Int32} (h : ¬ t.1 = k) : tkT f n t k = (false, rfT t 2 t.2.1) := if_neg h
theorem tk_b {f : Nat → Int32} {n : Nat} {t : TKQ} {k : Int32} {b : Bool} (h : decide (t.1 = k) = b) : (tkT f n t k).1 = b := by
  cases b with
  | true => rw [tk_y (of_decide_eq_true h)]
  | false => rw [tk_n (of_decide_eq_false h)]
theorem rn_T {f : Nat → Int32} {n : Nat} : ∀ {w k : Nat} {t : TKQ} {NL : Nat → List Int32}, tkok n t → t.2.1 ≤ (rnG f n w t k NL).2.1.2.1
  | 0, k, t, NL, h => Nat.le_refl _
  | w + 1, k, t, NL, h => by
    have a1 := nx_ok (f := f) h.2.1
    have a2 := nx_ok (f := f) a1.1.2.1
    have b0 := h.1
    have b1 := a1.1.1
    by_cases h1 : t.1 = 258
    · cases h2 : mtB NL k (tkw f t) with
      | false => rw [rn_2 (w := w + 1) (by omega) h1 h2]; exact Nat.le_of_eq (rfT_e t 4 t.2.1).2.1.symm
      | true =>
        by_cases h3 : (nxT f n t).1 = 44
        · rw [rn_4 (w := w + 1) (by omega) h1 h2 h3]
          have ih := rn_T (f := f) (n := n) (w := w + 1 - 1) (k := k + 1) (NL := va_up NL k (tkw f t)) a2.1
          omega
        · rw [rn_3 (w := w + 1) (by omega) h1 h2 h3]
          show t.2.1 ≤ (nxT f n t).2.1
          omega
    · rw [rn_1 (w := w + 1) (by omega) h1]; exact Nat.le_of_eq (rfT_e t 2 t.2.1).2.1.symm
theorem rm_T {f : Nat → Int32} {n w k : Nat} {t : TKQ} {KD : Nat → Int32} {MN MT : Nat → List Int32} (h : tkok n t) : t.2.1 ≤ (rmG f n w t k KD MN MT).2.1.2.1 := (rm_P h).2.2.2
/-- '(' names ')' -/
def rnH (f : Nat → Int32) (n : Nat) (t : TKQ) : RN := rnG f n 7 t 0 (fun _ => [])
def byC (f : Nat → Int32) (n : Nat) (b : RN) : RN := if b.1 = true then ((tkT f n b.2.1 41).1, (tkT f n b.2.1 41).2, b.2.2) else b
def byT (f : Nat → Int32) (n : Nat) (t : TKQ) : RN := if (tkT f n t 40).1 = true then byC f n (rnH f n (tkT f n t 40).2) else (false, (tkT f n t 40).2, 0, fun _ => [])
/-- by, or nothing -/
def fbT (f : Nat → Int32) (n : Nat) (t : TKQ) : RN := if t.1 = 258 ∧ sameW (tkw f t) (qsW 7) = true then byT f n (nxT f n t) else (true, t, 0, fun _ => [])
def msT (f : Nat → Int32) (n : Nat) (t : TKQ) : RM := if t.1 = 125 then (true, t, 0, fun _ => 0, fun _ => [], fun _ => []) else rmG f n n t 0 (fun _ => 0) (fun _ => []) (fun _ => [])
def tlD (f : Nat → Int32) (n : Nat) (b : RM) : RM := if b.1 = true then ((tkT f n b.2.1 41).1, (tkT f n b.2.1 41).2, b.2.2) else b
def tlC (f : Nat → Int32) (n : Nat) (b : RM) : RM := if b.1 = true then tlD f n ((tkT f n b.2.1 125).1, (tkT f n b.2.1 125).2, b.2.2) else b
def tlB (f : Nat → Int32) (n : Nat) (t : TKQ) : RM := if (tkT f n t 123).1 = true then tlC f n (msT f n (tkT f n t 123).2) else (false, (tkT f n t 123).2, 0, fun _ => 0, fun _ => [], fun _ => [])
/-- '(' '{' matches '}' ')' -/
def tlT (f : Nat → Int32) (n : Nat) (t : TKQ) : RM := if (tkT f n t 40).1 = true then tlB f n (tkT f n t 40).2 else (false, (tkT f n t 40).2, 0, fun _ => 0, fun _ => [], fun _ => [])
def pfS (f : Nat → Int32) (t : TKQ) (b : RN) (c : RM) : SP1 := (264, t.2.1, (fnV (tkw f t)).toInt64, b.2.2.1, b.2.2.2, c.2.2.1, c.2.2.2.1, c.2.2.2.2.1, c.2.2.2.2.2)
def pfB (f : Nat → Int32) (n : Nat) (t : TKQ) (b : RN) : PR := if b.1 = true then ((tlT f n b.2.1).1, (tlT f n b.2.1).2.1, [pfS f t b (tlT f n b.2.1)]) else (false, b.2.1, [spO 264 0 0])
/-- a function -/
def pFn (f : Nat → Int32) (n : Nat) (t : TKQ) : PR := if fnV (tkw f t) = (-1) then (false, rfT t 2 t.2.1, []) else pfB f n t (fbT f n (nxT f n t))
theorem fb_y {f : Nat → Int32} {n : Nat} {t : TKQ} (h : t.1 = 258) (h2 : sameW (tkw f t) (qsW 7) = true) : fbT f n t = byT f n (nxT f n t) := if_pos ⟨h, h2⟩
theorem fb_n {f : Nat → Int32} {n : Nat} {t : TKQ} (h : ¬ t.1 = 258 ∨ sameW (tkw f t) (qsW 7) = false) : fbT f n t = (true, t, 0, fun _ => []) := if_neg (fun z => by
  rcases h with h | h
  · exact h z.1
  · rw [z.2] at h; cases h)
theorem by_1 {f : Nat → Int32} {n : Nat} {t : TKQ} (h : (tkT f n t 40).1 = false) : byT f n t = (false, (tkT f n t 40).2, 0, fun _ => []) := if_neg (by rw [h]; decide)
theorem by_2 {f : Nat → Int32} {n : Nat} {t : TKQ} (h : (tkT f n t 40).1 = true) (h2 : (rnH f n (tkT f n t 40).2).1 = false) : byT f n t = rnH f n (tkT f n t 40).2 := (if_pos h).trans (if_neg (by rw [h2]; decide))
theorem by_3 {f : Nat → Int32} {n : Nat} {t : TKQ} (h : (tkT f n t 40).1 = true) (h2 : (rnH f n (tkT f n t 40).2).1 = true) : byT f n t = ((tkT f n (rnH f n (tkT f n t 40).2).2.1 41).1, (tkT f n (rnH f n (tkT f n t 40).2).2.1 41).2, (rnH f n (tkT f n t 40).2).2.2) := (if_pos h).trans (if_pos h2)
theorem rnH_P {f : Nat → Int32} {n : Nat} {t : TKQ} (h : tkok n t) : prT n t (rnH f n t).1 (rnH f n t).2.1 := ⟨(rn_P h).2, (rn_P h).1, rn_T h⟩
theorem by_P {f : Nat → Int32} {n : Nat} {t : TKQ} (h : tkok n t) : prT n t (byT f n t).1 (byT f n t).2.1 ∧ ((tkT f n t 40).1 = true → rqP (rnH f n (tkT f n t 40).2).1 (rnH f n (tkT f n t 40).2).2.1 ≤ rqP (byT f n t).1 (byT f n t).2.1) := by
  have a1 := tk_P (f := f) (k := 40) h
  cases h1 : (tkT f n t 40).1 with
  | false => rw [by_1 h1]; rw [h1] at a1; exact ⟨a1, fun z => by cases z⟩
  | true =>
    rw [h1] at a1
    have a2 := rnH_P (f := f) a1.1
    have a3 := (prT_tr a1 a2 h.1).1
    cases h2 : (rnH f n (tkT f n t 40).2).1 with
    | false =>
      rw [by_2 h1 h2]
      exact ⟨a3, fun _ => by rw [h2]; exact Nat.le_refl _⟩
    | true =>
      rw [by_3 h1 h2]
      rw [h2] at a2 a3
      have a4 := tk_P (f := f) (k := 41) a2.1
      have a5 := prT_tr a3 a4 h.1
      exact ⟨a5.1, fun _ => Nat.le_trans a2.1.1 a5.2⟩
theorem rnH_n {f : Nat → Int32} {n : Nat} (t : TKQ) : (rnH f n t).2.2.1 ≤ 6 := rn_n (Nat.zero_le 6)
theorem byT_n {f : Nat → Int32} {n : Nat} (t : TKQ) : (byT f n t).2.2.1 ≤ 6 := by
  cases h1 : (tkT f n t 40).1 with
  | false => rw [by_1 h1]; exact Nat.zero_le 6
  | true =>
    cases h2 : (rnH f n (tkT f n t 40).2).1 with
    | false => rw [by_2 h1 h2]; exact rnH_n _
    | true =>
      rw [by_3 h1 h2]
      show (rnH f n (tkT f n t 40).2).2.2.1 ≤ 6
      exact rnH_n _
theorem fb_P {f : Nat → Int32} {n : Nat} {t : TKQ} (h : tkok n t) : tkok n (fbT f n t).2.1 ∧ t.2.1 ≤ (fbT f n t).2.1.2.1 ∧ t.2.2.1 ≤ (fbT f n t).2.1.2.2.1 ∧ (fbT f n t).2.2.1 ≤ 6 := by
  by_cases h1 : t.1 = 258 ∧ sameW (tkw f t) (qsW 7) = true
  · rw [fb_y h1.1 h1.2]
    have a1 := prT_nx (f := f) h
    have a2 := (by_P (f := f) a1.1).1
    have a3 := (prT_tr a1 a2 h.1).1
    refine ⟨a3.1, a3.2.2, ?_, ?_⟩
    · have b1 := a3.2.1
      have b2 := a3.1.1
      unfold rqP at b1
      split at b1
      · omega
      · exact b1
    · exact byT_n _
  · have e : fbT f n t = (true, t, 0, fun _ => []) := if_neg h1
    rw [e]
    exact ⟨h, Nat.le_refl _, Nat.le_refl _, Nat.zero_le 6⟩
theorem ms_M {f : Nat → Int32} {n : Nat} {t : TKQ} (h : tkok n t) : tkok n (msT f n t).2.1 ∧ t.2.1 ≤ (msT f n t).2.1.2.1 ∧ t.2.2.1 ≤ (msT f n t).2.1.2.2.1 ∧ t.2.1 ≤ rqP (msT f n t).1 (msT f n t).2.1 := by
  unfold msT
  split
  · exact ⟨h, Nat.le_refl _, Nat.le_refl _, Nat.le_refl _⟩
  · have a := rm_P (f := f) (w := n) (k := 0) (KD := fun _ => 0) (MN := fun _ => []) (MT := fun _ => []) h
    have b := rm_T (f := f) (w := n) (k := 0) (KD := fun _ => 0) (MN := fun _ => []) (MT := fun _ => []) h
    have a1 := a.1
    have a2 := a.2.1.1
    have a3 := h.1
    refine ⟨a.2.1, b, ?_, by omega⟩
    unfold rqP at a1
    split at a1
    · omega
    · exact a1
theorem tlD_P {f : Nat → Int32} {n : Nat} {t : TKQ} {b : RM} (h : prT n t b.1 b.2.1) (ht : t.2.1 ≤ t.2.2.1) : prT n t (tlD f n b).1 (tlD f n b).2.1 := by
  unfold tlD
  split
  · rename_i g
    rw [g] at h
    exact (prT_tr h (tk_P h.1) ht).1
  · exact h
theorem tlC_P {f : Nat → Int32} {n : Nat} {t : TKQ} (h : tkok n t) : prT n t (tlC f n (msT f n t)).1 (tlC f n (msT f n t)).2.1 ∧ rqP (msT f n t).1 (msT f n t).2.1 ≤ rqP (tlC f n (msT f n t)).1 (tlC f n (msT f n t)).2.1 := by
  obtain ⟨a1, a2, a3, a4⟩ := ms_M (f := f) h
  unfold tlC
  split
  · rename_i g
    have c1 := tk_P (f := f) (k := 125) a1
    obtain ⟨d1, d2, d3⟩ := tlD_P (f := f) (b := ((tkT f n (msT f n t).2.1 125).1, (tkT f n (msT f n t).2.1 125).2, (msT f n t).2.2)) c1 a1.1
    refine ⟨⟨d1, by omega, by omega⟩, ?_⟩
    rw [g]
    have := a1.1
    show (msT f n t).2.1.2.1 ≤ _
    omega
  · rename_i g
    have g2 : (msT f n t).1 = false := by cases q : (msT f n t).1 with
      | true => exact absurd q g
      | false => rfl
    refine ⟨⟨a1, ?_, a2⟩, Nat.le_refl _⟩
    rw [g2]
    exact a3
theorem tlB_P {f : Nat → Int32} {n : Nat} {t : TKQ} (h : tkok n t) : prT n t (tlB f n t).1 (tlB f n t).2.1 ∧ ((tkT f n t 123).1 = true → rqP (msT f n (tkT f n t 123).2).1 (msT f n (tkT f n t 123).2).2.1 ≤ rqP (tlB f n t).1 (tlB f n t).2.1) := by
  have a1 := tk_P (f := f) (k := 123) h
  unfold tlB
  cases h1 : (tkT f n t 123).1 with
  | false =>
    rw [if_neg (by decide)]
    rw [h1] at a1
    exact ⟨a1, fun z => by cases z⟩
  | true =>
    rw [if_pos rfl]
    rw [h1] at a1
    have a2 := tlC_P (f := f) a1.1
    exact ⟨(prT_tr a1 a2.1 h.1).1, fun _ => a2.2⟩
theorem tl_P {f : Nat → Int32} {n : Nat} {t : TKQ} (h : tkok n t) : prT n t (tlT f n t).1 (tlT f n t).2.1 ∧ ((tkT f n t 40).1 = true → (tkT f n (tkT f n t 40).2 123).1 = true → rqP (msT f n (tkT f n (tkT f n t 40).2 123).2).1 (msT f n (tkT f n (tkT f n t 40).2 123).2).2.1 ≤ rqP (tlT f n t).1 (tlT f n t).2.1) := by
  have a1 := tk_P (f := f) (k := 40) h
  unfold tlT
  cases h1 : (tkT f n t 40).1 with
  | false =>
    rw [if_neg (by decide)]
    rw [h1] at a1
    exact ⟨a1, fun z => by cases z⟩
  | true =>
    rw [if_pos rfl]
    rw [h1] at a1
    have a2 := tlB_P (f := f) a1.1
    exact ⟨(prT_tr a1 a2.1 h.1).1, fun _ => a2.2⟩
/-- the paths of '(' '{' matches '}' ')' -/
theorem tl_1 {f : Nat → Int32} {n : Nat} {t : TKQ} (h : (tkT f n t 40).1 = false) : tlT f n t = (false, (tkT f n t 40).2, 0, fun _ => 0, fun _ => [], fun _ => []) := if_neg (by rw [h]; decide)
theorem tl_2 {f : Nat → Int32} {n : Nat} {t : TKQ} (h : (tkT f n t 40).1 = true) (h2 : (tkT f n (tkT f n t 40).2 123).1 = false) : tlT f n t = (false, (tkT f n (tkT f n t 40).2 123).2, 0, fun _ => 0, fun _ => [], fun _ => []) := (if_pos h).trans (if_neg (by rw [h2]; decide))
theorem tl_3 {f : Nat → Int32} {n : Nat} {t : TKQ} (h : (tkT f n t 40).1 = true) (h2 : (tkT f n (tkT f n t 40).2 123).1 = true) (h3 : (msT f n (tkT f n (tkT f n t 40).2 123).2).1 = false) : tlT f n t = msT f n (tkT f n (tkT f n t 40).2 123).2 := (if_pos h).trans ((if_pos h2).trans (if_neg (by rw [h3]; decide)))
theorem tl_4 {f : Nat → Int32} {n : Nat} {t : TKQ} (h : (tkT f n t 40).1 = true) (h2 : (tkT f n (tkT f n t 40).2 123).1 = true) {M : RM} (hM : msT f n (tkT f n (tkT f n t 40).2 123).2 = M) (h3 : M.1 = true) (h4 : (tkT f n M.2.1 125).1 = false) : tlT f n t = (false, (tkT f n M.2.1 125).2, M.2.2) := by
  refine (if_pos h).trans ((if_pos h2).trans ?_)
  rw [hM]
  refine (if_pos h3).trans ((if_neg ?_).trans ?_)
  · show ¬ (tkT f n M.2.1 125).1 = true
    rw [h4]; decide
  · rw [h4]
theorem tl_5 {f : Nat → Int32} {n : Nat} {t : TKQ} (h : (tkT f n t 40).1 = true) (h2 : (tkT f n (tkT f n t 40).2 123).1 = true) {M : RM} (hM : msT f n (tkT f n (tkT f n t 40).2 123).2 = M) (h3 : M.1 = true) (h4 : (tkT f n M.2.1 125).1 = true) : tlT f n t = ((tkT f n (tkT f n M.2.1 125).2 41).1, (tkT f n (tkT f n M.2.1 125).2 41).2, M.2.2) := by
  refine (if_pos h).trans ((if_pos h2).trans ?_)
  rw [hM]
  exact (if_pos h3).trans (if_pos h4)
theorem pF_0 {f : Nat → Int32} {n : Nat} {t : TKQ} (h : fnV (tkw f t) = (-1)) : pFn f n t = (false, rfT t 2 t.2.1, []) := if_pos h
theorem pF_1 {f : Nat → Int32} {n : Nat} {t : TKQ} {b : RN} (h : ¬ fnV (tkw f t) = (-1)) (hb : fbT f n (nxT f n t) = b) (h2 : b.1 = false) : pFn f n t = (false, b.2.1, [spO 264 0 0]) := by
  refine (if_neg h).trans ?_
  rw [hb]
  exact if_neg (by rw [h2]; decide)
theorem pF_2 {f : Nat → Int32} {n : Nat} {t : TKQ} {b : RN} {M : RM} (h : ¬ fnV (tkw f t) = (-1)) (hb : fbT f n (nxT f n t) = b) (h2 : b.1 = true) (hM : tlT f n b.2.1 = M) : pFn f n t = (M.1, M.2.1, [pfS f t b M]) := by
  refine (if_neg h).trans ?_
  rw [hb]
  refine (if_pos h2).trans ?_
  rw [hM]
theorem fb_T {f : Nat → Int32} {n : Nat} {t : TKQ} (h : tkok n t) (hb : (fbT f n t).1 = false) : prT n t false (fbT f n t).2.1 := by
  obtain ⟨a1, a2, a3, -⟩ := fb_P (f := f) h
  exact ⟨a1, a3, a2⟩
theorem pFn_P {f : Nat → Int32} {n : Nat} {t : TKQ} (h : tkok n t) (hk : t.1 = 258) : prG n t (pFn f n t) := by
  by_cases h0 : fnV (tkw f t) = (-1)
  · rw [pF_0 h0]
    have a := prT_rf (k := 2) (q := t.2.1) h
    exact ⟨a.1, a.2.1, a.2.2⟩
  · have a1 := prT_nx (f := f) h
    have a2 : t.2.2.1 ≤ (nxT f n t).2.1 := a1.2.1
    have a4 : t.2.1 < t.2.2.1 := h.2.2.1 (by rw [hk]; decide)
    have a5 := a1.1.1
    obtain ⟨b1, b2, b3, -⟩ := fb_P (f := f) a1.1
    cases h1 : (fbT f n (nxT f n t)).1 with
    | false =>
      rw [pF_1 h0 rfl h1]
      refine ⟨b1, ?_, ?_⟩
      · show t.2.2.1 ≤ (fbT f n (nxT f n t)).2.1.2.2.1
        omega
      · show t.2.1 + 1 ≤ (fbT f n (nxT f n t)).2.1.2.1
        omega
    | true =>
      rw [pF_2 h0 rfl h1 rfl]
      obtain ⟨d1, d2, d3⟩ := (tl_P (f := f) b1).1
      have b4 := b1.1
      refine ⟨d1, ?_, ?_⟩
      · show t.2.2.1 ≤ rqP (tlT f n (fbT f n (nxT f n t)).2.1).1 (tlT f n (fbT f n (nxT f n t)).2.1).2.1
        omega
      · show t.2.1 + 1 ≤ (tlT f n (fbT f n (nxT f n t)).2.1).2.1.2.1
        omega
/-- what a function's reading costs: each of its parts lies before its end -/
theorem pFn_C {f : Nat → Int32} {n : Nat} {t : TKQ} (h : tkok n t) (h0 : ¬ fnV (tkw f t) = (-1)) : (pFn f n t).2.2.length = 1 ∧ (nxT f n t).2.2.1 ≤ rqP (pFn f n t).1 (pFn f n t).2.1 ∧ ((nxT f n t).1 = 258 → sameW (tkw f (nxT f n t)) (qsW 7) = true → (tkT f n (nxT f n (nxT f n t)) 40).1 = true → rqP (rnH f n (tkT f n (nxT f n (nxT f n t)) 40).2).1 (rnH f n (tkT f n (nxT f n (nxT f n t)) 40).2).2.1 ≤ rqP (pFn f n t).1 (pFn f n t).2.1) ∧ ((fbT f n (nxT f n t)).1 = true → (tkT f n (fbT f n (nxT f n t)).2.1 40).1 = true → (tkT f n (tkT f n (fbT f n (nxT f n t)).2.1 40).2 123).1 = true → rqP (msT f n (tkT f n (tkT f n (fbT f n (nxT f n t)).2.1 40).2 123).2).1 (msT f n (tkT f n (tkT f n (fbT f n (nxT f n t)).2.1 40).2 123).2).2.1 ≤ rqP (pFn f n t).1 (pFn f n t).2.1) := by
  have a1 := prT_nx (f := f) h
  obtain ⟨b1, b2, b3, -⟩ := fb_P (f := f) a1.1
  have key : ∀ (z1 : (nxT f n t).1 = 258) (z2 : sameW (tkw f (nxT f n t)) (qsW 7) = true) (z3 : (tkT f n (nxT f n (nxT f n t)) 40).1 = true), rqP (rnH f n (tkT f n (nxT f n (nxT f n t)) 40).2).1 (rnH f n (tkT f n (nxT f n (nxT f n t)) 40).2).2.1 ≤ rqP (fbT f n (nxT f n t)).1 (fbT f n (nxT f n t)).2.1 := by
    intro z1 z2 z3
    rw [fb_y z1 z2]
    exact (by_P (f := f) (prT_nx (f := f) a1.1).1).2 z3
  cases h1 : (fbT f n (nxT f n t)).1 with
  | false =>
    rw [pF_1 h0 rfl h1]
    rw [h1] at key
    exact ⟨rfl, b3, key, fun z => by cases z⟩
  | true =>
    rw [pF_2 h0 rfl h1 rfl]
    rw [h1] at key
    have d := tl_P (f := f) b1
    obtain ⟨d1, d2, d3⟩ := d.1
    refine ⟨rfl, ?_, fun z1 z2 z3 => ?_, fun _ => d.2⟩
    · show _ ≤ rqP (tlT f n (fbT f n (nxT f n t)).2.1).1 (tlT f n (fbT f n (nxT f n t)).2.1).2.1
      omega
    · have k := key z1 z2 z3
      have k2 : rqP true (fbT f n (nxT f n t)).2.1 = (fbT f n (nxT f n t)).2.1.2.1 := rfl
      have b4 := b1.1
      show _ ≤ rqP (tlT f n (fbT f n (nxT f n t)).2.1).1 (tlT f n (fbT f n (nxT f n t)).2.1).2.1
      omega
