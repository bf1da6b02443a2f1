/-! The signs that wait, and what is done with them. -/
def stG (s p : Nat → Nat) : Nat → List (Nat × Nat)
  | 0 => []
  | k + 1 => (s k, p k) :: stG s p k
def MS.stk (y : MS) : List (Nat × Nat) := stG y.signs y.signPlaces y.signCount
theorem stG_ext {s p s' p' : Nat → Nat} : ∀ {k : Nat}, (∀ i, i < k → s' i = s i ∧ p' i = p i) → stG s' p' k = stG s p k
  | 0, _ => rfl
  | k + 1, h => by
    show (s' k, p' k) :: stG s' p' k = (s k, p k) :: stG s p k
    rw [stG_ext (fun i hi => h i (by omega)), (h k (by omega)).1, (h k (by omega)).2]
theorem stG_up (s p : Nat → Nat) (k a b : Nat) : stG (va_up s k a) (va_up p k b) (k + 1) = (a, b) :: stG s p k := by
  show (va_up s k a k, va_up p k b k) :: stG (va_up s k a) (va_up p k b) k = _
  rw [va_up_self, va_up_self, stG_ext (fun i hi => ⟨va_up_ne _ _ (Nat.ne_of_lt hi), va_up_ne _ _ (Nat.ne_of_lt hi)⟩)]
theorem stk_c {y : MS} {a : Nat × Nat} {S : List (Nat × Nat)} (h : y.stk = a :: S) : 0 < y.signCount ∧ y.top = a.1 ∧ y.signPlaces (y.signCount - 1) = a.2 ∧ stG y.signs y.signPlaces (y.signCount - 1) = S := by
  unfold MS.stk at h
  unfold MS.top
  cases c : y.signCount with
  | zero => rw [c] at h; cases h
  | succ k =>
    rw [c] at h
    have h : (y.signs k, y.signPlaces k) :: stG y.signs y.signPlaces k = a :: S := h
    rw [List.cons.injEq] at h
    obtain ⟨h1, h2⟩ := h
    rw [← h1]
    exact ⟨Nat.succ_pos k, rfl, rfl, h2⟩
theorem stk_0 {y : MS} (h : y.stk = []) : y.signCount = 0 := by
  unfold MS.stk at h
  cases c : y.signCount with
  | zero => rfl
  | succ k => rw [c] at h; cases h
theorem stk_ck {x y : MS} (h : x.ck y) : y.stk = x.stk := by
  unfold MS.stk
  rw [ck_f h MS.signs rfl, ck_f h MS.signPlaces rfl, ck_f h MS.signCount rfl]
/-- the step of a sign -/
def fls (a : Nat × Nat) : SP1 := if a.1 = 109 then spO 265 a.2 0 else spO (nI a.1) a.2 0
/-- x with token, fault and signs of y -/
def MS.sgS (x y : MS) : MS := MS.s_wants (MS.s_opn (MS.s_signCount (MS.s_signPlaces (MS.s_signs (x.tkS y) y.signs) y.signPlaces) y.signCount) y.opn) y.wants
def MS.sg (x y : MS) : Prop := y = x.sgS y
theorem sg_tk {x y : MS} (h : x.tk y) : x.sg y := by
  have h1 : x.sg (x.tkS y) := rfl
  rw [← show y = x.tkS y from h] at h1
  exact h1
theorem sg_tr {x y z : MS} (h1 : x.sg y) (h2 : y.sg z) : x.sg z := h2.trans ((congrArg (fun w => MS.sgS w z) h1).trans rfl)
/-- what an invariant of the steps done must keep -/
def JK (f : Nat → Int32) (n : Nat) (J : List SP1 → MS → Prop) (Jf : List SP1 → SP1 → MS → Prop) : Prop :=
  (∀ L y z, J L y → y.sg z → J L z) ∧
  (∀ L s y z, J L y → y.works = false → y.nk z → J (L ++ [s]) z) ∧
  (∀ L y q, J L y → y.works = true → y.qI → y.pile < 20 → J (L ++ [spO 257 q y.amount]) y.nbS) ∧
  (∀ L y q, J L y → y.works = true → y.qI → 1 ≤ y.pile → J (L ++ [spO 265 q 0]) y.ngS) ∧
  (∀ L y a q, J L y → y.works = true → y.qI → 2 ≤ y.pile → binS a = true → (y.opB = true → J (L ++ [spO (nI a) q 0]) (y.opS (nI a) q)) ∧ (y.opB = false → Jf L (spO (nI a) q 0) (y.opS (nI a) q))) ∧
  (∀ L y z t b wh, J L y → y.works = true → y.qI → y.pile < 20 → y.tape = f → y.length = n → y.nk z → y.nmO z y.pile → nmRe z y.pile b.2.2.1 b.2.2.2 → b.2.2.1 ≤ 6 → (∃ u : MS, u.tape = f ∧ u.length = n ∧ tkR u b.2.1 ∧ u.lx) → (tlT f n b.2.1).1 = true → (tlT f n b.2.1).2.1.2.2.2.2.1 = 0 → fnV (tkw f t) = nI wh → wh < 7 → J (L ++ [pfS f t b (tlT f n b.2.1)]) (z.rkS wh (tkT f n b.2.1 40).2.2.2.1))
/-- a step among these was not done -/
def FFq (Jf : List SP1 → SP1 → MS → Prop) (L : List SP1) (v : MS) : Prop := ∃ L1 s L2, L = L1 ++ s :: L2 ∧ Jf L1 s v
theorem FF_m {Jf : List SP1 → SP1 → MS → Prop} {L : List SP1} {v : MS} (h : FFq Jf L v) (X : List SP1) : FFq Jf (L ++ X) v := by
  obtain ⟨L1, s, L2, e, h⟩ := h
  exact ⟨L1, s, L2 ++ X, by rw [e, List.append_assoc, List.cons_append], h⟩
section DN
variable {f : Nat → Int32} {n : Nat} {J : List SP1 → MS → Prop} {Jf : List SP1 → SP1 → MS → Prop} {y : MS} {L : List SP1}
theorem dn_J (hJ : JK f n J Jf) (hd : y.dI) {a : Nat × Nat} {S : List (Nat × Nat)} (hs : y.stk = a :: S) (h4 : ¬ a.1 = 40) (h : J L y) : (y.dnF.1 = true ∧ J (L ++ [fls a]) y.dnF.2 ∧ y.dnF.2.stk = S) ∨ (y.dnF.1 = false ∧ Jf L (fls a) y.dnF.2 ∧ y.works = true) := by
  obtain ⟨j1, j2, -, j4, j5, -⟩ := hJ
  obtain ⟨s1, s2, s3, s4⟩ := stk_c hs
  have sp : y.pop.stk = S := s4
  have sgp : y.sg y.pop := rfl
  have hp := j1 L y y.pop h sgp
  have tc := top_c hd.1 s1 (by rw [s2]; exact h4)
  unfold MS.dnF
  cases w : y.works with
  | false =>
    rw [if_neg (by decide)]
    exact Or.inl ⟨rfl, j2 L (fls a) y.pop y.pop hp w rfl, sp⟩
  | true =>
    rw [if_pos rfl]
    have q1 : y.pop.works = true := w
    have q2 : y.pop.qI := hd.2.1 w
    by_cases c : y.top = 109
    · rw [if_pos c]
      have e : fls a = spO 265 a.2 0 := if_pos (by rw [← s2]; exact c)
      have pl : 1 ≤ y.pop.pile := by
        show 1 ≤ y.pile
        have i := hd.1.2.2.2.2 w
        have o := hd.1.2.1
        have m := cnt_le y.signCount y.isO
        omega
      rw [e]
      exact Or.inl ⟨rfl, j4 L y.pop a.2 hp q1 q2 pl, (stk_ck (ck_ng y.pop)).trans sp⟩
    · rw [if_neg c]
      have b : binS y.top = true := tc.resolve_left (fun z => c z.1)
      have e : fls a = spO (nI a.1) a.2 0 := if_neg (by rw [← s2]; exact c)
      have pl0 : 2 ≤ y.pile := bin_pl hd.1 s1 b w
      have pl : 2 ≤ y.pop.pile := pl0
      rw [e, s2, s3]
      rw [s2] at b
      obtain ⟨g1, g2⟩ := j5 L y.pop a.1 a.2 hp q1 q2 pl b
      cases o : y.pop.opB with
      | true => exact Or.inl ⟨rfl, g1 o, (stk_ck (ck_opS y.pop _ _)).trans sp⟩
      | false => exact Or.inr ⟨rfl, g2 o, rfl⟩
theorem dt_J (hJ : JK f n J Jf) {rk : Nat} (hr : 1 ≤ rk) {S : List (Nat × Nat)} (hS : S = [] ∨ ∃ b S', S = b :: S' ∧ rkM b.1 < rk) : ∀ {P : List (Nat × Nat)} {y : MS} {L : List SP1}, y.dI → y.stk = P ++ S → (∀ a, a ∈ P → rk ≤ rkM a.1) → J L y → ((y.dt rk).1 = true ∧ J (L ++ P.map fls) (y.dt rk).2 ∧ (y.dt rk).2.stk = S) ∨ ((y.dt rk).1 = false ∧ FFq Jf (L ++ P.map fls) (y.dt rk).2 ∧ y.works = true)
  | [], y, L, hd, hs, hP, h => by
    have e : y.dt rk = (true, y) := by
      refine dt_e ?_
      rcases hS with e | ⟨b, S', e, g⟩
      · exact Or.inl (stk_0 (hs.trans e))
      · have q := stk_c (y := y) (a := b) (S := S') (hs.trans e)
        rw [← q.2.1] at g
        exact Or.inr g
    rw [e]
    refine Or.inl ⟨rfl, ?_, hs⟩
    rw [List.map_nil, List.append_nil]
    exact h
  | a :: P, y, L, hd, hs, hP, h => by
    obtain ⟨s1, s2, s3, s4⟩ := stk_c (y := y) (a := a) (S := P ++ S) hs
    have g := hP a (List.mem_cons_self ..)
    have h1 : ¬ rkM y.top < rk := by rw [s2]; omega
    have h0 : ¬ y.signCount = 0 := by omega
    have h4 : ¬ a.1 = 40 := by rw [← s2]; exact rk_40 h1 hr
    rcases dn_J hJ hd hs h4 h with ⟨a1, a2, a3⟩ | ⟨a1, a2, a3⟩
    · obtain ⟨i1, i2⟩ := dn_in (v := y.dnF.2) hd s1 (by rw [s2]; exact h4) (Prod.ext a1 rfl)
      have e : y.dt rk = y.dnF.2.dt rk := by
        unfold MS.dt
        rw [dt_t s1 h0 h1 a1 rfl, i2]
      rw [e, List.map_cons, show L ++ fls a :: P.map fls = (L ++ [fls a]) ++ P.map fls by rw [List.append_assoc]; rfl]
      rw [← show y.dnF.2.works = y.works from dk_f (dk_dn y) MS.works rfl]
      exact dt_J hJ hr hS i1 a3 (fun b hb => hP b (List.mem_cons_of_mem _ hb)) a2
    · have e : y.dt rk = (false, y.dnF.2) := dt_f s1 h0 h1 a1
      rw [e]
      exact Or.inr ⟨rfl, ⟨L, fls a, P.map fls, rfl, a2⟩, a3⟩
end DN
/-- a question from here on -/
def MS.QR (y : MS) : Bool × MS := MS.quR (y.length + 1 - y.frm) y
theorem QR_w : ∀ (k w1 w2 : Nat) (y : MS), y.lI → y.length + 1 - y.frm ≤ k → y.length + 1 - y.frm ≤ w1 → y.length + 1 - y.frm ≤ w2 → MS.quR w1 y = MS.quR w2 y
  | 0, w1, w2, y, h, h0, h1, h2 => by
    have := lI_frm h
    omega
  | k + 1, w1, w2, y, h, h0, h1, h2 => by
    have hf := lI_frm h
    by_cases c : y.kind = 0 ∧ y.wants = false
    · rw [quR_e (by omega) c.1 c.2, quR_e (by omega) c.1 c.2]
    · have h' : ¬ y.kind = 0 ∨ y.wants = true := by
        by_cases k : y.kind = 0
        · refine Or.inr ?_
          cases w2 : y.wants with
          | true => rfl
          | false => exact absurd ⟨k, w2⟩ c
        · exact Or.inl k
      rw [quR_s (w := w1) (by omega) h' rfl, quR_s (w := w2) (by omega) h' rfl]
      cases g : y.q1.1 with
      | false => rfl
      | true =>
        obtain ⟨v, ev⟩ : ∃ v, v = y.q1.2 := ⟨_, rfl⟩
        obtain ⟨a, b, c1, c2⟩ := q1_in (v := v) h (Prod.ext g ev.symm)
        have e : v.length = y.length := qk_f b MS.length rfl
        rw [if_pos rfl, if_pos rfl, ← ev]
        exact QR_w k (w1 - 1) (w2 - 1) v a (by omega) (by omega) (by omega)
section QRs
variable {y v : MS}
theorem QR_t (h : y.lI) (h' : ¬ y.kind = 0 ∨ y.wants = true) (e1 : y.q1.1 = true) (e2 : v = y.q1.2) : y.QR = v.QR ∧ v.lI ∧ y.qk v ∧ y.frm < v.frm := by
  have hf := lI_frm h
  obtain ⟨a, b, c1, c2⟩ := q1_in (v := v) h (Prod.ext e1 e2.symm)
  have e : v.length = y.length := qk_f b MS.length rfl
  refine ⟨?_, a, b, c1⟩
  unfold MS.QR
  rw [quR_s (by omega) h' e2, if_pos e1]
  exact QR_w _ _ _ v a (Nat.le_refl _) (by omega) (Nat.le_refl _)
theorem QR_f (h : y.lI) (h' : ¬ y.kind = 0 ∨ y.wants = true) (e1 : y.q1.1 = false) : y.QR = (false, y.q1.2) := by
  have hf := lI_frm h
  unfold MS.QR
  rw [quR_s (by omega) h' rfl, if_neg (by rw [e1]; decide)]
theorem QR_e (h : y.lI) (h0 : y.kind = 0) (h2 : y.wants = false) : y.QR = y.qu3 := by
  have hf := lI_frm h
  exact quR_e (by omega) h0 h2
end QRs
