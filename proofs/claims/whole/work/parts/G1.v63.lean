/-! The list of steps while a question is read. -/
theorem llT {dA : Nat → ClassId} {h : Nat} {ad : Nat → Nat} (x : VS) (L : va_W) : (L ++ VW dA h ad x).Perm (VW dA h ad (VS.s_ll x (L ++ x.ll))) := by
  have a := llP (dA := dA) (h := h) (ad := ad) (x := VS.s_ll x (L ++ x.ll)) (L := L) (r := x.ll) rfl
  have e : VS.s_ll (VS.s_ll x (L ++ x.ll)) x.ll = x := rfl
  rw [e] at a
  exact a.symm
def cpR (c k : Nat) : Nat → Nat
  | 0 => c
  | i + 1 => if k + i < cpR c k i then cpR c k i else grN (cpR c k i)
theorem cpR_tr (c k i : Nat) : ∀ j, cpR (cpR c k i) (k + i) j = cpR c k (i + j)
  | 0 => rfl
  | j + 1 => by
    show (if k + i + j < cpR (cpR c k i) (k + i) j then cpR (cpR c k i) (k + i) j else grN (cpR (cpR c k i) (k + i) j)) = (if k + (i + j) < cpR c k (i + j) then cpR c k (i + j) else grN (cpR c k (i + j)))
    rw [cpR_tr c k i j, show k + i + j = k + (i + j) by omega]
theorem cpR_le (c k : Nat) : ∀ i, c ≤ cpR c k i
  | 0 => Nat.le_refl c
  | i + 1 => by
    have ih := cpR_le c k i
    show c ≤ (if k + i < cpR c k i then cpR c k i else grN (cpR c k i))
    split
    · exact ih
    · unfold grN
      split <;> omega
theorem cpR_1 (g : LI) : cpR g.eN g.sz 1 = gqN g := rfl
/-- steps' list: its array, its elements steps -/
def stL (e0 : Nat) (pl : va_W) (g : LI) : Prop := lqOk e0 g ∧ ∀ i : Nat, i < g.eN → ∀ y : Nat, g.el i = some y → ∃ vs : List Value, (y, .inr (13, vs)) ∈ pl
theorem stL_m {e0 : Nat} {pl pl' : va_W} {g : LI} (hs : ∀ c, c ∈ pl → c ∈ pl') (h : stL e0 pl g) : stL e0 pl' g := ⟨h.1, fun i hi y hy => by obtain ⟨vs, hv⟩ := h.2 i hi y hy; exact ⟨vs, hs _ hv⟩⟩
theorem stL_s {e0 v : Nat} {pl : va_W} {g g' : LI} {fs : List Value} (h : stL e0 pl g) (ha : adQ g v g') (hv : (v, .inr (13, fs)) ∈ pl) (hs : g.sz ≤ 16384) : stL e0 pl g' := by
  refine ⟨lq_s h.1 ha hs, fun i hi y hy => ?_⟩
  rcases ha.2.2.2.2.1 i y hi hy with e | ⟨j, e1, e2⟩
  · subst e
    exact ⟨fs, hv⟩
  · exact h.2 j e1 y e2
/-- before a part of a question is read -/
def VS.pw (dA : Nat → ClassId) (e0 sa : Nat) (r : va_W) (x : VS) (g : LI) : Prop := x.qok ∧ x.ll = LqW dA sa g ++ r ∧ stL e0 x.pl g ∧ g.sz ≤ x.qst
/-- steps from place k on -/
def stps (dA : Nat → ClassId) (pl : va_W) (g : LI) (k : Nat) (S : List SP1) : Prop := ∀ i, i < S.length → ∃ a : Nat, g.el (k + i) = some a ∧ isSP dA pl a (S.getD i (spO 0 0 0))
/-- behind it -/
def VS.pq (dA : Nat → ClassId) (e0 sa : Nat) (r : va_W) (x : VS) (g : LI) (R : PR) (y : VS) (gq : LI) : Prop :=
  x.qr y ∧ y.tk = R.2.1 ∧ VS.pw dA e0 sa r y gq ∧ gq.sz = g.sz + R.2.2.length ∧ gq.eN = cpR g.eN g.sz R.2.2.length ∧ (∀ q, q < g.sz → gq.el q = g.el q) ∧ (R.1 = true → stps dA y.pl gq g.sz R.2.2)
theorem stps_m {dA : Nat → ClassId} {pl pl' : va_W} {g g' : LI} {k : Nat} {S : List SP1} (h : stps dA pl g k S) (hs : ∀ c, c ∈ pl → c ∈ pl') (he : ∀ q, q < k + S.length → g'.el q = g.el q) : stps dA pl' g' k S := by
  intro i hi
  obtain ⟨a, e1, e2⟩ := h i hi
  exact ⟨a, (he _ (by omega)).trans e1, isSP_m hs e2⟩
theorem stps_app {dA : Nat → ClassId} {pl : va_W} {g : LI} {k : Nat} {S T : List SP1} (h1 : stps dA pl g k S) (h2 : stps dA pl g (k + S.length) T) : stps dA pl g k (S ++ T) := by
  intro i hi
  rw [List.length_append] at hi
  by_cases e : i < S.length
  · obtain ⟨a, e1, e2⟩ := h1 i e
    refine ⟨a, e1, ?_⟩
    rw [List.getD_eq_getElem?_getD, List.getElem?_append_left e, ← List.getD_eq_getElem?_getD]
    exact e2
  · obtain ⟨a, e1, e2⟩ := h2 (i - S.length) (by omega)
    refine ⟨a, ?_, ?_⟩
    · rw [← e1]; congr 1; omega
    · rw [List.getD_eq_getElem?_getD, List.getElem?_append_right (by omega), ← List.getD_eq_getElem?_getD]
      exact e2
theorem stps_1 {dA : Nat → ClassId} {pl : va_W} {g : LI} {k a : Nat} {s : SP1} (h1 : g.el k = some a) (h2 : isSP dA pl a s) : stps dA pl g k [s] := by
  intro i hi
  have e : i = 0 := by
    have : i < 1 := hi
    omega
  subst e
  exact ⟨a, h1, h2⟩
/-- one more step -/
theorem pq_add {dA : Nat → ClassId} {e0 sa v : Nat} {r : va_W} {x y z : VS} {g g1 g2 : LI} {R : PR} {s : SP1} {fs : List Value} {n : Nat} (h : VS.pq dA e0 sa r x g R y g1) (hv : (v, .inr (13, fs)) ∈ y.pl) (hs : R.1 = true → isSP dA y.pl v s) (ha : adQ g1 v g2) (hz : z = VS.s_ll y (LqW dA sa g2 ++ r)) (hn : y.qlen ≤ n) (hn2 : n ≤ 16384) (hg : g1.sz < y.qst) : VS.pq dA e0 sa r x g (R.1, R.2.1, R.2.2 ++ [s]) z g2 := by
  obtain ⟨k1, k2, ⟨w1, w2, w3, w4⟩, k3, k4, k5, k6⟩ := h
  have hq := w1.2.2.2.2.2.2.1
  have hq2 := w1.2.2.2.2.2.1
  have hq3 : y.qen ≤ y.qlen := hq
  have hq4 : y.qst ≤ y.qen := hq2
  obtain ⟨b1, b2, b3, b4, b5, b6⟩ := ha
  subst hz
  refine ⟨qr_tr k1 (qr_ll y _), k2, ⟨qok_ll w1, rfl, stL_s w3 ⟨b1, b2, b3, b4, b5, b6⟩ hv (by omega), ?_⟩, ?_, ?_, ?_, ?_⟩
  · show g2.sz ≤ y.qst
    omega
  · show g2.sz = g.sz + (R.2.2 ++ [s]).length
    rw [List.length_append, b1, k3]
    rfl
  · show g2.eN = cpR g.eN g.sz (R.2.2 ++ [s]).length
    rw [List.length_append, b2]
    show gqN g1 = (if g.sz + R.2.2.length < cpR g.eN g.sz R.2.2.length then _ else _)
    rw [← k4, ← k3]
    rfl
  · intro q hq
    exact (b3 q (by omega)).trans (k5 q hq)
  · intro hR
    refine stps_app (stps_m (k6 hR) (fun _ h => h) (fun q hq => b3 q (by omega))) (stps_1 ?_ (hs hR))
    rw [← k3]
    exact b4
/-- a part, then one from behind it -/
theorem pq_tr {dA : Nat → ClassId} {e0 sa : Nat} {r : va_W} {x y y2 z : VS} {g g1 g2 : LI} {R R2 : PR} (h : VS.pq dA e0 sa r x g R y g1) (hR : R.1 = true) (hy : y.qr y2) (h2 : VS.pq dA e0 sa r y2 g1 R2 z g2) : VS.pq dA e0 sa r x g (R2.1, R2.2.1, R.2.2 ++ R2.2.2) z g2 := by
  obtain ⟨k1, k2, k0, k3, k4, k5, k6⟩ := h
  obtain ⟨b1, b2, b0, b3, b4, b5, b6⟩ := h2
  refine ⟨qr_tr (qr_tr k1 hy) b1, b2, b0, ?_, ?_, ?_, ?_⟩
  · show g2.sz = g.sz + (R.2.2 ++ R2.2.2).length
    rw [List.length_append, b3, k3, Nat.add_assoc]
  · show g2.eN = cpR g.eN g.sz (R.2.2 ++ R2.2.2).length
    rw [List.length_append, b4, k4, k3, cpR_tr]
  · intro q hq
    exact (b5 q (by omega)).trans (k5 q hq)
  · intro hR2
    refine stps_app (stps_m (k6 hR) (fun c hc => b1.2 c (hy.2 c hc)) (fun q hq => b5 q (by omega))) ?_
    rw [← k3]
    exact b6 hR2
/-- nothing but tokens -/
theorem pq_0 {dA : Nat → ClassId} {e0 sa : Nat} {r : va_W} {x y : VS} {g : LI} {b : Bool} {t : TKQ} (h : VS.pw dA e0 sa r x g) (hq : x.qp y) (hk : y.qok) (ht : y.tk = t) (hs : x.qst ≤ t.2.1) : VS.pq dA e0 sa r x g (b, t, []) y g := by
  refine ⟨qp_qr hq, ht, ⟨hk, (qp_ll hq).trans h.2.1, stL_m hq.2 h.2.2.1, ?_⟩, rfl, rfl, fun _ _ => rfl, fun _ i hi => absurd hi (Nat.not_lt_zero i)⟩
  have h4 := h.2.2.2
  have e : y.qst = t.2.1 := congrArg (fun q : TKQ => q.2.1) ht
  omega
theorem isLst_0 {dA : Nat → ClassId} {pl : va_W} {a ea : Nat} {mc : Int32} {WL : Nat → List Int32} (h : (a, .inr (6, [.ref ea, .int 0, .int mc])) ∈ pl) : isLst dA pl a 0 WL := ⟨ea, mc, h, by decide, fun h => absurd h (by decide)⟩
/-- a step without names and matches -/
theorem isSP_o {dA : Nat → ClassId} {pl : va_W} {sp na ln lt mk ea eb : Nat} {kd mc md : Int32} {q : Nat} {nu : Int64} {fn : Nat → Option Nat} {fk : Nat → Int32} (h1 : (sp, .inr (13, [.int kd, .int (nI q), .long nu, .ref na, .int 0, .ref ln, .ref lt, .ref mk])) ∈ pl) (h2 : (na, .inl (dA 6, 0, .inr (.inr (.inr (.inr fn))))) ∈ pl) (h3 : (ln, .inr (6, [.ref ea, .int 0, .int mc])) ∈ pl) (h4 : (lt, .inr (6, [.ref eb, .int 0, .int md])) ∈ pl) (h5 : (mk, .inl (dA 1, 0, .inl fk)) ∈ pl) : isSP dA pl sp (spO kd q nu) :=
  ⟨na, ln, lt, mk, 0, 0, fn, fk, h1, h2, Nat.le_refl _, by decide, fun k hk => absurd hk (Nat.not_lt_zero k), isLst_0 h3, isLst_0 h4, h5, Nat.le_refl _, by decide, fun i hi => absurd hi (Nat.not_lt_zero i)⟩
theorem isLst_q {dA : Nat → ClassId} {pl : va_W} {a e0 n : Nat} {g : LI} {WL : Nat → List Int32} (hg : lqOk e0 g) (hw : lwOk dA pl g n WL) (hs : ∀ c, c ∈ LqW dA a g → c ∈ pl) : isLst dA pl a n WL := by
  obtain ⟨k1, k2, k3⟩ := hg
  obtain ⟨w1, w2, w3⟩ := hw
  subst w1
  refine ⟨g.eA, g.mc, hs _ (List.mem_append_left _ (List.mem_singleton.mpr rfl)), by omega, fun h0 => ⟨g.eN, g.el, ?_, k2, by omega, w2⟩⟩
  refine hs _ (List.mem_append_right _ ?_)
  unfold LqA
  rw [if_neg (by omega)]
  exact List.mem_singleton.mpr rfl
/-- the new list -/
def lqZ (e0 : Nat) : LI := (0, 0, e0, 0, fun _ => none)
theorem lqZ_ok (e0 : Nat) : lqOk e0 (lqZ e0) := ⟨fun _ => ⟨rfl, rfl⟩, Nat.le_refl _, show (0 : Nat) ≤ 65536 by decide⟩
theorem lqZ_w (dA : Nat → ClassId) (a e0 : Nat) : LqW dA a (lqZ e0) = [(a, .inr (6, [.ref e0, .int 0, .int 0]))] := by
  rw [LqW_0 (show (lqZ e0).eN = 0 from rfl)]
  rfl
/-- a function's step, added before its names and matches are read -/
theorem pq_fn {dA : Nat → ClassId} {e0 sa v : Nat} {r : va_W} {x y : VS} {g g1 : LI} {b : Bool} {t : TKQ} {s : SP1} (h : VS.pw dA e0 sa r x g) (hq : x.qr y) (hk : y.qok) (ht : y.tk = t) (hl : y.ll = LqW dA sa g1 ++ r) (ha : adQ g v g1) (hm : ∃ vs : List Value, (v, .inr (13, vs)) ∈ y.pl) (hs : b = true → isSP dA y.pl v s) (hlt : x.qst < y.qst) : VS.pq dA e0 sa r x g (b, t, [s]) y g1 := by
  obtain ⟨w1, w2, w3, w4⟩ := h
  obtain ⟨b1, b2, b3, b4, b5, b6⟩ := ha
  obtain ⟨vs, hv⟩ := hm
  have c1 : x.qst ≤ x.qen := w1.2.2.2.2.2.1
  have c2 : x.qen ≤ x.qlen := w1.2.2.2.2.2.2.1
  have c3 := w1.2.2.2.1
  refine ⟨hq, ht, ⟨hk, hl, stL_s (stL_m hq.2 w3) ⟨b1, b2, b3, b4, b5, b6⟩ hv (by omega), by omega⟩, b1, ?_, b3, fun hb => stps_1 b4 (hs hb)⟩
  show g1.eN = cpR g.eN g.sz 1
  rw [b2]
  rfl
