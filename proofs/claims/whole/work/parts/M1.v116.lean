/-- only the journal is other -/
def VS.jwS (x y : VS) : VS := VS.s_jch (VS.s_jfill (VS.s_jblock (VS.s_junits (VS.s_jkept (VS.s_jsize (VS.s_jS (VS.s_jF (VS.s_jB (VS.s_jU (VS.s_jO (VS.s_jK (VS.s_jN (VS.s_jA (VS.s_writes (VS.s_cutLeft x y.cutLeft) y.writes) y.jA) y.jN) y.jK) y.jO) y.jU) y.jB) y.jF) y.jS) y.jsize) y.jkept) y.junits) y.jblock) y.jfill) y.jch
theorem jw_jad (x : VS) (ja : Nat → Nat) (kd w n : Nat) (a b : Int64) : x.jadF ja kd w n a b = x.jwS (x.jadF ja kd w n a b) := by
  unfold VS.jadF
  split
  · rfl
  · rfl
theorem jw_wrB (x : VS) (n : Nat) : x.wrB n = x.jwS (x.wrB n) := by
  unfold VS.wrB VS.wjS
  split
  · rfl
  · split
    · rfl
    · rfl
theorem jw_t {x y z : VS} (h1 : y = x.jwS y) (h2 : z = y.jwS z) : z = x.jwS z := by
  rw [h2, h1]
  rfl
theorem jw_wrF (x : VS) (ja : Nat → Nat) (kd w n : Nat) (a b : Int64) : x.wrF ja kd w n a b = x.jwS (x.wrF ja kd w n a b) := jw_t (jw_wrB x n) (jw_jad (x.wrB n) ja kd w n a b)
/-- a record added -/
theorem jad_at (x : VS) (ja : Nat → Nat) (kd w n : Nat) (a b : Int64) (h0 : x.jsize ≤ x.jN) (h1 : 0 < x.jN) : (∀ q, q < x.jsize → (x.jadF ja kd w n a b).jK q = x.jK q ∧ (x.jadF ja kd w n a b).jO q = x.jO q ∧ (x.jadF ja kd w n a b).jU q = x.jU q ∧ (x.jadF ja kd w n a b).jB q = x.jB q ∧ (x.jadF ja kd w n a b).jF q = x.jF q ∧ (x.jadF ja kd w n a b).jS q = x.jS q) ∧ ((x.jadF ja kd w n a b).jK x.jsize = kd ∧ (x.jadF ja kd w n a b).jO x.jsize = w ∧ (x.jadF ja kd w n a b).jU x.jsize = n ∧ (x.jadF ja kd w n a b).jB x.jsize = x.jblock ∧ (x.jadF ja kd w n a b).jF x.jsize = a ∧ (x.jadF ja kd w n a b).jS x.jsize = b) ∧ (x.jadF ja kd w n a b).jsize = x.jsize + 1 ∧ (x.jadF ja kd w n a b).jkept = x.jkept ∧ (x.jadF ja kd w n a b).jblock = x.jblock ∧ (x.jadF ja kd w n a b).jfill = x.jfill + n ∧ (x.jadF ja kd w n a b).jch = true ∧ (x.jadF ja kd w n a b).cutLeft = x.cutLeft ∧ (x.jadF ja kd w n a b).writes = x.writes ∧ (x.jadF ja kd w n a b).junits = x.junits + n := by
  unfold VS.jadF
  split
  · next e =>
    refine ⟨fun q hq => ⟨?_, ?_, ?_, ?_, ?_, ?_⟩, ⟨va_up_self _ _ _, va_up_self _ _ _, va_up_self _ _ _, va_up_self _ _ _, va_up_self _ _ _, va_up_self _ _ _⟩, rfl, rfl, rfl, rfl, rfl, rfl, rfl, rfl⟩
    · exact (va_up_ne _ _ (Nat.ne_of_lt hq)).trans (cpy_lt _ _ (by omega) (by omega))
    · exact (va_up_ne _ _ (Nat.ne_of_lt hq)).trans (cpy_lt _ _ (by omega) (by omega))
    · exact (va_up_ne _ _ (Nat.ne_of_lt hq)).trans (cpy_lt _ _ (by omega) (by omega))
    · exact (va_up_ne _ _ (Nat.ne_of_lt hq)).trans (cpy_lt _ _ (by omega) (by omega))
    · exact (va_up_ne _ _ (Nat.ne_of_lt hq)).trans (cpy_lt _ _ (by omega) (by omega))
    · exact (va_up_ne _ _ (Nat.ne_of_lt hq)).trans (cpy_lt _ _ (by omega) (by omega))
  · exact ⟨fun q hq => ⟨va_up_ne _ _ (Nat.ne_of_lt hq), va_up_ne _ _ (Nat.ne_of_lt hq), va_up_ne _ _ (Nat.ne_of_lt hq), va_up_ne _ _ (Nat.ne_of_lt hq), va_up_ne _ _ (Nat.ne_of_lt hq), va_up_ne _ _ (Nat.ne_of_lt hq)⟩, ⟨va_up_self _ _ _, va_up_self _ _ _, va_up_self _ _ _, va_up_self _ _ _, va_up_self _ _ _, va_up_self _ _ _⟩, rfl, rfl, rfl, rfl, rfl, rfl, rfl, rfl⟩
/-- the journal: both sides -/
def jrR (m : MS) (x : VS) : Prop := m.records = x.jsize ∧ m.kept = x.jkept ∧ m.block = x.jblock ∧ m.used = x.jfill ∧ m.fresh = x.jch ∧ m.cutLeft = x.cutLeft ∧ m.written = x.writes ∧ m.journal = x.jlimit ∧ x.junits = sumN x.jsize x.jU ∧ (x.jch = false → x.jkept = x.jsize) ∧ ∀ r, r < x.jsize → m.kinds r = nI (x.jK r) ∧ m.recordSeries r = x.jO r ∧ m.units r = x.jU r ∧ m.recordBlocks r = x.jB r ∧ (¬ x.jK r = 0 → m.firsts r = x.jF r ∧ m.seconds r = x.jS r)
theorem room_eq {m : MS} {x : VS} (h : jrR m x) (n : Nat) : m.room n = x.room n := by
  obtain ⟨-, -, h3, h4, -, -, -, h8, -⟩ := h
  unfold MS.room VS.room
  rw [h3, h4, h8]
theorem sumN_s {f g : Nat → Nat} {n : Nat} (h : ∀ r, r < n → g r = f r) : sumN (n + 1) g = sumN n f + g n := by
  show sumN n g + g n = _
  rw [sumN_ext h]
theorem jr_rec {m m' : MS} {x : VS} {ja : Nat → Nat} {kd w n : Nat} {a b a' b' : Int64} (h : jrR m x) (h0 : x.jsize ≤ x.jN) (h1 : 0 < x.jN) (hab : ¬ kd = 0 → a' = a ∧ b' = b) (hm : m'.kinds = va_up m.kinds m.records (nI kd) ∧ m'.recordSeries = va_up m.recordSeries m.records w ∧ m'.firsts = va_up m.firsts m.records a' ∧ m'.seconds = va_up m.seconds m.records b' ∧ m'.units = va_up m.units m.records n ∧ m'.recordBlocks = va_up m.recordBlocks m.records (m.rBlock n) ∧ m'.records = m.records + 1 ∧ m'.used = m.rUsed n ∧ m'.block = m.rBlock n ∧ m'.fresh = true ∧ m'.kept = m.rKept n ∧ m'.cutLeft = m.rCut n ∧ m'.written = m.rWr n ∧ m'.journal = m.journal) : jrR m' (x.wrF ja kd w n a b) := by
  obtain ⟨c1, c2, c3, c4, c5, c6, c7, c8, c9, c10, c11, c12, c13, c14⟩ := hm
  obtain ⟨g1, g2, g3, g4, g5, g6, g7, g8, g9, gk, g10⟩ := h
  obtain ⟨r1, r2, r3⟩ := wr_j x n
  obtain ⟨y, ey⟩ : ∃ y, y = x.wrB n := ⟨_, rfl⟩
  have jw := jw_wrB x n
  rw [← ey] at r1 r2 jw
  have keep : y.jK = x.jK ∧ y.jO = x.jO ∧ y.jU = x.jU ∧ y.jB = x.jB ∧ y.jF = x.jF ∧ y.jS = x.jS ∧ y.jlimit = x.jlimit ∧ y.junits = x.junits := by
    rw [ey]
    unfold VS.wrB VS.wjS
    split
    · exact ⟨rfl, rfl, rfl, rfl, rfl, rfl, rfl, rfl⟩
    · split
      · exact ⟨rfl, rfl, rfl, rfl, rfl, rfl, rfl, rfl⟩
      · exact ⟨rfl, rfl, rfl, rfl, rfl, rfl, rfl, rfl⟩
  have st : y.jblock = m.rBlock n ∧ y.jfill + n = m.rUsed n ∧ y.jkept = m.rKept n ∧ y.cutLeft = m.rCut n ∧ y.writes = m.rWr n := by
    rw [ey]
    unfold VS.wrB VS.wjS MS.rBlock MS.rUsed MS.rKept MS.rCut MS.rWr
    rw [g1, g2, g3, g4, g5, g6, g7]
    by_cases e : x.jfill + n ≤ 126
    · rw [if_pos e]
      simp [e]
    · rw [if_neg e]
      cases e2 : x.jch with
      | true => simp [e]; exact ⟨rfl, rfl, rfl, rfl, rfl⟩
      | false =>
        have ek := gk e2
        simp [e]
        exact ⟨rfl, rfl, ek, rfl, rfl⟩
  obtain ⟨k1, k2, k3, k4, k5, k6, k7, k8⟩ := keep
  obtain ⟨s1, s2, s3, s4, s5⟩ := st
  obtain ⟨a1, ⟨b1, b2, b3, b4, b5, b6⟩, a3, a4, a5, a6, a7, a8, a9, a10⟩ := jad_at y ja kd w n a b (by omega) (by omega)
  have ew : x.wrF ja kd w n a b = y.jadF ja kd w n a b := by unfold VS.wrF; rw [ey]
  have el : (y.jadF ja kd w n a b).jlimit = x.jlimit := (congrArg VS.jlimit (jw_jad y ja kd w n a b)).trans k7
  rw [ew]
  refine ⟨by rw [c7, a3, r1, g1], by rw [c11, a4, s3], by rw [c9, a5, s1], by rw [c8, a6, s2], by rw [c10, a7], by rw [c12, a8, s4], by rw [c13, a9, s5], by rw [c14, el, g8], ?_, fun z => (by rw [a7] at z; cases z), fun r hr => ?_⟩
  · rw [a10, a3, k8, g9, r1, sumN_s (f := x.jU) (fun r hr => by rw [(a1 r (by omega)).2.2.1, k3]), ← r1, b3]
  · rw [a3, r1] at hr
    rw [c1, c2, c3, c4, c5, c6, g1]
    by_cases e : r = x.jsize
    · subst e
      rw [va_up_self, va_up_self, va_up_self, va_up_self, va_up_self, va_up_self, ← r1, b1, b2, b3, b4, b5, b6, s1]
      exact ⟨rfl, rfl, rfl, rfl, fun z => hab z⟩
    · obtain ⟨f1, f2, f3, f4, f5, f6⟩ := a1 r (by omega)
      rw [va_up_ne _ _ e, va_up_ne _ _ e, va_up_ne _ _ e, va_up_ne _ _ e, va_up_ne _ _ e, va_up_ne _ _ e, f1, f2, f3, f4, f5, f6, k1, k2, k3, k4, k5, k6]
      exact g10 r (by omega)
