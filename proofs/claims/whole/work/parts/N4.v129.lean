/-! A new manifest over all of the relation. -/
section MC
variable {m m' : MS} {x y : VS} {PS PS' : Nat → PT} {dn bn dn' : Nat → Nat}
/-- packed points come from packed points -/
def pkFr (m m' : MS) : Prop := ∀ q', q' < m'.points → m'.pkd q' = true → ∃ q, q < m.points ∧ m.pkd q = true ∧ m'.pointSeries q' = m.pointSeries q ∧ m'.pointTimes q' = m.pointTimes q ∧ m'.hidden q' = m.hidden q
theorem seen_p {q : Nat} (hp : m.pkd q = true) : m.seen q = true ↔ ¬ 0 ≤ m.hidden q ∧ ¬ m.pointTimes q < m.horizon := by
  have e1 : ¬ m.places q ≤ -2 := fun z => pkd_t.mp hp (Int32.lt_of_le_of_lt z (by decide))
  unfold MS.seen
  rw [decide_eq_false e1]
  by_cases a : 0 ≤ m.hidden q
  · rw [decide_eq_true a]
    constructor
    · intro z; simp at z
    · intro z; exact absurd a z.1
  · rw [decide_eq_false a]
    by_cases b : m.pointTimes q < m.horizon
    · rw [decide_eq_true b]
      constructor
      · intro z; simp at z
      · intro z; exact absurd b z.2
    · rw [decide_eq_false b]
      exact ⟨fun _ => ⟨a, b⟩, fun _ => rfl⟩
/-- a range in which nothing was seen -/
theorem hit_t (h : ptR m x PS dn) (h' : ptR m' y PS' dn') (hq : pkFr m m') (hh : ¬ m'.horizon < m.horizon) {w : Nat} {a b : Int64} (e : hitB PS x.npc x.nhor (scL x) w a b = false) : hitB PS' y.npc y.nhor (scL y) w a b = false := by
  cases g : hitB PS' y.npc y.nhor (scL y) w a b with
  | false => rfl
  | true =>
    have g1 := (hit_e y PS' w a b).mp g
    rw [← btw_1 h' w a b] at g1
    obtain ⟨q', q1, q2⟩ := cnt_pos.mp g1
    unfold MS.btw at q2
    rw [Bool.and_eq_true] at q2
    obtain ⟨q3, q4⟩ := q2
    have pk' : m'.pkd q' = true := by
      rw [Bool.not_true, Bool.false_or] at q4
      exact q4
    obtain ⟨q, r1, r2, r3, r4, r5⟩ := hq q' q1 pk'
    have se : m.bt w a b q = true := by
      unfold MS.bt at q3 ⊢
      simp only [Bool.and_eq_true] at q3 ⊢
      rw [r3, r4] at q3
      obtain ⟨u1, u2, u3⟩ := q3
      refine ⟨u1, ?_, u3⟩
      rw [seen_p pk', r4, r5] at u2
      rw [seen_p r2]
      exact ⟨u2.1, fun z => u2.2 (Int64.lt_of_lt_of_le z (Int64.not_lt.mp hh))⟩
    have : 0 < cnt m.points (m.btw w a b true) := cnt_pos.mpr ⟨q, r1, by
      unfold MS.btw
      rw [se, Bool.true_and, Bool.not_true, Bool.false_or]
      exact r2⟩
    rw [btw_1 h w a b, ← hit_e x PS w a b, e] at this
    cases this
theorem mn_co (h : coR m x PS dn bn) (h' : ptR m' y PS' dn') (hq : pkFr m m') (hh : ¬ m'.horizon < m.horizon) (hm : (m'.records = m.records ∧ m'.kept = m.records ∧ m'.block = m.block ∧ m'.used = m.used ∧ m'.fresh = false ∧ m'.journal = m.journal) ∧ m'.kinds = m.kinds ∧ m'.recordSeries = m.recordSeries ∧ m'.units = m.units ∧ m'.recordBlocks = m.recordBlocks ∧ m'.firsts = m.firsts ∧ m'.seconds = m.seconds) (hm2 : m'.baseSeries = m.baseSeries ∧ m'.baseLasts = m.baseLasts ∧ m'.seriesCount = m.seriesCount ∧ m'.lasts = m.lasts ∧ m'.catalogBlocks = m.catalogBlocks) (hbh : ∀ q, q < m'.points → m'.baseHidden q = m'.hidden q) (hbo : m'.baseHorizon = m'.horizon)
    (hy : (y.jsize = x.jsize ∧ y.jkept = x.wjK ∧ y.jblock = x.jblock ∧ y.jfill = x.jfill ∧ y.jch = false ∧ y.jlimit = x.jlimit ∧ y.junits = x.junits) ∧ y.jK = x.jK ∧ y.jO = x.jO ∧ y.jU = x.jU ∧ y.jB = x.jB ∧ y.jF = x.jF ∧ y.jS = x.jS) (hy2 : y.sser = x.sser ∧ y.slast = x.slast ∧ y.scat = x.scat ∧ y.ncat = x.ncat ∧ y.nser = x.nser ∧ y.nlast = x.nlast ∧ y.shor = y.nhor) (hp : y.spc = y.npc ∧ (∀ k, k < y.npc → y.sP k = y.nP k)) (hss : y.ssc = y.nsc ∧ (∀ j, j < y.nsc → y.ssO j = y.nsO j ∧ y.ssF j = y.nsF j ∧ y.ssT j = y.nsT j)) (hc : m'.cutLeft = y.cutLeft) (hw : m'.written = y.writes) (hd : hdL y = (hdL x).filter (fun p => !decide (p.2.1 < y.nhor))) (hsc : ∀ c, c ∈ scL y → c ∈ scL x) : coR m' y PS' dn' dn' := by
  obtain ⟨h1, h2, h3, h4, h5, h6, h7⟩ := h
  obtain ⟨a1, a2, a3, a4, a5⟩ := hm2
  obtain ⟨b1, b2, b3, b4, b5, b6, b7⟩ := hy2
  have jr := jrR_m h4 hm hy hc hw
  obtain ⟨⟨c1, -⟩, d1, d2, d3, d4, d5, d6⟩ := hy
  refine ⟨h', bsR_m h2 h' (fun q' g1 g2 => ?_) hp hss hbh ⟨hbo, b7⟩ ⟨a1, a2, a3, b1, b2, b3, b4⟩, ⟨by rw [a3, b5]; exact h3.1, fun s hs => ?_⟩, jr.1, joR_m h5 h6 ⟨c1, jr.2.trans c1, d1, d2, d5, d6⟩ ?_ ?_ ⟨b5, b6⟩ hd hsc (fun r hr e => hit_t h1 h' hq hh ((h5.2.1 r hr).2.2.2.2 e)), by rw [jr.2]; exact Nat.le_refl _, by rw [a5, b4]; exact h7⟩
  · obtain ⟨q, r1, r2, r3, r4, -⟩ := hq q' g1 g2
    exact ⟨q, r1, r2, r3, r4⟩
  · rw [b5] at hs
    rw [a4, b6]
    exact h3.2 s hs
  · rw [← h'.1.2.2.1, ← h1.1.2.2.1]
    exact hh
  · unfold svA scL
    rw [b1, b2, hss.1, lsF_e (fun j hj => by obtain ⟨y1, y2, y3⟩ := hss.2 j hj; unfold tr3; rw [y1, y2, y3])]
    rfl
end MC
