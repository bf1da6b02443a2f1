/-! What a start goes back to: both sides. -/
def bsR (m : MS) (x : VS) (bn : Nat → Nat) : Prop :=
  (hdR m.baseHidden m.pkd m.pointSeries m.pointTimes m.points x.ssO x.ssF x.ssT x.ssc bn ∧ dnR x.ssc m.deletes bn ∧ scE1 m.pkd m.pointSeries m.pointTimes m.points x.ssO x.ssF x.ssT x.ssc) ∧
  (m.baseHorizon = x.shor ∧ m.baseHorizon = m.horizon ∧ x.spc = x.npc ∧ (∀ k, k < x.npc → x.sP k = x.nP k)) ∧
  ((∀ q, q < m.points → m.pkd q = true → m.pointSeries q < m.baseSeries ∧ ¬ m.baseLasts (m.pointSeries q) < m.pointTimes q) ∧ m.baseSeries = x.sser ∧ (∀ s, s < x.sser → m.baseLasts s = x.slast s) ∧ m.baseSeries ≤ m.seriesCount ∧ x.scat = x.ncat)
section BS
variable {m m' : MS} {x x' : VS} {PS : Nat → PT} {dn bn : Nat → Nat}
/-- back to what was kept: no head, the scars that were kept -/
theorem ptR_rst (h : ptR m x PS dn) (hb : bsR m x bn) (hm : m'.points = m.points ∧ m'.pointSeries = m.pointSeries ∧ m'.pointTimes = m.pointTimes ∧ m'.pointValues = m.pointValues ∧ m'.hidden = mapT m.points (fun _ => true) m.baseHidden m.hidden ∧ m'.deletes = m.deletes ∧ m'.seriesCount = m.baseSeries ∧ (∀ s, s < m.baseSeries → m'.lasts s = m.baseLasts s) ∧ m'.horizon = m.baseHorizon) (hm2 : m'.parcelCount = m.parcelCount ∧ m'.parcels = m.parcels ∧ m'.parcelBlocks = m.parcelBlocks ∧ m'.parcelNumber = m.parcelNumber ∧ ∀ q, q < m.points → m'.places q = if m.places q = -1 then -2 else m.places q) (hx : x'.npc = x.spc ∧ x'.nhor = x.shor ∧ x'.nsc = x.ssc ∧ (∀ j, j < x.ssc → x'.nsO j = x.ssO j ∧ x'.nsF j = x.ssF j ∧ x'.nsT j = x.ssT j) ∧ x'.hsize = 0) : ptR m' x' PS bn := by
  have hc := h
  obtain ⟨b1, b2, b3, b4, b6, b7, b8, b9, b10⟩ := hm
  obtain ⟨a1, a2, a3, a4, a5⟩ := hm2
  obtain ⟨c1, c2, c6, c3, c7⟩ := hx
  obtain ⟨⟨u1, u2, u3⟩, ⟨u4, u5, u6, u7⟩, ⟨u8, u9, u10, u11, u12⟩⟩ := hb
  obtain ⟨⟨g1, g2, g3, g4⟩, ⟨i1, i2, i3, i4⟩, ⟨j1, j2, j3, j4⟩, ⟨k1, k2⟩, ⟨l1, l2, l3⟩, n1⟩ := h
  have hdq : ∀ q, q < m.points → m'.hdd q = false := fun q hq => by
    refine decide_eq_false (fun z => ?_)
    rw [a5 q hq] at z
    split at z
    · exact absurd z (by decide)
    · contradiction
  have hiq : ∀ k, k < x.npc → ∀ q, q < m.points → m'.inpc k q = m.inpc k q := fun k hk q hq => by
    have p1 := j3 k hk
    unfold MS.inpc
    rw [a5 q hq, a2]
    split
    · next e =>
      rw [e, show decide ((-1 : Int32) = nI (m.parcels k)) = false from decide_eq_false (fun z => nI_nm (show m.parcels k < 2 ^ 31 by omega) z.symm)]
      exact decide_eq_false (fun z => nI_pos (n := m.parcels k) (by omega) (by rw [← z]; decide))
    · rfl
  have hpq : ∀ q, q < m.points → m'.pkd q = m.pkd q := fun q hq => by
    unfold MS.pkd
    rw [a5 q hq]
    split
    · next e => rw [e]; rfl
    · rfl
  have cve : ∀ w t, cv1 x'.nsO x'.nsF x'.nsT x.ssc w t = cv1 x.ssO x.ssF x.ssT x.ssc w t := fun w t => by
    have ef : ∀ i, i < x.ssc → cvS x'.nsO x'.nsF x'.nsT w t i = cvS x.ssO x.ssF x.ssT w t i := fun i hi => by
      obtain ⟨y1, y2, y3⟩ := c3 i hi
      unfold cvS
      rw [y1, y2, y3]
    cases e : cv1 x.ssO x.ssF x.ssT x.ssc w t with
    | none => exact frst_mn (fun i hi => (ef i hi).trans (frst_none e i (Nat.zero_le _) (by omega)))
    | some j =>
      obtain ⟨y1, -, y3, y4⟩ := frst_some e
      exact frst_mk (by omega) ((ef j (by omega)).trans y1) (fun i hi => (ef i (by omega)).trans (y4 i (Nat.zero_le _) hi))
  have np : x'.npc = x.npc := by rw [c1, u6]
  have liv : ∀ q, q < m.points → ¬ m'.places q = -2 → m.pkd q = true ∧ ¬ m.places q = -2 := fun q hq e => by
    rw [a5 q hq] at e
    split at e
    · exact absurd rfl e
    · next z =>
      rcases j1 q hq with y | y | ⟨k, hk, y⟩
      · exact absurd y e
      · exact absurd y z
      · exact ⟨(inP_pk hc hk (decide_eq_true y)).1, e⟩
  refine ⟨⟨?_, ?_, ?_, ?_⟩, ⟨?_, ?_, ?_, ?_⟩, ⟨?_, ?_, ?_, ?_⟩, ⟨?_, ?_⟩, ⟨?_, ?_, ?_⟩, ?_⟩
  · refine ⟨?_, fun q hq e => ?_⟩
    · rw [c7, b1]
      exact (cnt_0 hdq).symm
    · rw [b1] at hq
      rw [hdq q hq] at e
      cases e
  · rw [a1, np]; exact g2
  · rw [b10, c2]; exact u4
  · intro k hk
    rw [np] at hk
    obtain ⟨e1, e2, e3⟩ := g4 k hk
    rw [b1, b2, b3, b4, a3]
    exact ⟨arr_congr e1 (fun q _ => ⟨rfl, rfl, rfl⟩) (hiq k hk), e2, e3⟩
  · intro q hq e
    rw [b1] at hq
    rw [b2, b3, b6, mapT_v hq, if_pos rfl, c6, cve]
    exact u1 q hq ((hpq q hq).symm.trans e)
  · rw [c6, b7]; exact u2
  · intro j hj
    rw [c6] at hj
    obtain ⟨q, q1, q2, q3⟩ := u3 j hj
    refine ⟨q, by rw [b1]; exact q1, (hpq q q1).trans q2, ?_⟩
    rw [b2, b3, c6, cve]
    exact q3
  · rw [b7]; exact i4
  · intro q hq
    rw [b1] at hq
    rw [a5 q hq, np, a2]
    split
    · exact Or.inl rfl
    · exact j1 q hq
  · rw [np, a2]; exact j2
  · rw [np, a2, a4]; exact j3
  · rw [a4]; exact j4
  · intro i j p r hij hj hp1 hr e1 e2
    rw [np] at hj
    rw [b1] at hp1 hr
    exact k1 i j p r hij hj hp1 hr ((hiq i (by omega) p hp1).symm.trans e1) ((hiq j hj r hr).symm.trans e2)
  · intro k p r hk hp1 hr e1 e2
    rw [b1] at hr
    rw [hdq r hr] at e2
    cases e2
  · intro q hq e
    rw [b1] at hq
    rw [hdq q hq] at e
    cases e
  · intro q hq e
    rw [b1] at hq
    obtain ⟨y1, y2⟩ := u8 q hq (liv q hq e).1
    rw [b8, b2, b3, b9 _ y1]
    exact ⟨y1, y2⟩
  · intro p r hpr hr e1 e2 e3
    rw [b1] at hr
    rw [b2] at e3
    rw [b3]
    exact l3 p r hpr hr (liv p (by omega) e1).2 (liv r hr e2).2 e3
  · rw [b1, b3]; exact n1
/-- a new series -/
theorem ptR_new (h : ptR m x PS dn) (h1 : mP m m') (hm : m'.points = m.points ∧ m'.pointSeries = m.pointSeries ∧ m'.pointTimes = m.pointTimes ∧ m'.pointValues = m.pointValues ∧ m'.places = m.places ∧ m'.hidden = m.hidden ∧ m'.deletes = m.deletes) (hs : m.seriesCount ≤ m'.seriesCount ∧ ∀ s, s < m.seriesCount → m'.lasts s = m.lasts s) (h3 : vP x x') (h4 : vH x x') : ptR m' x' PS dn := by
  obtain ⟨a1, a2, a3, a4, a5⟩ := h1
  obtain ⟨b1, b2, b3, b4, b5, b6, b7⟩ := hm
  obtain ⟨c1, c2, c3, c4, c5, c6⟩ := h3
  obtain ⟨d1, d2, d3, d4⟩ := h4
  have e1 : m'.hdd = m.hdd := by funext q; unfold MS.hdd; rw [b5]
  have e2 : m'.inpc = m.inpc := by funext k q; unfold MS.inpc; rw [b5, a2]
  have e3 : m'.pkd = m.pkd := by funext q; unfold MS.pkd; rw [b5]
  unfold ptR at h ⊢
  rw [a1, a2, a3, a4, a5, b1, b2, b3, b4, b5, b6, b7, c1, c2, c3, c4, c5, c6, d1, d2, d3, d4, e1, e2, e3]
  obtain ⟨g, i, j, k, ⟨l1, l2, l3⟩, n1⟩ := h
  refine ⟨g, i, j, k, ⟨l1, fun q hq e => ?_, l3⟩, n1⟩
  obtain ⟨y1, y2⟩ := l2 q hq e
  rw [hs.2 _ y1]
  exact ⟨by have := hs.1; omega, y2⟩
/-- the first points of a series and the time 0: its last time is -1 or one of its points' -/
theorem bsR_n (h : ptR m x PS dn) (hp : x'.spc = x'.npc ∧ (∀ k, k < x'.npc → x'.sP k = x'.nP k)) (h' : ptR m' x' PS dn) (hss : x'.ssc = x'.nsc ∧ (∀ j, j < x'.nsc → x'.ssO j = x'.nsO j ∧ x'.ssF j = x'.nsF j ∧ x'.ssT j = x'.nsT j)) (hh : ∀ q, q < m'.points → m'.baseHidden q = m'.hidden q) (hho : m'.baseHorizon = m'.horizon ∧ x'.shor = x'.nhor) (hbs : m'.baseSeries = m'.seriesCount ∧ x'.sser = m'.seriesCount ∧ (∀ s, s < m'.seriesCount → m'.baseLasts s = m'.lasts s ∧ x'.slast s = m'.lasts s) ∧ x'.scat = x'.ncat) : bsR m' x' dn := by
  obtain ⟨-, ⟨i1, i2, i3, i4⟩, ⟨j1, -⟩, -, ⟨-, l2, -⟩, -⟩ := id h'
  have cve : ∀ w t, cv1 x'.ssO x'.ssF x'.ssT x'.nsc w t = cv1 x'.nsO x'.nsF x'.nsT x'.nsc w t := fun w t => by
    have ef : ∀ i, i < x'.nsc → cvS x'.ssO x'.ssF x'.ssT w t i = cvS x'.nsO x'.nsF x'.nsT w t i := fun i hi => by
      obtain ⟨y1, y2, y3⟩ := hss.2 i hi
      unfold cvS
      rw [y1, y2, y3]
    cases e : cv1 x'.nsO x'.nsF x'.nsT x'.nsc w t with
    | none => exact frst_mn (fun i hi => (ef i hi).trans (frst_none e i (Nat.zero_le _) (by omega)))
    | some j =>
      obtain ⟨y1, -, y3, y4⟩ := frst_some e
      exact frst_mk (by omega) ((ef j (by omega)).trans y1) (fun i hi => (ef i (by omega)).trans (y4 i (Nat.zero_le _) hi))
  refine ⟨⟨fun q hq e => ?_, ?_, fun j hj => ?_⟩, ⟨?_, hho.1, hp⟩, ⟨fun q hq e => ?_, ?_, fun s hs => ?_, ?_, hbs.2.2.2⟩⟩
  · rw [hh q hq, hss.1, cve]
    exact i1 q hq e
  · rw [hss.1]; exact i2
  · rw [hss.1] at hj
    obtain ⟨q, q1, q2, q3⟩ := i3 j hj
    exact ⟨q, q1, q2, by rw [hss.1, cve]; exact q3⟩
  · rw [hho.1, hho.2]; exact h'.1.2.2.1
  · have ne2 : ¬ m'.places q = -2 := fun z => pkd_t.mp e (by rw [z]; decide)
    obtain ⟨y1, y2⟩ := l2 q hq ne2
    rw [hbs.1, (hbs.2.2.1 _ y1).1]
    exact ⟨y1, y2⟩
  · rw [hbs.1, hbs.2.1]
  · rw [hbs.2.1] at hs
    rw [(hbs.2.2.1 s hs).1, (hbs.2.2.1 s hs).2]
  · rw [hbs.1]; exact Nat.le_refl _
end BS
