def VS.flZ (x : VS) (SS : Nat → List LB) : VS := VS.s_scat (VS.s_slast (VS.s_sser (VS.s_shor (VS.s_ssc (VS.s_ssT (VS.s_ssF (VS.s_ssO (VS.s_spc (VS.s_sP (VS.s_ncat (VS.s_hsize (VS.s_jch (VS.s_jfill (VS.s_jblock (VS.s_junits (VS.s_jkept (VS.s_jsize (VS.s_writes (VS.s_cutLeft x (cutN x.cutLeft ((ctG2 SS x.nser).1 + 1))) (x.writes + ((ctG2 SS x.nser).1 + 1))) 0) 0) 0) 0) 0) false) 0) ((ctG2 SS x.nser).1)) (va_cpy x.nP x.sP 0 0 x.npc)) x.npc) (va_cpy x.nsO x.ssO 0 0 x.nsc)) (va_cpy x.nsF x.ssF 0 0 x.nsc)) (va_cpy x.nsT x.ssT 0 0 x.nsc)) x.nsc) x.nhor) x.nser) (va_cpy x.nlast x.slast 0 0 x.nser)) ((ctG2 SS x.nser).1)
/-! A flush without a head; a new manifest: both sides. -/
section MN
variable {m m' : MS} {x y : VS} {PS PS' : Nat → PT} {dn bn dn' : Nat → Nat} {SS : Nat → List LB}
/-- a flush without a head -/
theorem flu_0 (h : coR m x PS dn bn) (tx : txR m.texts m.textLengths m.seriesCount SS) (hz : x.hsize = 0) : coR m.fluS (x.flZ SS) PS dn dn ∧ m.manyN + m.catN = (ctG2 SS x.nser).1 := by
  have en := many_0 h.1 hz
  have ec := cat_eq tx
  rw [h.2.2.1.1] at ec
  refine ⟨flu_co h (flu_pt0 h.1 hz ⟨rfl, rfl, rfl, rfl, rfl, rfl⟩ ⟨hz.symm, rfl, rfl, rfl⟩) rfl ⟨⟨?_, ?_, rfl, rfl⟩, ⟨rfl, rfl, rfl, rfl, rfl, rfl⟩, ⟨rfl, rfl, rfl, rfl, rfl, rfl, rfl⟩, ⟨rfl, fun k hk => cpy_00 _ _ hk⟩, ⟨rfl, fun j hj => ⟨cpy_00 _ _ hj, cpy_00 _ _ hj, cpy_00 _ _ hj⟩⟩, rfl, ⟨rfl, fun s hs => cpy_00 _ _ hs⟩, rfl⟩ ec.symm, by rw [en, ec, Nat.zero_add]⟩
  · rw [en, ec, Nat.zero_add]; rfl
  · rw [en, ec, Nat.zero_add]; rfl
/-- a new manifest keeps the scars of now, and the series that were kept -/
theorem bsR_m (h : bsR m x bn) (h' : ptR m' y PS' dn') (h1 : ∀ q', q' < m'.points → m'.pkd q' = true → ∃ q, q < m.points ∧ m.pkd q = true ∧ m'.pointSeries q' = m.pointSeries q ∧ m'.pointTimes q' = m.pointTimes q) (hp : y.spc = y.npc ∧ (∀ k, k < y.npc → y.sP k = y.nP k)) (hss : y.ssc = y.nsc ∧ (∀ j, j < y.nsc → y.ssO j = y.nsO j ∧ y.ssF j = y.nsF j ∧ y.ssT j = y.nsT j)) (hh : ∀ q, q < m'.points → m'.baseHidden q = m'.hidden q) (hho : m'.baseHorizon = m'.horizon ∧ y.shor = y.nhor) (hbs : m'.baseSeries = m.baseSeries ∧ m'.baseLasts = m.baseLasts ∧ m'.seriesCount = m.seriesCount ∧ y.sser = x.sser ∧ y.slast = x.slast ∧ y.scat = x.scat ∧ y.ncat = x.ncat) : bsR m' y dn' := by
  obtain ⟨-, ⟨i1, i2, i3, i4⟩, -⟩ := id h'
  obtain ⟨-, -, ⟨j1, j2, j3, j4, j5⟩⟩ := h
  obtain ⟨b1, b2, b3, b4, b5, b6, b7⟩ := hbs
  have cve : ∀ w t, cv1 y.ssO y.ssF y.ssT y.nsc w t = cv1 y.nsO y.nsF y.nsT y.nsc w t := fun w t => by
    have ef : ∀ i, i < y.nsc → cvS y.ssO y.ssF y.ssT w t i = cvS y.nsO y.nsF y.nsT w t i := fun i hi => by
      obtain ⟨y1, y2, y3⟩ := hss.2 i hi
      unfold cvS
      rw [y1, y2, y3]
    cases e : cv1 y.nsO y.nsF y.nsT y.nsc w t with
    | none => exact frst_mn (fun i hi => (ef i hi).trans (frst_none e i (Nat.zero_le _) (by omega)))
    | some j =>
      obtain ⟨y1, -, y3, y4⟩ := frst_some e
      exact frst_mk (by omega) ((ef j (by omega)).trans y1) (fun i hi => (ef i (by omega)).trans (y4 i (Nat.zero_le _) hi))
  refine ⟨⟨fun q hq e => ?_, ?_, fun j hj => ?_⟩, ⟨?_, hho.1, hp⟩, ⟨fun q hq e => ?_, ?_, fun s hs => ?_, ?_, ?_⟩⟩
  · rw [hh q hq, hss.1, cve]
    exact i1 q hq e
  · rw [hss.1]; exact i2
  · rw [hss.1] at hj
    obtain ⟨q, q1, q2, q3⟩ := i3 j hj
    exact ⟨q, q1, q2, by rw [hss.1, cve]; exact q3⟩
  · rw [hho.1, hho.2]; exact h'.1.2.2.1
  · obtain ⟨p, p1, p2, p3, p4⟩ := h1 q hq e
    rw [p3, p4, b1, b2]
    exact j1 p p1 p2
  · rw [b1, b4]; exact j2
  · rw [b4] at hs
    rw [b2, b5]; exact j3 s hs
  · rw [b1, b3]; exact j4
  · rw [b6, b7]; exact j5
/-- the journal of now is kept -/
theorem jrR_m (h : jrR m x) (hm : (m'.records = m.records ∧ m'.kept = m.records ∧ m'.block = m.block ∧ m'.used = m.used ∧ m'.fresh = false ∧ m'.journal = m.journal) ∧ m'.kinds = m.kinds ∧ m'.recordSeries = m.recordSeries ∧ m'.units = m.units ∧ m'.recordBlocks = m.recordBlocks ∧ m'.firsts = m.firsts ∧ m'.seconds = m.seconds) (hy : (y.jsize = x.jsize ∧ y.jkept = x.wjK ∧ y.jblock = x.jblock ∧ y.jfill = x.jfill ∧ y.jch = false ∧ y.jlimit = x.jlimit ∧ y.junits = x.junits) ∧ y.jK = x.jK ∧ y.jO = x.jO ∧ y.jU = x.jU ∧ y.jB = x.jB ∧ y.jF = x.jF ∧ y.jS = x.jS) (hc : m'.cutLeft = y.cutLeft) (hw : m'.written = y.writes) : jrR m' y ∧ y.jkept = y.jsize := by
  obtain ⟨⟨a1, a2, a3, a4, a5, a6⟩, b1, b2, b3, b4, b5, b6⟩ := hm
  obtain ⟨⟨c1, c2, c3, c4, c5, c6, c7⟩, d1, d2, d3, d4, d5, d6⟩ := hy
  have hk := (sy_eq h).2.2
  obtain ⟨g1, g2, g3, g4, g5, g6, g7, g8, g9, g10, g11⟩ := h
  have e : y.jkept = y.jsize := by rw [c1, c2, ← hk, g1]
  refine ⟨⟨by rw [a1, c1]; exact g1, by rw [a2, c2]; exact hk, by rw [a3, c3]; exact g3, by rw [a4, c4]; exact g4, by rw [a5, c5], hc, hw, by rw [a6, c6]; exact g8, by rw [c7, c1, d3]; exact g9, fun _ => e, fun r hr => ?_⟩, e⟩
  rw [c1] at hr
  rw [b1, b2, b3, b4, b5, b6, d1, d2, d3, d4, d5, d6]
  exact g11 r hr
end MN
