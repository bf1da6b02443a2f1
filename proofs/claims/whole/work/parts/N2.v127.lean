/-! A flush: both sides. -/
section FA
variable {m : MS} {x y : VS} {PS : Nat → PT} {dn bn : Nat → Nat} {SS : Nat → List LB}
/-- points, what is kept, series, journal -/
def coR (m : MS) (x : VS) (PS : Nat → PT) (dn bn : Nat → Nat) : Prop := ptR m x PS dn ∧ bsR m x bn ∧ seR m x ∧ jrR m x ∧ joR PS x ∧ x.jkept ≤ x.jsize ∧ m.catalogBlocks = x.ncat
theorem hu_of (h : ptR m x PS dn) (ho : joR PS x) (hk : x.jkept ≤ x.jsize) : ∀ q, q < m.points → m.hdd q = true → cv1 x.nsO x.nsF x.nsT x.nsc (m.pointSeries q) (m.pointTimes q) = none := by
  intro q hq e
  obtain ⟨i1, -, i3⟩ := ho
  obtain ⟨u1, -⟩ := i3 x.jsize hk (Nat.le_refl _)
  rw [i1.2.2.1, i1.2.2.2] at u1
  obtain ⟨y1, y2, y3⟩ := h.1.1.2 q hq e
  have hm : tr3 x.hO x.hT x.hV (cnt q m.hdd) ∈ hdL x := by
    unfold hdL lsF
    exact List.mem_map_of_mem (List.mem_range.mpr (by rw [h.1.1.1]; exact cnt_lt hq e))
  have c := (u1 _ hm).1
  have c : cvL (scL x) (x.hO (cnt q m.hdd)) (x.hT (cnt q m.hdd)) = false := c
  rw [y1, y2, cvL_e] at c
  exact Decidable.of_not_not (of_decide_eq_false c)
theorem sy_eq (h : jrR m x) : m.syCut = x.wjC ∧ m.syWr = x.wjW ∧ m.records = x.wjK := by
  obtain ⟨g1, g2, g3, g4, g5, g6, g7, g8, g9, g10, g11⟩ := h
  refine ⟨?_, ?_, ?_⟩
  · unfold MS.syCut VS.wjC
    rw [g5, g6]
  · unfold MS.syWr VS.wjW
    rw [g5, g7]
  · unfold VS.wjK
    cases e : x.jch with
    | true => rw [if_pos rfl]; exact g1
    | false => rw [if_neg (by decide), g10 e]; exact g1
/-- the manifest of a flush on the class's side -/
def flY (x y : VS) (nc : Nat) : Prop := (y.cutLeft = cutN x.cutLeft nc ∧ y.writes = x.writes + nc ∧ y.jlimit = x.jlimit ∧ y.hsize = 0) ∧ (y.jsize = 0 ∧ y.jkept = 0 ∧ y.junits = 0 ∧ y.jblock = 0 ∧ y.jfill = 0 ∧ y.jch = false) ∧ (y.nsO = x.nsO ∧ y.nsF = x.nsF ∧ y.nsT = x.nsT ∧ y.nsc = x.nsc ∧ y.nhor = x.nhor ∧ y.nser = x.nser ∧ y.nlast = x.nlast) ∧ (y.spc = y.npc ∧ (∀ k, k < y.npc → y.sP k = y.nP k)) ∧ (y.ssc = y.nsc ∧ (∀ j, j < y.nsc → y.ssO j = y.nsO j ∧ y.ssF j = y.nsF j ∧ y.ssT j = y.nsT j)) ∧ y.shor = y.nhor ∧ (y.sser = y.nser ∧ ∀ s, s < y.nser → y.slast s = y.nlast s) ∧ y.scat = y.ncat
theorem flu_co {PS' : Nat → PT} {nc : Nat} (h : coR m x PS dn bn) (hp : ptR m.fluS y PS' dn) (hn : m.manyN + m.catN + 1 = nc) (hy : flY x y nc) (hc : y.ncat = m.catN) : coR m.fluS y PS' dn dn := by
  obtain ⟨h1, h2, h3, h4, h5, h6, h7⟩ := h
  obtain ⟨⟨a1, a2, a3, a4⟩, ⟨b1, b2, b3, b4, b5, b6⟩, ⟨c1, c2, c3, c4, c5, c6, c7⟩, d1, ⟨d2, d3⟩, d4, ⟨d5, d6⟩, d7⟩ := hy
  obtain ⟨g1, g2, g3, g4, g5, g6, g7, g8, g9, g10, g11⟩ := h4
  -- the fields
  have f : ∀ b : Bool, (MS.fl4 (MS.fl3 (bif b then (m.fl1 (m.manyN + m.catN + 1)).fl2 m.manyN else m.fl1 (m.manyN + m.catN + 1)) m.catN)).cutLeft = cutN m.cutLeft (m.manyN + m.catN + 1) ∧ (MS.fl4 (MS.fl3 (bif b then (m.fl1 (m.manyN + m.catN + 1)).fl2 m.manyN else m.fl1 (m.manyN + m.catN + 1)) m.catN)).written = m.written + (m.manyN + m.catN + 1) ∧ (MS.fl4 (MS.fl3 (bif b then (m.fl1 (m.manyN + m.catN + 1)).fl2 m.manyN else m.fl1 (m.manyN + m.catN + 1)) m.catN)).journal = m.journal ∧ (MS.fl4 (MS.fl3 (bif b then (m.fl1 (m.manyN + m.catN + 1)).fl2 m.manyN else m.fl1 (m.manyN + m.catN + 1)) m.catN)).seriesCount = m.seriesCount ∧ (MS.fl4 (MS.fl3 (bif b then (m.fl1 (m.manyN + m.catN + 1)).fl2 m.manyN else m.fl1 (m.manyN + m.catN + 1)) m.catN)).lasts = m.lasts ∧ (MS.fl4 (MS.fl3 (bif b then (m.fl1 (m.manyN + m.catN + 1)).fl2 m.manyN else m.fl1 (m.manyN + m.catN + 1)) m.catN)).baseLasts = mapT m.seriesCount (fun _ => true) m.lasts m.baseLasts := fun b => by
    cases b with
    | true => exact ⟨rfl, rfl, rfl, rfl, rfl, rfl⟩
    | false => exact ⟨rfl, rfl, rfl, rfl, rfl, rfl⟩
  obtain ⟨f1, f2, f3, f4, f5, f6⟩ := f (decide (0 < m.heads))
  have f1 : m.fluS.cutLeft = cutN m.cutLeft nc := by rw [← hn]; exact f1
  have f2 : m.fluS.written = m.written + nc := by rw [← hn]; exact f2
  have f3 : m.fluS.journal = m.journal := f3
  have f4 : m.fluS.seriesCount = m.seriesCount := f4
  have f5 : m.fluS.lasts = m.lasts := f5
  have f6 : m.fluS.baseLasts = mapT m.seriesCount (fun _ => true) m.lasts m.baseLasts := f6
  have f7 : m.fluS.baseSeries = m.fluS.seriesCount := by unfold MS.fluS; rfl
  have se : seR m.fluS y := ⟨by rw [f4, c6]; exact h3.1, fun s hs => by rw [c6] at hs; rw [f5, c7]; exact h3.2 s hs⟩
  refine ⟨hp, bsR_n hp d1 hp ⟨d2, d3⟩ (fun q hq => ?_) ⟨rfl, d4⟩ ⟨f7, by rw [d5]; exact se.1.symm, fun s hs => ?_, d7⟩, se, ⟨?_, ?_, ?_, ?_, ?_, ?_, ?_, ?_, ?_, ?_, ?_⟩, joR_f h5 h6 b1 ⟨d5, d6, ?_⟩ ⟨c6, c7, a4, ?_⟩, by omega, ?_⟩
  · show mapT m.fluS.points (fun _ => true) m.fluS.hidden _ q = m.fluS.hidden q
    rw [mapT_v hq, if_pos rfl]
  · have hs1 := hs
    rw [f4] at hs1
    rw [f6, f5, mapT_v hs1, if_pos rfl]
    have hs2 : s < y.nser := by rw [← se.1]; exact hs
    refine ⟨rfl, ?_⟩
    rw [d6 s hs2, ← se.2 s hs2, f5]
  · rw [b1]; rfl
  · rw [b2]; rfl
  · rw [b4]; rfl
  · rw [b5]; rfl
  · rw [b6]; rfl
  · rw [f1, a1, g6]
  · rw [f2, a2, g7]
  · rw [f3, a3]; exact g8
  · rw [b1, b3]; rfl
  · intro _; rw [b1, b2]
  · intro r hr; rw [b1] at hr; exact absurd hr (Nat.not_lt_zero r)
  · unfold scL
    rw [d2]
    exact lsF_e (fun j hj => by obtain ⟨y1, y2, y3⟩ := d3 j hj; unfold tr3; rw [y1, y2, y3])
  · unfold scL
    rw [c1, c2, c3, c4]
  · rw [hc]; unfold MS.fluS; rfl
/-- a flush with a head -/
theorem flu_1 {O : Nat → Nat} {T V : Nat → Int64} {nb mp : Nat} {pl1 : va_W} (h : coR m x PS dn bn) (tx : txR m.texts m.textLengths m.seriesCount SS) (hz : 0 < x.hsize) (hpn : m.parcelNumber < 2 ^ 29) (l1 : laid x.hO x.hsize x.hsize x.hO O) (l2 : laid x.hO x.hsize x.hsize x.hT T) (l3 : laid x.hO x.hsize x.hsize x.hV V) (hb : (mkP x.hsize O T V).bl = nb) : coR m.fluS (x.flS SS nb mp pl1) (va_up PS x.npc (mkP x.hsize O T V)) dn dn ∧ m.manyN + m.catN = nb + (ctG2 SS x.nser).1 := by
  have en := many_eq h.1 hz l1 l2 l3
  have ec := cat_eq tx
  rw [h.2.2.1.1] at ec
  refine ⟨flu_co h (flu_pt h.1 hz (hu_of h.1 h.2.2.2.2.1 h.2.2.2.2.2.1) hpn ⟨rfl, rfl, rfl, rfl, rfl, rfl, rfl⟩ l1 l2 l3) rfl ⟨⟨?_, ?_, rfl, rfl⟩, ⟨rfl, rfl, rfl, rfl, rfl, rfl⟩, ⟨rfl, rfl, rfl, rfl, rfl, rfl, rfl⟩, ⟨rfl, fun k hk => cpy_00 _ _ hk⟩, ⟨rfl, fun j hj => ⟨cpy_00 _ _ hj, cpy_00 _ _ hj, cpy_00 _ _ hj⟩⟩, rfl, ⟨rfl, fun s hs => cpy_00 _ _ hs⟩, rfl⟩ ec.symm, by rw [en, ec, hb]⟩
  · rw [en, ec, hb]; rfl
  · rw [en, ec, hb]; rfl
end FA
