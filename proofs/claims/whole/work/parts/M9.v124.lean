/-! What a start goes back to is kept; a start's first half. -/
section BG
variable {m m' : MS} {x x' : VS} {PS : Nat → PT} {dn bn : Nat → Nat}
/-- what is kept of the class is the same -/
def vB (x x' : VS) : Prop := (x'.ssO = x.ssO ∧ x'.ssF = x.ssF ∧ x'.ssT = x.ssT ∧ x'.ssc = x.ssc) ∧ (x'.shor = x.shor ∧ x'.spc = x.spc ∧ x'.sP = x.sP ∧ x'.sser = x.sser ∧ x'.slast = x.slast ∧ x'.scat = x.scat) ∧ x'.npc = x.npc ∧ (∀ k, k < x.npc → x'.nP k = x.nP k) ∧ x'.ncat = x.ncat
def mB (m m' : MS) : Prop := m'.baseHorizon = m.baseHorizon ∧ m'.horizon = m.horizon ∧ m'.baseSeries = m.baseSeries ∧ m'.baseLasts = m.baseLasts ∧ m.baseSeries ≤ m'.seriesCount ∧ m.deletes ≤ m'.deletes
theorem bsR_g (h : bsR m x bn) (h1 : ∀ q', q' < m'.points → m'.pkd q' = true → ∃ q, q < m.points ∧ m.pkd q = true ∧ m'.pointSeries q' = m.pointSeries q ∧ m'.pointTimes q' = m.pointTimes q ∧ m'.baseHidden q' = m.baseHidden q) (h2 : ∀ q, q < m.points → m.pkd q = true → ∃ q', q' < m'.points ∧ m'.pkd q' = true ∧ m'.pointSeries q' = m.pointSeries q ∧ m'.pointTimes q' = m.pointTimes q) (hb : mB m m') (hx : vB x x') : bsR m' x' bn := by
  obtain ⟨⟨g1, g2, g3⟩, ⟨i1, i2, i3, i4⟩, ⟨j1, j2, j3, j4, j5⟩⟩ := h
  obtain ⟨b1, b2, b3, b4, b5, b6⟩ := hb
  obtain ⟨⟨c1, c2, c3, c4⟩, ⟨d1, d2, d3, d4, d5, d6⟩, e1, e2, e3⟩ := hx
  refine ⟨⟨?_, ?_, ?_⟩, ⟨?_, ?_, ?_, ?_⟩, ⟨?_, ?_, ?_, ?_, ?_⟩⟩
  · intro q' hq' hp
    obtain ⟨q, q1, q2, q3, q4, q5⟩ := h1 q' hq' hp
    rw [q3, q4, q5, c1, c2, c3, c4]
    exact g1 q q1 q2
  · rw [c4]
    exact ⟨fun j hj => Nat.lt_of_lt_of_le (g2.1 j hj) b6, g2.2⟩
  · rw [c1, c2, c3, c4]
    intro j hj
    obtain ⟨q, q1, q2, q3⟩ := g3 j hj
    obtain ⟨q', r1, r2, r3, r4⟩ := h2 q q1 q2
    exact ⟨q', r1, r2, by rw [r3, r4]; exact q3⟩
  · rw [b1, d1]; exact i1
  · rw [b1, b2]; exact i2
  · rw [d2, e1]; exact i3
  · intro k hk
    rw [e1] at hk
    rw [d3, e2 k hk]
    exact i4 k hk
  · intro q' hq' hp
    obtain ⟨q, q1, q2, q3, q4, -⟩ := h1 q' hq' hp
    rw [q3, q4, b3, b4]
    exact j1 q q1 q2
  · rw [b3, d4]; exact j2
  · rw [d4, d5, b4]; exact j3
  · rw [b3]; exact b5
  · rw [d6, e3]; exact j5
/-- the points are the same, but for places of the head -/
theorem bsR_p (h : bsR m x bn) (hm : m'.points = m.points ∧ m'.pointSeries = m.pointSeries ∧ m'.pointTimes = m.pointTimes ∧ m'.baseHidden = m.baseHidden) (hp : ∀ q, q < m.points → m'.pkd q = m.pkd q) (hb : mB m m') (hx : vB x x') : bsR m' x' bn := by
  obtain ⟨a1, a2, a3, a4⟩ := hm
  refine bsR_g h (fun q hq e => ?_) (fun q hq e => ?_) hb hx
  · rw [a1] at hq
    rw [hp q hq] at e
    exact ⟨q, hq, e, by rw [a2], by rw [a3], by rw [a4]⟩
  · exact ⟨q, by rw [a1]; exact hq, by rw [hp q hq]; exact e, by rw [a2], by rw [a3]⟩
theorem bsR_come {w : Nat} {a : Int64} {u : Int32} (h : bsR m x bn) (hm : m'.points = m.points + 1 ∧ m'.pointSeries = va_up m.pointSeries m.points w ∧ m'.pointTimes = va_up m.pointTimes m.points a ∧ m'.places = va_up m.places m.points (-1) ∧ m'.baseHidden = va_up m.baseHidden m.points u) (hb : mB m m') (hx : vB x x') : bsR m' x' bn := by
  obtain ⟨a1, a2, a3, a4, a5⟩ := hm
  have pk : ∀ q, ¬ q = m.points → m'.pkd q = m.pkd q := fun q hq => by unfold MS.pkd; rw [a4, va_up_ne _ _ hq]
  refine bsR_g h (fun q hq e => ?_) (fun q hq e => ?_) hb hx
  · have hn : ¬ q = m.points := fun z => by
      subst z
      unfold MS.pkd at e
      rw [a4, va_up_self] at e
      exact absurd e (by decide)
    rw [pk q hn] at e
    exact ⟨q, by omega, e, by rw [a2, va_up_ne _ _ hn], by rw [a3, va_up_ne _ _ hn], by rw [a5, va_up_ne _ _ hn]⟩
  · have hn : ¬ q = m.points := by omega
    exact ⟨q, by omega, by rw [pk q hn]; exact e, by rw [a2, va_up_ne _ _ hn], by rw [a3, va_up_ne _ _ hn]⟩
theorem bsR_td (h : bsR m x bn) (hm : m'.points = cnt m.points m.stay ∧ m'.pointSeries = tdT m.stay m.pointSeries m.points ∧ m'.pointTimes = tdT m.stay m.pointTimes m.points ∧ m'.places = tdT m.stay m.places m.points ∧ m'.baseHidden = tdT m.stay m.baseHidden m.points) (hb : mB m m') (hx : vB x x') : bsR m' x' bn := by
  obtain ⟨a1, a2, a3, a4, a5⟩ := hm
  have st : ∀ q, m.pkd q = true → m.stay q = true := fun q e => by
    unfold MS.stay
    rw [decide_eq_false (fun z => by unfold MS.pkd at e; rw [z] at e; exact absurd e (by decide))]
    rfl
  have pk : ∀ q, q < m.points → m.stay q = true → m'.pkd (cnt q m.stay) = m.pkd q := fun q hq e => by unfold MS.pkd; rw [a4, tdT_get hq e]
  refine bsR_g h (fun i hi e => ?_) (fun q hq e => ?_) hb hx
  · rw [a1] at hi
    obtain ⟨q, q1, q2, rfl⟩ := cnt_at hi
    rw [pk q q1 q2] at e
    exact ⟨q, q1, e, by rw [a2, tdT_get q1 q2], by rw [a3, tdT_get q1 q2], by rw [a5, tdT_get q1 q2]⟩
  · have s := st q e
    exact ⟨cnt q m.stay, by rw [a1]; exact cnt_lt hq s, by rw [pk q hq s]; exact e, by rw [a2, tdT_get hq s], by rw [a3, tdT_get hq s]⟩
theorem st1_pl {q : Nat} (hq : q < m.points) : m.st1.places q = if m.places q = -1 then -2 else m.places q := by
  show mapT m.points m.isM1 m2F m.places q = _
  rw [mapT_v hq]
  refine ite_iq (u := m2F q) ?_
  exact decide_eq_true_iff
/-- a start, before the journal is done again -/
theorem st2_pt (h : ptR m x PS dn) (hb : bsR m x bn) (hx : x'.npc = x.spc ∧ x'.nhor = x.shor ∧ x'.nsc = x.ssc ∧ (∀ j, j < x.ssc → x'.nsO j = x.ssO j ∧ x'.nsF j = x.ssF j ∧ x'.nsT j = x.ssT j) ∧ x'.hsize = 0) : ptR m.st2 x' PS bn := by
  have p : ptR m.st1 x' PS bn := ptR_rst h hb ⟨rfl, rfl, rfl, rfl, rfl, rfl, rfl, fun s hs => (show mapT m.baseSeries (fun _ => true) m.baseLasts m.lasts s = m.baseLasts s by rw [mapT_v hs, if_pos rfl]), rfl⟩ ⟨rfl, rfl, rfl, rfl, fun q hq => st1_pl hq⟩ hx
  exact ptR_tidy p ⟨rfl, rfl, rfl, rfl, rfl⟩ ⟨rfl, rfl, rfl, rfl, rfl, rfl, rfl, rfl, rfl⟩ ⟨rfl, rfl, rfl, rfl, rfl, rfl⟩ ⟨rfl, rfl, rfl, rfl⟩
theorem st2_bs (hb : bsR m x bn) (hx : vB x x') : bsR m.st2 x' bn := by
  have e : m.st1.horizon = m.horizon := hb.2.1.2.1
  have p : bsR m.st1 x' bn := bsR_p hb ⟨rfl, rfl, rfl, rfl⟩ (fun q hq => by
    unfold MS.pkd
    rw [st1_pl hq]
    by_cases z : m.places q = -1
    · rw [if_pos z, z]; rfl
    · rw [if_neg z]) ⟨rfl, e, rfl, rfl, Nat.le_refl _, Nat.le_refl _⟩ hx
  exact bsR_td p ⟨rfl, rfl, rfl, rfl, rfl⟩ ⟨rfl, rfl, rfl, rfl, Nat.le_refl _, Nat.le_refl _⟩ ⟨⟨rfl, rfl, rfl, rfl⟩, ⟨rfl, rfl, rfl, rfl, rfl, rfl⟩, rfl, fun _ _ => rfl, rfl⟩
end BG
