/-! Points put in order; the head packed: both sides. -/
section TY
variable {m m' : MS} {x x' : VS} {PS : Nat → PT} {dn : Nat → Nat}
theorem cnt_back {f : Nat → Bool} {p r : Nat} (h : cnt p f < cnt r f) : p < r := by
  rcases Nat.lt_or_ge p r with z | z
  · exact z
  · have := cnt_mono (f := f) z
    omega
def tyF (m m' : MS) : Prop := m'.points = cnt m.points m.stay ∧ m'.pointSeries = tdT m.stay m.pointSeries m.points ∧ m'.pointTimes = tdT m.stay m.pointTimes m.points ∧ m'.pointValues = tdT m.stay m.pointValues m.points ∧ m'.places = tdT m.stay m.places m.points ∧ m'.hidden = tdT m.stay m.hidden m.points ∧ m'.deletes = m.deletes ∧ m'.seriesCount = m.seriesCount ∧ m'.lasts = m.lasts
theorem ptR_tidy (h : ptR m x PS dn) (h1 : mP m m') (hm : tyF m m') (h3 : vP x x') (h4 : vH x x') : ptR m' x' PS dn := by
  obtain ⟨a1, a2, a3, a4, a5⟩ := h1
  obtain ⟨b1, b2, b3, b4, b5, b6, b7, b8, b9⟩ := hm
  obtain ⟨c1, c2, c3, c4, c5, c6⟩ := h3
  obtain ⟨d1, d2, d3, d4⟩ := h4
  have st : ∀ q, m.stay q = true ↔ ¬ m.places q = -2 := fun q => by
    unfold MS.stay
    by_cases e : m.places q = -2
    · rw [decide_eq_true e]; exact ⟨fun z => (by cases z), fun z => absurd e z⟩
    · rw [decide_eq_false e]; exact ⟨fun _ => e, fun _ => rfl⟩
  have at_ : ∀ q, q < m.points → m.stay q = true → m'.pointSeries (cnt q m.stay) = m.pointSeries q ∧ m'.pointTimes (cnt q m.stay) = m.pointTimes q ∧ m'.places (cnt q m.stay) = m.places q ∧ m'.hidden (cnt q m.stay) = m.hidden q := fun q hq e => by
    rw [b2, b3, b5, b6]
    exact ⟨tdT_get hq e, tdT_get hq e, tdT_get hq e, tdT_get hq e⟩
  have all : ∀ i, i < m'.points → ∃ q, q < m.points ∧ m.stay q = true ∧ cnt q m.stay = i := fun i hi => by
    rw [b1] at hi
    obtain ⟨q, q1, q2, q3⟩ := cnt_at hi
    exact ⟨q, q1, q2, q3⟩
  have hdq : ∀ q, q < m.points → m.stay q = true → m'.hdd (cnt q m.stay) = m.hdd q := fun q hq e => by unfold MS.hdd; rw [(at_ q hq e).2.2.1]
  have hiq : ∀ k q, q < m.points → m.stay q = true → m'.inpc k (cnt q m.stay) = m.inpc k q := fun k q hq e => by unfold MS.inpc; rw [(at_ q hq e).2.2.1, a2]
  have hpq : ∀ q, q < m.points → m.stay q = true → m'.pkd (cnt q m.stay) = m.pkd q := fun q hq e => by unfold MS.pkd; rw [(at_ q hq e).2.2.1]
  have hc := h
  obtain ⟨⟨g1, g2, g3, g4⟩, ⟨i1, i2, i3, i4⟩, ⟨j1, j2, j3, j4⟩, ⟨k1, k2⟩, ⟨l1, l2, l3⟩, n1⟩ := h
  refine ⟨⟨?_, ?_, ?_, ?_⟩, ⟨?_, ?_, ?_, ?_⟩, ⟨?_, ?_, ?_, ?_⟩, ⟨?_, ?_⟩, ⟨?_, ?_, ?_⟩, ?_⟩
  · rw [b1, b2, b3, b4, d1, d2, d3, d4]
    exact lst_tidy g1 (fun q _ e => (st q).mpr (fun z => by rw [show m.places q = -1 from of_decide_eq_true e] at z; exact absurd z (by decide))) hdq
  · rw [a1, c1]; exact g2
  · rw [a5, c2]; exact g3
  · intro k hk
    rw [c1] at hk
    obtain ⟨e1, e2, e3⟩ := g4 k hk
    refine ⟨?_, e2, by rw [a3]; exact e3⟩
    rw [b1, b2, b3, b4]
    exact arr_tidy e1 (fun q _ e => (st q).mpr (inP_pk hc hk e).2.1) (hiq k)
  · intro i hi e
    obtain ⟨q, q1, q2, rfl⟩ := all i hi
    obtain ⟨y1, y2, -, y4⟩ := at_ q q1 q2
    rw [y1, y2, y4, c3, c4, c5, c6]
    exact i1 q q1 ((hpq q q1 q2).symm.trans e)
  · rw [c6, b7]; exact i2
  · intro j hj
    rw [c6] at hj
    obtain ⟨q, q1, q2, q3⟩ := i3 j hj
    have hs : m.stay q = true := (st q).mpr (fun z => pkd_t.mp q2 (by rw [z]; decide))
    obtain ⟨y1, y2, -, -⟩ := at_ q q1 hs
    refine ⟨cnt q m.stay, by rw [b1]; exact cnt_lt q1 hs, (hpq q q1 hs).trans q2, ?_⟩
    rw [y1, y2, c3, c4, c5, c6]
    exact q3
  · rw [b7]; exact i4
  · intro i hi
    obtain ⟨q, q1, q2, rfl⟩ := all i hi
    rw [(at_ q q1 q2).2.2.1, c1, a2]
    exact j1 q q1
  · rw [c1, a2]; exact j2
  · rw [c1, a2, a4]; exact j3
  · rw [a4]; exact j4
  · intro i j p r hij hj hp1 hr e1 e2
    rw [c1] at hj
    obtain ⟨p0, p1, p2, rfl⟩ := all p hp1
    obtain ⟨r0, r1, r2, rfl⟩ := all r hr
    exact cnt_lt (k1 i j p0 r0 hij hj p1 r1 ((hiq i p0 p1 p2).symm.trans e1) ((hiq j r0 r1 r2).symm.trans e2)) p2
  · intro k p r hk hp1 hr e1 e2
    rw [c1] at hk
    obtain ⟨p0, p1, p2, rfl⟩ := all p hp1
    obtain ⟨r0, r1, r2, rfl⟩ := all r hr
    exact cnt_lt (k2 k p0 r0 hk p1 r1 ((hiq k p0 p1 p2).symm.trans e1) ((hdq r0 r1 r2).symm.trans e2)) p2
  · intro i hi e
    obtain ⟨q, q1, q2, rfl⟩ := all i hi
    obtain ⟨-, y2, -, y4⟩ := at_ q q1 q2
    rw [a5, y2, y4]
    exact l1 q q1 ((hdq q q1 q2).symm.trans e)
  · intro i hi e
    obtain ⟨q, q1, q2, rfl⟩ := all i hi
    obtain ⟨y1, y2, y3, -⟩ := at_ q q1 q2
    rw [y3] at e
    rw [b8, b9, y1, y2]
    exact l2 q q1 e
  · intro p r hpr hr e1 e2 e3
    obtain ⟨p0, p1, p2, rfl⟩ := all p (by omega)
    obtain ⟨r0, r1, r2, rfl⟩ := all r hr
    obtain ⟨y1, y2, y3, -⟩ := at_ p0 p1 p2
    obtain ⟨z1, z2, z3, -⟩ := at_ r0 r1 r2
    rw [y3] at e1
    rw [z3] at e2
    rw [y1, z1] at e3
    rw [y2, z2]
    exact l3 p0 r0 (cnt_back hpr) r1 e1 e2 e3
  · intro i hi
    obtain ⟨q, q1, q2, rfl⟩ := all i hi
    rw [(at_ q q1 q2).2.1]
    exact n1 q q1
/-- the head becomes a parcel -/
theorem ptR_pack {O : Nat → Nat} {T V : Nat → Int64} {nb : Nat} (h : ptR m x PS dn) (hu : ∀ q, q < m.points → m.hdd q = true → cv1 x.nsO x.nsF x.nsT x.nsc (m.pointSeries q) (m.pointTimes q) = none)
    (hm1 : m'.points = m.points ∧ m'.pointSeries = m.pointSeries ∧ m'.pointTimes = m.pointTimes ∧ m'.pointValues = m.pointValues ∧ m'.hidden = m.hidden ∧ m'.deletes = m.deletes ∧ m'.seriesCount = m.seriesCount ∧ m'.lasts = m.lasts ∧ m'.horizon = m.horizon) (hm2 : (∀ q, q < m.points → m'.places q = if m.places q = -1 then nI m.parcelNumber else m.places q) ∧ m'.parcelCount = m.parcelCount + 1 ∧ m'.parcels = va_up m.parcels m.parcelCount m.parcelNumber ∧ m'.parcelBlocks = va_up m.parcelBlocks m.parcelCount nb ∧ m'.parcelNumber = m.parcelNumber + 1) (hpn : m.parcelNumber < 2 ^ 29)
    (hx : x'.npc = x.npc + 1 ∧ x'.nhor = x.nhor ∧ x'.nsO = x.nsO ∧ x'.nsF = x.nsF ∧ x'.nsT = x.nsT ∧ x'.nsc = x.nsc ∧ x'.hsize = 0) (l1 : laid x.hO x.hsize x.hsize x.hO O) (l2 : laid x.hO x.hsize x.hsize x.hT T) (l3 : laid x.hO x.hsize x.hsize x.hV V) (hb : (mkP x.hsize O T V).bl = nb) : ptR m' x' (va_up PS x.npc (mkP x.hsize O T V)) dn := by
  have hc := h
  obtain ⟨b1, b2, b3, b4, b6, b7, b8, b9, b10⟩ := hm1
  obtain ⟨a5, a1, a2, a3, a4⟩ := hm2
  obtain ⟨c1, c2, c3, c4, c5, c6, c7⟩ := hx
  obtain ⟨⟨g1, g2, g3, g4⟩, ⟨i1, i2, i3, i4⟩, ⟨j1, j2, j3, j4⟩, ⟨k1, k2⟩, ⟨m1, m2, m3⟩, n1⟩ := h
  have pn0 : ∀ z : Int32, z = nI m.parcelNumber → ¬ z = -1 ∧ ¬ z = -2 ∧ ¬ z < 0 := fun z e => by
    have hp := nI_pos (n := m.parcelNumber) (by omega)
    rw [e]
    exact ⟨nI_nm (by omega), fun y => hp (by rw [y]; decide), hp⟩
  have hdq : ∀ q, q < m.points → m'.hdd q = false := fun q hq => by
    refine decide_eq_false (fun z => ?_)
    rw [a5 q hq] at z
    split at z
    · exact (pn0 _ rfl).1 z
    · contradiction
  have old : ∀ k, k < x.npc → ∀ q, q < m.points → m'.inpc k q = m.inpc k q := fun k hk q hq => by
    unfold MS.inpc
    have p1 := j3 k hk
    rw [a5 q hq, a2, va_up_ne _ _ (by omega)]
    split
    · next e =>
      rw [e, decide_eq_false (fun z => by have := nI_inj (by omega) (by omega) z; omega), decide_eq_false (fun z => nI_nm (show m.parcels k < 2 ^ 31 by omega) z.symm)]
    · rfl
  have new : ∀ q, q < m.points → m'.inpc x.npc q = m.hdd q := fun q hq => by
    unfold MS.inpc MS.hdd
    rw [a5 q hq, a2, g2, va_up_self]
    split
    · next e => rw [e, decide_eq_true rfl, decide_eq_true rfl]
    · next e =>
      rw [decide_eq_false e]
      refine decide_eq_false (fun z => ?_)
      rcases j1 q hq with y | y | ⟨k, hk, y⟩
      · exact (pn0 _ z).2.1 y
      · exact e y
      · rw [y] at z
        have p1 := j3 k hk
        have := nI_inj (by omega) (by omega) z
        omega
  have hpq : ∀ q, q < m.points → m'.pkd q = (m.pkd q || m.hdd q) := fun q hq => by
    unfold MS.pkd MS.hdd
    rw [a5 q hq]
    split
    · next e =>
      rw [decide_eq_true e, Bool.or_true, decide_eq_false (pn0 _ rfl).2.2]
      rfl
    · next e => rw [decide_eq_false e, Bool.or_false]
  have pl2 : ∀ q, q < m.points → m'.places q = -2 → m.places q = -2 := fun q hq z => by
    rw [a5 q hq] at z
    split at z
    · exact absurd z (pn0 _ rfl).2.1
    · exact z
  have pl3 : ∀ q, q < m.points → ¬ m'.places q = -2 → ¬ m.places q = -2 := fun q hq z y => by
    rw [a5 q hq, if_neg (fun w => by rw [w] at y; exact absurd y (by decide))] at z
    exact z y
  refine ⟨⟨?_, ?_, ?_, ?_⟩, ⟨?_, ?_, ?_, ?_⟩, ⟨?_, ?_, ?_, ?_⟩, ⟨?_, ?_⟩, ⟨?_, ?_, ?_⟩, ?_⟩
  · refine ⟨?_, fun q hq e => ?_⟩
    · rw [c7, b1]
      exact (cnt_0 hdq).symm
    · rw [b1] at hq
      rw [hdq q hq] at e
      cases e
  · rw [a1, c1, g2]
  · rw [b10, c2]; exact g3
  · intro k hk
    rw [c1] at hk
    rw [b1, b2, b3, b4]
    by_cases e : k = x.npc
    · subst e
      rw [va_up_self]
      refine ⟨?_, rfl, ?_⟩
      · exact arr_congr (arr_lst g1 l1 l2 l3) (fun q _ => ⟨rfl, rfl, rfl⟩) new
      · rw [a3, g2, va_up_self, hb]
    · obtain ⟨e1, e2, e3⟩ := g4 k (by omega)
      rw [va_up_ne _ _ e]
      exact ⟨arr_congr e1 (fun q _ => ⟨rfl, rfl, rfl⟩) (old k (by omega)), e2, by rw [a3, va_up_ne _ _ (by omega)]; exact e3⟩
  · intro q hq e
    rw [b1] at hq
    rw [b2, b3, b6, c3, c4, c5, c6]
    rw [hpq q hq, Bool.or_eq_true] at e
    rcases e with e | e
    · exact i1 q hq e
    · rw [hu q hq e, (m1 q hq e).2]
      rfl
  · rw [c6, b7]; exact i2
  · intro j hj
    rw [c6] at hj
    obtain ⟨q, q1, q2, q3⟩ := i3 j hj
    refine ⟨q, by rw [b1]; exact q1, by rw [hpq q q1, q2]; rfl, ?_⟩
    rw [b2, b3, c3, c4, c5, c6]
    exact q3
  · rw [b7]; exact i4
  · intro q hq
    rw [b1] at hq
    rw [c1]
    rcases j1 q hq with y | y | ⟨k, hk, y⟩
    · exact Or.inl (by rw [a5 q hq, if_neg (by rw [y]; decide)]; exact y)
    · exact Or.inr (Or.inr ⟨x.npc, by omega, by rw [a5 q hq, if_pos y, a2, g2, va_up_self]⟩)
    · refine Or.inr (Or.inr ⟨k, by omega, ?_⟩)
      have hn := (inP_pk hc hk (decide_eq_true y)).2.2
      rw [a5 q hq, if_neg (of_decide_eq_false hn), a2, va_up_ne _ _ (by omega)]
      exact y
  · intro i j hi hj e
    rw [c1] at hi hj
    rw [a2, g2] at e
    by_cases z1 : i = x.npc
    · by_cases z2 : j = x.npc
      · omega
      · rw [z1, va_up_self, va_up_ne _ _ z2] at e
        have := j3 j (by omega)
        omega
    · by_cases z2 : j = x.npc
      · rw [z2, va_up_self, va_up_ne _ _ z1] at e
        have := j3 i (by omega)
        omega
      · rw [va_up_ne _ _ z1, va_up_ne _ _ z2] at e
        exact j2 i j (by omega) (by omega) e
  · intro k hk
    rw [c1] at hk
    rw [a2, a4, g2]
    by_cases z : k = x.npc
    · rw [z, va_up_self]; omega
    · rw [va_up_ne _ _ z]
      have := j3 k (by omega)
      omega
  · rw [a4]; omega
  · intro i j p r hij hj hp1 hr e1 e2
    rw [c1] at hj
    rw [b1] at hp1 hr
    by_cases z : j = x.npc
    · subst z
      rw [new r hr] at e2
      rw [old i hij p hp1] at e1
      exact k2 i p r hij hp1 hr e1 e2
    · rw [old j (by omega) r hr] at e2
      rw [old i (by omega) p hp1] at e1
      exact k1 i j p r hij (by omega) hp1 hr e1 e2
  · intro k p r hk hp1 hr e1 e2
    rw [b1] at hr
    rw [hdq r hr] at e2
    cases e2
  · intro q hq e
    rw [b1] at hq
    rw [hdq q hq] at e
    cases e
  · intro q hq e
    rw [b1] at hq
    rw [b8, b9, b2, b3]
    exact m2 q hq (pl3 q hq e)
  · intro p r hpr hr e1 e2 e3
    rw [b1] at hr
    rw [b2] at e3
    rw [b3]
    exact m3 p r hpr hr (pl3 p (by omega) e1) (pl3 r hr e2) e3
  · rw [b1, b3]; exact n1
end TY
