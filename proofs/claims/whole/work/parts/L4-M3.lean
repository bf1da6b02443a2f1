section
/-! Points go: both sides. -/
theorem mapT_v {α : Type} {N q : Nat} {c : Nat → Bool} {g f : Nat → α} (hq : q < N) : mapT N c g f q = if c q = true then g q else f q := by
  unfold mapT
  by_cases h : c q = true
  · rw [if_pos ⟨hq, h⟩, if_pos h]
  · rw [if_neg (fun z => h z.2), if_neg h]
section GO
variable {m m' : MS} {x x' : VS} {PS : Nat → PT} {dn : Nat → Nat} {w : Nat} {a b : Int64}
theorem hit_bt (m : MS) (w : Nat) (a b : Int64) (q : Nat) : m.hit w a b q = m.bt w a b q := by
  unfold MS.hit MS.bt
  congr 3
  by_cases h : b < m.pointTimes q
  · rw [decide_eq_true h, decide_eq_false (Int64.not_le.mpr h)]; rfl
  · rw [decide_eq_false h, decide_eq_true (Int64.not_lt.mp h)]; rfl
theorem bt_t {q : Nat} : m.bt w a b q = true ↔ m.pointSeries q = w ∧ m.seen q = true ∧ ¬ m.pointTimes q < a ∧ ¬ b < m.pointTimes q := by
  unfold MS.bt
  rw [Bool.and_eq_true, Bool.and_eq_true, Bool.and_eq_true, decide_eq_true_eq]
  have e : ∀ (P : Prop) [Decidable P], ((!decide P) = true ↔ ¬ P) := fun P _ => by
    by_cases h : P
    · rw [decide_eq_true h]; exact ⟨fun z => (by cases z), fun z => absurd h z⟩
    · rw [decide_eq_false h]; exact ⟨fun _ => h, fun _ => rfl⟩
  rw [e, e]
/-- a packed point that is seen -/
theorem seen_pk (h : ptR m x PS dn) {q : Nat} (hq : q < m.points) (hp : m.pkd q = true) : m.seen q = true ↔ cv1 x.nsO x.nsF x.nsT x.nsc (m.pointSeries q) (m.pointTimes q) = none ∧ ¬ m.pointTimes q < m.horizon := by
  have hd := h.2.1
  have e2 : 0 ≤ m.hidden q ↔ cv1 x.nsO x.nsF x.nsT x.nsc (m.pointSeries q) (m.pointTimes q) ≠ none := by
    rw [hd.1 q hq hp]
    exact hdV_n hd.2.1 (by have := hd.2.2.2; omega) (fun j e => cv1_lt e)
  unfold MS.seen
  rw [decide_eq_false (fun z => pkd_t.mp hp (Int32.lt_of_le_of_lt z (by decide)))]
  by_cases g : cv1 x.nsO x.nsF x.nsT x.nsc (m.pointSeries q) (m.pointTimes q) = none
  · rw [decide_eq_false (fun z => e2.mp z g)]
    by_cases g2 : m.pointTimes q < m.horizon
    · rw [decide_eq_true g2]; exact ⟨fun z => (by cases z), fun z => absurd g2 z.2⟩
    · rw [decide_eq_false g2]; exact ⟨fun _ => ⟨g, g2⟩, fun _ => rfl⟩
  · rw [decide_eq_true (e2.mpr g)]; exact ⟨fun z => (by cases z), fun z => absurd z.1 g⟩
theorem dnR_l {n d d' : Nat} {dn : Nat → Nat} (h : dnR n d dn) (hd : d ≤ d') : dnR n d' dn := ⟨fun j hj => Nat.lt_of_lt_of_le (h.1 j hj) hd, h.2⟩
/-- what the reference changes -/
def goF (m m' : MS) (w : Nat) (a b : Int64) : Prop := m'.points = m.points ∧ m'.pointSeries = m.pointSeries ∧ m'.pointTimes = m.pointTimes ∧ m'.pointValues = m.pointValues ∧ m'.places = mapT m.points (m.hit w a b) m.gP m.places ∧ m'.hidden = mapT m.points (m.hit w a b) m.gH m.hidden ∧ m'.deletes = m.deletes + 1 ∧ m'.seriesCount = m.seriesCount ∧ m'.lasts = m.lasts
theorem ptR_go (h : ptR m x PS dn) (h1 : mP m m') (hm : goF m m' w a b) (hl : m.lasts w = x.nlast w) (hd9 : m.deletes < 2 ^ 29) (hx : x'.npc = x.npc ∧ x'.nhor = x.nhor ∧ x'.hsize = (x.dwS w a b).hsize ∧ x'.hO = (x.dwS w a b).hO ∧ x'.hT = (x.dwS w a b).hT ∧ x'.hV = (x.dwS w a b).hV)
    (hs : (sumN x.npc (x.soN PS w a b) = 0 ∧ x'.nsO = x.nsO ∧ x'.nsF = x.nsF ∧ x'.nsT = x.nsT ∧ x'.nsc = x.nsc) ∨ (0 < sumN x.npc (x.soN PS w a b) ∧ x'.nsO = (x.asS w a b).nsO ∧ x'.nsF = (x.asS w a b).nsF ∧ x'.nsT = (x.asS w a b).nsT ∧ x'.nsc = x.nsc + 1)) : ∃ dn', ptR m' x' PS dn' := by
  have hc := h
  have bs := btw_1 h w a b
  obtain ⟨a1, a2, a3, a4, a5⟩ := h1
  obtain ⟨b1, b2, b3, b4, b5, b6, b7, b8, b9⟩ := hm
  obtain ⟨c1, c2, d1, d2, d3, d4⟩ := hx
  -- places and hiding numbers behind
  have hgp : ∀ q, q < m.points → m'.places q = if m.bt w a b q = true then m.gP q else m.places q := fun q hq => by rw [b5, mapT_v hq, hit_bt]
  have hgh : ∀ q, q < m.points → m'.hidden q = if m.bt w a b q = true then m.gH q else m.hidden q := fun q hq => by rw [b6, mapT_v hq, hit_bt]
  have s2 : ∀ q, m.places q = -2 → m.bt w a b q = false := fun q e => by
    cases g : m.bt w a b q with
    | false => rfl
    | true =>
      have := (bt_t.mp g).2.1
      unfold MS.seen at this
      rw [e, decide_eq_true (show (-2 : Int32) ≤ -2 by decide)] at this
      cases this
  have pp : ∀ q, q < m.points → m.pkd q = true → m'.places q = m.places q := fun q hq e => by
    rw [hgp q hq]
    split
    · unfold MS.gP
      rw [if_neg (pkd_t.mp e)]
    · rfl
  have ph : ∀ q, q < m.points → m.places q = -1 → m'.places q = if m.bt w a b q = true then -2 else -1 := fun q hq e => by
    rw [hgp q hq]
    unfold MS.gP
    rw [e, if_pos (show (-1 : Int32) < 0 by decide)]
  have p2 : ∀ q, q < m.points → m.places q = -2 → m'.places q = -2 := fun q hq e => by
    rw [hgp q hq, s2 q e, e]
    rfl
  have kd : ∀ q, q < m.points → m.pkd q = false → m.places q = -2 ∨ m.places q = -1 := fun q hq e => by
    rcases hc.2.2.1.1 q hq with y | y | ⟨k, hk, y⟩
    · exact Or.inl y
    · exact Or.inr y
    · have := (inP_pk hc hk (decide_eq_true y)).1
      rw [e] at this
      cases this
  have hdq : ∀ q, q < m.points → m'.hdd q = (m.hdd q && !m.bt w a b q) := fun q hq => by
    unfold MS.hdd
    cases e : m.pkd q with
    | true =>
      rw [pp q hq e, show decide (m.places q = -1) = false from decide_eq_false (fun z => pkd_t.mp e (by rw [z]; decide))]
      rfl
    | false =>
      rcases kd q hq e with y | y
      · rw [p2 q hq y, y]; rfl
      · rw [ph q hq y, y]
        cases m.bt w a b q <;> rfl
  have hpq : ∀ q, q < m.points → m'.pkd q = m.pkd q := fun q hq => by
    unfold MS.pkd
    cases e : m.pkd q with
    | true => rw [pp q hq e]
    | false =>
      rcases kd q hq e with y | y
      · rw [p2 q hq y, y]
      · rw [ph q hq y, y]
        cases m.bt w a b q <;> rfl
  have hiq : ∀ k, k < x.npc → ∀ q, q < m.points → m'.inpc k q = m.inpc k q := fun k hk q hq => by
    have q1 := hc.2.2.1.2.2.1 k hk
    have q2 := hc.2.2.1.2.2.2
    unfold MS.inpc
    rw [a2]
    cases e : m.pkd q with
    | true => rw [pp q hq e]
    | false =>
      have n1 : ¬ (-1 : Int32) = nI (m.parcels k) := fun z => nI_nm (by omega) z.symm
      have n2 : ¬ (-2 : Int32) = nI (m.parcels k) := fun z => nI_pos (n := m.parcels k) (by omega) (by rw [← z]; decide)
      rcases kd q hq e with y | y
      · rw [p2 q hq y, y]
      · rw [ph q hq y, y, decide_eq_false n1]
        cases m.bt w a b q
        · exact decide_eq_false n1
        · exact decide_eq_false n2
  have hbt : ∀ q, q < m.points → m.pkd q = true → m'.hidden q = if cv1 x.nsO x.nsF x.nsT x.nsc (m.pointSeries q) (m.pointTimes q) = none ∧ m.pointSeries q = w ∧ ¬ m.pointTimes q < maxL a x.nhor ∧ ¬ minL b (x.nlast w) < m.pointTimes q then nI m.deletes else m.hidden q := fun q hq e => by
    rw [hgh q hq]
    have ne2 : ¬ m.places q = -2 := fun z => pkd_t.mp e (by rw [z]; decide)
    have gh : m.gH q = nI m.deletes := by unfold MS.gH; rw [if_neg (pkd_t.mp e)]
    have iff1 : m.bt w a b q = true ↔ cv1 x.nsO x.nsF x.nsT x.nsc (m.pointSeries q) (m.pointTimes q) = none ∧ m.pointSeries q = w ∧ ¬ m.pointTimes q < maxL a x.nhor ∧ ¬ minL b (x.nlast w) < m.pointTimes q := by
      rw [bt_t, seen_pk hc hq e]
      have hh := hc.1.2.2.1
      have hlast : m.pointSeries q = w → ¬ x.nlast w < m.pointTimes q := fun y => by
        have := (hc.2.2.2.2.1.2.1 q hq ne2).2
        rw [y, hl] at this
        exact this
      constructor
      · rintro ⟨y1, ⟨y2, y3⟩, y4, y5⟩
        refine ⟨y2, y1, ?_, ?_⟩
        · unfold maxL
          split
          · exact y4
          · rw [← hh]; exact y3
        · unfold minL
          split
          · exact hlast y1
          · exact y5
      · rintro ⟨y1, y2, y3, y4⟩
        unfold maxL at y3
        unfold minL at y4
        refine ⟨y2, ⟨y1, ?_⟩, ?_, ?_⟩
        · rw [hh]
          intro z
          split at y3
          · next g => exact y3 (Int64.lt_trans z g)
          · exact y3 z
        · intro z
          split at y3
          · exact y3 z
          · next g => exact y3 (Int64.lt_of_lt_of_le z (Int64.not_lt.mp g))
        · intro z
          split at y4
          · exact y4 (Int64.lt_trans (by assumption) z)
          · exact y4 z
    by_cases g : m.bt w a b q = true
    · rw [if_pos g, if_pos (iff1.mp g), gh]
    · rw [if_neg g, if_neg (fun z => g (iff1.mpr z))]
  obtain ⟨⟨g1, g2, g3, g4⟩, ⟨i1, i2, i3, i4⟩, ⟨j1, j2, j3, j4⟩, ⟨k1, k2⟩, ⟨l1, l2, l3⟩, n1⟩ := h
  -- the scars
  have sc : ∃ dn', hdR m'.hidden m'.pkd m'.pointSeries m'.pointTimes m'.points x'.nsO x'.nsF x'.nsT x'.nsc dn' ∧ dnR x'.nsc m'.deletes dn' ∧ scE1 m'.pkd m'.pointSeries m'.pointTimes m'.points x'.nsO x'.nsF x'.nsT x'.nsc := by
    rw [b1, b2, b3, b7]
    rcases hs with ⟨s0, e1, e2, e3, e4⟩ | ⟨s0, e1, e2, e3, e4⟩
    · rw [e1, e2, e3, e4]
      have none : ∀ q, q < m.points → m.pkd q = true → m.bt w a b q = false := fun q hq e => by
        cases g : m.bt w a b q with
        | false => rfl
        | true =>
          have := cnt_lt (f := m.btw w a b true) hq (by unfold MS.btw; rw [g, show (!decide (m.places q < 0)) = true from e]; rfl)
          omega
      refine ⟨dn, fun q hq e => ?_, dnR_l i2 (by omega), fun j hj => ?_⟩
      · have e := (hpq q hq).symm.trans e
        rw [hgh q hq, none q hq e]
        exact i1 q hq e
      · obtain ⟨q, q1, q2, q3⟩ := i3 j hj
        exact ⟨q, q1, (hpq q q1).trans q2, q3⟩
    · rw [e1, e2, e3, e4]
      have hsO : hdR m'.hidden m.pkd m.pointSeries m.pointTimes m.points (va_up x.nsO x.nsc w) (va_up x.nsF x.nsc (maxL a x.nhor)) (va_up x.nsT x.nsc (minL b (x.nlast w))) (x.nsc + 1) (va_up dn x.nsc m.deletes) := hdR_s i1 hbt
      rw [← bs] at s0
      obtain ⟨q0, u1, u2, -⟩ := cnt_at s0
      unfold MS.btw at u2
      rw [Bool.and_eq_true] at u2
      have u3 : m.pkd q0 = true := u2.2
      have ne2 : ¬ m.places q0 = -2 := fun z => pkd_t.mp u3 (by rw [z]; decide)
      obtain ⟨v1, v2, v3, v4⟩ := bt_t.mp u2.1
      have v2 := (seen_pk hc u1 u3).mp v2
      refine ⟨_, fun q hq e => hsO q hq ((hpq q hq).symm.trans e), dnR_s i2, ?_⟩
      have sE := scE_s (w0 := w) (a := maxL a x.nhor) (b := minL b (x.nlast w)) i3 u1 u3 v2.1 v1 (by
        unfold maxL
        split
        · exact v3
        · rw [← hc.1.2.2.1]; exact v2.2) (by
        unfold minL
        split
        · have := (hc.2.2.2.2.1.2.1 q0 u1 ne2).2
          rw [v1, hl] at this
          exact this
        · exact v4)
      intro j hj
      obtain ⟨q, q1, q2, q3⟩ := sE j hj
      exact ⟨q, q1, (hpq q q1).trans q2, q3⟩
  obtain ⟨dn', r1, r2, r3⟩ := sc
  refine ⟨dn', ⟨?_, ?_, ?_, ?_⟩, ⟨r1, r2, r3, by rw [b7]; omega⟩, ⟨?_, ?_, ?_, ?_⟩, ⟨?_, ?_⟩, ⟨?_, ?_, ?_⟩, ?_⟩
  · rw [b1, b2, b3, b4, d1, d2, d3, d4]
    have e := lst_td (d := x.hWn w a b) (dp := fun q => !m.bt w a b q) g1 (fun q hq e => by
      obtain ⟨y1, y2, -⟩ := g1.2 q hq e
      unfold VS.hWn VS.hW MS.bt
      rw [y1, y2, hd_seen hc hq e]
      rfl)
    exact lst_congr e (fun q _ => ⟨rfl, rfl, rfl⟩) hdq
  · rw [a1, c1]; exact g2
  · rw [a5, c2]; exact g3
  · intro k hk
    rw [c1] at hk
    obtain ⟨e1, e2, e3⟩ := g4 k hk
    refine ⟨?_, e2, by rw [a3]; exact e3⟩
    rw [b1, b2, b3, b4]
    exact arr_congr e1 (fun q _ => ⟨rfl, rfl, rfl⟩) (hiq k hk)
  · intro q hq
    rw [b1] at hq
    rw [c1, a2]
    cases e : m.pkd q with
    | true => rw [pp q hq e]; exact j1 q hq
    | false =>
      rcases kd q hq e with y | y
      · exact Or.inl (p2 q hq y)
      · rw [ph q hq y]
        cases m.bt w a b q
        · exact Or.inr (Or.inl rfl)
        · exact Or.inl rfl
  · rw [c1, a2]; exact j2
  · rw [c1, a2, a4]; exact j3
  · rw [a4]; exact j4
  · intro i j p r hij hj hp1 hr e1 e2
    rw [c1] at hj
    rw [b1] at hp1 hr
    exact k1 i j p r hij hj hp1 hr ((hiq i (by omega) p hp1).symm.trans e1) ((hiq j hj r hr).symm.trans e2)
  · intro k p r hk hp1 hr e1 e2
    rw [c1] at hk
    rw [b1] at hp1 hr
    rw [hdq r hr, Bool.and_eq_true] at e2
    exact k2 k p r hk hp1 hr ((hiq k hk p hp1).symm.trans e1) e2.1
  · intro q hq e
    rw [b1] at hq
    rw [hdq q hq, Bool.and_eq_true] at e
    rw [a5, b3]
    obtain ⟨y1, y2⟩ := l1 q hq e.1
    refine ⟨y1, ?_⟩
    rw [hgh q hq]
    split
    · unfold MS.gH
      rw [show m.places q = -1 from of_decide_eq_true e.1, if_pos (by decide)]
    · exact y2
  · intro q hq e
    rw [b1] at hq
    rw [b8, b9, b2, b3]
    exact l2 q hq (fun z => e (p2 q hq z))
  · intro p r hpr hr e1 e2 e3
    rw [b1] at hr
    rw [b2] at e3
    rw [b3]
    exact l3 p r hpr hr (fun z => e1 (p2 p (by omega) z)) (fun z => e2 (p2 r hr z)) e3
  · rw [b1, b3]; exact n1
end GO
end
section
/-! Points put in order; the head packed: both sides. -/
section TY
variable {m m' : MS} {x x' : VS} {PS : Nat → PT} {dn : Nat → Nat}
theorem cnt_back {f : Nat → Bool} {p r : Nat} (h : cnt p f < cnt r f) : p < r := by
  rcases Nat.lt_or_ge p r with z | z
  · exact z
  · have := cnt_mono (f := f) z
    omega
def tyF (m m' : MS) : Prop := m'.points = cnt m.points m.stay ∧ m'.pointSeries = tdT m.stay m.pointSeries m.points ∧ m'.pointTimes = tdT m.stay m.pointTimes m.points ∧ m'.pointValues = tdT m.stay m.pointValues m.points ∧ m'.places = tdT m.stay m.places m.points ∧ m'.hidden = tdT m.stay m.hidden m.points ∧ m'.deletes = m.deletes ∧ m'.seriesCount = m.seriesCount ∧ m'.lasts = m.lasts
theorem ptR_tidy (h : ptR m x PS dn) (h1 : mP m m') (hm : tyF m m') (h3 : vP x x') (h4 : vH x x') : ptR m' x' PS dn := by
  obtain ⟨a1, a2, a3, a4, a5⟩ := h1
  obtain ⟨b1, b2, b3, b4, b5, b6, b7, b8, b9⟩ := hm
  obtain ⟨c1, c2, c3, c4, c5, c6⟩ := h3
  obtain ⟨d1, d2, d3, d4⟩ := h4
  have st : ∀ q, m.stay q = true ↔ ¬ m.places q = -2 := fun q => by
    unfold MS.stay
    by_cases e : m.places q = -2
    · rw [decide_eq_true e]; exact ⟨fun z => (by cases z), fun z => absurd e z⟩
    · rw [decide_eq_false e]; exact ⟨fun _ => e, fun _ => rfl⟩
  have at_ : ∀ q, q < m.points → m.stay q = true → m'.pointSeries (cnt q m.stay) = m.pointSeries q ∧ m'.pointTimes (cnt q m.stay) = m.pointTimes q ∧ m'.places (cnt q m.stay) = m.places q ∧ m'.hidden (cnt q m.stay) = m.hidden q := fun q hq e => by
    rw [b2, b3, b5, b6]
    exact ⟨tdT_get hq e, tdT_get hq e, tdT_get hq e, tdT_get hq e⟩
  have all : ∀ i, i < m'.points → ∃ q, q < m.points ∧ m.stay q = true ∧ cnt q m.stay = i := fun i hi => by
    rw [b1] at hi
    obtain ⟨q, q1, q2, q3⟩ := cnt_at hi
    exact ⟨q, q1, q2, q3⟩
  have hdq : ∀ q, q < m.points → m.stay q = true → m'.hdd (cnt q m.stay) = m.hdd q := fun q hq e => by unfold MS.hdd; rw [(at_ q hq e).2.2.1]
  have hiq : ∀ k q, q < m.points → m.stay q = true → m'.inpc k (cnt q m.stay) = m.inpc k q := fun k q hq e => by unfold MS.inpc; rw [(at_ q hq e).2.2.1, a2]
  have hpq : ∀ q, q < m.points → m.stay q = true → m'.pkd (cnt q m.stay) = m.pkd q := fun q hq e => by unfold MS.pkd; rw [(at_ q hq e).2.2.1]
  have hc := h
  obtain ⟨⟨g1, g2, g3, g4⟩, ⟨i1, i2, i3, i4⟩, ⟨j1, j2, j3, j4⟩, ⟨k1, k2⟩, ⟨l1, l2, l3⟩, n1⟩ := h
  refine ⟨⟨?_, ?_, ?_, ?_⟩, ⟨?_, ?_, ?_, ?_⟩, ⟨?_, ?_, ?_, ?_⟩, ⟨?_, ?_⟩, ⟨?_, ?_, ?_⟩, ?_⟩
  · rw [b1, b2, b3, b4, d1, d2, d3, d4]
    exact lst_tidy g1 (fun q _ e => (st q).mpr (fun z => by rw [show m.places q = -1 from of_decide_eq_true e] at z; exact absurd z (by decide))) hdq
  · rw [a1, c1]; exact g2
  · rw [a5, c2]; exact g3
  · intro k hk
    rw [c1] at hk
    obtain ⟨e1, e2, e3⟩ := g4 k hk
    refine ⟨?_, e2, by rw [a3]; exact e3⟩
    rw [b1, b2, b3, b4]
    exact arr_tidy e1 (fun q _ e => (st q).mpr (inP_pk hc hk e).2.1) (hiq k)
  · intro i hi e
    obtain ⟨q, q1, q2, rfl⟩ := all i hi
    obtain ⟨y1, y2, -, y4⟩ := at_ q q1 q2
    rw [y1, y2, y4, c3, c4, c5, c6]
    exact i1 q q1 ((hpq q q1 q2).symm.trans e)
  · rw [c6, b7]; exact i2
  · intro j hj
    rw [c6] at hj
    obtain ⟨q, q1, q2, q3⟩ := i3 j hj
    have hs : m.stay q = true := (st q).mpr (fun z => pkd_t.mp q2 (by rw [z]; decide))
    obtain ⟨y1, y2, -, -⟩ := at_ q q1 hs
    refine ⟨cnt q m.stay, by rw [b1]; exact cnt_lt q1 hs, (hpq q q1 hs).trans q2, ?_⟩
    rw [y1, y2, c3, c4, c5, c6]
    exact q3
  · rw [b7]; exact i4
  · intro i hi
    obtain ⟨q, q1, q2, rfl⟩ := all i hi
    rw [(at_ q q1 q2).2.2.1, c1, a2]
    exact j1 q q1
  · rw [c1, a2]; exact j2
  · rw [c1, a2, a4]; exact j3
  · rw [a4]; exact j4
  · intro i j p r hij hj hp1 hr e1 e2
    rw [c1] at hj
    obtain ⟨p0, p1, p2, rfl⟩ := all p hp1
    obtain ⟨r0, r1, r2, rfl⟩ := all r hr
    exact cnt_lt (k1 i j p0 r0 hij hj p1 r1 ((hiq i p0 p1 p2).symm.trans e1) ((hiq j r0 r1 r2).symm.trans e2)) p2
  · intro k p r hk hp1 hr e1 e2
    rw [c1] at hk
    obtain ⟨p0, p1, p2, rfl⟩ := all p hp1
    obtain ⟨r0, r1, r2, rfl⟩ := all r hr
    exact cnt_lt (k2 k p0 r0 hk p1 r1 ((hiq k p0 p1 p2).symm.trans e1) ((hdq r0 r1 r2).symm.trans e2)) p2
  · intro i hi e
    obtain ⟨q, q1, q2, rfl⟩ := all i hi
    obtain ⟨-, y2, -, y4⟩ := at_ q q1 q2
    rw [a5, y2, y4]
    exact l1 q q1 ((hdq q q1 q2).symm.trans e)
  · intro i hi e
    obtain ⟨q, q1, q2, rfl⟩ := all i hi
    obtain ⟨y1, y2, y3, -⟩ := at_ q q1 q2
    rw [y3] at e
    rw [b8, b9, y1, y2]
    exact l2 q q1 e
  · intro p r hpr hr e1 e2 e3
    obtain ⟨p0, p1, p2, rfl⟩ := all p (by omega)
    obtain ⟨r0, r1, r2, rfl⟩ := all r hr
    obtain ⟨y1, y2, y3, -⟩ := at_ p0 p1 p2
    obtain ⟨z1, z2, z3, -⟩ := at_ r0 r1 r2
    rw [y3] at e1
    rw [z3] at e2
    rw [y1, z1] at e3
    rw [y2, z2]
    exact l3 p0 r0 (cnt_back hpr) r1 e1 e2 e3
  · intro i hi
    obtain ⟨q, q1, q2, rfl⟩ := all i hi
    rw [(at_ q q1 q2).2.1]
    exact n1 q q1
/-- the head becomes a parcel -/
theorem ptR_pack {O : Nat → Nat} {T V : Nat → Int64} {nb : Nat} (h : ptR m x PS dn) (hu : ∀ q, q < m.points → m.hdd q = true → cv1 x.nsO x.nsF x.nsT x.nsc (m.pointSeries q) (m.pointTimes q) = none)
    (hm1 : m'.points = m.points ∧ m'.pointSeries = m.pointSeries ∧ m'.pointTimes = m.pointTimes ∧ m'.pointValues = m.pointValues ∧ m'.hidden = m.hidden ∧ m'.deletes = m.deletes ∧ m'.seriesCount = m.seriesCount ∧ m'.lasts = m.lasts ∧ m'.horizon = m.horizon) (hm2 : (∀ q, q < m.points → m'.places q = if m.places q = -1 then nI m.parcelNumber else m.places q) ∧ m'.parcelCount = m.parcelCount + 1 ∧ m'.parcels = va_up m.parcels m.parcelCount m.parcelNumber ∧ m'.parcelBlocks = va_up m.parcelBlocks m.parcelCount nb ∧ m'.parcelNumber = m.parcelNumber + 1) (hpn : m.parcelNumber < 2 ^ 29)
    (hx : x'.npc = x.npc + 1 ∧ x'.nhor = x.nhor ∧ x'.nsO = x.nsO ∧ x'.nsF = x.nsF ∧ x'.nsT = x.nsT ∧ x'.nsc = x.nsc ∧ x'.hsize = 0) (l1 : laid x.hO x.hsize x.hsize x.hO O) (l2 : laid x.hO x.hsize x.hsize x.hT T) (l3 : laid x.hO x.hsize x.hsize x.hV V) (hb : (mkP x.hsize O T V).bl = nb) : ptR m' x' (va_up PS x.npc (mkP x.hsize O T V)) dn := by
  have hc := h
  obtain ⟨b1, b2, b3, b4, b6, b7, b8, b9, b10⟩ := hm1
  obtain ⟨a5, a1, a2, a3, a4⟩ := hm2
  obtain ⟨c1, c2, c3, c4, c5, c6, c7⟩ := hx
  obtain ⟨⟨g1, g2, g3, g4⟩, ⟨i1, i2, i3, i4⟩, ⟨j1, j2, j3, j4⟩, ⟨k1, k2⟩, ⟨m1, m2, m3⟩, n1⟩ := h
  have pn0 : ∀ z : Int32, z = nI m.parcelNumber → ¬ z = -1 ∧ ¬ z = -2 ∧ ¬ z < 0 := fun z e => by
    have hp := nI_pos (n := m.parcelNumber) (by omega)
    rw [e]
    exact ⟨nI_nm (by omega), fun y => hp (by rw [y]; decide), hp⟩
  have hdq : ∀ q, q < m.points → m'.hdd q = false := fun q hq => by
    refine decide_eq_false (fun z => ?_)
    rw [a5 q hq] at z
    split at z
    · exact (pn0 _ rfl).1 z
    · contradiction
  have old : ∀ k, k < x.npc → ∀ q, q < m.points → m'.inpc k q = m.inpc k q := fun k hk q hq => by
    unfold MS.inpc
    have p1 := j3 k hk
    rw [a5 q hq, a2, va_up_ne _ _ (by omega)]
    split
    · next e =>
      rw [e, decide_eq_false (fun z => by have := nI_inj (by omega) (by omega) z; omega), decide_eq_false (fun z => nI_nm (show m.parcels k < 2 ^ 31 by omega) z.symm)]
    · rfl
  have new : ∀ q, q < m.points → m'.inpc x.npc q = m.hdd q := fun q hq => by
    unfold MS.inpc MS.hdd
    rw [a5 q hq, a2, g2, va_up_self]
    split
    · next e => rw [e, decide_eq_true rfl, decide_eq_true rfl]
    · next e =>
      rw [decide_eq_false e]
      refine decide_eq_false (fun z => ?_)
      rcases j1 q hq with y | y | ⟨k, hk, y⟩
      · exact (pn0 _ z).2.1 y
      · exact e y
      · rw [y] at z
        have p1 := j3 k hk
        have := nI_inj (by omega) (by omega) z
        omega
  have hpq : ∀ q, q < m.points → m'.pkd q = (m.pkd q || m.hdd q) := fun q hq => by
    unfold MS.pkd MS.hdd
    rw [a5 q hq]
    split
    · next e =>
      rw [decide_eq_true e, Bool.or_true, decide_eq_false (pn0 _ rfl).2.2]
      rfl
    · next e => rw [decide_eq_false e, Bool.or_false]
  have pl2 : ∀ q, q < m.points → m'.places q = -2 → m.places q = -2 := fun q hq z => by
    rw [a5 q hq] at z
    split at z
    · exact absurd z (pn0 _ rfl).2.1
    · exact z
  have pl3 : ∀ q, q < m.points → ¬ m'.places q = -2 → ¬ m.places q = -2 := fun q hq z y => by
    rw [a5 q hq, if_neg (fun w => by rw [w] at y; exact absurd y (by decide))] at z
    exact z y
  refine ⟨⟨?_, ?_, ?_, ?_⟩, ⟨?_, ?_, ?_, ?_⟩, ⟨?_, ?_, ?_, ?_⟩, ⟨?_, ?_⟩, ⟨?_, ?_, ?_⟩, ?_⟩
  · refine ⟨?_, fun q hq e => ?_⟩
    · rw [c7, b1]
      exact (cnt_0 hdq).symm
    · rw [b1] at hq
      rw [hdq q hq] at e
      cases e
  · rw [a1, c1, g2]
  · rw [b10, c2]; exact g3
  · intro k hk
    rw [c1] at hk
    rw [b1, b2, b3, b4]
    by_cases e : k = x.npc
    · subst e
      rw [va_up_self]
      refine ⟨?_, rfl, ?_⟩
      · exact arr_congr (arr_lst g1 l1 l2 l3) (fun q _ => ⟨rfl, rfl, rfl⟩) new
      · rw [a3, g2, va_up_self, hb]
    · obtain ⟨e1, e2, e3⟩ := g4 k (by omega)
      rw [va_up_ne _ _ e]
      exact ⟨arr_congr e1 (fun q _ => ⟨rfl, rfl, rfl⟩) (old k (by omega)), e2, by rw [a3, va_up_ne _ _ (by omega)]; exact e3⟩
  · intro q hq e
    rw [b1] at hq
    rw [b2, b3, b6, c3, c4, c5, c6]
    rw [hpq q hq, Bool.or_eq_true] at e
    rcases e with e | e
    · exact i1 q hq e
    · rw [hu q hq e, (m1 q hq e).2]
      rfl
  · rw [c6, b7]; exact i2
  · intro j hj
    rw [c6] at hj
    obtain ⟨q, q1, q2, q3⟩ := i3 j hj
    refine ⟨q, by rw [b1]; exact q1, by rw [hpq q q1, q2]; rfl, ?_⟩
    rw [b2, b3, c3, c4, c5, c6]
    exact q3
  · rw [b7]; exact i4
  · intro q hq
    rw [b1] at hq
    rw [c1]
    rcases j1 q hq with y | y | ⟨k, hk, y⟩
    · exact Or.inl (by rw [a5 q hq, if_neg (by rw [y]; decide)]; exact y)
    · exact Or.inr (Or.inr ⟨x.npc, by omega, by rw [a5 q hq, if_pos y, a2, g2, va_up_self]⟩)
    · refine Or.inr (Or.inr ⟨k, by omega, ?_⟩)
      have hn := (inP_pk hc hk (decide_eq_true y)).2.2
      rw [a5 q hq, if_neg (of_decide_eq_false hn), a2, va_up_ne _ _ (by omega)]
      exact y
  · intro i j hi hj e
    rw [c1] at hi hj
    rw [a2, g2] at e
    by_cases z1 : i = x.npc
    · by_cases z2 : j = x.npc
      · omega
      · rw [z1, va_up_self, va_up_ne _ _ z2] at e
        have := j3 j (by omega)
        omega
    · by_cases z2 : j = x.npc
      · rw [z2, va_up_self, va_up_ne _ _ z1] at e
        have := j3 i (by omega)
        omega
      · rw [va_up_ne _ _ z1, va_up_ne _ _ z2] at e
        exact j2 i j (by omega) (by omega) e
  · intro k hk
    rw [c1] at hk
    rw [a2, a4, g2]
    by_cases z : k = x.npc
    · rw [z, va_up_self]; omega
    · rw [va_up_ne _ _ z]
      have := j3 k (by omega)
      omega
  · rw [a4]; omega
  · intro i j p r hij hj hp1 hr e1 e2
    rw [c1] at hj
    rw [b1] at hp1 hr
    by_cases z : j = x.npc
    · subst z
      rw [new r hr] at e2
      rw [old i hij p hp1] at e1
      exact k2 i p r hij hp1 hr e1 e2
    · rw [old j (by omega) r hr] at e2
      rw [old i (by omega) p hp1] at e1
      exact k1 i j p r hij (by omega) hp1 hr e1 e2
  · intro k p r hk hp1 hr e1 e2
    rw [b1] at hr
    rw [hdq r hr] at e2
    cases e2
  · intro q hq e
    rw [b1] at hq
    rw [hdq q hq] at e
    cases e
  · intro q hq e
    rw [b1] at hq
    rw [b8, b9, b2, b3]
    exact m2 q hq (pl3 q hq e)
  · intro p r hpr hr e1 e2 e3
    rw [b1] at hr
    rw [b2] at e3
    rw [b3]
    exact m3 p r hpr hr (pl3 p (by omega) e1) (pl3 r hr e2) e3
  · rw [b1, b3]; exact n1
end TY
end
section
/-! Parcels made anew: both sides. -/
section RE
variable {m m' : MS} {x x' : VS} {PS PS' : Nat → PT} {dn : Nat → Nat} {c' : Nat → Nat → Bool} {ke : Nat → Bool}
/-- parcels and scars are others; the head is as it was -/
theorem ptR_re (h : ptR m x PS dn) (hm : m'.points = m.points ∧ m'.pointSeries = m.pointSeries ∧ m'.pointTimes = m.pointTimes ∧ m'.pointValues = m.pointValues ∧ m'.hidden = m.hidden ∧ m'.deletes = m.deletes ∧ m'.seriesCount = m.seriesCount ∧ m'.lasts = m.lasts ∧ m'.horizon = m.horizon ∧ m'.parcelCount = x'.npc) (hx : x'.nhor = x.nhor ∧ x'.hsize = x.hsize ∧ x'.hO = x.hO ∧ x'.hT = x.hT ∧ x'.hV = x.hV)
    (hsc : x'.nsO = tdT ke x.nsO x.nsc ∧ x'.nsF = tdT ke x.nsF x.nsc ∧ x'.nsT = tdT ke x.nsT x.nsc ∧ x'.nsc = cnt x.nsc ke) (hke : ∀ j, j < x.nsc → (ke j = true ↔ ∃ q, q < m.points ∧ m'.pkd q = true ∧ cv1 x.nsO x.nsF x.nsT x.nsc (m.pointSeries q) (m.pointTimes q) = some j))
    (F1 : ∀ j, j < x'.npc → ∀ q, q < m.points → m'.inpc j q = c' j q) (F2 : ∀ j, j < x'.npc → arr m.pointSeries m.pointTimes m.pointValues (c' j) m.points (PS' j).n (PS' j).o (PS' j).t (PS' j).v ∧ PS' j = mkP (PS' j).n (PS' j).o (PS' j).t (PS' j).v ∧ m'.parcelBlocks j = (PS' j).bl) (F3 : ∀ q, q < m.points → m'.places q = -2 ∨ m'.places q = -1 ∨ ∃ k, k < x'.npc ∧ m'.places q = nI (m'.parcels k)) (F4 : ∀ i j, i < x'.npc → j < x'.npc → m'.parcels i = m'.parcels j → i = j) (F4b : ∀ k, k < x'.npc → m'.parcels k < m'.parcelNumber) (F4c : m'.parcelNumber ≤ 2 ^ 29)
    (F5 : ∀ i j p r, i < j → j < x'.npc → p < m.points → r < m.points → c' i p = true → c' j r = true → p < r) (F5b : ∀ k p r, k < x'.npc → p < m.points → r < m.points → c' k p = true → m.hdd r = true → p < r) (F6 : ∀ q, q < m.points → m'.hdd q = m.hdd q) (F7 : ∀ q, q < m.points → m'.pkd q = true → m.pkd q = true) (F8 : ∀ q, q < m.points → ¬ m'.places q = -2 → ¬ m.places q = -2) : ptR m' x' PS' (tdT ke dn x.nsc) := by
  obtain ⟨b1, b2, b3, b4, b6, b7, b8, b9, b10, b11⟩ := hm
  obtain ⟨c2, d1, d2, d3, d4⟩ := hx
  obtain ⟨e1, e2, e3, e4⟩ := hsc
  obtain ⟨⟨g1, g2, g3, g4⟩, ⟨i1, i2, i3, i4⟩, ⟨j1, j2, j3, j4⟩, ⟨k1, k2⟩, ⟨l1, l2, l3⟩, n1⟩ := h
  have kk : ∀ q, q < m.points → m'.pkd q = true → ∀ j, cv1 x.nsO x.nsF x.nsT x.nsc (m.pointSeries q) (m.pointTimes q) = some j → ke j = true := fun q hq hp j e => (hke j (cv1_lt e)).mpr ⟨q, hq, hp, e⟩
  refine ⟨⟨?_, b11, ?_, ?_⟩, ⟨?_, ?_, ?_, ?_⟩, ⟨?_, F4, F4b, F4c⟩, ⟨?_, ?_⟩, ⟨?_, ?_, ?_⟩, ?_⟩
  · rw [b1, b2, b3, b4, d1, d2, d3, d4]
    exact lst_congr g1 (fun q _ => ⟨rfl, rfl, rfl⟩) F6
  · rw [b10, c2]; exact g3
  · intro k hk
    obtain ⟨f1, f2, f3⟩ := F2 k hk
    rw [b1, b2, b3, b4]
    exact ⟨arr_congr f1 (fun q _ => ⟨rfl, rfl, rfl⟩) (F1 k hk), f2, f3⟩
  · rw [b1, b2, b3, b6, e1, e2, e3, e4]
    exact hdR_td (pk := m'.pkd) (fun q hq hp => i1 q hq (F7 q hq hp)) kk
  · rw [e4, b7]; exact dnR_td i2
  · rw [b1, b2, b3, e1, e2, e3, e4]
    intro j hj
    obtain ⟨j0, y1, y2, y3⟩ := cnt_at hj
    obtain ⟨q, q1, q2, q3⟩ := (hke j0 y1).mp y2
    refine ⟨q, q1, q2, ?_⟩
    rw [cv1_td (kk q q1 q2), q3, ← y3]
    rfl
  · rw [b7]; exact i4
  · rw [b1]; exact F3
  · intro i j p r hij hj hp1 hr u1 u2
    rw [b1] at hp1 hr
    exact F5 i j p r hij hj hp1 hr ((F1 i (by omega) p hp1).symm.trans u1) ((F1 j hj r hr).symm.trans u2)
  · intro k p r hk hp1 hr u1 u2
    rw [b1] at hp1 hr
    exact F5b k p r hk hp1 hr ((F1 k hk p hp1).symm.trans u1) ((F6 r hr).symm.trans u2)
  · intro q hq e
    rw [b1] at hq
    rw [b10, b3, b6]
    exact l1 q hq ((F6 q hq).symm.trans e)
  · intro q hq e
    rw [b1] at hq
    rw [b8, b9, b2, b3]
    exact l2 q hq (F8 q hq e)
  · intro p r hpr hr u1 u2 u3
    rw [b1] at hr
    rw [b2] at u3
    rw [b3]
    exact l3 p r hpr hr (F8 p (by omega) u1) (F8 r hr u2) u3
  · rw [b1, b3]; exact n1
end RE
/-- a scar's points counted -/
theorem spK_pos {sc : Nat → Option Nat} {g : Nat → Nat} {j : Nat} : ∀ {i : Nat}, 0 < spK sc g i j ↔ 0 < g j ∨ ∃ k, k < i ∧ sc k = some j
  | 0 => ⟨fun h => Or.inl h, fun h => by
      rcases h with h | ⟨k, hk, _⟩
      · exact h
      · exact absurd hk (Nat.not_lt_zero k)⟩
  | i + 1 => by
    have ih := spK_pos (sc := sc) (g := g) (j := j) (i := i)
    cases e : sc i with
    | none =>
      rw [spK_n e, ih]
      constructor
      · rintro (h | ⟨k, h1, h2⟩)
        · exact Or.inl h
        · exact Or.inr ⟨k, by omega, h2⟩
      · rintro (h | ⟨k, h1, h2⟩)
        · exact Or.inl h
        · refine Or.inr ⟨k, ?_, h2⟩
          have : k ≠ i := fun z => by rw [z, e] at h2; cases h2
          omega
    | some q =>
      rw [spK_s e]
      by_cases z : j = q
      · subst z
        rw [va_up_self]
        exact ⟨fun _ => Or.inr ⟨i, by omega, e⟩, fun _ => Nat.succ_pos _⟩
      · rw [va_up_ne _ _ z, ih]
        constructor
        · rintro (h | ⟨k, h1, h2⟩)
          · exact Or.inl h
          · exact Or.inr ⟨k, by omega, h2⟩
        · rintro (h | ⟨k, h1, h2⟩)
          · exact Or.inl h
          · refine Or.inr ⟨k, ?_, h2⟩
            have : k ≠ i := fun y => by rw [y, e] at h2; injection h2 with h2; exact z h2.symm
            omega
theorem scP_pos {x : VS} {PS : Nat → PT} {g : Nat → Nat} {j : Nat} : ∀ {n : Nat}, 0 < x.scP PS g n j ↔ 0 < g j ∨ ∃ k, k < n ∧ ∃ i, i < (PS k).n ∧ x.scI (PS k) i = some j
  | 0 => ⟨fun h => Or.inl h, fun h => by
      rcases h with h | ⟨k, hk, _⟩
      · exact h
      · exact absurd hk (Nat.not_lt_zero k)⟩
  | n + 1 => by
    show 0 < spK (x.scI (PS n)) (x.scP PS g n) (PS n).n j ↔ _
    rw [spK_pos, scP_pos (n := n)]
    constructor
    · rintro ((h | ⟨k, h1, h2⟩) | ⟨i, h1, h2⟩)
      · exact Or.inl h
      · exact Or.inr ⟨k, by omega, h2⟩
      · exact Or.inr ⟨n, by omega, i, h1, h2⟩
    · rintro (h | ⟨k, h1, i, h2, h3⟩)
      · exact Or.inl (Or.inl h)
      · by_cases z : k = n
        · subst z; exact Or.inr ⟨i, h2, h3⟩
        · exact Or.inl (Or.inr ⟨k, by omega, i, h2, h3⟩)
theorem esC_i {x : VS} {PS : Nat → PT} {j : Nat} (hj : j < 64) : x.esC PS j = true ↔ ∃ k, k < x.npc ∧ ∃ i, i < (PS k).n ∧ x.scI (PS k) i = some j := by
  unfold VS.esC
  rw [decide_eq_true_eq]
  unfold VS.esG
  rw [scP_pos, filG_z _ _ hj]
  constructor
  · rintro (h | h)
    · exact absurd h (Nat.lt_irrefl 0)
    · exact h
  · exact Or.inr
/-- places of a parcel and its points -/
theorem arr_ix {se : Nat → Nat} {ti va : Nat → Int64} {c : Nat → Bool} {N n W : Nat} {o : Nat → Nat} {t v : Nat → Int64} (h : arr se ti va c N n o t v) (hW : ∀ q, q < N → c q = true → se q < W) {i : Nat} (hi : i < n) : ∃ q, q < N ∧ c q = true ∧ o i = se q ∧ t i = ti q := by
  rw [h.1, ← arL_all hW] at hi
  have : ∀ w, i < cnt N (arL se c w) → ∃ q, q < N ∧ c q = true ∧ o i = se q ∧ t i = ti q := fun w => by
    induction w with
    | zero => intro z; rw [arL_0] at z; omega
    | succ w ih =>
      intro z
      rw [arL_s] at z
      by_cases e : i < cnt N (arL se c w)
      · exact ih e
      · obtain ⟨q, q1, q2, -, q4, q5, -⟩ := arr_at h (w := w) (j := i - cnt N (arL se c w)) (by omega)
        rw [show cnt N (arL se c w) + (i - cnt N (arL se c w)) = i by omega] at q4 q5
        obtain ⟨y1, y2⟩ := arS_t.mp q2
        exact ⟨q, q1, y1, by rw [q4, y2], q5⟩
  exact this W hi
end
section
/-! Two parcels put together: both sides. -/
theorem ke_re {m m' : MS} {x x1 : VS} {PS' : Nat → PT} {c' : Nat → Nat → Bool} {W : Nat} (hn : x1.nsO = x.nsO ∧ x1.nsF = x.nsF ∧ x1.nsT = x.nsT ∧ x1.nsc = x.nsc) (h64 : x.nsc ≤ 64) (hW : ∀ j, j < x1.npc → ∀ q, q < m.points → c' j q = true → m.pointSeries q < W)
    (F1 : ∀ j, j < x1.npc → ∀ q, q < m.points → m'.inpc j q = c' j q) (F2 : ∀ j, j < x1.npc → arr m.pointSeries m.pointTimes m.pointValues (c' j) m.points (PS' j).n (PS' j).o (PS' j).t (PS' j).v) (F3 : ∀ q, q < m.points → m'.places q = -2 ∨ m'.places q = -1 ∨ ∃ k, k < x1.npc ∧ m'.places q = nI (m'.parcels k)) (F4b : ∀ k, k < x1.npc → m'.parcels k < m'.parcelNumber) (F4c : m'.parcelNumber ≤ 2 ^ 29) : ∀ j, j < x.nsc → (x1.esC PS' j = true ↔ ∃ q, q < m.points ∧ m'.pkd q = true ∧ cv1 x.nsO x.nsF x.nsT x.nsc (m.pointSeries q) (m.pointTimes q) = some j) := by
  intro j hj
  obtain ⟨n1, n2, n3, n4⟩ := hn
  have es : ∀ w t, x1.sc1 w t = cv1 x.nsO x.nsF x.nsT x.nsc w t := fun w t => by
    show frst (cvS x1.nsO x1.nsF x1.nsT w t) x1.nsc 0 = _
    rw [n1, n2, n3, n4]
    rfl
  rw [esC_i (by omega)]
  constructor
  · rintro ⟨k, hk, i, hi, e⟩
    obtain ⟨q, q1, q2, q3, q4⟩ := arr_ix (F2 k hk) (hW k hk) hi
    have e2 : m'.places q = nI (m'.parcels k) := of_decide_eq_true ((F1 k hk q q1).trans q2)
    have b := F4b k hk
    refine ⟨q, q1, pkd_t.mpr (by rw [e2]; exact nI_pos (by omega)), ?_⟩
    unfold VS.scI at e
    rw [es, q3, q4] at e
    exact e
  · rintro ⟨q, q1, q2, q3⟩
    rcases F3 q q1 with y | y | ⟨k, hk, y⟩
    · rw [pkd_t, y] at q2; exact absurd (by decide) q2
    · rw [pkd_t, y] at q2; exact absurd (by decide) q2
    · have ck : c' k q = true := (F1 k hk q q1).symm.trans (decide_eq_true y)
      obtain ⟨a1, a2, -⟩ := (F2 k hk).2 q q1 ck
      refine ⟨k, hk, _, arP_lt (F2 k hk) q1 ck, ?_⟩
      unfold VS.scI
      rw [es, a1, a2]
      exact q3
section CO
variable {m m' : MS} {x x1 x' : VS} {PS PS' : Nat → PT} {dn : Nat → Nat} {d nb : Nat} {go O : Nat → Nat} {gt gv T V : Nat → Int64}
/-- the points of parcels d and d + 1 that are seen become parcel d -/
theorem ptR_cmp (h : ptR m x PS dn) (hd : d + 2 ≤ x.npc) (h64 : x.nsc ≤ 64) (hpn : m.parcelNumber < 2 ^ 29) (hm : m'.points = m.points ∧ m'.pointSeries = m.pointSeries ∧ m'.pointTimes = m.pointTimes ∧ m'.pointValues = m.pointValues ∧ m'.hidden = m.hidden ∧ m'.deletes = m.deletes ∧ m'.seriesCount = m.seriesCount ∧ m'.lasts = m.lasts ∧ m'.horizon = m.horizon ∧ m'.parcelCount = x'.npc) (hpl : ∀ q, q < m.points → m'.places q = if (m.inpc d q || m.inpc (d + 1) q) = true then (if m.seen q = true then nI m.parcelNumber else -2) else m.places q)
    (hpa : ∀ j, j < x'.npc → m'.parcels j = if j = d then m.parcelNumber else if j < d then m.parcels j else m.parcels (j + 1)) (hpb : ∀ j, j < x'.npc → m'.parcelBlocks j = if j = d then nb else if j < d then m.parcelBlocks j else m.parcelBlocks (j + 1)) (hp1 : m'.parcelNumber = m.parcelNumber + 1) (hn : x'.npc = x.npc - 1) (hx : x'.nhor = x.nhor ∧ x'.hsize = x.hsize ∧ x'.hO = x.hO ∧ x'.hT = x.hT ∧ x'.hV = x.hV)
    (hx1 : (x1.nsO = x.nsO ∧ x1.nsF = x.nsF ∧ x1.nsT = x.nsT ∧ x1.nsc = x.nsc) ∧ x1.npc = x'.npc) (hsc : x'.nsO = tdT (x1.esC PS') x.nsO x.nsc ∧ x'.nsF = tdT (x1.esC PS') x.nsF x.nsc ∧ x'.nsT = tdT (x1.esC PS') x.nsT x.nsc ∧ x'.nsc = cnt x.nsc (x1.esC PS')) (hPS : ∀ j, j < x'.npc → PS' j = if j = d then mkP (cnt (PS d).n (x.sePc (PS d)) + cnt (PS (d + 1)).n (x.sePc (PS (d + 1)))) O T V else if j < d then PS j else PS (j + 1))
    (ha : gat2 (x.sePc (PS d)) (x.sePc (PS (d + 1))) (PS d) (PS (d + 1)) go gt gv) (l1 : laid go (cnt (PS d).n (x.sePc (PS d)) + cnt (PS (d + 1)).n (x.sePc (PS (d + 1)))) (cnt (PS d).n (x.sePc (PS d)) + cnt (PS (d + 1)).n (x.sePc (PS (d + 1)))) go O) (l2 : laid go (cnt (PS d).n (x.sePc (PS d)) + cnt (PS (d + 1)).n (x.sePc (PS (d + 1)))) (cnt (PS d).n (x.sePc (PS d)) + cnt (PS (d + 1)).n (x.sePc (PS (d + 1)))) gt T) (l3 : laid go (cnt (PS d).n (x.sePc (PS d)) + cnt (PS (d + 1)).n (x.sePc (PS (d + 1)))) (cnt (PS d).n (x.sePc (PS d)) + cnt (PS (d + 1)).n (x.sePc (PS (d + 1)))) gv V) (hb : (mkP (cnt (PS d).n (x.sePc (PS d)) + cnt (PS (d + 1)).n (x.sePc (PS (d + 1)))) O T V).bl = nb) : ptR m' x' PS' (tdT (x1.esC PS') dn x.nsc) := by
  have hc := h
  obtain ⟨⟨g1, g2, g3, g4⟩, ⟨i1, i2, i3, i4⟩, ⟨j1, j2, j3, j4⟩, ⟨k1, k2⟩, ⟨o1, o2, o3⟩, n1⟩ := h
  -- old numbers of a parcel
  have big : ∀ k, k < x.npc → ¬ nI m.parcelNumber = nI (m.parcels k) := fun k hk z => by
    have := j3 k hk
    have := nI_inj (by omega) (by omega) z
    omega
  have neg : ∀ k, k < x.npc → ¬ (-2 : Int32) = nI (m.parcels k) ∧ ¬ (-1 : Int32) = nI (m.parcels k) := fun k hk => by
    have p1 := j3 k hk
    exact ⟨fun z => nI_pos (n := m.parcels k) (by omega) (by rw [← z]; decide), fun z => nI_nm (by omega) z.symm⟩
  have pn0 : ¬ nI m.parcelNumber = -1 ∧ ¬ nI m.parcelNumber = -2 ∧ ¬ nI m.parcelNumber < 0 := by
    have hp := nI_pos (n := m.parcelNumber) (by omega)
    exact ⟨nI_nm (by omega), fun y => hp (by rw [y]; decide), hp⟩
  have yes : ∀ q, q < m.points → (m.inpc d q || m.inpc (d + 1) q) = true → m.pkd q = true ∧ ¬ m.places q = -2 ∧ m.hdd q = false := fun q hq e => by
    rw [Bool.or_eq_true] at e
    rcases e with e | e
    · exact inP_pk hc (by omega) e
    · exact inP_pk hc (by omega) e
  have only : ∀ k q, k < x.npc → k ≠ d → k ≠ d + 1 → (m.inpc d q || m.inpc (d + 1) q) = true → m.inpc k q = false := fun k q hk n1 n2 e => by
    cases e2 : m.inpc k q with
    | false => rfl
    | true =>
      rw [Bool.or_eq_true] at e
      rcases e with e | e
      · exact absurd (inP_1 hc hk (by omega) e2 e) n1
      · exact absurd (inP_1 hc hk (by omega) e2 e) n2
  obtain ⟨c', hc'⟩ : ∃ c' : Nat → Nat → Bool, c' = fun j q => if j = d then ((m.inpc d q || m.inpc (d + 1) q) && m.seen q) else if j < d then m.inpc j q else m.inpc (j + 1) q := ⟨_, rfl⟩
  have F1 : ∀ j, j < x'.npc → ∀ q, q < m.points → m'.inpc j q = c' j q := fun j hj q hq => by
    rw [hc']
    show decide (m'.places q = nI (m'.parcels j)) = (if j = d then ((m.inpc d q || m.inpc (d + 1) q) && m.seen q) else if j < d then m.inpc j q else m.inpc (j + 1) q)
    rw [hpl q hq, hpa j hj]
    by_cases e : (m.inpc d q || m.inpc (d + 1) q) = true
    · rw [if_pos e]
      by_cases z : j = d
      · rw [if_pos z, if_pos z, e, Bool.true_and]
        cases g : m.seen q with
        | true => rw [if_pos rfl, decide_eq_true rfl]
        | false => rw [if_neg (by decide)]; exact decide_eq_false (fun y => pn0.2.1 y.symm)
      · rw [if_neg z, if_neg z]
        by_cases z2 : j < d
        · rw [if_pos z2, if_pos z2, only j q (by omega) z (by omega) e]
          split
          · exact decide_eq_false (big j (by omega))
          · exact decide_eq_false (neg j (by omega)).1
        · rw [if_neg z2, if_neg z2, only (j + 1) q (by omega) (by omega) (by omega) e]
          split
          · exact decide_eq_false (big (j + 1) (by omega))
          · exact decide_eq_false (neg (j + 1) (by omega)).1
    · rw [if_neg e]
      by_cases z : j = d
      · rw [if_pos z, if_pos z, Bool.eq_false_iff.mpr e, Bool.false_and]
        refine decide_eq_false (fun y => ?_)
        rcases j1 q hq with u | u | ⟨k, hk, u⟩
        · rw [u] at y; exact pn0.2.1 y.symm
        · rw [u] at y; exact pn0.1 y.symm
        · rw [u] at y; exact big k hk y.symm
      · rw [if_neg z, if_neg z]
        by_cases z2 : j < d
        · rw [if_pos z2, if_pos z2]; rfl
        · rw [if_neg z2, if_neg z2]; rfl
  have ser : ∀ j, j < x'.npc → ∀ q, q < m.points → c' j q = true → m.pointSeries q < m.seriesCount := fun j hj q hq e => by
    rw [hc'] at e
    have e : (if j = d then ((m.inpc d q || m.inpc (d + 1) q) && m.seen q) else if j < d then m.inpc j q else m.inpc (j + 1) q) = true := e
    split at e
    · rw [Bool.and_eq_true] at e
      exact (o2 q hq (yes q hq e.1).2.1).1
    · split at e
      · exact in_se hc (by omega) hq e
      · exact in_se hc (by omega) hq e
  have F2 : ∀ j, j < x'.npc → arr m.pointSeries m.pointTimes m.pointValues (c' j) m.points (PS' j).n (PS' j).o (PS' j).t (PS' j).v ∧ PS' j = mkP (PS' j).n (PS' j).o (PS' j).t (PS' j).v ∧ m'.parcelBlocks j = (PS' j).bl := fun j hj => by
    rw [hPS j hj, hpb j hj, hc']
    by_cases z : j = d
    · rw [if_pos z, if_pos z]
      refine ⟨?_, rfl, hb.symm⟩
      have a := arr_cp (sn := m.seen) (W := m.seriesCount) (g4 d (by omega)).1 (g4 (d + 1) (by omega)).1 (fun q hq e => in_se hc (by omega) hq e) (fun q hq e => in_se hc (by omega) hq e) (fun q hq e => see_eq hc (by omega) hq e) (fun q hq e => see_eq hc (by omega) hq e) (fun p r hp hr e1 e2 => k1 d (d + 1) p r (by omega) (by omega) hp hr e1 e2) ha l1 l2 l3
      exact arr_congr a (fun q _ => ⟨rfl, rfl, rfl⟩) (fun q _ => if_pos z)
    · rw [if_neg z, if_neg z]
      by_cases z2 : j < d
      · rw [if_pos z2, if_pos z2]
        obtain ⟨e1, e2, e3⟩ := g4 j (by omega)
        exact ⟨arr_congr e1 (fun q _ => ⟨rfl, rfl, rfl⟩) (fun q _ => (if_neg z).trans (if_pos z2)), e2, e3⟩
      · rw [if_neg z2, if_neg z2]
        obtain ⟨e1, e2, e3⟩ := g4 (j + 1) (by omega)
        exact ⟨arr_congr e1 (fun q _ => ⟨rfl, rfl, rfl⟩) (fun q _ => (if_neg z).trans (if_neg z2)), e2, e3⟩
  have F3 : ∀ q, q < m.points → m'.places q = -2 ∨ m'.places q = -1 ∨ ∃ k, k < x'.npc ∧ m'.places q = nI (m'.parcels k) := fun q hq => by
    rw [hpl q hq]
    by_cases e : (m.inpc d q || m.inpc (d + 1) q) = true
    · rw [if_pos e]
      split
      · exact Or.inr (Or.inr ⟨d, by omega, by rw [hpa d (by omega), if_pos rfl]⟩)
      · exact Or.inl rfl
    · rw [if_neg e]
      rcases j1 q hq with y | y | ⟨k, hk, y⟩
      · exact Or.inl y
      · exact Or.inr (Or.inl y)
      · refine Or.inr (Or.inr ?_)
        have nd : k ≠ d := fun z => e (by rw [← z, show m.inpc k q = true from decide_eq_true y]; rfl)
        have nd1 : k ≠ d + 1 := fun z => e (by rw [← z, show m.inpc k q = true from decide_eq_true y, Bool.or_true])
        by_cases z : k < d
        · exact ⟨k, by omega, by rw [hpa k (by omega), if_neg nd, if_pos z]; exact y⟩
        · exact ⟨k - 1, by omega, by rw [hpa (k - 1) (by omega), if_neg (by omega), if_neg (by omega), show k - 1 + 1 = k by omega]; exact y⟩
  have F4b : ∀ k, k < x'.npc → m'.parcels k < m'.parcelNumber := fun k hk => by
    rw [hpa k hk, hp1]
    split
    · omega
    · split
      · have := j3 k (by omega); omega
      · have := j3 (k + 1) (by omega); omega
  have F4c : m'.parcelNumber ≤ 2 ^ 29 := by omega
  have lohi : ∀ j, j < x'.npc → ∀ q, q < m.points → c' j q = true → ∃ k, k < x.npc ∧ m.inpc k q = true ∧ (j < d → k = j) ∧ (j = d → k = d ∨ k = d + 1) ∧ (d < j → k = j + 1) := fun j hj q hq e => by
    rw [hc'] at e
    have e : (if j = d then ((m.inpc d q || m.inpc (d + 1) q) && m.seen q) else if j < d then m.inpc j q else m.inpc (j + 1) q) = true := e
    split at e
    · next z =>
      rw [Bool.and_eq_true, Bool.or_eq_true] at e
      rcases e.1 with e | e
      · exact ⟨d, by omega, e, fun y => by omega, fun _ => Or.inl rfl, fun y => by omega⟩
      · exact ⟨d + 1, by omega, e, fun y => by omega, fun _ => Or.inr rfl, fun y => by omega⟩
    · next z =>
      split at e
      · exact ⟨j, by omega, e, fun _ => rfl, fun y => absurd y z, fun y => by omega⟩
      · exact ⟨j + 1, by omega, e, fun y => by omega, fun y => absurd y z, fun _ => rfl⟩
  refine ptR_re (c' := c') (ke := x1.esC PS') hc hm hx hsc (ke_re hx1.1 h64 (by rw [hx1.2]; exact ser) (by rw [hx1.2]; exact F1) (by rw [hx1.2]; exact fun j hj => (F2 j hj).1) (by rw [hx1.2]; exact F3) (by rw [hx1.2]; exact F4b) F4c) F1 F2 F3 ?_ F4b F4c ?_ ?_ ?_ ?_ ?_
  · intro i j hi hj e
    rw [hpa i hi, hpa j hj] at e
    have s : ∀ a b, a < x.npc → b < x.npc → m.parcels a = m.parcels b → a = b := j2
    have b1 : ∀ k, k < x.npc → m.parcels k ≠ m.parcelNumber := fun k hk => by have := j3 k hk; omega
    split at e
    · split at e
      · omega
      · split at e
        · exact absurd e.symm (b1 j (by omega))
        · exact absurd e.symm (b1 (j + 1) (by omega))
    · split at e
      · split at e
        · exact absurd e (b1 i (by omega))
        · split at e
          · exact s i j (by omega) (by omega) e
          · have := s i (j + 1) (by omega) (by omega) e; omega
      · split at e
        · exact absurd e (b1 (i + 1) (by omega))
        · split at e
          · have := s (i + 1) j (by omega) (by omega) e; omega
          · have := s (i + 1) (j + 1) (by omega) (by omega) e; omega
  · intro i j p r hij hj hp hr e1 e2
    obtain ⟨u, u1, u2, u3, u4, u5⟩ := lohi i (by omega) p hp e1
    obtain ⟨v, v1, v2, v3, v4, v5⟩ := lohi j hj r hr e2
    refine k1 u v p r ?_ v1 hp hr u2 v2
    rcases Nat.lt_trichotomy i d with z | z | z
    · have := u3 z
      rcases Nat.lt_trichotomy j d with y | y | y
      · have := v3 y; omega
      · have := v4 y; omega
      · have := v5 y; omega
    · have := u4 z
      have := v5 (by omega)
      omega
    · have := u5 z
      have := v5 (by omega)
      omega
  · intro k p r hk hp hr e1 e2
    obtain ⟨u, u1, u2, -⟩ := lohi k hk p hp e1
    exact k2 u p r u1 hp hr u2 e2
  · intro q hq
    unfold MS.hdd
    rw [hpl q hq]
    by_cases e : (m.inpc d q || m.inpc (d + 1) q) = true
    · rw [if_pos e, show decide (m.places q = -1) = false from (yes q hq e).2.2]
      split
      · exact decide_eq_false pn0.1
      · rfl
    · rw [if_neg e]
  · intro q hq e
    by_cases z : (m.inpc d q || m.inpc (d + 1) q) = true
    · exact (yes q hq z).1
    · rw [pkd_t, hpl q hq, if_neg z] at e
      exact pkd_t.mpr e
  · intro q hq e
    by_cases z : (m.inpc d q || m.inpc (d + 1) q) = true
    · exact (yes q hq z).2.1
    · rw [hpl q hq, if_neg z] at e
      exact e
end CO
end
section
/-! Two parcels of which nothing is seen: both sides. -/
section C0
variable {m m' : MS} {x x1 x' : VS} {PS PS' : Nat → PT} {dn : Nat → Nat} {d : Nat}
theorem cnt_z {f : Nat → Bool} {n i : Nat} (h : cnt n f = 0) (hi : i < n) : f i = false := by
  cases e : f i with
  | false => rfl
  | true => have := cnt_lt hi e; omega
theorem ptR_cm0 (h : ptR m x PS dn) (hd : d + 2 ≤ x.npc) (h64 : x.nsc ≤ 64) (hpn : m.parcelNumber < 2 ^ 29) (hm : m'.points = m.points ∧ m'.pointSeries = m.pointSeries ∧ m'.pointTimes = m.pointTimes ∧ m'.pointValues = m.pointValues ∧ m'.hidden = m.hidden ∧ m'.deletes = m.deletes ∧ m'.seriesCount = m.seriesCount ∧ m'.lasts = m.lasts ∧ m'.horizon = m.horizon ∧ m'.parcelCount = x'.npc) (hpl : ∀ q, q < m.points → m'.places q = if (m.inpc d q || m.inpc (d + 1) q) = true then (if m.seen q = true then nI m.parcelNumber else -2) else m.places q)
    (hpa : ∀ j, j < x'.npc → m'.parcels j = if j < d then m.parcels j else m.parcels (j + 2)) (hpb : ∀ j, j < x'.npc → m'.parcelBlocks j = if j < d then m.parcelBlocks j else m.parcelBlocks (j + 2)) (hp1 : m'.parcelNumber = m.parcelNumber + 1) (hn : x'.npc = x.npc - 2) (hx : x'.nhor = x.nhor ∧ x'.hsize = x.hsize ∧ x'.hO = x.hO ∧ x'.hT = x.hT ∧ x'.hV = x.hV)
    (hx1 : (x1.nsO = x.nsO ∧ x1.nsF = x.nsF ∧ x1.nsT = x.nsT ∧ x1.nsc = x.nsc) ∧ x1.npc = x'.npc) (hsc : x'.nsO = tdT (x1.esC PS') x.nsO x.nsc ∧ x'.nsF = tdT (x1.esC PS') x.nsF x.nsc ∧ x'.nsT = tdT (x1.esC PS') x.nsT x.nsc ∧ x'.nsc = cnt x.nsc (x1.esC PS')) (hPS : ∀ j, j < x'.npc → PS' j = if j < d then PS j else PS (j + 2)) (hz : cnt (PS d).n (x.sePc (PS d)) + cnt (PS (d + 1)).n (x.sePc (PS (d + 1))) = 0) : ptR m' x' PS' (tdT (x1.esC PS') dn x.nsc) := by
  have hc := h
  obtain ⟨⟨g1, g2, g3, g4⟩, ⟨i1, i2, i3, i4⟩, ⟨j1, j2, j3, j4⟩, ⟨k1, k2⟩, ⟨o1, o2, o3⟩, n1⟩ := h
  have yes : ∀ q, q < m.points → (m.inpc d q || m.inpc (d + 1) q) = true → m.pkd q = true ∧ ¬ m.places q = -2 ∧ m.hdd q = false ∧ m.seen q = false := fun q hq e => by
    rw [Bool.or_eq_true] at e
    rcases e with e | e
    · obtain ⟨a1, a2, a3⟩ := inP_pk hc (by omega) e
      exact ⟨a1, a2, a3, by rw [← see_eq hc (show d < x.npc by omega) hq e]; exact cnt_z (by omega) (arP_lt (g4 d (by omega)).1 hq e)⟩
    · obtain ⟨a1, a2, a3⟩ := inP_pk hc (by omega) e
      exact ⟨a1, a2, a3, by rw [← see_eq hc (show d + 1 < x.npc by omega) hq e]; exact cnt_z (by omega) (arP_lt (g4 (d + 1) (by omega)).1 hq e)⟩
  have pl : ∀ q, q < m.points → m'.places q = if (m.inpc d q || m.inpc (d + 1) q) = true then -2 else m.places q := fun q hq => by
    rw [hpl q hq]
    by_cases e : (m.inpc d q || m.inpc (d + 1) q) = true
    · rw [if_pos e, if_pos e, (yes q hq e).2.2.2]
      rfl
    · rw [if_neg e, if_neg e]
  have neg : ∀ k, k < x.npc → ¬ (-2 : Int32) = nI (m.parcels k) := fun k hk z => by
    have p1 := j3 k hk
    exact nI_pos (n := m.parcels k) (by omega) (by rw [← z]; decide)
  have only : ∀ k q, k < x.npc → k ≠ d → k ≠ d + 1 → (m.inpc d q || m.inpc (d + 1) q) = true → m.inpc k q = false := fun k q hk n1 n2 e => by
    cases e2 : m.inpc k q with
    | false => rfl
    | true =>
      rw [Bool.or_eq_true] at e
      rcases e with e | e
      · exact absurd (inP_1 hc hk (by omega) e2 e) n1
      · exact absurd (inP_1 hc hk (by omega) e2 e) n2
  obtain ⟨ix, hix⟩ : ∃ ix : Nat → Nat, ix = fun j => if j < d then j else j + 2 := ⟨_, rfl⟩
  have ixl : ∀ j, j < x'.npc → ix j < x.npc ∧ ix j ≠ d ∧ ix j ≠ d + 1 := fun j hj => by
    rw [hix]
    show (if j < d then j else j + 2) < x.npc ∧ (if j < d then j else j + 2) ≠ d ∧ (if j < d then j else j + 2) ≠ d + 1
    split <;> omega
  have ixm : ∀ i j, i < j → ix i < ix j := fun i j hij => by
    rw [hix]
    show (if i < d then i else i + 2) < (if j < d then j else j + 2)
    split <;> split <;> omega
  have hpa : ∀ j, j < x'.npc → m'.parcels j = m.parcels (ix j) := fun j hj => by
    rw [hpa j hj, hix]
    show _ = m.parcels (if j < d then j else j + 2)
    split <;> rfl
  have hpb : ∀ j, j < x'.npc → m'.parcelBlocks j = m.parcelBlocks (ix j) := fun j hj => by
    rw [hpb j hj, hix]
    show _ = m.parcelBlocks (if j < d then j else j + 2)
    split <;> rfl
  have hPS : ∀ j, j < x'.npc → PS' j = PS (ix j) := fun j hj => by
    rw [hPS j hj, hix]
    show _ = PS (if j < d then j else j + 2)
    split <;> rfl
  have F1 : ∀ j, j < x'.npc → ∀ q, q < m.points → m'.inpc j q = m.inpc (ix j) q := fun j hj q hq => by
    obtain ⟨x1, x2, x3⟩ := ixl j hj
    show decide (m'.places q = nI (m'.parcels j)) = _
    rw [pl q hq, hpa j hj]
    by_cases e : (m.inpc d q || m.inpc (d + 1) q) = true
    · rw [if_pos e, only (ix j) q x1 x2 x3 e]
      exact decide_eq_false (neg _ x1)
    · rw [if_neg e]
      rfl
  have F2 : ∀ j, j < x'.npc → arr m.pointSeries m.pointTimes m.pointValues (m.inpc (ix j)) m.points (PS' j).n (PS' j).o (PS' j).t (PS' j).v ∧ PS' j = mkP (PS' j).n (PS' j).o (PS' j).t (PS' j).v ∧ m'.parcelBlocks j = (PS' j).bl := fun j hj => by
    rw [hPS j hj, hpb j hj]
    exact g4 (ix j) (ixl j hj).1
  have F3 : ∀ q, q < m.points → m'.places q = -2 ∨ m'.places q = -1 ∨ ∃ k, k < x'.npc ∧ m'.places q = nI (m'.parcels k) := fun q hq => by
    rw [pl q hq]
    by_cases e : (m.inpc d q || m.inpc (d + 1) q) = true
    · rw [if_pos e]
      exact Or.inl rfl
    · rw [if_neg e]
      rcases j1 q hq with y | y | ⟨k, hk, y⟩
      · exact Or.inl y
      · exact Or.inr (Or.inl y)
      · refine Or.inr (Or.inr ?_)
        have nd : k ≠ d := fun z => e (by rw [← z, show m.inpc k q = true from decide_eq_true y]; rfl)
        have nd1 : k ≠ d + 1 := fun z => e (by rw [← z, show m.inpc k q = true from decide_eq_true y, Bool.or_true])
        by_cases z : k < d
        · exact ⟨k, by omega, by rw [hpa k (by omega), hix]; show m.places q = nI (m.parcels (if k < d then k else k + 2)); rw [if_pos z]; exact y⟩
        · exact ⟨k - 2, by omega, by rw [hpa (k - 2) (by omega), hix]; show m.places q = nI (m.parcels (if k - 2 < d then k - 2 else k - 2 + 2)); rw [if_neg (by omega), show k - 2 + 2 = k by omega]; exact y⟩
  have F4b : ∀ k, k < x'.npc → m'.parcels k < m'.parcelNumber := fun k hk => by
    rw [hpa k hk, hp1]
    have := j3 (ix k) (ixl k hk).1
    omega
  have F4c : m'.parcelNumber ≤ 2 ^ 29 := by omega
  refine ptR_re (c' := fun j => m.inpc (ix j)) (ke := x1.esC PS') hc hm hx hsc (ke_re (c' := fun j => m.inpc (ix j)) hx1.1 h64 (W := m.seriesCount) (by rw [hx1.2]; exact fun j hj q hq e => in_se hc (ixl j hj).1 hq e) (by rw [hx1.2]; exact F1) (by rw [hx1.2]; exact fun j hj => (F2 j hj).1) (by rw [hx1.2]; exact F3) (by rw [hx1.2]; exact F4b) F4c) F1 F2 F3 ?_ F4b F4c ?_ ?_ ?_ ?_ ?_
  · intro i j hi hj e
    rw [hpa i hi, hpa j hj] at e
    have := j2 _ _ (ixl i hi).1 (ixl j hj).1 e
    rcases Nat.lt_trichotomy i j with z | z | z
    · have := ixm i j z; omega
    · exact z
    · have := ixm j i z; omega
  · intro i j p r hij hj hp hr e1 e2
    exact k1 (ix i) (ix j) p r (ixm i j hij) (ixl j hj).1 hp hr e1 e2
  · intro k p r hk hp hr e1 e2
    exact k2 (ix k) p r (ixl k hk).1 hp hr e1 e2
  · intro q hq
    unfold MS.hdd
    rw [pl q hq]
    by_cases e : (m.inpc d q || m.inpc (d + 1) q) = true
    · rw [if_pos e, show decide (m.places q = -1) = false from (yes q hq e).2.2.1]
      rfl
    · rw [if_neg e]
  · intro q hq e
    by_cases z : (m.inpc d q || m.inpc (d + 1) q) = true
    · exact (yes q hq z).1
    · rw [pkd_t, pl q hq, if_neg z] at e
      exact pkd_t.mpr e
  · intro q hq e
    by_cases z : (m.inpc d q || m.inpc (d + 1) q) = true
    · exact (yes q hq z).2.1
    · rw [pl q hq, if_neg z] at e
      exact e
end C0
end
section
/-! The horizon moved: both sides. -/
section RF2
variable {m m' : MS} {x x' : VS} {PS PS' : Nat → PT} {dn : Nat → Nat} {c' : Nat → Nat → Bool} {ke : Nat → Bool}
/-- parcels, scars, horizon and head are others -/
theorem ptR_rf (h : ptR m x PS dn) (hm : m'.points = m.points ∧ m'.pointSeries = m.pointSeries ∧ m'.pointTimes = m.pointTimes ∧ m'.pointValues = m.pointValues ∧ m'.hidden = m.hidden ∧ m'.deletes = m.deletes ∧ m'.seriesCount = m.seriesCount ∧ m'.lasts = m.lasts ∧ m'.horizon = x'.nhor ∧ m'.parcelCount = x'.npc) (H1 : lst m.pointSeries m.pointTimes m.pointValues m'.hdd m.points x'.hsize x'.hO x'.hT x'.hV)
    (hsc : x'.nsO = tdT ke x.nsO x.nsc ∧ x'.nsF = tdT ke x.nsF x.nsc ∧ x'.nsT = tdT ke x.nsT x.nsc ∧ x'.nsc = cnt x.nsc ke) (hke : ∀ j, j < x.nsc → (ke j = true ↔ ∃ q, q < m.points ∧ m'.pkd q = true ∧ cv1 x.nsO x.nsF x.nsT x.nsc (m.pointSeries q) (m.pointTimes q) = some j))
    (F1 : ∀ j, j < x'.npc → ∀ q, q < m.points → m'.inpc j q = c' j q) (F2 : ∀ j, j < x'.npc → arr m.pointSeries m.pointTimes m.pointValues (c' j) m.points (PS' j).n (PS' j).o (PS' j).t (PS' j).v ∧ PS' j = mkP (PS' j).n (PS' j).o (PS' j).t (PS' j).v ∧ m'.parcelBlocks j = (PS' j).bl) (F3 : ∀ q, q < m.points → m'.places q = -2 ∨ m'.places q = -1 ∨ ∃ k, k < x'.npc ∧ m'.places q = nI (m'.parcels k)) (F4 : ∀ i j, i < x'.npc → j < x'.npc → m'.parcels i = m'.parcels j → i = j) (F4b : ∀ k, k < x'.npc → m'.parcels k < m'.parcelNumber) (F4c : m'.parcelNumber ≤ 2 ^ 29)
    (F5 : ∀ i j p r, i < j → j < x'.npc → p < m.points → r < m.points → c' i p = true → c' j r = true → p < r) (F5b : ∀ k p r, k < x'.npc → p < m.points → r < m.points → c' k p = true → m.hdd r = true → p < r) (F6 : ∀ q, q < m.points → m'.hdd q = true → m.hdd q = true ∧ ¬ m.pointTimes q < m'.horizon) (F7 : ∀ q, q < m.points → m'.pkd q = true → m.pkd q = true) (F8 : ∀ q, q < m.points → ¬ m'.places q = -2 → ¬ m.places q = -2) : ptR m' x' PS' (tdT ke dn x.nsc) := by
  obtain ⟨b1, b2, b3, b4, b6, b7, b8, b9, b10, b11⟩ := hm
  obtain ⟨e1, e2, e3, e4⟩ := hsc
  obtain ⟨⟨g1, g2, g3, g4⟩, ⟨i1, i2, i3, i4⟩, ⟨j1, j2, j3, j4⟩, ⟨k1, k2⟩, ⟨l1, l2, l3⟩, n1⟩ := h
  have kk : ∀ q, q < m.points → m'.pkd q = true → ∀ j, cv1 x.nsO x.nsF x.nsT x.nsc (m.pointSeries q) (m.pointTimes q) = some j → ke j = true := fun q hq hp j e => (hke j (cv1_lt e)).mpr ⟨q, hq, hp, e⟩
  refine ⟨⟨?_, b11, b10, ?_⟩, ⟨?_, ?_, ?_, ?_⟩, ⟨?_, F4, F4b, F4c⟩, ⟨?_, ?_⟩, ⟨?_, ?_, ?_⟩, ?_⟩
  · rw [b1, b2, b3, b4]
    exact H1
  · intro k hk
    obtain ⟨f1, f2, f3⟩ := F2 k hk
    rw [b1, b2, b3, b4]
    exact ⟨arr_congr f1 (fun q _ => ⟨rfl, rfl, rfl⟩) (F1 k hk), f2, f3⟩
  · rw [b1, b2, b3, b6, e1, e2, e3, e4]
    exact hdR_td (pk := m'.pkd) (fun q hq hp => i1 q hq (F7 q hq hp)) kk
  · rw [e4, b7]; exact dnR_td i2
  · rw [b1, b2, b3, e1, e2, e3, e4]
    intro j hj
    obtain ⟨j0, y1, y2, y3⟩ := cnt_at hj
    obtain ⟨q, q1, q2, q3⟩ := (hke j0 y1).mp y2
    refine ⟨q, q1, q2, ?_⟩
    rw [cv1_td (kk q q1 q2), q3, ← y3]
    rfl
  · rw [b7]; exact i4
  · rw [b1]; exact F3
  · intro i j p r hij hj hp1 hr u1 u2
    rw [b1] at hp1 hr
    exact F5 i j p r hij hj hp1 hr ((F1 i (by omega) p hp1).symm.trans u1) ((F1 j hj r hr).symm.trans u2)
  · intro k p r hk hp1 hr u1 u2
    rw [b1] at hp1 hr
    exact F5b k p r hk hp1 hr ((F1 k hk p hp1).symm.trans u1) (F6 r hr u2).1
  · intro q hq e
    rw [b1] at hq
    rw [b3, b6]
    obtain ⟨f1, f2⟩ := F6 q hq e
    exact ⟨f2, (l1 q hq f1).2⟩
  · intro q hq e
    rw [b1] at hq
    rw [b8, b9, b2, b3]
    exact l2 q hq (F8 q hq e)
  · intro p r hpr hr u1 u2 u3
    rw [b1] at hr
    rw [b2] at u3
    rw [b3]
    exact l3 p r hpr hr (F8 p (by omega) u1) (F8 r hr u2) u3
  · rw [b1, b3]; exact n1
end RF2
theorem gr_lt {t : Nat → Int64} {a : Int64} (h0 : (-1 : Int64) < a) : ∀ {n : Nat}, grG t n < a ↔ ∀ i, i < n → t i < a
  | 0 => ⟨fun _ i hi => absurd hi (Nat.not_lt_zero i), fun _ => h0⟩
  | n + 1 => by
    show maxL (grG t n) (t n) < a ↔ _
    have e : maxL (grG t n) (t n) < a ↔ grG t n < a ∧ t n < a := by
      unfold maxL
      split
      · next g => exact ⟨fun z => ⟨z, Int64.lt_trans g z⟩, fun z => z.1⟩
      · next g => exact ⟨fun z => ⟨Int64.lt_of_le_of_lt (Int64.not_lt.mp g) z, z⟩, fun z => z.2⟩
    rw [e, gr_lt h0 (n := n)]
    constructor
    · rintro ⟨z1, z2⟩ i hi
      by_cases y : i = n
      · subst y; exact z2
      · exact z1 i (by omega)
    · intro z
      exact ⟨fun i hi => z i (by omega), z n (by omega)⟩
section RT
variable {m m' : MS} {x x1 x' : VS} {PS PS' : Nat → PT} {dn : Nat → Nat} {a : Int64}
/-- a parcel stays if a point of it does -/
theorem mh_eq (h : ptR m x PS dn) (h0 : (-1 : Int64) < a) {k : Nat} (hk : k < x.npc) : mhC PS a k = false ↔ ∀ q, q < m.points → m.inpc k q = true → m.pointTimes q < a := by
  obtain ⟨e1, e2, -⟩ := h.1.2.2.2 k hk
  have en : (PS k).nw = grG (PS k).t (PS k).n := by rw [e2]; rfl
  have e3 : mhC PS a k = false ↔ grG (PS k).t (PS k).n < a := by
    unfold mhC
    rw [en]
    by_cases z : grG (PS k).t (PS k).n < a
    · rw [decide_eq_true z]; exact ⟨fun _ => z, fun _ => rfl⟩
    · rw [decide_eq_false z]; exact ⟨fun y => (by cases y), fun y => absurd y z⟩
  rw [e3, gr_lt h0]
  constructor
  · intro z q hq hc
    have := z _ (arP_lt e1 hq hc)
    rw [(e1.2 q hq hc).2.1] at this
    exact this
  · intro z i hi
    obtain ⟨q, q1, q2, -, q4⟩ := arr_ix e1 (W := m.seriesCount) (fun q hq hc => in_se h hk hq hc) hi
    rw [q4]
    exact z q q1 q2
theorem ptR_ret (h : ptR m x PS dn) (h64 : x.nsc ≤ 64) (hm : m'.points = m.points ∧ m'.pointSeries = m.pointSeries ∧ m'.pointTimes = m.pointTimes ∧ m'.pointValues = m.pointValues ∧ m'.hidden = m.hidden ∧ m'.deletes = m.deletes ∧ m'.seriesCount = m.seriesCount ∧ m'.lasts = m.lasts ∧ m'.horizon = x'.nhor ∧ m'.parcelCount = x'.npc) (hho : m'.horizon = a)
    (hpl : ∀ q, q < m.points → m'.places q = if (m.hdd q = true ∧ m.pointTimes q < a) ∨ (∃ k, k < x.npc ∧ m.inpc k q = true ∧ mhC PS a k = false) then -2 else m.places q) (hpa : ∀ k, k < x.npc → mhC PS a k = true → m'.parcels (cnt k (mhC PS a)) = m.parcels k ∧ m'.parcelBlocks (cnt k (mhC PS a)) = m.parcelBlocks k ∧ PS' (cnt k (mhC PS a)) = PS k) (hp1 : m'.parcelNumber = m.parcelNumber) (hn : x'.npc = cnt x.npc (mhC PS a)) (hhd : x'.hsize = cnt x.hsize (x.hAb a) ∧ x'.hO = tdT (x.hAb a) x.hO x.hsize ∧ x'.hT = tdT (x.hAb a) x.hT x.hsize ∧ x'.hV = tdT (x.hAb a) x.hV x.hsize)
    (hx1 : (x1.nsO = x.nsO ∧ x1.nsF = x.nsF ∧ x1.nsT = x.nsT ∧ x1.nsc = x.nsc) ∧ x1.npc = x'.npc) (hsc : x'.nsO = tdT (x1.esC PS') x.nsO x.nsc ∧ x'.nsF = tdT (x1.esC PS') x.nsF x.nsc ∧ x'.nsT = tdT (x1.esC PS') x.nsT x.nsc ∧ x'.nsc = cnt x.nsc (x1.esC PS')) : ptR m' x' PS' (tdT (x1.esC PS') dn x.nsc) := by
  have hc := h
  obtain ⟨⟨g1, g2, g3, g4⟩, ⟨i1, i2, i3, i4⟩, ⟨j1, j2, j3, j4⟩, ⟨k1, k2⟩, ⟨o1, o2, o3⟩, n1⟩ := h
  have pk : ∀ k q, k < x.npc → q < m.points → m.inpc k q = true → m'.places q = if mhC PS a k = true then m.places q else -2 := fun k q hk hq e => by
    rw [hpl q hq]
    have nh := (inP_pk hc hk e).2.2
    cases g : mhC PS a k with
    | true =>
      rw [if_pos rfl, if_neg]
      rintro (z | ⟨k9, z1, z2, z3⟩)
      · rw [nh] at z; cases z.1
      · rw [inP_1 hc z1 hk z2 e, g] at z3; cases z3
    | false => rw [if_pos (Or.inr ⟨k, hk, e, g⟩), if_neg (by decide)]
  have ph : ∀ q, q < m.points → m.places q = -1 → m'.places q = if m.pointTimes q < a then -2 else -1 := fun q hq e => by
    rw [hpl q hq]
    have eh : m.hdd q = true := decide_eq_true e
    by_cases g : m.pointTimes q < a
    · rw [if_pos (Or.inl ⟨eh, g⟩), if_pos g]
    · rw [if_neg, if_neg g]
      · exact e
      · rintro (z | ⟨k9, z1, z2, z3⟩)
        · exact g z.2
        · have := (inP_pk hc z1 z2).2.2
          rw [eh] at this
          cases this
  have p2 : ∀ q, q < m.points → m.places q = -2 → m'.places q = -2 := fun q hq e => by
    rw [hpl q hq]
    split
    · rfl
    · exact e
  -- old numbers
  have oldk : ∀ j, j < x'.npc → ∃ k, k < x.npc ∧ mhC PS a k = true ∧ cnt k (mhC PS a) = j := fun j hj => by
    rw [hn] at hj
    exact cnt_at hj
  obtain ⟨c', hc'⟩ : ∃ c' : Nat → Nat → Bool, c' = fun j q => decide (m.places q = nI (m'.parcels j)) := ⟨_, rfl⟩
  have ce : ∀ k, k < x.npc → mhC PS a k = true → c' (cnt k (mhC PS a)) = m.inpc k := fun k hk e => by
    rw [hc']
    funext q
    show decide (m.places q = nI (m'.parcels (cnt k (mhC PS a)))) = _
    rw [(hpa k hk e).1]
    rfl
  have neg : ∀ k, k < x.npc → ¬ (-2 : Int32) = nI (m.parcels k) ∧ ¬ (-1 : Int32) = nI (m.parcels k) := fun k hk => by
    have p1 := j3 k hk
    exact ⟨fun z => nI_pos (n := m.parcels k) (by omega) (by rw [← z]; decide), fun z => nI_nm (by omega) z.symm⟩
  have F1 : ∀ j, j < x'.npc → ∀ q, q < m.points → m'.inpc j q = c' j q := fun j hj q hq => by
    obtain ⟨k, y1, y2, y3⟩ := oldk j hj
    subst y3
    rw [ce k y1 y2]
    show decide (m'.places q = nI (m'.parcels (cnt k (mhC PS a)))) = decide (m.places q = nI (m.parcels k))
    rw [(hpa k y1 y2).1]
    rcases j1 q hq with u | u | ⟨k9, u1, u2⟩
    · rw [p2 q hq u, u]
    · rw [ph q hq u, u, decide_eq_false (neg k y1).2]
      split
      · exact decide_eq_false (neg k y1).1
      · exact decide_eq_false (neg k y1).2
    · have e9 : m.inpc k9 q = true := decide_eq_true u2
      rw [pk k9 q u1 hq e9]
      cases g : mhC PS a k9 with
      | true => rw [if_pos rfl]
      | false =>
        rw [if_neg (by decide), decide_eq_false (neg k y1).1]
        symm
        refine decide_eq_false (fun z => ?_)
        have := inP_1 hc u1 y1 e9 (decide_eq_true z)
        rw [this, y2] at g
        cases g
  have F2 : ∀ j, j < x'.npc → arr m.pointSeries m.pointTimes m.pointValues (c' j) m.points (PS' j).n (PS' j).o (PS' j).t (PS' j).v ∧ PS' j = mkP (PS' j).n (PS' j).o (PS' j).t (PS' j).v ∧ m'.parcelBlocks j = (PS' j).bl := fun j hj => by
    obtain ⟨k, y1, y2, y3⟩ := oldk j hj
    subst y3
    rw [ce k y1 y2, (hpa k y1 y2).2.1, (hpa k y1 y2).2.2]
    exact g4 k y1
  have F3 : ∀ q, q < m.points → m'.places q = -2 ∨ m'.places q = -1 ∨ ∃ k, k < x'.npc ∧ m'.places q = nI (m'.parcels k) := fun q hq => by
    rcases j1 q hq with u | u | ⟨k, u1, u2⟩
    · exact Or.inl (p2 q hq u)
    · rw [ph q hq u]
      split
      · exact Or.inl rfl
      · exact Or.inr (Or.inl rfl)
    · rw [pk k q u1 hq (decide_eq_true u2)]
      cases g : mhC PS a k with
      | true => exact Or.inr (Or.inr ⟨cnt k (mhC PS a), by rw [hn]; exact cnt_lt u1 g, by rw [if_pos rfl, (hpa k u1 g).1]; exact u2⟩)
      | false => exact Or.inl (if_neg (by decide))
  have F4b : ∀ k, k < x'.npc → m'.parcels k < m'.parcelNumber := fun j hj => by
    obtain ⟨k, y1, y2, y3⟩ := oldk j hj
    subst y3
    rw [(hpa k y1 y2).1, hp1]
    exact j3 k y1
  have F4c : m'.parcelNumber ≤ 2 ^ 29 := by rw [hp1]; exact j4
  have ser : ∀ j, j < x'.npc → ∀ q, q < m.points → c' j q = true → m.pointSeries q < m.seriesCount := fun j hj q hq e => by
    obtain ⟨k, y1, y2, y3⟩ := oldk j hj
    subst y3
    rw [ce k y1 y2] at e
    exact in_se hc y1 hq e
  have hdq : ∀ q, q < m.points → m'.hdd q = (m.hdd q && !decide (m.pointTimes q < a)) := fun q hq => by
    unfold MS.hdd
    rcases j1 q hq with u | u | ⟨k, u1, u2⟩
    · rw [p2 q hq u, u]; rfl
    · rw [ph q hq u, u]
      by_cases g : m.pointTimes q < a
      · rw [if_pos g, decide_eq_true g]; rfl
      · rw [if_neg g, decide_eq_false g]; rfl
    · have e9 : m.inpc k q = true := decide_eq_true u2
      rw [pk k q u1 hq e9, show decide (m.places q = -1) = false from (inP_pk hc u1 e9).2.2]
      split
      · exact (inP_pk hc u1 e9).2.2
      · rfl
  have H1 : lst m.pointSeries m.pointTimes m.pointValues m'.hdd m.points x'.hsize x'.hO x'.hT x'.hV := by
    obtain ⟨d1, d2, d3, d4⟩ := hhd
    rw [d1, d2, d3, d4]
    have e := lst_td (d := x.hAb a) (dp := fun q => !decide (m.pointTimes q < a)) g1 (fun q hq e => by
      unfold VS.hAb
      rw [(g1.2 q hq e).2.1])
    exact lst_congr e (fun q _ => ⟨rfl, rfl, rfl⟩) hdq
  refine ptR_rf (c' := c') (ke := x1.esC PS') hc hm H1 hsc (ke_re hx1.1 h64 (by rw [hx1.2]; exact ser) (by rw [hx1.2]; exact F1) (by rw [hx1.2]; exact fun j hj => (F2 j hj).1) (by rw [hx1.2]; exact F3) (by rw [hx1.2]; exact F4b) F4c) F1 F2 F3 ?_ F4b F4c ?_ ?_ ?_ ?_ ?_
  · intro i j hi hj e
    obtain ⟨u, u1, u2, u3⟩ := oldk i hi
    obtain ⟨v, v1, v2, v3⟩ := oldk j hj
    subst u3 v3
    rw [(hpa u u1 u2).1, (hpa v v1 v2).1] at e
    rw [j2 u v u1 v1 e]
  · intro i j p r hij hj hp hr e1 e2
    obtain ⟨u, u1, u2, u3⟩ := oldk i (by omega)
    obtain ⟨v, v1, v2, v3⟩ := oldk j hj
    subst u3 v3
    rw [ce u u1 u2] at e1
    rw [ce v v1 v2] at e2
    exact k1 u v p r (cnt_back hij) v1 hp hr e1 e2
  · intro j p r hj hp hr e1 e2
    obtain ⟨u, u1, u2, u3⟩ := oldk j hj
    subst u3
    rw [ce u u1 u2] at e1
    exact k2 u p r u1 hp hr e1 e2
  · intro q hq e
    rw [hdq q hq, Bool.and_eq_true] at e
    rw [hho]
    refine ⟨e.1, fun z => ?_⟩
    rw [decide_eq_true z] at e
    cases e.2
  · intro q hq e
    rcases j1 q hq with u | u | ⟨k, u1, u2⟩
    · rw [pkd_t, p2 q hq u] at e
      exact absurd (by decide) e
    · rw [pkd_t, ph q hq u] at e
      exfalso
      split at e
      · exact e (by decide)
      · exact e (by decide)
    · exact (inP_pk hc u1 (decide_eq_true u2)).1
  · intro q hq e z
    exact e (p2 q hq z)
end RT
end
section
/-! What a start goes back to: both sides. -/
def bsR (m : MS) (x : VS) (bn : Nat → Nat) : Prop :=
  (hdR m.baseHidden m.pkd m.pointSeries m.pointTimes m.points x.ssO x.ssF x.ssT x.ssc bn ∧ dnR x.ssc m.deletes bn ∧ scE1 m.pkd m.pointSeries m.pointTimes m.points x.ssO x.ssF x.ssT x.ssc) ∧
  (m.baseHorizon = x.shor ∧ m.baseHorizon = m.horizon ∧ x.spc = x.npc ∧ (∀ k, k < x.npc → x.sP k = x.nP k)) ∧
  ((∀ q, q < m.points → m.pkd q = true → m.pointSeries q < m.baseSeries ∧ ¬ m.baseLasts (m.pointSeries q) < m.pointTimes q) ∧ m.baseSeries = x.sser ∧ (∀ s, s < x.sser → m.baseLasts s = x.slast s) ∧ m.baseSeries ≤ m.seriesCount ∧ x.scat = x.ncat)
section BS
variable {m m' : MS} {x x' : VS} {PS : Nat → PT} {dn bn : Nat → Nat}
/-- back to what was kept: no head, the scars that were kept -/
theorem ptR_rst (h : ptR m x PS dn) (hb : bsR m x bn) (hm : m'.points = m.points ∧ m'.pointSeries = m.pointSeries ∧ m'.pointTimes = m.pointTimes ∧ m'.pointValues = m.pointValues ∧ m'.hidden = mapT m.points (fun _ => true) m.baseHidden m.hidden ∧ m'.deletes = m.deletes ∧ m'.seriesCount = m.baseSeries ∧ (∀ s, s < m.baseSeries → m'.lasts s = m.baseLasts s) ∧ m'.horizon = m.baseHorizon) (hm2 : m'.parcelCount = m.parcelCount ∧ m'.parcels = m.parcels ∧ m'.parcelBlocks = m.parcelBlocks ∧ m'.parcelNumber = m.parcelNumber ∧ ∀ q, q < m.points → m'.places q = if m.places q = -1 then -2 else m.places q) (hx : x'.npc = x.spc ∧ x'.nhor = x.shor ∧ x'.nsc = x.ssc ∧ (∀ j, j < x.ssc → x'.nsO j = x.ssO j ∧ x'.nsF j = x.ssF j ∧ x'.nsT j = x.ssT j) ∧ x'.hsize = 0) : ptR m' x' PS bn := by
  have hc := h
  obtain ⟨b1, b2, b3, b4, b6, b7, b8, b9, b10⟩ := hm
  obtain ⟨a1, a2, a3, a4, a5⟩ := hm2
  obtain ⟨c1, c2, c6, c3, c7⟩ := hx
  obtain ⟨⟨u1, u2, u3⟩, ⟨u4, u5, u6, u7⟩, ⟨u8, u9, u10, u11, u12⟩⟩ := hb
  obtain ⟨⟨g1, g2, g3, g4⟩, ⟨i1, i2, i3, i4⟩, ⟨j1, j2, j3, j4⟩, ⟨k1, k2⟩, ⟨l1, l2, l3⟩, n1⟩ := h
  have hdq : ∀ q, q < m.points → m'.hdd q = false := fun q hq => by
    refine decide_eq_false (fun z => ?_)
    rw [a5 q hq] at z
    split at z
    · exact absurd z (by decide)
    · contradiction
  have hiq : ∀ k, k < x.npc → ∀ q, q < m.points → m'.inpc k q = m.inpc k q := fun k hk q hq => by
    have p1 := j3 k hk
    unfold MS.inpc
    rw [a5 q hq, a2]
    split
    · next e =>
      rw [e, show decide ((-1 : Int32) = nI (m.parcels k)) = false from decide_eq_false (fun z => nI_nm (show m.parcels k < 2 ^ 31 by omega) z.symm)]
      exact decide_eq_false (fun z => nI_pos (n := m.parcels k) (by omega) (by rw [← z]; decide))
    · rfl
  have hpq : ∀ q, q < m.points → m'.pkd q = m.pkd q := fun q hq => by
    unfold MS.pkd
    rw [a5 q hq]
    split
    · next e => rw [e]; rfl
    · rfl
  have cve : ∀ w t, cv1 x'.nsO x'.nsF x'.nsT x.ssc w t = cv1 x.ssO x.ssF x.ssT x.ssc w t := fun w t => by
    have ef : ∀ i, i < x.ssc → cvS x'.nsO x'.nsF x'.nsT w t i = cvS x.ssO x.ssF x.ssT w t i := fun i hi => by
      obtain ⟨y1, y2, y3⟩ := c3 i hi
      unfold cvS
      rw [y1, y2, y3]
    cases e : cv1 x.ssO x.ssF x.ssT x.ssc w t with
    | none => exact frst_mn (fun i hi => (ef i hi).trans (frst_none e i (Nat.zero_le _) (by omega)))
    | some j =>
      obtain ⟨y1, -, y3, y4⟩ := frst_some e
      exact frst_mk (by omega) ((ef j (by omega)).trans y1) (fun i hi => (ef i (by omega)).trans (y4 i (Nat.zero_le _) hi))
  have np : x'.npc = x.npc := by rw [c1, u6]
  have liv : ∀ q, q < m.points → ¬ m'.places q = -2 → m.pkd q = true ∧ ¬ m.places q = -2 := fun q hq e => by
    rw [a5 q hq] at e
    split at e
    · exact absurd rfl e
    · next z =>
      rcases j1 q hq with y | y | ⟨k, hk, y⟩
      · exact absurd y e
      · exact absurd y z
      · exact ⟨(inP_pk hc hk (decide_eq_true y)).1, e⟩
  refine ⟨⟨?_, ?_, ?_, ?_⟩, ⟨?_, ?_, ?_, ?_⟩, ⟨?_, ?_, ?_, ?_⟩, ⟨?_, ?_⟩, ⟨?_, ?_, ?_⟩, ?_⟩
  · refine ⟨?_, fun q hq e => ?_⟩
    · rw [c7, b1]
      exact (cnt_0 hdq).symm
    · rw [b1] at hq
      rw [hdq q hq] at e
      cases e
  · rw [a1, np]; exact g2
  · rw [b10, c2]; exact u4
  · intro k hk
    rw [np] at hk
    obtain ⟨e1, e2, e3⟩ := g4 k hk
    rw [b1, b2, b3, b4, a3]
    exact ⟨arr_congr e1 (fun q _ => ⟨rfl, rfl, rfl⟩) (hiq k hk), e2, e3⟩
  · intro q hq e
    rw [b1] at hq
    rw [b2, b3, b6, mapT_v hq, if_pos rfl, c6, cve]
    exact u1 q hq ((hpq q hq).symm.trans e)
  · rw [c6, b7]; exact u2
  · intro j hj
    rw [c6] at hj
    obtain ⟨q, q1, q2, q3⟩ := u3 j hj
    refine ⟨q, by rw [b1]; exact q1, (hpq q q1).trans q2, ?_⟩
    rw [b2, b3, c6, cve]
    exact q3
  · rw [b7]; exact i4
  · intro q hq
    rw [b1] at hq
    rw [a5 q hq, np, a2]
    split
    · exact Or.inl rfl
    · exact j1 q hq
  · rw [np, a2]; exact j2
  · rw [np, a2, a4]; exact j3
  · rw [a4]; exact j4
  · intro i j p r hij hj hp1 hr e1 e2
    rw [np] at hj
    rw [b1] at hp1 hr
    exact k1 i j p r hij hj hp1 hr ((hiq i (by omega) p hp1).symm.trans e1) ((hiq j hj r hr).symm.trans e2)
  · intro k p r hk hp1 hr e1 e2
    rw [b1] at hr
    rw [hdq r hr] at e2
    cases e2
  · intro q hq e
    rw [b1] at hq
    rw [hdq q hq] at e
    cases e
  · intro q hq e
    rw [b1] at hq
    obtain ⟨y1, y2⟩ := u8 q hq (liv q hq e).1
    rw [b8, b2, b3, b9 _ y1]
    exact ⟨y1, y2⟩
  · intro p r hpr hr e1 e2 e3
    rw [b1] at hr
    rw [b2] at e3
    rw [b3]
    exact l3 p r hpr hr (liv p (by omega) e1).2 (liv r hr e2).2 e3
  · rw [b1, b3]; exact n1
/-- a new series -/
theorem ptR_new (h : ptR m x PS dn) (h1 : mP m m') (hm : m'.points = m.points ∧ m'.pointSeries = m.pointSeries ∧ m'.pointTimes = m.pointTimes ∧ m'.pointValues = m.pointValues ∧ m'.places = m.places ∧ m'.hidden = m.hidden ∧ m'.deletes = m.deletes) (hs : m.seriesCount ≤ m'.seriesCount ∧ ∀ s, s < m.seriesCount → m'.lasts s = m.lasts s) (h3 : vP x x') (h4 : vH x x') : ptR m' x' PS dn := by
  obtain ⟨a1, a2, a3, a4, a5⟩ := h1
  obtain ⟨b1, b2, b3, b4, b5, b6, b7⟩ := hm
  obtain ⟨c1, c2, c3, c4, c5, c6⟩ := h3
  obtain ⟨d1, d2, d3, d4⟩ := h4
  have e1 : m'.hdd = m.hdd := by funext q; unfold MS.hdd; rw [b5]
  have e2 : m'.inpc = m.inpc := by funext k q; unfold MS.inpc; rw [b5, a2]
  have e3 : m'.pkd = m.pkd := by funext q; unfold MS.pkd; rw [b5]
  unfold ptR at h ⊢
  rw [a1, a2, a3, a4, a5, b1, b2, b3, b4, b5, b6, b7, c1, c2, c3, c4, c5, c6, d1, d2, d3, d4, e1, e2, e3]
  obtain ⟨g, i, j, k, ⟨l1, l2, l3⟩, n1⟩ := h
  refine ⟨g, i, j, k, ⟨l1, fun q hq e => ?_, l3⟩, n1⟩
  obtain ⟨y1, y2⟩ := l2 q hq e
  rw [hs.2 _ y1]
  exact ⟨by have := hs.1; omega, y2⟩
/-- the first points of a series and the time 0: its last time is -1 or one of its points' -/
theorem bsR_n (h : ptR m x PS dn) (hp : x'.spc = x'.npc ∧ (∀ k, k < x'.npc → x'.sP k = x'.nP k)) (h' : ptR m' x' PS dn) (hss : x'.ssc = x'.nsc ∧ (∀ j, j < x'.nsc → x'.ssO j = x'.nsO j ∧ x'.ssF j = x'.nsF j ∧ x'.ssT j = x'.nsT j)) (hh : ∀ q, q < m'.points → m'.baseHidden q = m'.hidden q) (hho : m'.baseHorizon = m'.horizon ∧ x'.shor = x'.nhor) (hbs : m'.baseSeries = m'.seriesCount ∧ x'.sser = m'.seriesCount ∧ (∀ s, s < m'.seriesCount → m'.baseLasts s = m'.lasts s ∧ x'.slast s = m'.lasts s) ∧ x'.scat = x'.ncat) : bsR m' x' dn := by
  obtain ⟨-, ⟨i1, i2, i3, i4⟩, ⟨j1, -⟩, -, ⟨-, l2, -⟩, -⟩ := id h'
  have cve : ∀ w t, cv1 x'.ssO x'.ssF x'.ssT x'.nsc w t = cv1 x'.nsO x'.nsF x'.nsT x'.nsc w t := fun w t => by
    have ef : ∀ i, i < x'.nsc → cvS x'.ssO x'.ssF x'.ssT w t i = cvS x'.nsO x'.nsF x'.nsT w t i := fun i hi => by
      obtain ⟨y1, y2, y3⟩ := hss.2 i hi
      unfold cvS
      rw [y1, y2, y3]
    cases e : cv1 x'.nsO x'.nsF x'.nsT x'.nsc w t with
    | none => exact frst_mn (fun i hi => (ef i hi).trans (frst_none e i (Nat.zero_le _) (by omega)))
    | some j =>
      obtain ⟨y1, -, y3, y4⟩ := frst_some e
      exact frst_mk (by omega) ((ef j (by omega)).trans y1) (fun i hi => (ef i (by omega)).trans (y4 i (Nat.zero_le _) hi))
  refine ⟨⟨fun q hq e => ?_, ?_, fun j hj => ?_⟩, ⟨?_, hho.1, hp⟩, ⟨fun q hq e => ?_, ?_, fun s hs => ?_, ?_, hbs.2.2.2⟩⟩
  · rw [hh q hq, hss.1, cve]
    exact i1 q hq e
  · rw [hss.1]; exact i2
  · rw [hss.1] at hj
    obtain ⟨q, q1, q2, q3⟩ := i3 j hj
    exact ⟨q, q1, q2, by rw [hss.1, cve]; exact q3⟩
  · rw [hho.1, hho.2]; exact h'.1.2.2.1
  · have ne2 : ¬ m'.places q = -2 := fun z => pkd_t.mp e (by rw [z]; decide)
    obtain ⟨y1, y2⟩ := l2 q hq ne2
    rw [hbs.1, (hbs.2.2.1 _ y1).1]
    exact ⟨y1, y2⟩
  · rw [hbs.1, hbs.2.1]
  · rw [hbs.2.1] at hs
    rw [(hbs.2.2.1 s hs).1, (hbs.2.2.1 s hs).2]
  · rw [hbs.1]; exact Nat.le_refl _
end BS
end
section
/-- only the journal is other -/
def VS.jwS (x y : VS) : VS := VS.s_jch (VS.s_jfill (VS.s_jblock (VS.s_junits (VS.s_jkept (VS.s_jsize (VS.s_jS (VS.s_jF (VS.s_jB (VS.s_jU (VS.s_jO (VS.s_jK (VS.s_jN (VS.s_jA (VS.s_writes (VS.s_cutLeft x y.cutLeft) y.writes) y.jA) y.jN) y.jK) y.jO) y.jU) y.jB) y.jF) y.jS) y.jsize) y.jkept) y.junits) y.jblock) y.jfill) y.jch
theorem jw_jad (x : VS) (ja : Nat → Nat) (kd w n : Nat) (a b : Int64) : x.jadF ja kd w n a b = x.jwS (x.jadF ja kd w n a b) := by
  unfold VS.jadF
  split
  · rfl
  · rfl
theorem jw_wrB (x : VS) (n : Nat) : x.wrB n = x.jwS (x.wrB n) := by
  unfold VS.wrB VS.wjS
  split
  · rfl
  · split
    · rfl
    · rfl
theorem jw_t {x y z : VS} (h1 : y = x.jwS y) (h2 : z = y.jwS z) : z = x.jwS z := by
  rw [h2, h1]
  rfl
theorem jw_wrF (x : VS) (ja : Nat → Nat) (kd w n : Nat) (a b : Int64) : x.wrF ja kd w n a b = x.jwS (x.wrF ja kd w n a b) := jw_t (jw_wrB x n) (jw_jad (x.wrB n) ja kd w n a b)
/-- a record added -/
theorem jad_at (x : VS) (ja : Nat → Nat) (kd w n : Nat) (a b : Int64) (h0 : x.jsize ≤ x.jN) (h1 : 0 < x.jN) : (∀ q, q < x.jsize → (x.jadF ja kd w n a b).jK q = x.jK q ∧ (x.jadF ja kd w n a b).jO q = x.jO q ∧ (x.jadF ja kd w n a b).jU q = x.jU q ∧ (x.jadF ja kd w n a b).jB q = x.jB q ∧ (x.jadF ja kd w n a b).jF q = x.jF q ∧ (x.jadF ja kd w n a b).jS q = x.jS q) ∧ ((x.jadF ja kd w n a b).jK x.jsize = kd ∧ (x.jadF ja kd w n a b).jO x.jsize = w ∧ (x.jadF ja kd w n a b).jU x.jsize = n ∧ (x.jadF ja kd w n a b).jB x.jsize = x.jblock ∧ (x.jadF ja kd w n a b).jF x.jsize = a ∧ (x.jadF ja kd w n a b).jS x.jsize = b) ∧ (x.jadF ja kd w n a b).jsize = x.jsize + 1 ∧ (x.jadF ja kd w n a b).jkept = x.jkept ∧ (x.jadF ja kd w n a b).jblock = x.jblock ∧ (x.jadF ja kd w n a b).jfill = x.jfill + n ∧ (x.jadF ja kd w n a b).jch = true ∧ (x.jadF ja kd w n a b).cutLeft = x.cutLeft ∧ (x.jadF ja kd w n a b).writes = x.writes ∧ (x.jadF ja kd w n a b).junits = x.junits + n := by
  unfold VS.jadF
  split
  · next e =>
    refine ⟨fun q hq => ⟨?_, ?_, ?_, ?_, ?_, ?_⟩, ⟨va_up_self _ _ _, va_up_self _ _ _, va_up_self _ _ _, va_up_self _ _ _, va_up_self _ _ _, va_up_self _ _ _⟩, rfl, rfl, rfl, rfl, rfl, rfl, rfl, rfl⟩
    · exact (va_up_ne _ _ (Nat.ne_of_lt hq)).trans (cpy_lt _ _ (by omega) (by omega))
    · exact (va_up_ne _ _ (Nat.ne_of_lt hq)).trans (cpy_lt _ _ (by omega) (by omega))
    · exact (va_up_ne _ _ (Nat.ne_of_lt hq)).trans (cpy_lt _ _ (by omega) (by omega))
    · exact (va_up_ne _ _ (Nat.ne_of_lt hq)).trans (cpy_lt _ _ (by omega) (by omega))
    · exact (va_up_ne _ _ (Nat.ne_of_lt hq)).trans (cpy_lt _ _ (by omega) (by omega))
    · exact (va_up_ne _ _ (Nat.ne_of_lt hq)).trans (cpy_lt _ _ (by omega) (by omega))
  · exact ⟨fun q hq => ⟨va_up_ne _ _ (Nat.ne_of_lt hq), va_up_ne _ _ (Nat.ne_of_lt hq), va_up_ne _ _ (Nat.ne_of_lt hq), va_up_ne _ _ (Nat.ne_of_lt hq), va_up_ne _ _ (Nat.ne_of_lt hq), va_up_ne _ _ (Nat.ne_of_lt hq)⟩, ⟨va_up_self _ _ _, va_up_self _ _ _, va_up_self _ _ _, va_up_self _ _ _, va_up_self _ _ _, va_up_self _ _ _⟩, rfl, rfl, rfl, rfl, rfl, rfl, rfl, rfl⟩
/-- the journal: both sides -/
def jrR (m : MS) (x : VS) : Prop := m.records = x.jsize ∧ m.kept = x.jkept ∧ m.block = x.jblock ∧ m.used = x.jfill ∧ m.fresh = x.jch ∧ m.cutLeft = x.cutLeft ∧ m.written = x.writes ∧ m.journal = x.jlimit ∧ x.junits = sumN x.jsize x.jU ∧ (x.jch = false → x.jkept = x.jsize) ∧ ∀ r, r < x.jsize → m.kinds r = nI (x.jK r) ∧ m.recordSeries r = x.jO r ∧ m.units r = x.jU r ∧ m.recordBlocks r = x.jB r ∧ (¬ x.jK r = 0 → m.firsts r = x.jF r ∧ m.seconds r = x.jS r)
theorem room_eq {m : MS} {x : VS} (h : jrR m x) (n : Nat) : m.room n = x.room n := by
  obtain ⟨-, -, h3, h4, -, -, -, h8, -⟩ := h
  unfold MS.room VS.room
  rw [h3, h4, h8]
theorem sumN_s {f g : Nat → Nat} {n : Nat} (h : ∀ r, r < n → g r = f r) : sumN (n + 1) g = sumN n f + g n := by
  show sumN n g + g n = _
  rw [sumN_ext h]
theorem jr_rec {m m' : MS} {x : VS} {ja : Nat → Nat} {kd w n : Nat} {a b a' b' : Int64} (h : jrR m x) (h0 : x.jsize ≤ x.jN) (h1 : 0 < x.jN) (hab : ¬ kd = 0 → a' = a ∧ b' = b) (hm : m'.kinds = va_up m.kinds m.records (nI kd) ∧ m'.recordSeries = va_up m.recordSeries m.records w ∧ m'.firsts = va_up m.firsts m.records a' ∧ m'.seconds = va_up m.seconds m.records b' ∧ m'.units = va_up m.units m.records n ∧ m'.recordBlocks = va_up m.recordBlocks m.records (m.rBlock n) ∧ m'.records = m.records + 1 ∧ m'.used = m.rUsed n ∧ m'.block = m.rBlock n ∧ m'.fresh = true ∧ m'.kept = m.rKept n ∧ m'.cutLeft = m.rCut n ∧ m'.written = m.rWr n ∧ m'.journal = m.journal) : jrR m' (x.wrF ja kd w n a b) := by
  obtain ⟨c1, c2, c3, c4, c5, c6, c7, c8, c9, c10, c11, c12, c13, c14⟩ := hm
  obtain ⟨g1, g2, g3, g4, g5, g6, g7, g8, g9, gk, g10⟩ := h
  obtain ⟨r1, r2, r3⟩ := wr_j x n
  obtain ⟨y, ey⟩ : ∃ y, y = x.wrB n := ⟨_, rfl⟩
  have jw := jw_wrB x n
  rw [← ey] at r1 r2 jw
  have keep : y.jK = x.jK ∧ y.jO = x.jO ∧ y.jU = x.jU ∧ y.jB = x.jB ∧ y.jF = x.jF ∧ y.jS = x.jS ∧ y.jlimit = x.jlimit ∧ y.junits = x.junits := by
    rw [ey]
    unfold VS.wrB VS.wjS
    split
    · exact ⟨rfl, rfl, rfl, rfl, rfl, rfl, rfl, rfl⟩
    · split
      · exact ⟨rfl, rfl, rfl, rfl, rfl, rfl, rfl, rfl⟩
      · exact ⟨rfl, rfl, rfl, rfl, rfl, rfl, rfl, rfl⟩
  have st : y.jblock = m.rBlock n ∧ y.jfill + n = m.rUsed n ∧ y.jkept = m.rKept n ∧ y.cutLeft = m.rCut n ∧ y.writes = m.rWr n := by
    rw [ey]
    unfold VS.wrB VS.wjS MS.rBlock MS.rUsed MS.rKept MS.rCut MS.rWr
    rw [g1, g2, g3, g4, g5, g6, g7]
    by_cases e : x.jfill + n ≤ 126
    · rw [if_pos e]
      simp [e]
    · rw [if_neg e]
      cases e2 : x.jch with
      | true => simp [e]; exact ⟨rfl, rfl, rfl, rfl, rfl⟩
      | false =>
        have ek := gk e2
        simp [e]
        exact ⟨rfl, rfl, ek, rfl, rfl⟩
  obtain ⟨k1, k2, k3, k4, k5, k6, k7, k8⟩ := keep
  obtain ⟨s1, s2, s3, s4, s5⟩ := st
  obtain ⟨a1, ⟨b1, b2, b3, b4, b5, b6⟩, a3, a4, a5, a6, a7, a8, a9, a10⟩ := jad_at y ja kd w n a b (by omega) (by omega)
  have ew : x.wrF ja kd w n a b = y.jadF ja kd w n a b := by unfold VS.wrF; rw [ey]
  have el : (y.jadF ja kd w n a b).jlimit = x.jlimit := (congrArg VS.jlimit (jw_jad y ja kd w n a b)).trans k7
  rw [ew]
  refine ⟨by rw [c7, a3, r1, g1], by rw [c11, a4, s3], by rw [c9, a5, s1], by rw [c8, a6, s2], by rw [c10, a7], by rw [c12, a8, s4], by rw [c13, a9, s5], by rw [c14, el, g8], ?_, fun z => (by rw [a7] at z; cases z), fun r hr => ?_⟩
  · rw [a10, a3, k8, g9, r1, sumN_s (f := x.jU) (fun r hr => by rw [(a1 r (by omega)).2.2.1, k3]), ← r1, b3]
  · rw [a3, r1] at hr
    rw [c1, c2, c3, c4, c5, c6, g1]
    by_cases e : r = x.jsize
    · subst e
      rw [va_up_self, va_up_self, va_up_self, va_up_self, va_up_self, va_up_self, ← r1, b1, b2, b3, b4, b5, b6, s1]
      exact ⟨rfl, rfl, rfl, rfl, fun z => hab z⟩
    · obtain ⟨f1, f2, f3, f4, f5, f6⟩ := a1 r (by omega)
      rw [va_up_ne _ _ e, va_up_ne _ _ e, va_up_ne _ _ e, va_up_ne _ _ e, va_up_ne _ _ e, va_up_ne _ _ e, f1, f2, f3, f4, f5, f6, k1, k2, k3, k4, k5, k6]
      exact g10 r (by omega)
end
section
/-! The journal done again: an abstract state. -/
def lsF {α : Type} (n : Nat) (f : Nat → α) : List α := (List.range n).map f
theorem lsF_s {α : Type} (n : Nat) (f : Nat → α) : lsF (n + 1) f = lsF n f ++ [f n] := by
  unfold lsF
  rw [List.range_succ, List.map_append]
  rfl
theorem lsF_e {α : Type} {n : Nat} {f g : Nat → α} (h : ∀ i, i < n → f i = g i) : lsF n f = lsF n g := by
  unfold lsF
  exact List.map_congr_left (fun i hi => h i (List.mem_range.mp hi))
theorem lsF_l {α : Type} (n : Nat) (f : Nat → α) : (lsF n f).length = n := by unfold lsF; rw [List.length_map, List.length_range]
theorem lsF_up {α : Type} (n : Nat) (f : Nat → α) (v : α) : lsF (n + 1) (va_up f n v) = lsF n f ++ [v] := by
  rw [lsF_s, va_up_self, lsF_e (fun i hi => va_up_ne _ _ (Nat.ne_of_lt hi))]
theorem lsF_td {α : Type} (d : Nat → Bool) (f : Nat → α) : ∀ n, lsF (cnt n d) (tdT d f n) = ((List.range n).filter d).map f
  | 0 => rfl
  | n + 1 => by
    rw [List.range_succ, List.filter_append, List.map_append, ← lsF_td d f n]
    cases e : d n with
    | true =>
      rw [cnt_t e, tdT_t e rfl, lsF_up]
      simp [e]
    | false =>
      rw [cnt_f e, tdT_f e]
      simp [e]
theorem lsF_fl {α : Type} {P : α → Bool} {d : Nat → Bool} {f : Nat → α} {n : Nat} (h : ∀ i, i < n → d i = P (f i)) : lsF (cnt n d) (tdT d f n) = (lsF n f).filter P := by
  rw [lsF_td]
  unfold lsF
  rw [List.filter_map]
  congr 1
  refine List.filter_congr (fun i hi => ?_)
  exact h i (List.mem_range.mp hi)
abbrev HP3 : Type := Nat × Int64 × Int64
def tr3 (o : Nat → Nat) (t v : Nat → Int64) (i : Nat) : HP3 := (o i, t i, v i)
theorem td3 (d : Nat → Bool) (o : Nat → Nat) (t v : Nat → Int64) : ∀ n, tdT d (tr3 o t v) n = tr3 (tdT d o n) (tdT d t n) (tdT d v n)
  | 0 => rfl
  | n + 1 => by
    cases e : d n with
    | true =>
      rw [tdT_t (f := tr3 o t v) e rfl, tdT_t (f := o) e rfl, tdT_t (f := t) e rfl, tdT_t (f := v) e rfl, td3 d o t v n]
      funext i
      unfold tr3 va_up
      split <;> rfl
    | false => rw [tdT_f e, tdT_f e, tdT_f e, tdT_f e, td3 d o t v n]
/-- number of series, last times, head, scars -/
abbrev AS4 : Type := Nat × (Nat → Int64) × List HP3 × List HP3
def wiB (w : Nat) (a b : Int64) (p : HP3) : Bool := decide (p.1 = w) && (!decide (p.2.1 < a) && !decide (b < p.2.1))
def cvL (s : List HP3) (w : Nat) (t : Int64) : Bool := s.any (fun c => decide (c.1 = w) && (!decide (t < c.2.1) && !decide (c.2.2 < t)))
def hitB (PS : Nat → PT) (npc : Nat) (hor : Int64) (s : List HP3) (w : Nat) (a b : Int64) : Bool := anyB npc (fun k => anyB (PS k).n (fun i => decide ((PS k).o i = w) && (!decide ((PS k).t i < a) && (!decide (b < (PS k).t i) && (!decide ((PS k).t i < hor) && !cvL s ((PS k).o i) ((PS k).t i))))))
def rpS (PS : Nat → PT) (npc : Nat) (hor : Int64) (st : AS4) (kd w : Nat) (a b : Int64) : AS4 :=
  if kd = 0 then (st.1 + 1, va_up st.2.1 st.1 (-1), st.2.2.1, st.2.2.2) else if kd = 1 then (st.1, va_up st.2.1 w a, (if a < hor then st.2.2.1 else st.2.2.1 ++ [(w, a, b)]), st.2.2.2) else (st.1, st.2.1, st.2.2.1.filter (fun p => !wiB w a b p), if hitB PS npc hor st.2.2.2 w a b = true then st.2.2.2 ++ [(w, maxL a hor, minL b (st.2.1 w))] else st.2.2.2)
def rpF (PS : Nat → PT) (npc : Nat) (hor : Int64) (st : AS4) (jK jO : Nat → Nat) (jF jS : Nat → Int64) : Nat → AS4
  | 0 => st
  | r + 1 => rpS PS npc hor (rpF PS npc hor st jK jO jF jS r) (jK r) (jO r) (jF r) (jS r)
theorem rpF_e {PS : Nat → PT} {npc : Nat} {hor : Int64} {st : AS4} {jK jO jK' jO' : Nat → Nat} {jF jS jF' jS' : Nat → Int64} : ∀ {r : Nat}, (∀ i, i < r → jK' i = jK i ∧ jO' i = jO i ∧ jF' i = jF i ∧ jS' i = jS i) → rpF PS npc hor st jK' jO' jF' jS' r = rpF PS npc hor st jK jO jF jS r
  | 0, _ => rfl
  | r + 1, h => by
    obtain ⟨h1, h2, h3, h4⟩ := h r (by omega)
    show rpS PS npc hor (rpF PS npc hor st jK' jO' jF' jS' r) (jK' r) (jO' r) (jF' r) (jS' r) = rpS PS npc hor (rpF PS npc hor st jK jO jF jS r) (jK r) (jO r) (jF r) (jS r)
    rw [rpF_e (fun i hi => h i (by omega)), h1, h2, h3, h4]
/-- scars only grow -/
theorem rpS_l (PS : Nat → PT) (npc : Nat) (hor : Int64) (st : AS4) (kd w : Nat) (a b : Int64) : st.2.2.2.length ≤ (rpS PS npc hor st kd w a b).2.2.2.length := by
  unfold rpS
  split
  · exact Nat.le_refl _
  · split
    · exact Nat.le_refl _
    · show st.2.2.2.length ≤ (if hitB PS npc hor st.2.2.2 w a b = true then st.2.2.2 ++ [(w, maxL a hor, minL b (st.2.1 w))] else st.2.2.2).length
      split
      · rw [List.length_append]; omega
      · exact Nat.le_refl _
theorem rpF_l (PS : Nat → PT) (npc : Nat) (hor : Int64) (st : AS4) (jK jO : Nat → Nat) (jF jS : Nat → Int64) {i r : Nat} (h : i ≤ r) : (rpF PS npc hor st jK jO jF jS i).2.2.2.length ≤ (rpF PS npc hor st jK jO jF jS r).2.2.2.length := by
  induction r with
  | zero => rw [show i = 0 by omega]; exact Nat.le_refl _
  | succ r ih =>
    by_cases e : i = r + 1
    · rw [e]; exact Nat.le_refl _
    · exact Nat.le_trans (ih (by omega)) (rpS_l PS npc hor _ _ _ _ _)
/-- over a new manifest: no delete makes a scar, the head is what lies above the horizon -/
theorem rpF_m {PS PS' : Nat → PT} {npc npc' : Nat} {hor hor' : Int64} {n0 : Nat} {la : Nat → Int64} {s s' : List HP3} {jK jO : Nat → Nat} {jF jS : Nat → Int64} (hh : ¬ hor' < hor) : ∀ {r : Nat}, (∀ i, i < r → jK i = 2 → hitB PS' npc' hor' s' (jO i) (jF i) (jS i) = false) → (∀ i, i < r → jK i ≤ 2) → rpF PS' npc' hor' (n0, la, [], s') jK jO jF jS r = ((rpF PS npc hor (n0, la, [], s) jK jO jF jS r).1, (rpF PS npc hor (n0, la, [], s) jK jO jF jS r).2.1, (rpF PS npc hor (n0, la, [], s) jK jO jF jS r).2.2.1.filter (fun p => !decide (p.2.1 < hor')), s')
  | 0, _, _ => rfl
  | r + 1, h, hk => by
    have ih := rpF_m (PS := PS) (npc := npc) (n0 := n0) (la := la) (s := s) hh (r := r) (fun i hi => h i (by omega)) (fun i hi => hk i (by omega))
    show rpS PS' npc' hor' (rpF PS' npc' hor' (n0, la, [], s') jK jO jF jS r) (jK r) (jO r) (jF r) (jS r) = _
    rw [ih]
    obtain ⟨st, est⟩ : ∃ st, st = rpF PS npc hor (n0, la, [], s) jK jO jF jS r := ⟨_, rfl⟩
    rw [← est]
    have e1 : rpF PS npc hor (n0, la, [], s) jK jO jF jS (r + 1) = rpS PS npc hor st (jK r) (jO r) (jF r) (jS r) := by rw [est]; rfl
    rw [e1]
    unfold rpS
    have k2 := hk r (by omega)
    by_cases z0 : jK r = 0
    · rw [if_pos z0, if_pos z0]
    · rw [if_neg z0, if_neg z0]
      by_cases z1 : jK r = 1
      · rw [if_pos z1, if_pos z1]
        by_cases g : jF r < hor'
        · rw [if_pos g]
          by_cases g2 : jF r < hor
          · rw [if_pos g2]
          · rw [if_neg g2]
            show _ = (_, _, (st.2.2.1 ++ [(jO r, jF r, jS r)]).filter _, s')
            rw [List.filter_append]
            simp [g]
        · have g2 : ¬ jF r < hor := fun z => g (Int64.lt_of_lt_of_le z (Int64.not_lt.mp hh))
          rw [if_neg g, if_neg g2]
          show _ = (_, _, (st.2.2.1 ++ [(jO r, jF r, jS r)]).filter _, s')
          rw [List.filter_append]
          simp [g]
      · rw [if_neg z1, if_neg z1, h r (by omega) (by omega)]
        show (st.1, st.2.1, (st.2.2.1.filter _).filter _, if false = true then _ else s') = (st.1, st.2.1, (st.2.2.1.filter _).filter _, s')
        rw [List.filter_filter, List.filter_filter, if_neg (by decide)]
        congr 3
        refine List.filter_congr (fun p _ => Bool.and_comm _ _)
/-- the class as such a state -/
def scL (x : VS) : List HP3 := lsF x.nsc (tr3 x.nsO x.nsF x.nsT)
def hdL (x : VS) : List HP3 := lsF x.hsize (tr3 x.hO x.hT x.hV)
theorem cvL_e (x : VS) (w : Nat) (t : Int64) : cvL (scL x) w t = decide (x.sc1 w t ≠ none) := by
  apply Bool.eq_iff_iff.mpr
  rw [decide_eq_true_eq]
  unfold cvL scL lsF
  rw [List.any_map, List.any_eq_true]
  constructor
  · rintro ⟨i, h1, h2⟩ z
    rw [List.mem_range] at h1
    have := frst_none (f := x.scC w t) z i (Nat.zero_le _) (by omega)
    rw [show x.scC w t i = true from h2] at this
    cases this
  · intro z
    cases e : x.sc1 w t with
    | none => exact absurd e z
    | some j =>
      obtain ⟨a1, -, a3, -⟩ := frst_some e
      exact ⟨j, List.mem_range.mpr (by omega), a1⟩
theorem sumN_pos {f : Nat → Nat} : ∀ {n : Nat}, 0 < sumN n f ↔ ∃ k, k < n ∧ 0 < f k
  | 0 => ⟨fun h => absurd h (Nat.lt_irrefl 0), fun ⟨k, hk, _⟩ => absurd hk (Nat.not_lt_zero k)⟩
  | n + 1 => by
    show 0 < sumN n f + f n ↔ _
    constructor
    · intro h
      by_cases e : 0 < f n
      · exact ⟨n, by omega, e⟩
      · obtain ⟨k, h1, h2⟩ := (sumN_pos (f := f) (n := n)).mp (by omega)
        exact ⟨k, by omega, h2⟩
    · rintro ⟨k, h1, h2⟩
      by_cases e : k = n
      · subst e; omega
      · have := (sumN_pos (f := f) (n := n)).mpr ⟨k, by omega, h2⟩
        omega
theorem cnt_pos {f : Nat → Bool} {n : Nat} : 0 < cnt n f ↔ ∃ i, i < n ∧ f i = true := by
  constructor
  · intro h
    obtain ⟨j, h1, h2, -⟩ := cnt_at h
    exact ⟨j, h1, h2⟩
  · rintro ⟨i, h1, h2⟩
    have := cnt_lt h1 h2
    omega
theorem hit_e (x : VS) (PS : Nat → PT) (w : Nat) (a b : Int64) : hitB PS x.npc x.nhor (scL x) w a b = true ↔ 0 < sumN x.npc (x.soN PS w a b) := by
  unfold hitB
  rw [anyB_iff, sumN_pos]
  have e : ∀ k i, (decide ((PS k).o i = w) && (!decide ((PS k).t i < a) && (!decide (b < (PS k).t i) && (!decide ((PS k).t i < x.nhor) && !cvL (scL x) ((PS k).o i) ((PS k).t i))))) = x.soPc (PS k) w a b i := fun k i => by
    unfold VS.soPc VS.sePc
    rw [cvL_e]
    congr 4
    by_cases z : x.sc1 ((PS k).o i) ((PS k).t i) = none
    · rw [decide_eq_true z, decide_eq_false (fun y => y z)]; rfl
    · rw [decide_eq_false z, decide_eq_true z]; rfl
  constructor
  · rintro ⟨k, h1, h2⟩
    obtain ⟨i, h3, h4⟩ := anyB_iff.mp h2
    exact ⟨k, h1, cnt_pos.mpr ⟨i, h3, (e k i).symm.trans h4⟩⟩
  · rintro ⟨k, h1, h2⟩
    obtain ⟨i, h3, h4⟩ := cnt_pos.mp h2
    exact ⟨k, h1, anyB_iff.mpr ⟨i, h3, (e k i).trans h4⟩⟩
/-- what a delete does to head and scars -/
theorem hdL_dw (x : VS) (w : Nat) (a b : Int64) : hdL (x.dwS w a b) = (hdL x).filter (fun p => !wiB w a b p) := by
  unfold hdL
  show lsF (cnt x.hsize (x.hWn w a b)) (tr3 (tdT (x.hWn w a b) x.hO x.hsize) (tdT (x.hWn w a b) x.hT x.hsize) (tdT (x.hWn w a b) x.hV x.hsize)) = _
  rw [← td3]
  exact lsF_fl (fun i _ => rfl)
theorem scL_as (x : VS) (w : Nat) (a b : Int64) : scL (x.asS w a b) = scL x ++ [(w, maxL a x.nhor, minL b (x.nlast w))] := by
  unfold scL
  show lsF (x.nsc + 1) (tr3 (va_up x.nsO x.nsc w) (va_up x.nsF x.nsc (maxL a x.nhor)) (va_up x.nsT x.nsc (minL b (x.nlast w)))) = _
  rw [lsF_s]
  congr 1
  · exact lsF_e (fun i hi => by unfold tr3; rw [va_up_ne _ _ (Nat.ne_of_lt hi), va_up_ne _ _ (Nat.ne_of_lt hi), va_up_ne _ _ (Nat.ne_of_lt hi)])
  · unfold tr3
    rw [va_up_self, va_up_self, va_up_self]
end
section
/-! The class and the abstract state. -/
def inA (st : AS4) (x : VS) : Prop := st.1 = x.nser ∧ (∀ s, s < x.nser → st.2.1 s = x.nlast s) ∧ st.2.2.1 = hdL x ∧ st.2.2.2 = scL x
theorem haF_at (z : VS) (pa : Nat → Nat) (w : Nat) (a b : Int64) (h0 : z.hsize ≤ z.hN) (h1 : 0 < z.hN) : (∀ q, q < z.hsize → (z.haF pa w a b).hO q = z.hO q ∧ (z.haF pa w a b).hT q = z.hT q ∧ (z.haF pa w a b).hV q = z.hV q) ∧ (z.haF pa w a b).hO z.hsize = w ∧ (z.haF pa w a b).hT z.hsize = a ∧ (z.haF pa w a b).hV z.hsize = b := by
  unfold VS.haF
  split
  · next e =>
    refine ⟨fun q hq => ⟨?_, ?_, ?_⟩, ?_, ?_, ?_⟩
    · exact (va_up_ne _ _ (Nat.ne_of_lt hq)).trans (cpy_lt _ _ (by omega) (by omega))
    · exact (va_up_ne _ _ (Nat.ne_of_lt hq)).trans (cpy_lt _ _ (by omega) (by omega))
    · exact (va_up_ne _ _ (Nat.ne_of_lt hq)).trans (cpy_lt _ _ (by omega) (by omega))
    · exact va_up_self _ _ _
    · exact va_up_self _ _ _
    · exact va_up_self _ _ _
  · refine ⟨fun q hq => ⟨va_up_ne _ _ (Nat.ne_of_lt hq), va_up_ne _ _ (Nat.ne_of_lt hq), va_up_ne _ _ (Nat.ne_of_lt hq)⟩, va_up_self _ _ _, va_up_self _ _ _, va_up_self _ _ _⟩
/-- what a point that comes leaves as it was -/
theorem cmF_k (x : VS) (pa : Nat → Nat) (w : Nat) (a b : Int64) : (x.cmF pa w a b).jK = x.jK ∧ (x.cmF pa w a b).jO = x.jO ∧ (x.cmF pa w a b).jF = x.jF ∧ (x.cmF pa w a b).jS = x.jS ∧ (x.cmF pa w a b).npc = x.npc ∧ (x.cmF pa w a b).nhor = x.nhor ∧ (x.cmF pa w a b).nser = x.nser ∧ (x.cmF pa w a b).nlast = va_up x.nlast w a ∧ scL (x.cmF pa w a b) = scL x := by
  unfold VS.cmF
  split
  · exact ⟨rfl, rfl, rfl, rfl, rfl, rfl, rfl, rfl, rfl⟩
  · unfold VS.haF
    split
    · exact ⟨rfl, rfl, rfl, rfl, rfl, rfl, rfl, rfl, rfl⟩
    · exact ⟨rfl, rfl, rfl, rfl, rfl, rfl, rfl, rfl, rfl⟩
theorem hdL_cm (x : VS) (pa : Nat → Nat) (w : Nat) (a b : Int64) (h0 : x.hsize ≤ x.hN) (h1 : 0 < x.hN) : hdL (x.cmF pa w a b) = (if a < x.nhor then hdL x else hdL x ++ [(w, a, b)]) ∧ (x.cmF pa w a b).hsize ≤ (x.cmF pa w a b).hN ∧ 0 < (x.cmF pa w a b).hN := by
  unfold VS.cmF
  by_cases e : a < x.nhor
  · rw [if_pos e, if_pos e]
    exact ⟨rfl, h0, h1⟩
  · rw [if_neg e, if_neg e]
    obtain ⟨a1, a2, a3, a4⟩ := haF_at (VS.s_nlast x (va_up x.nlast w a)) pa w a b h0 h1
    obtain ⟨-, -, -, -, -, -, -, c8, c9⟩ := haF_b (VS.s_nlast x (va_up x.nlast w a)) pa w a b
    have c8 : ((VS.s_nlast x (va_up x.nlast w a)).haF pa w a b).hsize = x.hsize + 1 := c8
    have c9 : ((VS.s_nlast x (va_up x.nlast w a)).haF pa w a b).hN = x.hcap := c9
    have l2 : x.hsize + 1 ≤ x.hcap ∧ 0 < x.hcap := by unfold VS.hcap; split <;> omega
    refine ⟨?_, by omega, by omega⟩
    unfold hdL
    rw [c8, lsF_s]
    congr 1
    · exact lsF_e (fun i hi => by
        obtain ⟨y1, y2, y3⟩ := a1 i hi
        unfold tr3
        rw [y1, y2, y3])
    · have a2 : ((VS.s_nlast x (va_up x.nlast w a)).haF pa w a b).hO x.hsize = w := a2
      have a3 : ((VS.s_nlast x (va_up x.nlast w a)).haF pa w a b).hT x.hsize = a := a3
      have a4 : ((VS.s_nlast x (va_up x.nlast w a)).haF pa w a b).hV x.hsize = b := a4
      unfold tr3
      rw [a2, a3, a4]
section IA
variable {st : AS4} {x x' : VS} {PS : Nat → PT} {npc w : Nat} {hor a b : Int64}
theorem inA_0 (h : inA st x) (hx : x'.nser = x.nser + 1 ∧ x'.nlast = va_up x.nlast x.nser (-1) ∧ hdL x' = hdL x ∧ scL x' = scL x) : inA (rpS PS npc hor st 0 w a b) x' := by
  obtain ⟨h1, h2, h3, h4⟩ := h
  obtain ⟨e1, e2, e3, e4⟩ := hx
  refine ⟨by rw [e1, ← h1]; rfl, fun s hs => ?_, by rw [e3]; exact h3, by rw [e4]; exact h4⟩
  rw [e2]
  show va_up st.2.1 st.1 (-1) s = _
  rw [h1]
  by_cases z : s = x.nser
  · subst z; rw [va_up_self, va_up_self]
  · rw [va_up_ne _ _ z, va_up_ne _ _ z]; exact h2 s (by omega)
theorem inA_1 (h : inA st x) (hx : x'.nser = x.nser ∧ x'.nlast = va_up x.nlast w a ∧ hdL x' = (if a < hor then hdL x else hdL x ++ [(w, a, b)]) ∧ scL x' = scL x) : inA (rpS PS npc hor st 1 w a b) x' := by
  obtain ⟨h1, h2, h3, h4⟩ := h
  obtain ⟨e1, e2, e3, e4⟩ := hx
  refine ⟨by rw [e1]; exact h1, fun s hs => ?_, ?_, by rw [e4]; exact h4⟩
  · rw [e2]
    rw [e1] at hs
    show va_up st.2.1 w a s = _
    by_cases z : s = w
    · subst z; rw [va_up_self, va_up_self]
    · rw [va_up_ne _ _ z, va_up_ne _ _ z]; exact h2 s hs
  · rw [e3, ← h3]
    rfl
theorem inA_2 (h : inA st x) (hw : w < x.nser) (hx : x'.nser = x.nser ∧ x'.nlast = x.nlast ∧ hdL x' = (hdL x).filter (fun p => !wiB w a b p) ∧ scL x' = (if 0 < sumN x.npc (x.soN PS w a b) then scL x ++ [(w, maxL a x.nhor, minL b (x.nlast w))] else scL x)) : inA (rpS PS x.npc x.nhor st 2 w a b) x' := by
  obtain ⟨h1, h2, h3, h4⟩ := h
  obtain ⟨e1, e2, e3, e4⟩ := hx
  refine ⟨by rw [e1]; exact h1, fun s hs => ?_, ?_, ?_⟩
  · rw [e2]
    rw [e1] at hs
    exact h2 s hs
  · rw [e3, ← h3]
    rfl
  · rw [e4]
    show (if hitB PS x.npc x.nhor st.2.2.2 w a b = true then st.2.2.2 ++ [(w, maxL a x.nhor, minL b (st.2.1 w))] else st.2.2.2) = _
    rw [h4, h2 w hw]
    by_cases z : 0 < sumN x.npc (x.soN PS w a b)
    · rw [if_pos z, if_pos ((hit_e x PS w a b).mpr z)]
    · rw [if_neg z, if_neg (fun y => z ((hit_e x PS w a b).mp y))]
end IA
/-- records done again: the abstract state goes along -/
theorem dg_A {PS : Nat → PT} {x0 : VS} {st : AS4} {K : Nat} (h : inA st x0) (h0 : x0.hsize ≤ x0.hN ∧ 0 < x0.hN) (hk : ∀ r, r < K → ¬ x0.jK r = 0 → x0.jO r < (rpF PS x0.npc x0.nhor st x0.jK x0.jO x0.jF x0.jS r).1) : ∀ {r : Nat} {z : VS}, r ≤ K → dgR PS x0 r z → (z.jK = x0.jK ∧ z.jO = x0.jO ∧ z.jF = x0.jF ∧ z.jS = x0.jS ∧ z.npc = x0.npc ∧ z.nhor = x0.nhor) ∧ (z.hsize ≤ z.hN ∧ 0 < z.hN) ∧ inA (rpF PS x0.npc x0.nhor st x0.jK x0.jO x0.jF x0.jS r) z
  | 0, z, _, e => by
    rw [show z = x0 from e]
    exact ⟨⟨rfl, rfl, rfl, rfl, rfl, rfl⟩, h0, h⟩
  | r + 1, z, hr, e => by
    obtain ⟨y, e1, e2⟩ := e
    obtain ⟨⟨k1, k2, k3, k4, k5, k6⟩, ⟨s1, s2⟩, ih⟩ := dg_A h h0 hk (r := r) (z := y) (by omega) e1
    have hkr := hk r (by omega)
    obtain ⟨sr, esr⟩ : ∃ sr, sr = rpF PS x0.npc x0.nhor st x0.jK x0.jO x0.jF x0.jS r := ⟨_, rfl⟩
    have ef : rpF PS x0.npc x0.nhor st x0.jK x0.jO x0.jF x0.jS (r + 1) = rpS PS x0.npc x0.nhor sr (x0.jK r) (x0.jO r) (x0.jF r) (x0.jS r) := by rw [esr]; rfl
    rw [ef]
    rw [← esr] at ih hkr
    unfold dgS at e2
    rw [k1, k2, k3, k4] at e2
    rcases e2 with ⟨q1, q2⟩ | ⟨q1, pa, q2⟩ | ⟨q1, q3, q2⟩ | ⟨q1, q3, q2⟩
    · rw [q1]
      subst q2
      exact ⟨⟨k1, k2, k3, k4, k5, k6⟩, ⟨s1, s2⟩, inA_0 ih ⟨rfl, rfl, rfl, rfl⟩⟩
    · obtain ⟨c1, c2, c3, c4, c5, c6, c7, c8, c9⟩ := cmF_k y pa (x0.jO r) (x0.jF r) (x0.jS r)
      obtain ⟨d1, d2, d3⟩ := hdL_cm y pa (x0.jO r) (x0.jF r) (x0.jS r) s1 s2
      rw [← q2] at c1 c2 c3 c4 c5 c6 c7 c8 c9 d1 d2 d3
      rw [q1]
      refine ⟨⟨c1.trans k1, c2.trans k2, c3.trans k3, c4.trans k4, c5.trans k5, c6.trans k6⟩, ⟨d2, d3⟩, inA_1 ih ⟨c7, c8, ?_, c9⟩⟩
      rw [d1, k6]
    · have hw := hkr (by rw [q1]; decide)
      rw [ih.1] at hw
      subst q2
      refine ⟨⟨k1, k2, k3, k4, k5, k6⟩, ⟨Nat.le_trans (cnt_le _ _) s1, s2⟩, ?_⟩
      rw [q1, ← k5, ← k6]
      refine inA_2 ih hw ⟨rfl, rfl, hdL_dw y _ _ _, ?_⟩
      rw [if_neg (by omega)]
      rfl
    · have hw := hkr (by rw [q1]; decide)
      rw [ih.1] at hw
      subst q2
      refine ⟨⟨k1, k2, k3, k4, k5, k6⟩, ⟨Nat.le_trans (cnt_le _ _) s1, s2⟩, ?_⟩
      rw [q1, ← k5, ← k6]
      refine inA_2 ih hw ⟨rfl, rfl, hdL_dw y _ _ _, ?_⟩
      rw [if_pos q3, scL_as]
      rfl
end
