/-! Points go: both sides. -/
theorem mapT_v {α : Type} {N q : Nat} {c : Nat → Bool} {g f : Nat → α} (hq : q < N) : mapT N c g f q = if c q = true then g q else f q := by
  unfold mapT
  by_cases h : c q = true
  · rw [if_pos ⟨hq, h⟩, if_pos h]
  · rw [if_neg (fun z => h z.2), if_neg h]
section GO
variable {m m' : MS} {x x' : VS} {PS : Nat → PT} {dn : Nat → Nat} {w : Nat} {a b : Int64}
theorem hit_bt (m : MS) (w : Nat) (a b : Int64) (q : Nat) : m.hit w a b q = m.bt w a b q := by
  unfold MS.hit MS.bt
  congr 3
  by_cases h : b < m.pointTimes q
  · rw [decide_eq_true h, decide_eq_false (Int64.not_le.mpr h)]; rfl
  · rw [decide_eq_false h, decide_eq_true (Int64.not_lt.mp h)]; rfl
theorem bt_t {q : Nat} : m.bt w a b q = true ↔ m.pointSeries q = w ∧ m.seen q = true ∧ ¬ m.pointTimes q < a ∧ ¬ b < m.pointTimes q := by
  unfold MS.bt
  rw [Bool.and_eq_true, Bool.and_eq_true, Bool.and_eq_true, decide_eq_true_eq]
  have e : ∀ (P : Prop) [Decidable P], ((!decide P) = true ↔ ¬ P) := fun P _ => by
    by_cases h : P
    · rw [decide_eq_true h]; exact ⟨fun z => (by cases z), fun z => absurd h z⟩
    · rw [decide_eq_false h]; exact ⟨fun _ => h, fun _ => rfl⟩
  rw [e, e]
/-- a packed point that is seen -/
theorem seen_pk (h : ptR m x PS dn) {q : Nat} (hq : q < m.points) (hp : m.pkd q = true) : m.seen q = true ↔ cv1 x.nsO x.nsF x.nsT x.nsc (m.pointSeries q) (m.pointTimes q) = none ∧ ¬ m.pointTimes q < m.horizon := by
  have hd := h.2.1
  have e2 : 0 ≤ m.hidden q ↔ cv1 x.nsO x.nsF x.nsT x.nsc (m.pointSeries q) (m.pointTimes q) ≠ none := by
    rw [hd.1 q hq hp]
    exact hdV_n hd.2.1 (by have := hd.2.2.2; omega) (fun j e => cv1_lt e)
  unfold MS.seen
  rw [decide_eq_false (fun z => pkd_t.mp hp (Int32.lt_of_le_of_lt z (by decide)))]
  by_cases g : cv1 x.nsO x.nsF x.nsT x.nsc (m.pointSeries q) (m.pointTimes q) = none
  · rw [decide_eq_false (fun z => e2.mp z g)]
    by_cases g2 : m.pointTimes q < m.horizon
    · rw [decide_eq_true g2]; exact ⟨fun z => (by cases z), fun z => absurd g2 z.2⟩
    · rw [decide_eq_false g2]; exact ⟨fun _ => ⟨g, g2⟩, fun _ => rfl⟩
  · rw [decide_eq_true (e2.mpr g)]; exact ⟨fun z => (by cases z), fun z => absurd z.1 g⟩
theorem dnR_l {n d d' : Nat} {dn : Nat → Nat} (h : dnR n d dn) (hd : d ≤ d') : dnR n d' dn := ⟨fun j hj => Nat.lt_of_lt_of_le (h.1 j hj) hd, h.2⟩
/-- what the reference changes -/
def goF (m m' : MS) (w : Nat) (a b : Int64) : Prop := m'.points = m.points ∧ m'.pointSeries = m.pointSeries ∧ m'.pointTimes = m.pointTimes ∧ m'.pointValues = m.pointValues ∧ m'.places = mapT m.points (m.hit w a b) m.gP m.places ∧ m'.hidden = mapT m.points (m.hit w a b) m.gH m.hidden ∧ m'.deletes = m.deletes + 1 ∧ m'.seriesCount = m.seriesCount ∧ m'.lasts = m.lasts
theorem ptR_go (h : ptR m x PS dn) (h1 : mP m m') (hm : goF m m' w a b) (hl : m.lasts w = x.nlast w) (hd9 : m.deletes < 2 ^ 29) (hx : x'.npc = x.npc ∧ x'.nhor = x.nhor ∧ x'.hsize = (x.dwS w a b).hsize ∧ x'.hO = (x.dwS w a b).hO ∧ x'.hT = (x.dwS w a b).hT ∧ x'.hV = (x.dwS w a b).hV)
    (hs : (sumN x.npc (x.soN PS w a b) = 0 ∧ x'.nsO = x.nsO ∧ x'.nsF = x.nsF ∧ x'.nsT = x.nsT ∧ x'.nsc = x.nsc) ∨ (0 < sumN x.npc (x.soN PS w a b) ∧ x'.nsO = (x.asS w a b).nsO ∧ x'.nsF = (x.asS w a b).nsF ∧ x'.nsT = (x.asS w a b).nsT ∧ x'.nsc = x.nsc + 1)) : ∃ dn', ptR m' x' PS dn' := by
  have hc := h
  have bs := btw_1 h w a b
  obtain ⟨a1, a2, a3, a4, a5⟩ := h1
  obtain ⟨b1, b2, b3, b4, b5, b6, b7, b8, b9⟩ := hm
  obtain ⟨c1, c2, d1, d2, d3, d4⟩ := hx
  -- places and hiding numbers behind
  have hgp : ∀ q, q < m.points → m'.places q = if m.bt w a b q = true then m.gP q else m.places q := fun q hq => by rw [b5, mapT_v hq, hit_bt]
  have hgh : ∀ q, q < m.points → m'.hidden q = if m.bt w a b q = true then m.gH q else m.hidden q := fun q hq => by rw [b6, mapT_v hq, hit_bt]
  have s2 : ∀ q, m.places q = -2 → m.bt w a b q = false := fun q e => by
    cases g : m.bt w a b q with
    | false => rfl
    | true =>
      have := (bt_t.mp g).2.1
      unfold MS.seen at this
      rw [e, decide_eq_true (show (-2 : Int32) ≤ -2 by decide)] at this
      cases this
  have pp : ∀ q, q < m.points → m.pkd q = true → m'.places q = m.places q := fun q hq e => by
    rw [hgp q hq]
    split
    · unfold MS.gP
      rw [if_neg (pkd_t.mp e)]
    · rfl
  have ph : ∀ q, q < m.points → m.places q = -1 → m'.places q = if m.bt w a b q = true then -2 else -1 := fun q hq e => by
    rw [hgp q hq]
    unfold MS.gP
    rw [e, if_pos (show (-1 : Int32) < 0 by decide)]
  have p2 : ∀ q, q < m.points → m.places q = -2 → m'.places q = -2 := fun q hq e => by
    rw [hgp q hq, s2 q e, e]
    rfl
  have kd : ∀ q, q < m.points → m.pkd q = false → m.places q = -2 ∨ m.places q = -1 := fun q hq e => by
    rcases hc.2.2.1.1 q hq with y | y | ⟨k, hk, y⟩
    · exact Or.inl y
    · exact Or.inr y
    · have := (inP_pk hc hk (decide_eq_true y)).1
      rw [e] at this
      cases this
  have hdq : ∀ q, q < m.points → m'.hdd q = (m.hdd q && !m.bt w a b q) := fun q hq => by
    unfold MS.hdd
    cases e : m.pkd q with
    | true =>
      rw [pp q hq e, show decide (m.places q = -1) = false from decide_eq_false (fun z => pkd_t.mp e (by rw [z]; decide))]
      rfl
    | false =>
      rcases kd q hq e with y | y
      · rw [p2 q hq y, y]; rfl
      · rw [ph q hq y, y]
        cases m.bt w a b q <;> rfl
  have hpq : ∀ q, q < m.points → m'.pkd q = m.pkd q := fun q hq => by
    unfold MS.pkd
    cases e : m.pkd q with
    | true => rw [pp q hq e]
    | false =>
      rcases kd q hq e with y | y
      · rw [p2 q hq y, y]
      · rw [ph q hq y, y]
        cases m.bt w a b q <;> rfl
  have hiq : ∀ k, k < x.npc → ∀ q, q < m.points → m'.inpc k q = m.inpc k q := fun k hk q hq => by
    have q1 := hc.2.2.1.2.2.1 k hk
    have q2 := hc.2.2.1.2.2.2
    unfold MS.inpc
    rw [a2]
    cases e : m.pkd q with
    | true => rw [pp q hq e]
    | false =>
      have n1 : ¬ (-1 : Int32) = nI (m.parcels k) := fun z => nI_nm (by omega) z.symm
      have n2 : ¬ (-2 : Int32) = nI (m.parcels k) := fun z => nI_pos (n := m.parcels k) (by omega) (by rw [← z]; decide)
      rcases kd q hq e with y | y
      · rw [p2 q hq y, y]
      · rw [ph q hq y, y, decide_eq_false n1]
        cases m.bt w a b q
        · exact decide_eq_false n1
        · exact decide_eq_false n2
  have hbt : ∀ q, q < m.points → m.pkd q = true → m'.hidden q = if cv1 x.nsO x.nsF x.nsT x.nsc (m.pointSeries q) (m.pointTimes q) = none ∧ m.pointSeries q = w ∧ ¬ m.pointTimes q < maxL a x.nhor ∧ ¬ minL b (x.nlast w) < m.pointTimes q then nI m.deletes else m.hidden q := fun q hq e => by
    rw [hgh q hq]
    have ne2 : ¬ m.places q = -2 := fun z => pkd_t.mp e (by rw [z]; decide)
    have gh : m.gH q = nI m.deletes := by unfold MS.gH; rw [if_neg (pkd_t.mp e)]
    have iff1 : m.bt w a b q = true ↔ cv1 x.nsO x.nsF x.nsT x.nsc (m.pointSeries q) (m.pointTimes q) = none ∧ m.pointSeries q = w ∧ ¬ m.pointTimes q < maxL a x.nhor ∧ ¬ minL b (x.nlast w) < m.pointTimes q := by
      rw [bt_t, seen_pk hc hq e]
      have hh := hc.1.2.2.1
      have hlast : m.pointSeries q = w → ¬ x.nlast w < m.pointTimes q := fun y => by
        have := (hc.2.2.2.2.1.2.1 q hq ne2).2
        rw [y, hl] at this
        exact this
      constructor
      · rintro ⟨y1, ⟨y2, y3⟩, y4, y5⟩
        refine ⟨y2, y1, ?_, ?_⟩
        · unfold maxL
          split
          · exact y4
          · rw [← hh]; exact y3
        · unfold minL
          split
          · exact hlast y1
          · exact y5
      · rintro ⟨y1, y2, y3, y4⟩
        unfold maxL at y3
        unfold minL at y4
        refine ⟨y2, ⟨y1, ?_⟩, ?_, ?_⟩
        · rw [hh]
          intro z
          split at y3
          · next g => exact y3 (Int64.lt_trans z g)
          · exact y3 z
        · intro z
          split at y3
          · exact y3 z
          · next g => exact y3 (Int64.lt_of_lt_of_le z (Int64.not_lt.mp g))
        · intro z
          split at y4
          · exact y4 (Int64.lt_trans (by assumption) z)
          · exact y4 z
    by_cases g : m.bt w a b q = true
    · rw [if_pos g, if_pos (iff1.mp g), gh]
    · rw [if_neg g, if_neg (fun z => g (iff1.mpr z))]
  obtain ⟨⟨g1, g2, g3, g4⟩, ⟨i1, i2, i3, i4⟩, ⟨j1, j2, j3, j4⟩, ⟨k1, k2⟩, ⟨l1, l2, l3⟩, n1⟩ := h
  -- the scars
  have sc : ∃ dn', hdR m'.hidden m'.pkd m'.pointSeries m'.pointTimes m'.points x'.nsO x'.nsF x'.nsT x'.nsc dn' ∧ dnR x'.nsc m'.deletes dn' ∧ scE1 m'.pkd m'.pointSeries m'.pointTimes m'.points x'.nsO x'.nsF x'.nsT x'.nsc := by
    rw [b1, b2, b3, b7]
    rcases hs with ⟨s0, e1, e2, e3, e4⟩ | ⟨s0, e1, e2, e3, e4⟩
    · rw [e1, e2, e3, e4]
      have none : ∀ q, q < m.points → m.pkd q = true → m.bt w a b q = false := fun q hq e => by
        cases g : m.bt w a b q with
        | false => rfl
        | true =>
          have := cnt_lt (f := m.btw w a b true) hq (by unfold MS.btw; rw [g, show (!decide (m.places q < 0)) = true from e]; rfl)
          omega
      refine ⟨dn, fun q hq e => ?_, dnR_l i2 (by omega), fun j hj => ?_⟩
      · have e := (hpq q hq).symm.trans e
        rw [hgh q hq, none q hq e]
        exact i1 q hq e
      · obtain ⟨q, q1, q2, q3⟩ := i3 j hj
        exact ⟨q, q1, (hpq q q1).trans q2, q3⟩
    · rw [e1, e2, e3, e4]
      have hsO : hdR m'.hidden m.pkd m.pointSeries m.pointTimes m.points (va_up x.nsO x.nsc w) (va_up x.nsF x.nsc (maxL a x.nhor)) (va_up x.nsT x.nsc (minL b (x.nlast w))) (x.nsc + 1) (va_up dn x.nsc m.deletes) := hdR_s i1 hbt
      rw [← bs] at s0
      obtain ⟨q0, u1, u2, -⟩ := cnt_at s0
      unfold MS.btw at u2
      rw [Bool.and_eq_true] at u2
      have u3 : m.pkd q0 = true := u2.2
      have ne2 : ¬ m.places q0 = -2 := fun z => pkd_t.mp u3 (by rw [z]; decide)
      obtain ⟨v1, v2, v3, v4⟩ := bt_t.mp u2.1
      have v2 := (seen_pk hc u1 u3).mp v2
      refine ⟨_, fun q hq e => hsO q hq ((hpq q hq).symm.trans e), dnR_s i2, ?_⟩
      have sE := scE_s (w0 := w) (a := maxL a x.nhor) (b := minL b (x.nlast w)) i3 u1 u3 v2.1 v1 (by
        unfold maxL
        split
        · exact v3
        · rw [← hc.1.2.2.1]; exact v2.2) (by
        unfold minL
        split
        · have := (hc.2.2.2.2.1.2.1 q0 u1 ne2).2
          rw [v1, hl] at this
          exact this
        · exact v4)
      intro j hj
      obtain ⟨q, q1, q2, q3⟩ := sE j hj
      exact ⟨q, q1, (hpq q q1).trans q2, q3⟩
  obtain ⟨dn', r1, r2, r3⟩ := sc
  refine ⟨dn', ⟨?_, ?_, ?_, ?_⟩, ⟨r1, r2, r3, by rw [b7]; omega⟩, ⟨?_, ?_, ?_, ?_⟩, ⟨?_, ?_⟩, ⟨?_, ?_, ?_⟩, ?_⟩
  · rw [b1, b2, b3, b4, d1, d2, d3, d4]
    have e := lst_td (d := x.hWn w a b) (dp := fun q => !m.bt w a b q) g1 (fun q hq e => by
      obtain ⟨y1, y2, -⟩ := g1.2 q hq e
      unfold VS.hWn VS.hW MS.bt
      rw [y1, y2, hd_seen hc hq e]
      rfl)
    exact lst_congr e (fun q _ => ⟨rfl, rfl, rfl⟩) hdq
  · rw [a1, c1]; exact g2
  · rw [a5, c2]; exact g3
  · intro k hk
    rw [c1] at hk
    obtain ⟨e1, e2, e3⟩ := g4 k hk
    refine ⟨?_, e2, by rw [a3]; exact e3⟩
    rw [b1, b2, b3, b4]
    exact arr_congr e1 (fun q _ => ⟨rfl, rfl, rfl⟩) (hiq k hk)
  · intro q hq
    rw [b1] at hq
    rw [c1, a2]
    cases e : m.pkd q with
    | true => rw [pp q hq e]; exact j1 q hq
    | false =>
      rcases kd q hq e with y | y
      · exact Or.inl (p2 q hq y)
      · rw [ph q hq y]
        cases m.bt w a b q
        · exact Or.inr (Or.inl rfl)
        · exact Or.inl rfl
  · rw [c1, a2]; exact j2
  · rw [c1, a2, a4]; exact j3
  · rw [a4]; exact j4
  · intro i j p r hij hj hp1 hr e1 e2
    rw [c1] at hj
    rw [b1] at hp1 hr
    exact k1 i j p r hij hj hp1 hr ((hiq i (by omega) p hp1).symm.trans e1) ((hiq j hj r hr).symm.trans e2)
  · intro k p r hk hp1 hr e1 e2
    rw [c1] at hk
    rw [b1] at hp1 hr
    rw [hdq r hr, Bool.and_eq_true] at e2
    exact k2 k p r hk hp1 hr ((hiq k hk p hp1).symm.trans e1) e2.1
  · intro q hq e
    rw [b1] at hq
    rw [hdq q hq, Bool.and_eq_true] at e
    rw [a5, b3]
    obtain ⟨y1, y2⟩ := l1 q hq e.1
    refine ⟨y1, ?_⟩
    rw [hgh q hq]
    split
    · unfold MS.gH
      rw [show m.places q = -1 from of_decide_eq_true e.1, if_pos (by decide)]
    · exact y2
  · intro q hq e
    rw [b1] at hq
    rw [b8, b9, b2, b3]
    exact l2 q hq (fun z => e (p2 q hq z))
  · intro p r hpr hr e1 e2 e3
    rw [b1] at hr
    rw [b2] at e3
    rw [b3]
    exact l3 p r hpr hr (fun z => e1 (p2 p (by omega) z)) (fun z => e2 (p2 r hr z)) e3
  · rw [b1, b3]; exact n1
end GO
