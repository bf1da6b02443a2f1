/-! A point comes: both sides. -/
theorem lst_fn {se : Nat → Nat} {ti va : Nat → Int64} {c : Nat → Bool} {N n : Nat} {o o' : Nat → Nat} {t v t' v' : Nat → Int64} (h : lst se ti va c N n o t v) (hf : ∀ i, i < n → o' i = o i ∧ t' i = t i ∧ v' i = v i) : lst se ti va c N n o' t' v' := by
  refine ⟨h.1, fun q hq e => ?_⟩
  obtain ⟨a1, a2, a3⟩ := hf _ (show cnt q c < n by rw [h.1]; exact cnt_lt hq e)
  rw [a1, a2, a3]
  exact h.2 q hq e
/-- fields of the reference that points rest on -/
def mP (m m' : MS) : Prop := m'.parcelCount = m.parcelCount ∧ m'.parcels = m.parcels ∧ m'.parcelBlocks = m.parcelBlocks ∧ m'.parcelNumber = m.parcelNumber ∧ m'.horizon = m.horizon
def mQ (m m' : MS) : Prop := m'.points = m.points ∧ m'.pointSeries = m.pointSeries ∧ m'.pointTimes = m.pointTimes ∧ m'.pointValues = m.pointValues ∧ m'.places = m.places ∧ m'.hidden = m.hidden ∧ m'.deletes = m.deletes ∧ m'.seriesCount = m.seriesCount ∧ m'.lasts = m.lasts
/-- .. and of the class -/
def vP (x x' : VS) : Prop := x'.npc = x.npc ∧ x'.nhor = x.nhor ∧ x'.nsO = x.nsO ∧ x'.nsF = x.nsF ∧ x'.nsT = x.nsT ∧ x'.nsc = x.nsc
def vH (x x' : VS) : Prop := x'.hsize = x.hsize ∧ x'.hO = x.hO ∧ x'.hT = x.hT ∧ x'.hV = x.hV
section CM
variable {m m' : MS} {x x' : VS} {PS : Nat → PT} {dn : Nat → Nat}
/-- nothing of it changed -/
theorem ptR_same (h : ptR m x PS dn) (h1 : mP m m') (h2 : mQ m m') (h3 : vP x x') (h4 : vH x x') : ptR m' x' PS dn := by
  obtain ⟨a1, a2, a3, a4, a5⟩ := h1
  obtain ⟨b1, b2, b3, b4, b5, b6, b7, b8, b9⟩ := h2
  obtain ⟨c1, c2, c3, c4, c5, c6⟩ := h3
  obtain ⟨d1, d2, d3, d4⟩ := h4
  have e1 : m'.hdd = m.hdd := by funext q; unfold MS.hdd; rw [b5]
  have e2 : m'.inpc = m.inpc := by funext k q; unfold MS.inpc; rw [b5, a2]
  have e3 : m'.pkd = m.pkd := by funext q; unfold MS.pkd; rw [b5]
  unfold ptR at h ⊢
  rw [a1, a2, a3, a4, a5, b1, b2, b3, b4, b5, b6, b7, b8, b9, c1, c2, c3, c4, c5, c6, d1, d2, d3, d4, e1, e2, e3]
  exact h
theorem ptR_come {w : Nat} {a b : Int64} (h : ptR m x PS dn) (h1 : mP m m') (h3 : vP x x') (hm : m'.points = m.points + 1 ∧ m'.pointSeries = va_up m.pointSeries m.points w ∧ m'.pointTimes = va_up m.pointTimes m.points a ∧ m'.pointValues = va_up m.pointValues m.points b ∧ m'.places = va_up m.places m.points (-1) ∧ m'.hidden = va_up m.hidden m.points (-1) ∧ m'.deletes = m.deletes ∧ m'.seriesCount = m.seriesCount ∧ m'.lasts = va_up m.lasts w a)
    (hx : x'.hsize = x.hsize + 1 ∧ (∀ i, i < x.hsize → x'.hO i = x.hO i ∧ x'.hT i = x.hT i ∧ x'.hV i = x.hV i) ∧ x'.hO x.hsize = w ∧ x'.hT x.hsize = a ∧ x'.hV x.hsize = b) (hw : w < m.seriesCount) (ha : ¬ a < m.horizon) (hl : m.lasts w < a) (ht : ¬ a < 0 ∧ ¬ 1099511627775 < a) : ptR m' x' PS dn := by
  obtain ⟨a1, a2, a3, a4, a5⟩ := h1
  obtain ⟨b1, b2, b3, b4, b5, b6, b7, b8, b9⟩ := hm
  obtain ⟨c1, c2, c3, c4, c5, c6⟩ := h3
  obtain ⟨d1, d2, d3, d4, d5⟩ := hx
  have old : ∀ q, q < m.points → m'.pointSeries q = m.pointSeries q ∧ m'.pointTimes q = m.pointTimes q ∧ m'.pointValues q = m.pointValues q ∧ m'.places q = m.places q ∧ m'.hidden q = m.hidden q := fun q hq => by
    rw [b2, b3, b4, b5, b6]
    exact ⟨va_up_ne _ _ (by omega), va_up_ne _ _ (by omega), va_up_ne _ _ (by omega), va_up_ne _ _ (by omega), va_up_ne _ _ (by omega)⟩
  have nw : m'.pointSeries m.points = w ∧ m'.pointTimes m.points = a ∧ m'.pointValues m.points = b ∧ m'.places m.points = -1 ∧ m'.hidden m.points = -1 := by
    rw [b2, b3, b4, b5, b6]
    exact ⟨va_up_self _ _ _, va_up_self _ _ _, va_up_self _ _ _, va_up_self _ _ _, va_up_self _ _ _⟩
  have hd : ∀ q, q < m.points → m'.hdd q = m.hdd q := fun q hq => by unfold MS.hdd; rw [(old q hq).2.2.2.1]
  have hdn : m'.hdd m.points = true := decide_eq_true nw.2.2.2.1
  have hi : ∀ k q, q < m.points → m'.inpc k q = m.inpc k q := fun k q hq => by unfold MS.inpc; rw [(old q hq).2.2.2.1, a2]
  have hin : ∀ k, k < x.npc → m'.inpc k m.points = false := fun k hk => decide_eq_false (fun z => by
    rw [nw.2.2.2.1, a2] at z
    have p1 := h.2.2.1.2.2.1 k hk
    have p2 := h.2.2.1.2.2.2
    exact nI_nm (by omega) z.symm)
  have hp : ∀ q, q < m.points → m'.pkd q = m.pkd q := fun q hq => by unfold MS.pkd; rw [(old q hq).2.2.2.1]
  have hpn : m'.pkd m.points = false := by unfold MS.pkd; rw [nw.2.2.2.1]; rfl
  obtain ⟨⟨g1, g2, g3, g4⟩, ⟨i1, i2, i3, i4⟩, ⟨j1, j2, j3, j4⟩, ⟨k1, k2⟩, ⟨l1, l2, l3⟩, n1⟩ := h
  refine ⟨⟨?_, ?_, ?_, ?_⟩, ⟨?_, ?_, ?_, ?_⟩, ⟨?_, ?_, ?_, ?_⟩, ⟨?_, ?_⟩, ⟨?_, ?_, ?_⟩, ?_⟩
  · have e := lst_add (lst_congr g1 (fun q hq => ⟨(old q hq).1, (old q hq).2.1, (old q hq).2.2.1⟩) hd) hdn
    rw [b1, d1]
    refine lst_fn e (fun i hi => ?_)
    by_cases z : i = x.hsize
    · subst z
      rw [va_up_self, va_up_self, va_up_self, nw.1, nw.2.1, nw.2.2.1]
      exact ⟨d3, d4, d5⟩
    · rw [va_up_ne _ _ z, va_up_ne _ _ z, va_up_ne _ _ z]
      exact d2 i (by omega)
  · rw [a1, c1]; exact g2
  · rw [a5, c2]; exact g3
  · intro k hk
    rw [c1] at hk
    obtain ⟨e1, e2, e3⟩ := g4 k hk
    refine ⟨?_, e2, by rw [a3]; exact e3⟩
    rw [b1]
    exact arr_more (arr_congr e1 (fun q hq => ⟨(old q hq).1, (old q hq).2.1, (old q hq).2.2.1⟩) (hi k)) (hin k hk)
  · intro q hq e
    rw [b1] at hq
    by_cases z : q = m.points
    · subst z; rw [hpn] at e; cases e
    · obtain ⟨o1, o2, -, -, o5⟩ := old q (by omega)
      rw [o1, o2, o5, c3, c4, c5, c6]
      exact i1 q (by omega) ((hp q (by omega)).symm.trans e)
  · rw [c6, b7]; exact i2
  · intro j hj
    rw [c6] at hj
    obtain ⟨q, q1, q2, q3⟩ := i3 j hj
    obtain ⟨o1, o2, -⟩ := old q q1
    refine ⟨q, by omega, (hp q q1).trans q2, ?_⟩
    rw [o1, o2, c3, c4, c5, c6]
    exact q3
  · rw [b7]; exact i4
  · intro q hq
    rw [b1] at hq
    by_cases z : q = m.points
    · subst z; exact Or.inr (Or.inl nw.2.2.2.1)
    · rw [(old q (by omega)).2.2.2.1, c1, a2]
      exact j1 q (by omega)
  · rw [c1, a2]; exact j2
  · rw [c1, a2, a4]; exact j3
  · rw [a4]; exact j4
  · intro i j p r hij hj hp1 hr e1 e2
    rw [c1] at hj
    rw [b1] at hp1 hr
    have z1 : p ≠ m.points := fun z => by rw [z, hin i (by omega)] at e1; cases e1
    have z2 : r ≠ m.points := fun z => by rw [z, hin j hj] at e2; cases e2
    exact k1 i j p r hij hj (by omega) (by omega) ((hi i p (by omega)).symm.trans e1) ((hi j r (by omega)).symm.trans e2)
  · intro k p r hk hp1 hr e1 e2
    rw [c1] at hk
    rw [b1] at hp1 hr
    have z1 : p ≠ m.points := fun z => by rw [z, hin k hk] at e1; cases e1
    by_cases z2 : r = m.points
    · omega
    · exact k2 k p r hk (by omega) (by omega) ((hi k p (by omega)).symm.trans e1) ((hd r (by omega)).symm.trans e2)
  · intro q hq e
    rw [b1] at hq
    rw [a5]
    by_cases z : q = m.points
    · subst z; rw [nw.2.1, nw.2.2.2.2]; exact ⟨ha, rfl⟩
    · rw [(old q (by omega)).2.1, (old q (by omega)).2.2.2.2]
      exact l1 q (by omega) ((hd q (by omega)).symm.trans e)
  · intro q hq e
    rw [b1] at hq
    rw [b8, b9]
    by_cases z : q = m.points
    · subst z
      rw [nw.1, nw.2.1, va_up_self]
      exact ⟨hw, Int64.lt_irrefl⟩
    · obtain ⟨o1, o2, -, o4, -⟩ := old q (by omega)
      rw [o4] at e
      rw [o1, o2]
      obtain ⟨y1, y2⟩ := l2 q (by omega) e
      refine ⟨y1, ?_⟩
      by_cases z2 : m.pointSeries q = w
      · rw [z2, va_up_self]
        rw [z2] at y2
        intro y3
        exact y2 (Int64.lt_trans hl y3)
      · rw [va_up_ne _ _ z2]; exact y2
  · intro p r hpr hr e1 e2 e3
    rw [b1] at hr
    obtain ⟨o1, o2, -, o4, -⟩ := old p (by omega)
    rw [o4] at e1
    by_cases z : r = m.points
    · subst z
      rw [o1, nw.1] at e3
      rw [o2, nw.2.1]
      have y := (l2 p (by omega) e1).2
      rw [e3] at y
      exact Int64.lt_of_le_of_lt (Int64.not_lt.mp y) hl
    · obtain ⟨u1, u2, -, u4, -⟩ := old r (by omega)
      rw [u4] at e2
      rw [o1, u1] at e3
      rw [o2, u2]
      exact l3 p r hpr (by omega) e1 e2 e3
  · intro q hq
    rw [b1] at hq
    by_cases z : q = m.points
    · subst z; rw [nw.2.1]; exact ht
    · rw [(old q (by omega)).2.1]; exact n1 q (by omega)
end CM
