/-! The horizon moved: both sides. -/
section RF2
variable {m m' : MS} {x x' : VS} {PS PS' : Nat → PT} {dn : Nat → Nat} {c' : Nat → Nat → Bool} {ke : Nat → Bool}
/-- parcels, scars, horizon and head are others -/
theorem ptR_rf (h : ptR m x PS dn) (hm : m'.points = m.points ∧ m'.pointSeries = m.pointSeries ∧ m'.pointTimes = m.pointTimes ∧ m'.pointValues = m.pointValues ∧ m'.hidden = m.hidden ∧ m'.deletes = m.deletes ∧ m'.seriesCount = m.seriesCount ∧ m'.lasts = m.lasts ∧ m'.horizon = x'.nhor ∧ m'.parcelCount = x'.npc) (H1 : lst m.pointSeries m.pointTimes m.pointValues m'.hdd m.points x'.hsize x'.hO x'.hT x'.hV)
    (hsc : x'.nsO = tdT ke x.nsO x.nsc ∧ x'.nsF = tdT ke x.nsF x.nsc ∧ x'.nsT = tdT ke x.nsT x.nsc ∧ x'.nsc = cnt x.nsc ke) (hke : ∀ j, j < x.nsc → (ke j = true ↔ ∃ q, q < m.points ∧ m'.pkd q = true ∧ cv1 x.nsO x.nsF x.nsT x.nsc (m.pointSeries q) (m.pointTimes q) = some j))
    (F1 : ∀ j, j < x'.npc → ∀ q, q < m.points → m'.inpc j q = c' j q) (F2 : ∀ j, j < x'.npc → arr m.pointSeries m.pointTimes m.pointValues (c' j) m.points (PS' j).n (PS' j).o (PS' j).t (PS' j).v ∧ PS' j = mkP (PS' j).n (PS' j).o (PS' j).t (PS' j).v ∧ m'.parcelBlocks j = (PS' j).bl) (F3 : ∀ q, q < m.points → m'.places q = -2 ∨ m'.places q = -1 ∨ ∃ k, k < x'.npc ∧ m'.places q = nI (m'.parcels k)) (F4 : ∀ i j, i < x'.npc → j < x'.npc → m'.parcels i = m'.parcels j → i = j) (F4b : ∀ k, k < x'.npc → m'.parcels k < m'.parcelNumber) (F4c : m'.parcelNumber ≤ 2 ^ 29)
    (F5 : ∀ i j p r, i < j → j < x'.npc → p < m.points → r < m.points → c' i p = true → c' j r = true → p < r) (F5b : ∀ k p r, k < x'.npc → p < m.points → r < m.points → c' k p = true → m.hdd r = true → p < r) (F6 : ∀ q, q < m.points → m'.hdd q = true → m.hdd q = true ∧ ¬ m.pointTimes q < m'.horizon) (F7 : ∀ q, q < m.points → m'.pkd q = true → m.pkd q = true) (F8 : ∀ q, q < m.points → ¬ m'.places q = -2 → ¬ m.places q = -2) : ptR m' x' PS' (tdT ke dn x.nsc) := by
  obtain ⟨b1, b2, b3, b4, b6, b7, b8, b9, b10, b11⟩ := hm
  obtain ⟨e1, e2, e3, e4⟩ := hsc
  obtain ⟨⟨g1, g2, g3, g4⟩, ⟨i1, i2, i3, i4⟩, ⟨j1, j2, j3, j4⟩, ⟨k1, k2⟩, ⟨l1, l2, l3⟩, n1⟩ := h
  have kk : ∀ q, q < m.points → m'.pkd q = true → ∀ j, cv1 x.nsO x.nsF x.nsT x.nsc (m.pointSeries q) (m.pointTimes q) = some j → ke j = true := fun q hq hp j e => (hke j (cv1_lt e)).mpr ⟨q, hq, hp, e⟩
  refine ⟨⟨?_, b11, b10, ?_⟩, ⟨?_, ?_, ?_, ?_⟩, ⟨?_, F4, F4b, F4c⟩, ⟨?_, ?_⟩, ⟨?_, ?_, ?_⟩, ?_⟩
  · rw [b1, b2, b3, b4]
    exact H1
  · intro k hk
    obtain ⟨f1, f2, f3⟩ := F2 k hk
    rw [b1, b2, b3, b4]
    exact ⟨arr_congr f1 (fun q _ => ⟨rfl, rfl, rfl⟩) (F1 k hk), f2, f3⟩
  · rw [b1, b2, b3, b6, e1, e2, e3, e4]
    exact hdR_td (pk := m'.pkd) (fun q hq hp => i1 q hq (F7 q hq hp)) kk
  · rw [e4, b7]; exact dnR_td i2
  · rw [b1, b2, b3, e1, e2, e3, e4]
    intro j hj
    obtain ⟨j0, y1, y2, y3⟩ := cnt_at hj
    obtain ⟨q, q1, q2, q3⟩ := (hke j0 y1).mp y2
    refine ⟨q, q1, q2, ?_⟩
    rw [cv1_td (kk q q1 q2), q3, ← y3]
    rfl
  · rw [b7]; exact i4
  · rw [b1]; exact F3
  · intro i j p r hij hj hp1 hr u1 u2
    rw [b1] at hp1 hr
    exact F5 i j p r hij hj hp1 hr ((F1 i (by omega) p hp1).symm.trans u1) ((F1 j hj r hr).symm.trans u2)
  · intro k p r hk hp1 hr u1 u2
    rw [b1] at hp1 hr
    exact F5b k p r hk hp1 hr ((F1 k hk p hp1).symm.trans u1) (F6 r hr u2).1
  · intro q hq e
    rw [b1] at hq
    rw [b3, b6]
    obtain ⟨f1, f2⟩ := F6 q hq e
    exact ⟨f2, (l1 q hq f1).2⟩
  · intro q hq e
    rw [b1] at hq
    rw [b8, b9, b2, b3]
    exact l2 q hq (F8 q hq e)
  · intro p r hpr hr u1 u2 u3
    rw [b1] at hr
    rw [b2] at u3
    rw [b3]
    exact l3 p r hpr hr (F8 p (by omega) u1) (F8 r hr u2) u3
  · rw [b1, b3]; exact n1
end RF2
theorem gr_lt {t : Nat → Int64} {a : Int64} (h0 : (-1 : Int64) < a) : ∀ {n : Nat}, grG t n < a ↔ ∀ i, i < n → t i < a
  | 0 => ⟨fun _ i hi => absurd hi (Nat.not_lt_zero i), fun _ => h0⟩
  | n + 1 => by
    show maxL (grG t n) (t n) < a ↔ _
    have e : maxL (grG t n) (t n) < a ↔ grG t n < a ∧ t n < a := by
      unfold maxL
      split
      · next g => exact ⟨fun z => ⟨z, Int64.lt_trans g z⟩, fun z => z.1⟩
      · next g => exact ⟨fun z => ⟨Int64.lt_of_le_of_lt (Int64.not_lt.mp g) z, z⟩, fun z => z.2⟩
    rw [e, gr_lt h0 (n := n)]
    constructor
    · rintro ⟨z1, z2⟩ i hi
      by_cases y : i = n
      · subst y; exact z2
      · exact z1 i (by omega)
    · intro z
      exact ⟨fun i hi => z i (by omega), z n (by omega)⟩
section RT
variable {m m' : MS} {x x1 x' : VS} {PS PS' : Nat → PT} {dn : Nat → Nat} {a : Int64}
/-- a parcel stays if a point of it does -/
theorem mh_eq (h : ptR m x PS dn) (h0 : (-1 : Int64) < a) {k : Nat} (hk : k < x.npc) : mhC PS a k = false ↔ ∀ q, q < m.points → m.inpc k q = true → m.pointTimes q < a := by
  obtain ⟨e1, e2, -⟩ := h.1.2.2.2 k hk
  have en : (PS k).nw = grG (PS k).t (PS k).n := by rw [e2]; rfl
  have e3 : mhC PS a k = false ↔ grG (PS k).t (PS k).n < a := by
    unfold mhC
    rw [en]
    by_cases z : grG (PS k).t (PS k).n < a
    · rw [decide_eq_true z]; exact ⟨fun _ => z, fun _ => rfl⟩
    · rw [decide_eq_false z]; exact ⟨fun y => (by cases y), fun y => absurd y z⟩
  rw [e3, gr_lt h0]
  constructor
  · intro z q hq hc
    have := z _ (arP_lt e1 hq hc)
    rw [(e1.2 q hq hc).2.1] at this
    exact this
  · intro z i hi
    obtain ⟨q, q1, q2, -, q4⟩ := arr_ix e1 (W := m.seriesCount) (fun q hq hc => in_se h hk hq hc) hi
    rw [q4]
    exact z q q1 q2
theorem ptR_ret (h : ptR m x PS dn) (h64 : x.nsc ≤ 64) (hm : m'.points = m.points ∧ m'.pointSeries = m.pointSeries ∧ m'.pointTimes = m.pointTimes ∧ m'.pointValues = m.pointValues ∧ m'.hidden = m.hidden ∧ m'.deletes = m.deletes ∧ m'.seriesCount = m.seriesCount ∧ m'.lasts = m.lasts ∧ m'.horizon = x'.nhor ∧ m'.parcelCount = x'.npc) (hho : m'.horizon = a)
    (hpl : ∀ q, q < m.points → m'.places q = if (m.hdd q = true ∧ m.pointTimes q < a) ∨ (∃ k, k < x.npc ∧ m.inpc k q = true ∧ mhC PS a k = false) then -2 else m.places q) (hpa : ∀ k, k < x.npc → mhC PS a k = true → m'.parcels (cnt k (mhC PS a)) = m.parcels k ∧ m'.parcelBlocks (cnt k (mhC PS a)) = m.parcelBlocks k ∧ PS' (cnt k (mhC PS a)) = PS k) (hp1 : m'.parcelNumber = m.parcelNumber) (hn : x'.npc = cnt x.npc (mhC PS a)) (hhd : x'.hsize = cnt x.hsize (x.hAb a) ∧ x'.hO = tdT (x.hAb a) x.hO x.hsize ∧ x'.hT = tdT (x.hAb a) x.hT x.hsize ∧ x'.hV = tdT (x.hAb a) x.hV x.hsize)
    (hx1 : (x1.nsO = x.nsO ∧ x1.nsF = x.nsF ∧ x1.nsT = x.nsT ∧ x1.nsc = x.nsc) ∧ x1.npc = x'.npc) (hsc : x'.nsO = tdT (x1.esC PS') x.nsO x.nsc ∧ x'.nsF = tdT (x1.esC PS') x.nsF x.nsc ∧ x'.nsT = tdT (x1.esC PS') x.nsT x.nsc ∧ x'.nsc = cnt x.nsc (x1.esC PS')) : ptR m' x' PS' (tdT (x1.esC PS') dn x.nsc) := by
  have hc := h
  obtain ⟨⟨g1, g2, g3, g4⟩, ⟨i1, i2, i3, i4⟩, ⟨j1, j2, j3, j4⟩, ⟨k1, k2⟩, ⟨o1, o2, o3⟩, n1⟩ := h
  have pk : ∀ k q, k < x.npc → q < m.points → m.inpc k q = true → m'.places q = if mhC PS a k = true then m.places q else -2 := fun k q hk hq e => by
    rw [hpl q hq]
    have nh := (inP_pk hc hk e).2.2
    cases g : mhC PS a k with
    | true =>
      rw [if_pos rfl, if_neg]
      rintro (z | ⟨k9, z1, z2, z3⟩)
      · rw [nh] at z; cases z.1
      · rw [inP_1 hc z1 hk z2 e, g] at z3; cases z3
    | false => rw [if_pos (Or.inr ⟨k, hk, e, g⟩), if_neg (by decide)]
  have ph : ∀ q, q < m.points → m.places q = -1 → m'.places q = if m.pointTimes q < a then -2 else -1 := fun q hq e => by
    rw [hpl q hq]
    have eh : m.hdd q = true := decide_eq_true e
    by_cases g : m.pointTimes q < a
    · rw [if_pos (Or.inl ⟨eh, g⟩), if_pos g]
    · rw [if_neg, if_neg g]
      · exact e
      · rintro (z | ⟨k9, z1, z2, z3⟩)
        · exact g z.2
        · have := (inP_pk hc z1 z2).2.2
          rw [eh] at this
          cases this
  have p2 : ∀ q, q < m.points → m.places q = -2 → m'.places q = -2 := fun q hq e => by
    rw [hpl q hq]
    split
    · rfl
    · exact e
  -- old numbers
  have oldk : ∀ j, j < x'.npc → ∃ k, k < x.npc ∧ mhC PS a k = true ∧ cnt k (mhC PS a) = j := fun j hj => by
    rw [hn] at hj
    exact cnt_at hj
  obtain ⟨c', hc'⟩ : ∃ c' : Nat → Nat → Bool, c' = fun j q => decide (m.places q = nI (m'.parcels j)) := ⟨_, rfl⟩
  have ce : ∀ k, k < x.npc → mhC PS a k = true → c' (cnt k (mhC PS a)) = m.inpc k := fun k hk e => by
    rw [hc']
    funext q
    show decide (m.places q = nI (m'.parcels (cnt k (mhC PS a)))) = _
    rw [(hpa k hk e).1]
    rfl
  have neg : ∀ k, k < x.npc → ¬ (-2 : Int32) = nI (m.parcels k) ∧ ¬ (-1 : Int32) = nI (m.parcels k) := fun k hk => by
    have p1 := j3 k hk
    exact ⟨fun z => nI_pos (n := m.parcels k) (by omega) (by rw [← z]; decide), fun z => nI_nm (by omega) z.symm⟩
  have F1 : ∀ j, j < x'.npc → ∀ q, q < m.points → m'.inpc j q = c' j q := fun j hj q hq => by
    obtain ⟨k, y1, y2, y3⟩ := oldk j hj
    subst y3
    rw [ce k y1 y2]
    show decide (m'.places q = nI (m'.parcels (cnt k (mhC PS a)))) = decide (m.places q = nI (m.parcels k))
    rw [(hpa k y1 y2).1]
    rcases j1 q hq with u | u | ⟨k9, u1, u2⟩
    · rw [p2 q hq u, u]
    · rw [ph q hq u, u, decide_eq_false (neg k y1).2]
      split
      · exact decide_eq_false (neg k y1).1
      · exact decide_eq_false (neg k y1).2
    · have e9 : m.inpc k9 q = true := decide_eq_true u2
      rw [pk k9 q u1 hq e9]
      cases g : mhC PS a k9 with
      | true => rw [if_pos rfl]
      | false =>
        rw [if_neg (by decide), decide_eq_false (neg k y1).1]
        symm
        refine decide_eq_false (fun z => ?_)
        have := inP_1 hc u1 y1 e9 (decide_eq_true z)
        rw [this, y2] at g
        cases g
  have F2 : ∀ j, j < x'.npc → arr m.pointSeries m.pointTimes m.pointValues (c' j) m.points (PS' j).n (PS' j).o (PS' j).t (PS' j).v ∧ PS' j = mkP (PS' j).n (PS' j).o (PS' j).t (PS' j).v ∧ m'.parcelBlocks j = (PS' j).bl := fun j hj => by
    obtain ⟨k, y1, y2, y3⟩ := oldk j hj
    subst y3
    rw [ce k y1 y2, (hpa k y1 y2).2.1, (hpa k y1 y2).2.2]
    exact g4 k y1
  have F3 : ∀ q, q < m.points → m'.places q = -2 ∨ m'.places q = -1 ∨ ∃ k, k < x'.npc ∧ m'.places q = nI (m'.parcels k) := fun q hq => by
    rcases j1 q hq with u | u | ⟨k, u1, u2⟩
    · exact Or.inl (p2 q hq u)
    · rw [ph q hq u]
      split
      · exact Or.inl rfl
      · exact Or.inr (Or.inl rfl)
    · rw [pk k q u1 hq (decide_eq_true u2)]
      cases g : mhC PS a k with
      | true => exact Or.inr (Or.inr ⟨cnt k (mhC PS a), by rw [hn]; exact cnt_lt u1 g, by rw [if_pos rfl, (hpa k u1 g).1]; exact u2⟩)
      | false => exact Or.inl (if_neg (by decide))
  have F4b : ∀ k, k < x'.npc → m'.parcels k < m'.parcelNumber := fun j hj => by
    obtain ⟨k, y1, y2, y3⟩ := oldk j hj
    subst y3
    rw [(hpa k y1 y2).1, hp1]
    exact j3 k y1
  have F4c : m'.parcelNumber ≤ 2 ^ 29 := by rw [hp1]; exact j4
  have ser : ∀ j, j < x'.npc → ∀ q, q < m.points → c' j q = true → m.pointSeries q < m.seriesCount := fun j hj q hq e => by
    obtain ⟨k, y1, y2, y3⟩ := oldk j hj
    subst y3
    rw [ce k y1 y2] at e
    exact in_se hc y1 hq e
  have hdq : ∀ q, q < m.points → m'.hdd q = (m.hdd q && !decide (m.pointTimes q < a)) := fun q hq => by
    unfold MS.hdd
    rcases j1 q hq with u | u | ⟨k, u1, u2⟩
    · rw [p2 q hq u, u]; rfl
    · rw [ph q hq u, u]
      by_cases g : m.pointTimes q < a
      · rw [if_pos g, decide_eq_true g]; rfl
      · rw [if_neg g, decide_eq_false g]; rfl
    · have e9 : m.inpc k q = true := decide_eq_true u2
      rw [pk k q u1 hq e9, show decide (m.places q = -1) = false from (inP_pk hc u1 e9).2.2]
      split
      · exact (inP_pk hc u1 e9).2.2
      · rfl
  have H1 : lst m.pointSeries m.pointTimes m.pointValues m'.hdd m.points x'.hsize x'.hO x'.hT x'.hV := by
    obtain ⟨d1, d2, d3, d4⟩ := hhd
    rw [d1, d2, d3, d4]
    have e := lst_td (d := x.hAb a) (dp := fun q => !decide (m.pointTimes q < a)) g1 (fun q hq e => by
      unfold VS.hAb
      rw [(g1.2 q hq e).2.1])
    exact lst_congr e (fun q _ => ⟨rfl, rfl, rfl⟩) hdq
  refine ptR_rf (c' := c') (ke := x1.esC PS') hc hm H1 hsc (ke_re hx1.1 h64 (by rw [hx1.2]; exact ser) (by rw [hx1.2]; exact F1) (by rw [hx1.2]; exact fun j hj => (F2 j hj).1) (by rw [hx1.2]; exact F3) (by rw [hx1.2]; exact F4b) F4c) F1 F2 F3 ?_ F4b F4c ?_ ?_ ?_ ?_ ?_
  · intro i j hi hj e
    obtain ⟨u, u1, u2, u3⟩ := oldk i hi
    obtain ⟨v, v1, v2, v3⟩ := oldk j hj
    subst u3 v3
    rw [(hpa u u1 u2).1, (hpa v v1 v2).1] at e
    rw [j2 u v u1 v1 e]
  · intro i j p r hij hj hp hr e1 e2
    obtain ⟨u, u1, u2, u3⟩ := oldk i (by omega)
    obtain ⟨v, v1, v2, v3⟩ := oldk j hj
    subst u3 v3
    rw [ce u u1 u2] at e1
    rw [ce v v1 v2] at e2
    exact k1 u v p r (cnt_back hij) v1 hp hr e1 e2
  · intro j p r hj hp hr e1 e2
    obtain ⟨u, u1, u2, u3⟩ := oldk j hj
    subst u3
    rw [ce u u1 u2] at e1
    exact k2 u p r u1 hp hr e1 e2
  · intro q hq e
    rw [hdq q hq, Bool.and_eq_true] at e
    rw [hho]
    refine ⟨e.1, fun z => ?_⟩
    rw [decide_eq_true z] at e
    cases e.2
  · intro q hq e
    rcases j1 q hq with u | u | ⟨k, u1, u2⟩
    · rw [pkd_t, p2 q hq u] at e
      exact absurd (by decide) e
    · rw [pkd_t, ph q hq u] at e
      exfalso
      split at e
      · exact e (by decide)
      · exact e (by decide)
    · exact (inP_pk hc u1 (decide_eq_true u2)).1
  · intro q hq e z
    exact e (p2 q hq z)
end RT
