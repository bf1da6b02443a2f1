/-! Two parcels put together: both sides. -/
theorem ke_re {m m' : MS} {x x1 : VS} {PS' : Nat → PT} {c' : Nat → Nat → Bool} {W : Nat} (hn : x1.nsO = x.nsO ∧ x1.nsF = x.nsF ∧ x1.nsT = x.nsT ∧ x1.nsc = x.nsc) (h64 : x.nsc ≤ 64) (hW : ∀ j, j < x1.npc → ∀ q, q < m.points → c' j q = true → m.pointSeries q < W)
    (F1 : ∀ j, j < x1.npc → ∀ q, q < m.points → m'.inpc j q = c' j q) (F2 : ∀ j, j < x1.npc → arr m.pointSeries m.pointTimes m.pointValues (c' j) m.points (PS' j).n (PS' j).o (PS' j).t (PS' j).v) (F3 : ∀ q, q < m.points → m'.places q = -2 ∨ m'.places q = -1 ∨ ∃ k, k < x1.npc ∧ m'.places q = nI (m'.parcels k)) (F4b : ∀ k, k < x1.npc → m'.parcels k < m'.parcelNumber) (F4c : m'.parcelNumber ≤ 2 ^ 29) : ∀ j, j < x.nsc → (x1.esC PS' j = true ↔ ∃ q, q < m.points ∧ m'.pkd q = true ∧ cv1 x.nsO x.nsF x.nsT x.nsc (m.pointSeries q) (m.pointTimes q) = some j) := by
  intro j hj
  obtain ⟨n1, n2, n3, n4⟩ := hn
  have es : ∀ w t, x1.sc1 w t = cv1 x.nsO x.nsF x.nsT x.nsc w t := fun w t => by
    show frst (cvS x1.nsO x1.nsF x1.nsT w t) x1.nsc 0 = _
    rw [n1, n2, n3, n4]
    rfl
  rw [esC_i (by omega)]
  constructor
  · rintro ⟨k, hk, i, hi, e⟩
    obtain ⟨q, q1, q2, q3, q4⟩ := arr_ix (F2 k hk) (hW k hk) hi
    have e2 : m'.places q = nI (m'.parcels k) := of_decide_eq_true ((F1 k hk q q1).trans q2)
    have b := F4b k hk
    refine ⟨q, q1, pkd_t.mpr (by rw [e2]; exact nI_pos (by omega)), ?_⟩
    unfold VS.scI at e
    rw [es, q3, q4] at e
    exact e
  · rintro ⟨q, q1, q2, q3⟩
    rcases F3 q q1 with y | y | ⟨k, hk, y⟩
    · rw [pkd_t, y] at q2; exact absurd (by decide) q2
    · rw [pkd_t, y] at q2; exact absurd (by decide) q2
    · have ck : c' k q = true := (F1 k hk q q1).symm.trans (decide_eq_true y)
      obtain ⟨a1, a2, -⟩ := (F2 k hk).2 q q1 ck
      refine ⟨k, hk, _, arP_lt (F2 k hk) q1 ck, ?_⟩
      unfold VS.scI
      rw [es, a1, a2]
      exact q3
section CO
variable {m m' : MS} {x x1 x' : VS} {PS PS' : Nat → PT} {dn : Nat → Nat} {d nb : Nat} {go O : Nat → Nat} {gt gv T V : Nat → Int64}
/-- the points of parcels d and d + 1 that are seen become parcel d -/
theorem ptR_cmp (h : ptR m x PS dn) (hd : d + 2 ≤ x.npc) (h64 : x.nsc ≤ 64) (hpn : m.parcelNumber < 2 ^ 29) (hm : m'.points = m.points ∧ m'.pointSeries = m.pointSeries ∧ m'.pointTimes = m.pointTimes ∧ m'.pointValues = m.pointValues ∧ m'.hidden = m.hidden ∧ m'.deletes = m.deletes ∧ m'.seriesCount = m.seriesCount ∧ m'.lasts = m.lasts ∧ m'.horizon = m.horizon ∧ m'.parcelCount = x'.npc) (hpl : ∀ q, q < m.points → m'.places q = if (m.inpc d q || m.inpc (d + 1) q) = true then (if m.seen q = true then nI m.parcelNumber else -2) else m.places q)
    (hpa : ∀ j, j < x'.npc → m'.parcels j = if j = d then m.parcelNumber else if j < d then m.parcels j else m.parcels (j + 1)) (hpb : ∀ j, j < x'.npc → m'.parcelBlocks j = if j = d then nb else if j < d then m.parcelBlocks j else m.parcelBlocks (j + 1)) (hp1 : m'.parcelNumber = m.parcelNumber + 1) (hn : x'.npc = x.npc - 1) (hx : x'.nhor = x.nhor ∧ x'.hsize = x.hsize ∧ x'.hO = x.hO ∧ x'.hT = x.hT ∧ x'.hV = x.hV)
    (hx1 : (x1.nsO = x.nsO ∧ x1.nsF = x.nsF ∧ x1.nsT = x.nsT ∧ x1.nsc = x.nsc) ∧ x1.npc = x'.npc) (hsc : x'.nsO = tdT (x1.esC PS') x.nsO x.nsc ∧ x'.nsF = tdT (x1.esC PS') x.nsF x.nsc ∧ x'.nsT = tdT (x1.esC PS') x.nsT x.nsc ∧ x'.nsc = cnt x.nsc (x1.esC PS')) (hPS : ∀ j, j < x'.npc → PS' j = if j = d then mkP (cnt (PS d).n (x.sePc (PS d)) + cnt (PS (d + 1)).n (x.sePc (PS (d + 1)))) O T V else if j < d then PS j else PS (j + 1))
    (ha : gat2 (x.sePc (PS d)) (x.sePc (PS (d + 1))) (PS d) (PS (d + 1)) go gt gv) (l1 : laid go (cnt (PS d).n (x.sePc (PS d)) + cnt (PS (d + 1)).n (x.sePc (PS (d + 1)))) (cnt (PS d).n (x.sePc (PS d)) + cnt (PS (d + 1)).n (x.sePc (PS (d + 1)))) go O) (l2 : laid go (cnt (PS d).n (x.sePc (PS d)) + cnt (PS (d + 1)).n (x.sePc (PS (d + 1)))) (cnt (PS d).n (x.sePc (PS d)) + cnt (PS (d + 1)).n (x.sePc (PS (d + 1)))) gt T) (l3 : laid go (cnt (PS d).n (x.sePc (PS d)) + cnt (PS (d + 1)).n (x.sePc (PS (d + 1)))) (cnt (PS d).n (x.sePc (PS d)) + cnt (PS (d + 1)).n (x.sePc (PS (d + 1)))) gv V) (hb : (mkP (cnt (PS d).n (x.sePc (PS d)) + cnt (PS (d + 1)).n (x.sePc (PS (d + 1)))) O T V).bl = nb) : ptR m' x' PS' (tdT (x1.esC PS') dn x.nsc) := by
  have hc := h
  obtain ⟨⟨g1, g2, g3, g4⟩, ⟨i1, i2, i3, i4⟩, ⟨j1, j2, j3, j4⟩, ⟨k1, k2⟩, ⟨o1, o2, o3⟩, n1⟩ := h
  -- old numbers of a parcel
  have big : ∀ k, k < x.npc → ¬ nI m.parcelNumber = nI (m.parcels k) := fun k hk z => by
    have := j3 k hk
    have := nI_inj (by omega) (by omega) z
    omega
  have neg : ∀ k, k < x.npc → ¬ (-2 : Int32) = nI (m.parcels k) ∧ ¬ (-1 : Int32) = nI (m.parcels k) := fun k hk => by
    have p1 := j3 k hk
    exact ⟨fun z => nI_pos (n := m.parcels k) (by omega) (by rw [← z]; decide), fun z => nI_nm (by omega) z.symm⟩
  have pn0 : ¬ nI m.parcelNumber = -1 ∧ ¬ nI m.parcelNumber = -2 ∧ ¬ nI m.parcelNumber < 0 := by
    have hp := nI_pos (n := m.parcelNumber) (by omega)
    exact ⟨nI_nm (by omega), fun y => hp (by rw [y]; decide), hp⟩
  have yes : ∀ q, q < m.points → (m.inpc d q || m.inpc (d + 1) q) = true → m.pkd q = true ∧ ¬ m.places q = -2 ∧ m.hdd q = false := fun q hq e => by
    rw [Bool.or_eq_true] at e
    rcases e with e | e
    · exact inP_pk hc (by omega) e
    · exact inP_pk hc (by omega) e
  have only : ∀ k q, k < x.npc → k ≠ d → k ≠ d + 1 → (m.inpc d q || m.inpc (d + 1) q) = true → m.inpc k q = false := fun k q hk n1 n2 e => by
    cases e2 : m.inpc k q with
    | false => rfl
    | true =>
      rw [Bool.or_eq_true] at e
      rcases e with e | e
      · exact absurd (inP_1 hc hk (by omega) e2 e) n1
      · exact absurd (inP_1 hc hk (by omega) e2 e) n2
  obtain ⟨c', hc'⟩ : ∃ c' : Nat → Nat → Bool, c' = fun j q => if j = d then ((m.inpc d q || m.inpc (d + 1) q) && m.seen q) else if j < d then m.inpc j q else m.inpc (j + 1) q := ⟨_, rfl⟩
  have F1 : ∀ j, j < x'.npc → ∀ q, q < m.points → m'.inpc j q = c' j q := fun j hj q hq => by
    rw [hc']
    show decide (m'.places q = nI (m'.parcels j)) = (if j = d then ((m.inpc d q || m.inpc (d + 1) q) && m.seen q) else if j < d then m.inpc j q else m.inpc (j + 1) q)
    rw [hpl q hq, hpa j hj]
    by_cases e : (m.inpc d q || m.inpc (d + 1) q) = true
    · rw [if_pos e]
      by_cases z : j = d
      · rw [if_pos z, if_pos z, e, Bool.true_and]
        cases g : m.seen q with
        | true => rw [if_pos rfl, decide_eq_true rfl]
        | false => rw [if_neg (by decide)]; exact decide_eq_false (fun y => pn0.2.1 y.symm)
      · rw [if_neg z, if_neg z]
        by_cases z2 : j < d
        · rw [if_pos z2, if_pos z2, only j q (by omega) z (by omega) e]
          split
          · exact decide_eq_false (big j (by omega))
          · exact decide_eq_false (neg j (by omega)).1
        · rw [if_neg z2, if_neg z2, only (j + 1) q (by omega) (by omega) (by omega) e]
          split
          · exact decide_eq_false (big (j + 1) (by omega))
          · exact decide_eq_false (neg (j + 1) (by omega)).1
    · rw [if_neg e]
      by_cases z : j = d
      · rw [if_pos z, if_pos z, Bool.eq_false_iff.mpr e, Bool.false_and]
        refine decide_eq_false (fun y => ?_)
        rcases j1 q hq with u | u | ⟨k, hk, u⟩
        · rw [u] at y; exact pn0.2.1 y.symm
        · rw [u] at y; exact pn0.1 y.symm
        · rw [u] at y; exact big k hk y.symm
      · rw [if_neg z, if_neg z]
        by_cases z2 : j < d
        · rw [if_pos z2, if_pos z2]; rfl
        · rw [if_neg z2, if_neg z2]; rfl
  have ser : ∀ j, j < x'.npc → ∀ q, q < m.points → c' j q = true → m.pointSeries q < m.seriesCount := fun j hj q hq e => by
    rw [hc'] at e
    have e : (if j = d then ((m.inpc d q || m.inpc (d + 1) q) && m.seen q) else if j < d then m.inpc j q else m.inpc (j + 1) q) = true := e
    split at e
    · rw [Bool.and_eq_true] at e
      exact (o2 q hq (yes q hq e.1).2.1).1
    · split at e
      · exact in_se hc (by omega) hq e
      · exact in_se hc (by omega) hq e
  have F2 : ∀ j, j < x'.npc → arr m.pointSeries m.pointTimes m.pointValues (c' j) m.points (PS' j).n (PS' j).o (PS' j).t (PS' j).v ∧ PS' j = mkP (PS' j).n (PS' j).o (PS' j).t (PS' j).v ∧ m'.parcelBlocks j = (PS' j).bl := fun j hj => by
    rw [hPS j hj, hpb j hj, hc']
    by_cases z : j = d
    · rw [if_pos z, if_pos z]
      refine ⟨?_, rfl, hb.symm⟩
      have a := arr_cp (sn := m.seen) (W := m.seriesCount) (g4 d (by omega)).1 (g4 (d + 1) (by omega)).1 (fun q hq e => in_se hc (by omega) hq e) (fun q hq e => in_se hc (by omega) hq e) (fun q hq e => see_eq hc (by omega) hq e) (fun q hq e => see_eq hc (by omega) hq e) (fun p r hp hr e1 e2 => k1 d (d + 1) p r (by omega) (by omega) hp hr e1 e2) ha l1 l2 l3
      exact arr_congr a (fun q _ => ⟨rfl, rfl, rfl⟩) (fun q _ => if_pos z)
    · rw [if_neg z, if_neg z]
      by_cases z2 : j < d
      · rw [if_pos z2, if_pos z2]
        obtain ⟨e1, e2, e3⟩ := g4 j (by omega)
        exact ⟨arr_congr e1 (fun q _ => ⟨rfl, rfl, rfl⟩) (fun q _ => (if_neg z).trans (if_pos z2)), e2, e3⟩
      · rw [if_neg z2, if_neg z2]
        obtain ⟨e1, e2, e3⟩ := g4 (j + 1) (by omega)
        exact ⟨arr_congr e1 (fun q _ => ⟨rfl, rfl, rfl⟩) (fun q _ => (if_neg z).trans (if_neg z2)), e2, e3⟩
  have F3 : ∀ q, q < m.points → m'.places q = -2 ∨ m'.places q = -1 ∨ ∃ k, k < x'.npc ∧ m'.places q = nI (m'.parcels k) := fun q hq => by
    rw [hpl q hq]
    by_cases e : (m.inpc d q || m.inpc (d + 1) q) = true
    · rw [if_pos e]
      split
      · exact Or.inr (Or.inr ⟨d, by omega, by rw [hpa d (by omega), if_pos rfl]⟩)
      · exact Or.inl rfl
    · rw [if_neg e]
      rcases j1 q hq with y | y | ⟨k, hk, y⟩
      · exact Or.inl y
      · exact Or.inr (Or.inl y)
      · refine Or.inr (Or.inr ?_)
        have nd : k ≠ d := fun z => e (by rw [← z, show m.inpc k q = true from decide_eq_true y]; rfl)
        have nd1 : k ≠ d + 1 := fun z => e (by rw [← z, show m.inpc k q = true from decide_eq_true y, Bool.or_true])
        by_cases z : k < d
        · exact ⟨k, by omega, by rw [hpa k (by omega), if_neg nd, if_pos z]; exact y⟩
        · exact ⟨k - 1, by omega, by rw [hpa (k - 1) (by omega), if_neg (by omega), if_neg (by omega), show k - 1 + 1 = k by omega]; exact y⟩
  have F4b : ∀ k, k < x'.npc → m'.parcels k < m'.parcelNumber := fun k hk => by
    rw [hpa k hk, hp1]
    split
    · omega
    · split
      · have := j3 k (by omega); omega
      · have := j3 (k + 1) (by omega); omega
  have F4c : m'.parcelNumber ≤ 2 ^ 29 := by omega
  have lohi : ∀ j, j < x'.npc → ∀ q, q < m.points → c' j q = true → ∃ k, k < x.npc ∧ m.inpc k q = true ∧ (j < d → k = j) ∧ (j = d → k = d ∨ k = d + 1) ∧ (d < j → k = j + 1) := fun j hj q hq e => by
    rw [hc'] at e
    have e : (if j = d then ((m.inpc d q || m.inpc (d + 1) q) && m.seen q) else if j < d then m.inpc j q else m.inpc (j + 1) q) = true := e
    split at e
    · next z =>
      rw [Bool.and_eq_true, Bool.or_eq_true] at e
      rcases e.1 with e | e
      · exact ⟨d, by omega, e, fun y => by omega, fun _ => Or.inl rfl, fun y => by omega⟩
      · exact ⟨d + 1, by omega, e, fun y => by omega, fun _ => Or.inr rfl, fun y => by omega⟩
    · next z =>
      split at e
      · exact ⟨j, by omega, e, fun _ => rfl, fun y => absurd y z, fun y => by omega⟩
      · exact ⟨j + 1, by omega, e, fun y => by omega, fun y => absurd y z, fun _ => rfl⟩
  refine ptR_re (c' := c') (ke := x1.esC PS') hc hm hx hsc (ke_re hx1.1 h64 (by rw [hx1.2]; exact ser) (by rw [hx1.2]; exact F1) (by rw [hx1.2]; exact fun j hj => (F2 j hj).1) (by rw [hx1.2]; exact F3) (by rw [hx1.2]; exact F4b) F4c) F1 F2 F3 ?_ F4b F4c ?_ ?_ ?_ ?_ ?_
  · intro i j hi hj e
    rw [hpa i hi, hpa j hj] at e
    have s : ∀ a b, a < x.npc → b < x.npc → m.parcels a = m.parcels b → a = b := j2
    have b1 : ∀ k, k < x.npc → m.parcels k ≠ m.parcelNumber := fun k hk => by have := j3 k hk; omega
    split at e
    · split at e
      · omega
      · split at e
        · exact absurd e.symm (b1 j (by omega))
        · exact absurd e.symm (b1 (j + 1) (by omega))
    · split at e
      · split at e
        · exact absurd e (b1 i (by omega))
        · split at e
          · exact s i j (by omega) (by omega) e
          · have := s i (j + 1) (by omega) (by omega) e; omega
      · split at e
        · exact absurd e (b1 (i + 1) (by omega))
        · split at e
          · have := s (i + 1) j (by omega) (by omega) e; omega
          · have := s (i + 1) (j + 1) (by omega) (by omega) e; omega
  · intro i j p r hij hj hp hr e1 e2
    obtain ⟨u, u1, u2, u3, u4, u5⟩ := lohi i (by omega) p hp e1
    obtain ⟨v, v1, v2, v3, v4, v5⟩ := lohi j hj r hr e2
    refine k1 u v p r ?_ v1 hp hr u2 v2
    rcases Nat.lt_trichotomy i d with z | z | z
    · have := u3 z
      rcases Nat.lt_trichotomy j d with y | y | y
      · have := v3 y; omega
      · have := v4 y; omega
      · have := v5 y; omega
    · have := u4 z
      have := v5 (by omega)
      omega
    · have := u5 z
      have := v5 (by omega)
      omega
  · intro k p r hk hp hr e1 e2
    obtain ⟨u, u1, u2, -⟩ := lohi k hk p hp e1
    exact k2 u p r u1 hp hr u2 e2
  · intro q hq
    unfold MS.hdd
    rw [hpl q hq]
    by_cases e : (m.inpc d q || m.inpc (d + 1) q) = true
    · rw [if_pos e, show decide (m.places q = -1) = false from (yes q hq e).2.2]
      split
      · exact decide_eq_false pn0.1
      · rfl
    · rw [if_neg e]
  · intro q hq e
    by_cases z : (m.inpc d q || m.inpc (d + 1) q) = true
    · exact (yes q hq z).1
    · rw [pkd_t, hpl q hq, if_neg z] at e
      exact pkd_t.mpr e
  · intro q hq e
    by_cases z : (m.inpc d q || m.inpc (d + 1) q) = true
    · exact (yes q hq z).2.1
    · rw [hpl q hq, if_neg z] at e
      exact e
end CO
