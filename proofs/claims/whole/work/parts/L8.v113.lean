/-! Two parcels of which nothing is seen: both sides. -/
section C0
variable {m m' : MS} {x x1 x' : VS} {PS PS' : Nat → PT} {dn : Nat → Nat} {d : Nat}
theorem cnt_z {f : Nat → Bool} {n i : Nat} (h : cnt n f = 0) (hi : i < n) : f i = false := by
  cases e : f i with
  | false => rfl
  | true => have := cnt_lt hi e; omega
theorem ptR_cm0 (h : ptR m x PS dn) (hd : d + 2 ≤ x.npc) (h64 : x.nsc ≤ 64) (hpn : m.parcelNumber < 2 ^ 29) (hm : m'.points = m.points ∧ m'.pointSeries = m.pointSeries ∧ m'.pointTimes = m.pointTimes ∧ m'.pointValues = m.pointValues ∧ m'.hidden = m.hidden ∧ m'.deletes = m.deletes ∧ m'.seriesCount = m.seriesCount ∧ m'.lasts = m.lasts ∧ m'.horizon = m.horizon ∧ m'.parcelCount = x'.npc) (hpl : ∀ q, q < m.points → m'.places q = if (m.inpc d q || m.inpc (d + 1) q) = true then (if m.seen q = true then nI m.parcelNumber else -2) else m.places q)
    (hpa : ∀ j, j < x'.npc → m'.parcels j = if j < d then m.parcels j else m.parcels (j + 2)) (hpb : ∀ j, j < x'.npc → m'.parcelBlocks j = if j < d then m.parcelBlocks j else m.parcelBlocks (j + 2)) (hp1 : m'.parcelNumber = m.parcelNumber + 1) (hn : x'.npc = x.npc - 2) (hx : x'.nhor = x.nhor ∧ x'.hsize = x.hsize ∧ x'.hO = x.hO ∧ x'.hT = x.hT ∧ x'.hV = x.hV)
    (hx1 : (x1.nsO = x.nsO ∧ x1.nsF = x.nsF ∧ x1.nsT = x.nsT ∧ x1.nsc = x.nsc) ∧ x1.npc = x'.npc) (hsc : x'.nsO = tdT (x1.esC PS') x.nsO x.nsc ∧ x'.nsF = tdT (x1.esC PS') x.nsF x.nsc ∧ x'.nsT = tdT (x1.esC PS') x.nsT x.nsc ∧ x'.nsc = cnt x.nsc (x1.esC PS')) (hPS : ∀ j, j < x'.npc → PS' j = if j < d then PS j else PS (j + 2)) (hz : cnt (PS d).n (x.sePc (PS d)) + cnt (PS (d + 1)).n (x.sePc (PS (d + 1))) = 0) : ptR m' x' PS' (tdT (x1.esC PS') dn x.nsc) := by
  have hc := h
  obtain ⟨⟨g1, g2, g3, g4⟩, ⟨i1, i2, i3, i4⟩, ⟨j1, j2, j3, j4⟩, ⟨k1, k2⟩, ⟨o1, o2, o3⟩, n1⟩ := h
  have yes : ∀ q, q < m.points → (m.inpc d q || m.inpc (d + 1) q) = true → m.pkd q = true ∧ ¬ m.places q = -2 ∧ m.hdd q = false ∧ m.seen q = false := fun q hq e => by
    rw [Bool.or_eq_true] at e
    rcases e with e | e
    · obtain ⟨a1, a2, a3⟩ := inP_pk hc (by omega) e
      exact ⟨a1, a2, a3, by rw [← see_eq hc (show d < x.npc by omega) hq e]; exact cnt_z (by omega) (arP_lt (g4 d (by omega)).1 hq e)⟩
    · obtain ⟨a1, a2, a3⟩ := inP_pk hc (by omega) e
      exact ⟨a1, a2, a3, by rw [← see_eq hc (show d + 1 < x.npc by omega) hq e]; exact cnt_z (by omega) (arP_lt (g4 (d + 1) (by omega)).1 hq e)⟩
  have pl : ∀ q, q < m.points → m'.places q = if (m.inpc d q || m.inpc (d + 1) q) = true then -2 else m.places q := fun q hq => by
    rw [hpl q hq]
    by_cases e : (m.inpc d q || m.inpc (d + 1) q) = true
    · rw [if_pos e, if_pos e, (yes q hq e).2.2.2]
      rfl
    · rw [if_neg e, if_neg e]
  have neg : ∀ k, k < x.npc → ¬ (-2 : Int32) = nI (m.parcels k) := fun k hk z => by
    have p1 := j3 k hk
    exact nI_pos (n := m.parcels k) (by omega) (by rw [← z]; decide)
  have only : ∀ k q, k < x.npc → k ≠ d → k ≠ d + 1 → (m.inpc d q || m.inpc (d + 1) q) = true → m.inpc k q = false := fun k q hk n1 n2 e => by
    cases e2 : m.inpc k q with
    | false => rfl
    | true =>
      rw [Bool.or_eq_true] at e
      rcases e with e | e
      · exact absurd (inP_1 hc hk (by omega) e2 e) n1
      · exact absurd (inP_1 hc hk (by omega) e2 e) n2
  obtain ⟨ix, hix⟩ : ∃ ix : Nat → Nat, ix = fun j => if j < d then j else j + 2 := ⟨_, rfl⟩
  have ixl : ∀ j, j < x'.npc → ix j < x.npc ∧ ix j ≠ d ∧ ix j ≠ d + 1 := fun j hj => by
    rw [hix]
    show (if j < d then j else j + 2) < x.npc ∧ (if j < d then j else j + 2) ≠ d ∧ (if j < d then j else j + 2) ≠ d + 1
    split <;> omega
  have ixm : ∀ i j, i < j → ix i < ix j := fun i j hij => by
    rw [hix]
    show (if i < d then i else i + 2) < (if j < d then j else j + 2)
    split <;> split <;> omega
  have hpa : ∀ j, j < x'.npc → m'.parcels j = m.parcels (ix j) := fun j hj => by
    rw [hpa j hj, hix]
    show _ = m.parcels (if j < d then j else j + 2)
    split <;> rfl
  have hpb : ∀ j, j < x'.npc → m'.parcelBlocks j = m.parcelBlocks (ix j) := fun j hj => by
    rw [hpb j hj, hix]
    show _ = m.parcelBlocks (if j < d then j else j + 2)
    split <;> rfl
  have hPS : ∀ j, j < x'.npc → PS' j = PS (ix j) := fun j hj => by
    rw [hPS j hj, hix]
    show _ = PS (if j < d then j else j + 2)
    split <;> rfl
  have F1 : ∀ j, j < x'.npc → ∀ q, q < m.points → m'.inpc j q = m.inpc (ix j) q := fun j hj q hq => by
    obtain ⟨x1, x2, x3⟩ := ixl j hj
    show decide (m'.places q = nI (m'.parcels j)) = _
    rw [pl q hq, hpa j hj]
    by_cases e : (m.inpc d q || m.inpc (d + 1) q) = true
    · rw [if_pos e, only (ix j) q x1 x2 x3 e]
      exact decide_eq_false (neg _ x1)
    · rw [if_neg e]
      rfl
  have F2 : ∀ j, j < x'.npc → arr m.pointSeries m.pointTimes m.pointValues (m.inpc (ix j)) m.points (PS' j).n (PS' j).o (PS' j).t (PS' j).v ∧ PS' j = mkP (PS' j).n (PS' j).o (PS' j).t (PS' j).v ∧ m'.parcelBlocks j = (PS' j).bl := fun j hj => by
    rw [hPS j hj, hpb j hj]
    exact g4 (ix j) (ixl j hj).1
  have F3 : ∀ q, q < m.points → m'.places q = -2 ∨ m'.places q = -1 ∨ ∃ k, k < x'.npc ∧ m'.places q = nI (m'.parcels k) := fun q hq => by
    rw [pl q hq]
    by_cases e : (m.inpc d q || m.inpc (d + 1) q) = true
    · rw [if_pos e]
      exact Or.inl rfl
    · rw [if_neg e]
      rcases j1 q hq with y | y | ⟨k, hk, y⟩
      · exact Or.inl y
      · exact Or.inr (Or.inl y)
      · refine Or.inr (Or.inr ?_)
        have nd : k ≠ d := fun z => e (by rw [← z, show m.inpc k q = true from decide_eq_true y]; rfl)
        have nd1 : k ≠ d + 1 := fun z => e (by rw [← z, show m.inpc k q = true from decide_eq_true y, Bool.or_true])
        by_cases z : k < d
        · exact ⟨k, by omega, by rw [hpa k (by omega), hix]; show m.places q = nI (m.parcels (if k < d then k else k + 2)); rw [if_pos z]; exact y⟩
        · exact ⟨k - 2, by omega, by rw [hpa (k - 2) (by omega), hix]; show m.places q = nI (m.parcels (if k - 2 < d then k - 2 else k - 2 + 2)); rw [if_neg (by omega), show k - 2 + 2 = k by omega]; exact y⟩
  have F4b : ∀ k, k < x'.npc → m'.parcels k < m'.parcelNumber := fun k hk => by
    rw [hpa k hk, hp1]
    have := j3 (ix k) (ixl k hk).1
    omega
  have F4c : m'.parcelNumber ≤ 2 ^ 29 := by omega
  refine ptR_re (c' := fun j => m.inpc (ix j)) (ke := x1.esC PS') hc hm hx hsc (ke_re (c' := fun j => m.inpc (ix j)) hx1.1 h64 (W := m.seriesCount) (by rw [hx1.2]; exact fun j hj q hq e => in_se hc (ixl j hj).1 hq e) (by rw [hx1.2]; exact F1) (by rw [hx1.2]; exact fun j hj => (F2 j hj).1) (by rw [hx1.2]; exact F3) (by rw [hx1.2]; exact F4b) F4c) F1 F2 F3 ?_ F4b F4c ?_ ?_ ?_ ?_ ?_
  · intro i j hi hj e
    rw [hpa i hi, hpa j hj] at e
    have := j2 _ _ (ixl i hi).1 (ixl j hj).1 e
    rcases Nat.lt_trichotomy i j with z | z | z
    · have := ixm i j z; omega
    · exact z
    · have := ixm j i z; omega
  · intro i j p r hij hj hp hr e1 e2
    exact k1 (ix i) (ix j) p r (ixm i j hij) (ixl j hj).1 hp hr e1 e2
  · intro k p r hk hp hr e1 e2
    exact k2 (ix k) p r (ixl k hk).1 hp hr e1 e2
  · intro q hq
    unfold MS.hdd
    rw [pl q hq]
    by_cases e : (m.inpc d q || m.inpc (d + 1) q) = true
    · rw [if_pos e, show decide (m.places q = -1) = false from (yes q hq e).2.2.1]
      rfl
    · rw [if_neg e]
  · intro q hq e
    by_cases z : (m.inpc d q || m.inpc (d + 1) q) = true
    · exact (yes q hq z).1
    · rw [pkd_t, pl q hq, if_neg z] at e
      exact pkd_t.mpr e
  · intro q hq e
    by_cases z : (m.inpc d q || m.inpc (d + 1) q) = true
    · exact (yes q hq z).2.1
    · rw [pl q hq, if_neg z] at e
      exact e
end C0
