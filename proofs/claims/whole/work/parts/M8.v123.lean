/-! The reference's retain over the points' relation. -/
theorem ite_iq {α : Type} {p q : Prop} [Decidable p] [Decidable q] {u v : α} (h : p ↔ q) : (if p then u else v) = if q then u else v := by
  by_cases g : p
  · rw [if_pos g, if_pos (h.mp g)]
  · rw [if_neg g, if_neg (fun y => g (h.mpr y))]
section RJ
variable {m z : MS} {x x1 x' : VS} {PS PS' : Nat → PT} {dn : Nat → Nat} {a : Int64} {n j : Nat}
/-- j parcels looked at, from the last one down -/
def rjI (m : MS) (PS : Nat → PT) (a : Int64) (n j : Nat) (z : MS) : Prop :=
  (z.points = m.points ∧ z.pointSeries = m.pointSeries ∧ z.pointTimes = m.pointTimes ∧ z.pointValues = m.pointValues ∧ z.hidden = m.hidden ∧ z.deletes = m.deletes ∧ z.seriesCount = m.seriesCount ∧ z.lasts = m.lasts ∧ z.horizon = a ∧ z.parcelNumber = m.parcelNumber) ∧
  (z.parcelCount = n - j + (cnt n (mhC PS a) - cnt (n - j) (mhC PS a)) ∧ (∀ i, i < n - j → z.parcels i = m.parcels i ∧ z.parcelBlocks i = m.parcelBlocks i) ∧ ∀ k, n - j ≤ k → k < n → mhC PS a k = true → z.parcels (n - j + (cnt k (mhC PS a) - cnt (n - j) (mhC PS a))) = m.parcels k ∧ z.parcelBlocks (n - j + (cnt k (mhC PS a) - cnt (n - j) (mhC PS a))) = m.parcelBlocks k) ∧
  ∀ q, q < m.points → z.places q = if (m.hdd q = true ∧ m.pointTimes q < a) ∨ (∃ k, k < n ∧ n - j ≤ k ∧ m.inpc k q = true ∧ mhC PS a k = false) then -2 else m.places q
theorem rjI_0 (hn : m.parcelCount = n) : rjI m PS a n 0 (m.rt1 a) := by
  refine ⟨⟨rfl, rfl, rfl, rfl, rfl, rfl, rfl, rfl, rfl, rfl⟩, ⟨?_, fun i _ => ⟨rfl, rfl⟩, fun k h1 h2 => absurd h2 (by omega)⟩, fun q hq => ?_⟩
  · show m.parcelCount = _
    rw [hn, Nat.sub_zero, Nat.sub_self]
    rfl
  · show mapT m.points (m.rtH a) m2F m.places q = _
    rw [mapT_v hq]
    have e : m.rtH a q = true ↔ ((m.hdd q = true ∧ m.pointTimes q < a) ∨ (∃ k, k < n ∧ n - 0 ≤ k ∧ m.inpc k q = true ∧ mhC PS a k = false)) := by
      unfold MS.rtH MS.hdd
      rw [Bool.and_eq_true, Bool.not_eq_true', decide_eq_false_iff_not, Int64.not_le]
      constructor
      · exact Or.inl
      · rintro (y | ⟨k, k2, k1, -⟩)
        · exact y
        · exact absurd k2 (by omega)
    by_cases g : m.rtH a q = true
    · rw [if_pos g, if_pos (e.mp g)]
      rfl
    · rw [if_neg g, if_neg (fun y => g (e.mpr y))]
theorem rjI_pl (h : ptR m x PS dn) (hn : x.npc = n) (hj : j < n) (hz : rjI m PS a n j z) {q : Nat} (hq : q < m.points) : z.places q = nI (z.parcels (n - 1 - j)) ↔ m.inpc (n - 1 - j) q = true := by
  obtain ⟨-, ⟨-, p2, -⟩, p3⟩ := hz
  rw [p3 q hq, (p2 (n - 1 - j) (by omega)).1]
  by_cases g : (m.hdd q = true ∧ m.pointTimes q < a) ∨ (∃ k, k < n ∧ n - j ≤ k ∧ m.inpc k q = true ∧ mhC PS a k = false)
  · rw [if_pos g]
    constructor
    · intro y
      have hp := h.2.2.1.2.2.1 (n - 1 - j) (by omega)
      have hp2 := h.2.2.1.2.2.2
      exact absurd (show nI (m.parcels (n - 1 - j)) < 0 by rw [← y]; decide) (nI_pos (by omega))
    · intro y
      have y2 := inP_pk h (by omega) y
      rcases g with ⟨g, -⟩ | ⟨k, k2, k1, k3, -⟩
      · rw [y2.2.2] at g
        cases g
      · have := inP_1 h (by omega) (by omega) y k3
        omega
  · rw [if_neg g]
    exact decide_eq_true_iff.symm
theorem rjI_s (h : ptR m x PS dn) (h0 : (-1 : Int64) < a) (hn : x.npc = n) (hj : j < n) (hz : rjI m PS a n j z) : rjI m PS a n (j + 1) (z.rtK a (n - 1 - j)) := by
  have hpl := fun q hq => rjI_pl h hn hj hz (q := q) hq
  have hz1 := hz
  obtain ⟨⟨b1, b2, b3, b4, b5, b6, b7, b8, b9, b10⟩, ⟨p0, p1, p2⟩, p3⟩ := hz
  obtain ⟨i, rfl⟩ : ∃ i, n = i + 1 + j := ⟨n - 1 - j, by omega⟩
  have e1 : i + 1 + j - 1 - j = i := by omega
  have e2 : i + 1 + j - j = i + 1 := by omega
  have e3 : i + 1 + j - (j + 1) = i := by omega
  unfold rjI
  rw [e1] at hpl ⊢
  rw [e2] at p0 p1 p2 p3
  rw [e3]
  have mh := mh_eq h h0 (k := i) (by omega)
  have al : allB z.points (z.rtA a i) = true ↔ mhC PS a i = false := by
    rw [mh, allB_iff, b1]
    have s : ∀ q, q < m.points → (z.rtA a i q = true ↔ (m.inpc i q = true → m.pointTimes q < a)) := fun q hq => by
      unfold MS.rtA
      rw [b3, Bool.or_eq_true, Bool.not_eq_true', Bool.not_eq_true', decide_eq_false_iff_not, decide_eq_false_iff_not, Int64.not_le, hpl q hq]
      constructor
      · rintro (y | y) w
        · exact absurd w y
        · exact y
      · intro y
        by_cases w : m.inpc i q = true
        · exact Or.inr (y w)
        · exact Or.inl w
    exact ⟨fun y q hq => (s q hq).mp (y q hq), fun y q hq => (s q hq).mpr (y q hq)⟩
  have cs : cnt (i + 1) (mhC PS a) ≤ cnt (i + 1 + j) (mhC PS a) := cnt_mono (by omega)
  cases g : mhC PS a i with
  | false =>
    have ci : cnt (i + 1) (mhC PS a) = cnt i (mhC PS a) := cnt_f g
    have e : z.rtK a i = (z.s_places (mapT z.points (z.rtP i) m2F z.places)).rmS i := by unfold MS.rtK; rw [al.mpr g]; rfl
    rw [e]
    refine ⟨⟨b1, b2, b3, b4, b5, b6, b7, b8, b9, b10⟩, ⟨?_, fun k hk => ?_, fun k k1 k2 k3 => ?_⟩, fun q hq => ?_⟩
    · show z.parcelCount - 1 = _
      rw [p0, ci]
      omega
    · show rmT i z.parcels (z.parcelCount - 1) k = m.parcels k ∧ rmT i z.parcelBlocks (z.parcelCount - 1) k = m.parcelBlocks k
      have := p1 k (by omega)
      unfold rmT
      rw [if_neg (by omega), if_neg (by omega)]
      exact this
    · have hk : i + 1 ≤ k := by
        rcases Nat.lt_or_ge i k with y | y
        · exact y
        · rw [show k = i by omega, g] at k3
          cases k3
      have c1 := cnt_lt k2 k3
      have c2 : cnt i (mhC PS a) ≤ cnt k (mhC PS a) := cnt_mono (by omega)
      have := p2 k hk k2 k3
      rw [ci] at this p0
      show rmT i z.parcels (z.parcelCount - 1) _ = m.parcels k ∧ rmT i z.parcelBlocks (z.parcelCount - 1) _ = m.parcelBlocks k
      unfold rmT
      rw [if_pos (by omega), if_pos (by omega), show i + (cnt k (mhC PS a) - cnt i (mhC PS a)) + 1 = i + 1 + (cnt k (mhC PS a) - cnt i (mhC PS a)) by omega]
      exact this
    · show mapT z.points (z.rtP i) m2F z.places q = _
      rw [b1, mapT_v hq]
      by_cases w : m.inpc i q = true
      · rw [if_pos (show z.rtP i q = true from decide_eq_true ((hpl q hq).mpr w)), if_pos (Or.inr ⟨i, by omega, Nat.le_refl i, w, g⟩)]
        rfl
      · rw [if_neg (show ¬ z.rtP i q = true from fun y => w ((hpl q hq).mp (of_decide_eq_true y))), p3 q hq]
        have ee : ((m.hdd q = true ∧ m.pointTimes q < a) ∨ (∃ k, k < i + 1 + j ∧ i + 1 ≤ k ∧ m.inpc k q = true ∧ mhC PS a k = false)) ↔ ((m.hdd q = true ∧ m.pointTimes q < a) ∨ (∃ k, k < i + 1 + j ∧ i ≤ k ∧ m.inpc k q = true ∧ mhC PS a k = false)) := by
          constructor
          · rintro (y | ⟨k, k2, k1, k3, k4⟩)
            · exact Or.inl y
            · exact Or.inr ⟨k, k2, by omega, k3, k4⟩
          · rintro (y | ⟨k, k2, k1, k3, k4⟩)
            · exact Or.inl y
            · rcases Nat.lt_or_ge i k with v | v
              · exact Or.inr ⟨k, k2, v, k3, k4⟩
              · rw [show k = i by omega] at k3
                exact absurd k3 w
        exact ite_iq ee
  | true =>
    have ci : cnt (i + 1) (mhC PS a) = cnt i (mhC PS a) + 1 := cnt_t g
    have e : z.rtK a i = z := by
      unfold MS.rtK
      cases y : allB z.points (z.rtA a i) with
      | false => rfl
      | true => have := al.mp y; rw [g] at this; cases this
    rw [e]
    refine ⟨⟨b1, b2, b3, b4, b5, b6, b7, b8, b9, b10⟩, ⟨?_, fun k hk => p1 k (by omega), fun k k1 k2 k3 => ?_⟩, fun q hq => ?_⟩
    · rw [p0]
      omega
    · rcases Nat.lt_or_ge i k with v | v
      · have c2 : cnt (i + 1) (mhC PS a) ≤ cnt k (mhC PS a) := cnt_mono (by omega)
        have := p2 k v k2 k3
        rw [show i + (cnt k (mhC PS a) - cnt i (mhC PS a)) = i + 1 + (cnt k (mhC PS a) - cnt (i + 1) (mhC PS a)) by omega]
        exact this
      · rw [show k = i by omega, Nat.sub_self]
        exact p1 i (by omega)
    · rw [p3 q hq]
      have ee : ((m.hdd q = true ∧ m.pointTimes q < a) ∨ (∃ k, k < i + 1 + j ∧ i + 1 ≤ k ∧ m.inpc k q = true ∧ mhC PS a k = false)) ↔ ((m.hdd q = true ∧ m.pointTimes q < a) ∨ (∃ k, k < i + 1 + j ∧ i ≤ k ∧ m.inpc k q = true ∧ mhC PS a k = false)) := by
        constructor
        · rintro (y | ⟨k, k2, k1, k3, k4⟩)
          · exact Or.inl y
          · exact Or.inr ⟨k, k2, by omega, k3, k4⟩
        · rintro (y | ⟨k, k2, k1, k3, k4⟩)
          · exact Or.inl y
          · rcases Nat.lt_or_ge i k with v | v
            · exact Or.inr ⟨k, k2, v, k3, k4⟩
            · rw [show k = i by omega, g] at k4
              cases k4
      exact ite_iq ee
theorem rjI_all (h : ptR m x PS dn) (h0 : (-1 : Int64) < a) (hn : x.npc = n) : ∀ {j : Nat}, j ≤ n → rjI m PS a n j ((m.rt1 a).rtJ a n j)
  | 0, _ => rjI_0 (h.1.2.1.trans hn)
  | _ + 1, hj => rjI_s h h0 hn hj (rjI_all h h0 hn (Nat.le_of_succ_le hj))
/-- the horizon moved -/
theorem rts_pt (h : ptR m x PS dn) (h0 : (-1 : Int64) < a) (h64 : x.nsc ≤ 64) (hho : x'.nhor = a) (hPS : ∀ k, k < x.npc → mhC PS a k = true → PS' (cnt k (mhC PS a)) = PS k) (hn : x'.npc = cnt x.npc (mhC PS a)) (hhd : x'.hsize = cnt x.hsize (x.hAb a) ∧ x'.hO = tdT (x.hAb a) x.hO x.hsize ∧ x'.hT = tdT (x.hAb a) x.hT x.hsize ∧ x'.hV = tdT (x.hAb a) x.hV x.hsize)
    (hx1 : (x1.nsO = x.nsO ∧ x1.nsF = x.nsF ∧ x1.nsT = x.nsT ∧ x1.nsc = x.nsc) ∧ x1.npc = x'.npc) (hsc : x'.nsO = tdT (x1.esC PS') x.nsO x.nsc ∧ x'.nsF = tdT (x1.esC PS') x.nsF x.nsc ∧ x'.nsT = tdT (x1.esC PS') x.nsT x.nsc ∧ x'.nsc = cnt x.nsc (x1.esC PS')) : ptR (m.rtS a) x' PS' (tdT (x1.esC PS') dn x.nsc) := by
  have pc : m.parcelCount = x.npc := h.1.2.1
  obtain ⟨⟨b1, b2, b3, b4, b5, b6, b7, b8, b9, b10⟩, ⟨p0, p1, p2⟩, p3⟩ := rjI_all h h0 rfl (Nat.le_refl x.npc)
  rw [Nat.sub_self] at p0 p1 p2 p3
  have c0 : cnt 0 (mhC PS a) = 0 := rfl
  rw [c0] at p0 p2
  have p : ptR ((m.rt1 a).rtJ a x.npc x.npc) x' PS' (tdT (x1.esC PS') dn x.nsc) := ptR_ret (a := a) h h64 ⟨b1, b2, b3, b4, b5, b6, b7, b8, b9.trans hho.symm, (by rw [p0, hn]; omega)⟩ b9 (fun q hq => by
    rw [p3 q hq]
    refine ite_iq ⟨?_, ?_⟩
    · rintro (y | ⟨k, k2, k1, k3, k4⟩)
      · exact Or.inl y
      · exact Or.inr ⟨k, k2, k3, k4⟩
    · rintro (y | ⟨k, k2, k3, k4⟩)
      · exact Or.inl y
      · exact Or.inr ⟨k, k2, Nat.zero_le k, k3, k4⟩) (fun k hk e => by
    have := p2 k (Nat.zero_le k) hk e
    rw [Nat.zero_add, Nat.sub_zero] at this
    exact ⟨this.1, this.2, hPS k hk e⟩) b10 hn hhd hx1 hsc
  unfold MS.rtS
  rw [pc]
  exact ptR_tidy p ⟨rfl, rfl, rfl, rfl, rfl⟩ ⟨rfl, rfl, rfl, rfl, rfl, rfl, rfl, rfl, rfl⟩ ⟨rfl, rfl, rfl, rfl, rfl, rfl⟩ ⟨rfl, rfl, rfl, rfl⟩
end RJ
