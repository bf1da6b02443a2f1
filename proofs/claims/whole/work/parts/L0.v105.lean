/-! How many scars: the two ways. -/
theorem anyB_iff {f : Nat → Bool} : ∀ {n : Nat}, anyB n f = true ↔ ∃ j, j < n ∧ f j = true
  | 0 => ⟨fun h => (by cases h), fun ⟨j, hj, _⟩ => absurd hj (Nat.not_lt_zero j)⟩
  | n + 1 => by
    rw [anyB_s, Bool.or_eq_true, anyB_iff (n := n)]
    constructor
    · rintro (⟨j, h1, h2⟩ | h)
      · exact ⟨j, by omega, h2⟩
      · exact ⟨n, by omega, h⟩
    · rintro ⟨j, h1, h2⟩
      by_cases e : j = n
      · subst e; exact Or.inr h2
      · exact Or.inl ⟨j, by omega, h2⟩
def MS.pkd (x : MS) (q : Nat) : Bool := !decide (x.places q < 0)
theorem pkd_t {x : MS} {q : Nat} : x.pkd q = true ↔ ¬ x.places q < 0 := by
  unfold MS.pkd
  by_cases h : x.places q < 0
  · rw [decide_eq_true h]; exact ⟨fun z => (by cases z), fun z => absurd h z⟩
  · rw [decide_eq_false h]; exact ⟨fun _ => h, fun _ => rfl⟩
section SN
variable {x : MS} {sO : Nat → Nat} {sF sT : Nat → Int64} {n : Nat} {dn : Nat → Nat}
/-- the first packed point that scar j hides -/
def scQ (x : MS) (sO : Nat → Nat) (sF sT : Nat → Int64) (n j q : Nat) : Bool := x.pkd q && decide (cv1 sO sF sT n (x.pointSeries q) (x.pointTimes q) = some j)
def scM (x : MS) (sO : Nat → Nat) (sF sT : Nat → Int64) (n j : Nat) : Nat := (frst (scQ x sO sF sT n j) x.points 0).getD 0
theorem scM_p (h : scE1 x.pkd x.pointSeries x.pointTimes x.points sO sF sT n) {j : Nat} (hj : j < n) : scM x sO sF sT n j < x.points ∧ x.pkd (scM x sO sF sT n j) = true ∧ cv1 sO sF sT n (x.pointSeries (scM x sO sF sT n j)) (x.pointTimes (scM x sO sF sT n j)) = some j ∧ ∀ r, r < scM x sO sF sT n j → scQ x sO sF sT n j r = false := by
  obtain ⟨q, h1, h2, h3⟩ := h j hj
  cases e : frst (scQ x sO sF sT n j) x.points 0 with
  | none =>
    have := frst_none e q (Nat.zero_le _) (by omega)
    unfold scQ at this
    rw [h2, decide_eq_true h3] at this
    cases this
  | some m =>
    obtain ⟨a1, -, a3, a4⟩ := frst_some e
    have em : scM x sO sF sT n j = m := by unfold scM; rw [e]; rfl
    rw [em]
    unfold scQ at a1
    rw [Bool.and_eq_true, decide_eq_true_eq] at a1
    exact ⟨by omega, a1.1, a1.2, fun r hr => a4 r (Nat.zero_le _) hr⟩
theorem sc_cnt (hh : hdR x.hidden x.pkd x.pointSeries x.pointTimes x.points sO sF sT n dn) (hd : dnR n x.deletes dn) (hl : x.deletes ≤ 2 ^ 30) (h : scE1 x.pkd x.pointSeries x.pointTimes x.points sO sF sT n) : cnt x.points x.firstOf = n := by
  have hz : ∀ q j, cv1 sO sF sT n (x.pointSeries q) (x.pointTimes q) = some j → j < n := fun q j e => cv1_lt e
  have inj : ∀ i j, i < n → j < n → nI (dn i) = nI (dn j) → i = j := fun i j hi hj e => by
    have b1 := hd.1 i hi
    have b2 := hd.1 j hj
    have e2 := nI_inj (by omega) (by omega) e
    rcases Nat.lt_trichotomy i j with z | z | z
    · have := hd.2 i j z hj; omega
    · exact z
    · have := hd.2 j i z hi; omega
  rw [← cnt_pick (N := x.points) (m := scM x sO sF sT n) (n := n) (fun j hj => (scM_p h hj).1) (fun i j hi hj e => by
    have a := (scM_p h hi).2.2.1
    have b := (scM_p h hj).2.2.1
    rw [e, b] at a
    injection a with a
    exact a.symm)]
  refine cnt_ext (fun q hq => ?_)
  apply Bool.eq_iff_iff.mpr
  rw [anyB_iff]
  unfold MS.firstOf
  rw [Bool.and_eq_true, allB_iff]
  constructor
  · rintro ⟨h1, h2⟩
    unfold MS.scB at h1
    rw [Bool.and_eq_true] at h1
    have hp : x.pkd q = true := h1.1
    have h0 : 0 ≤ x.hidden q := Int32.not_lt.mp (fun z => by rw [decide_eq_true z] at h1; cases h1.2)
    rw [hh q hq hp, hdV_n hd hl (hz q)] at h0
    cases e : cv1 sO sF sT n (x.pointSeries q) (x.pointTimes q) with
    | none => exact absurd e h0
    | some j =>
      have hj := hz q j e
      obtain ⟨m1, m2, m3, m4⟩ := scM_p h hj
      refine ⟨j, hj, decide_eq_true ?_⟩
      rcases Nat.lt_trichotomy q (scM x sO sF sT n j) with z | z | z
      · have := m4 q z
        unfold scQ at this
        rw [hp, decide_eq_true e] at this
        cases this
      · exact z
      · have := h2 _ z
        unfold MS.scA at this
        rw [Bool.or_eq_true] at this
        rcases this with y | y
        · exact absurd (of_decide_eq_true y) (pkd_t.mp m2)
        · rw [hh _ m1 m2, hh q hq hp, m3, e, decide_eq_true rfl] at y
          cases y
  · rintro ⟨j, hj, e⟩
    have e := of_decide_eq_true e
    obtain ⟨m1, m2, m3, m4⟩ := scM_p h hj
    rw [← e] at m1 m2 m3 m4
    have hv : x.hidden q = nI (dn j) := by rw [hh q m1 m2, m3]; rfl
    have bd := hd.1 j hj
    refine ⟨?_, fun r hr => ?_⟩
    · unfold MS.scB
      rw [hv, decide_eq_false (nI_pos (by omega))]
      rw [show (!decide (x.places q < 0)) = true from m2]
      rfl
    · unfold MS.scA
      cases g : x.pkd r with
      | false =>
        have : x.places r < 0 := Decidable.byContradiction (fun z => by rw [pkd_t.mpr z] at g; cases g)
        rw [decide_eq_true this]
        rfl
      | true =>
        have gr := m4 r hr
        unfold scQ at gr
        rw [g, Bool.true_and] at gr
        have gr := of_decide_eq_false gr
        rw [decide_eq_false (pkd_t.mp g), Bool.false_or, hh r (by omega) g, hv]
        rw [decide_eq_false (fun z => ?_)]
        · rfl
        · cases e3 : cv1 sO sF sT n (x.pointSeries r) (x.pointTimes r) with
          | none =>
            rw [e3] at z
            exact nI_nm (show dn j < 2 ^ 31 by omega) z.symm
          | some i =>
            rw [e3] at z
            exact gr (by rw [e3, inj i j (hz r i e3) hj z])
end SN
