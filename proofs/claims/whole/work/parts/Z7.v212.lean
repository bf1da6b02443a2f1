/-! A compact: what it counts. -/
theorem td_F (m0 : MS) (hs : ∀ q, q < m0.points → m0.pointSeries q < 256) : m0.tidS.shoS.points ≤ m0.points ∧ (∀ q, q < m0.tidS.shoS.points → ¬ m0.tidS.shoS.places q = -2) ∧ (∀ q, q < m0.tidS.shoS.points → m0.tidS.shoS.pointSeries q < 256) ∧ m0.tidS.shoS.deletes = m0.deletes ∧ m0.tidS.shoS.parcelNumber = m0.parcelNumber ∧ cnt m0.tidS.shoS.points m0.tidS.shoS.pkd = cnt m0.points m0.pkd := by
  have f1 : m0.tidS.shoS.points = cnt m0.points m0.stay := rfl
  have f2 : m0.tidS.shoS.places = tdT m0.stay m0.places m0.points := rfl
  have f3 : m0.tidS.shoS.pointSeries = tdT m0.stay m0.pointSeries m0.points := rfl
  refine ⟨by rw [f1]; exact cnt_le _ _, fun q hq => ?_, fun q hq => ?_, rfl, rfl, ?_⟩
  · rw [f1] at hq
    obtain ⟨j, hj, c, ej⟩ := cnt_at hq
    rw [f2, ← ej, tdT_get hj c]
    have c : (!decide (m0.places j = -2)) = true := c
    intro z
    rw [decide_eq_true z] at c
    cases c
  · rw [f1] at hq
    obtain ⟨j, hj, c, ej⟩ := cnt_at hq
    rw [f3, ← ej, tdT_get hj c]
    exact hs j hj
  · rw [f1]
    refine td_cnt (st := m0.stay) (c := m0.pkd) (fun q hq hp => ?_) (fun q hq hst => ?_) m0.points (Nat.le_refl _)
    · have hp : (!decide (m0.places q < 0)) = true := hp
      show (!decide (m0.places q = -2)) = true
      by_cases d : m0.places q = -2
      · rw [d] at hp
        cases hp
      · rw [decide_eq_false d]
        rfl
    · show (!decide (m0.tidS.shoS.places (cnt q m0.stay) < 0)) = !decide (m0.places q < 0)
      rw [f2, tdT_get hq hst]
theorem cm_F (M : MS) (d : Nat) (hs : ∀ q, q < M.points → M.pointSeries q < 256) (h12 : ∀ q, q < M.points → M.is12 d q = true → M.pkd q = true) : (M.cmS d).points ≤ M.points ∧ (∀ q, q < (M.cmS d).points → ¬ (M.cmS d).places q = -2) ∧ (∀ q, q < (M.cmS d).points → (M.cmS d).pointSeries q < 256) ∧ (M.cmS d).deletes = M.deletes ∧ (M.cmS d).parcelNumber = M.parcelNumber + 1 ∧ cnt (M.cmS d).points (M.cmS d).pkd ≤ cnt M.points M.pkd := by
  have core : ∀ m0 : MS, m0.points = M.points → m0.pointSeries = M.pointSeries → m0.deletes = M.deletes → m0.parcelNumber = M.parcelNumber + 1 → m0.places = mapT M.points (M.is12 d) M.flP M.places → (m0.tidS.shoS.points ≤ M.points ∧ (∀ q, q < m0.tidS.shoS.points → ¬ m0.tidS.shoS.places q = -2) ∧ (∀ q, q < m0.tidS.shoS.points → m0.tidS.shoS.pointSeries q < 256) ∧ m0.tidS.shoS.deletes = M.deletes ∧ m0.tidS.shoS.parcelNumber = M.parcelNumber + 1 ∧ cnt m0.tidS.shoS.points m0.tidS.shoS.pkd ≤ cnt M.points M.pkd) := by
    intro m0 e1 e2 e3 e4 e5
    obtain ⟨f1, f2, f3, f4, f5, f6⟩ := td_F m0 (fun q hq => by rw [e2]; exact hs q (by omega))
    refine ⟨by omega, f2, f3, f4.trans e3, f5.trans e4, ?_⟩
    rw [f6, e1]
    refine cnt_le2 (fun q hq hp => ?_)
    by_cases c : M.is12 d q = true
    · exact h12 q hq c
    · have hp : (!decide (m0.places q < 0)) = true := hp
      show (!decide (M.places q < 0)) = true
      rw [e5, mapT_v hq, if_neg c] at hp
      exact hp
  unfold MS.cmS
  cases decide (M.cmN d = 0) with
  | true => exact core ((((M.cm1 d).cm2 d (M.cmN d)).rmS (d + 1)).rmS d) rfl rfl rfl rfl rfl
  | false => exact core (((M.cm1 d).cm2 d (M.cmN d)).rmS (d + 1)) rfl rfl rfl rfl rfl
theorem cm_cod (M : MS) (d : Nat) : (M.cmS d).cod = 0 := by
  unfold MS.cmS
  cases decide (M.cmN d = 0) with
  | true => rfl
  | false => rfl
section CM9
variable {dA : Nat → ClassId} {ad : Nat → Nat} {e0 : Nat} {x : VS} {M : MS} {SS : Nat → List LB} {gq : LI} {rq : va_W} {la : Nat → Nat} {gk : LI} {AT : Nat → Nat → Nat} {T : Nat → TB}
theorem cms_keep (d : Nat) (h : rlT M x ∧ rlS dA SS M x ∧ rlA dA ad e0 M x gq rq la gk AT T) : rlT (M.cmS d) x ∧ rlS dA SS (M.cmS d) x ∧ rlA dA ad e0 (M.cmS d) x gq rq la gk AT T := by
  unfold MS.cmS
  cases decide (M.cmN d = 0) with
  | true => exact h
  | false => exact h
end CM9
theorem is12_pk {m : MS} {x : VS} {PS : Nat → PT} {dn : Nat → Nat} {d : Nat} (h : ptR m x PS dn) (hd : d + 2 ≤ x.npc) : ∀ q, q < m.points → m.is12 d q = true → m.pkd q = true := by
  intro q hq c
  have h4 := h.2.2.1.2.2.2
  have n1 : ¬ nI (m.parcels d) < 0 := nI_nn (by have := h.2.2.1.2.2.1 d (by omega); omega)
  have n2 : ¬ nI (m.parcels (d + 1)) < 0 := nI_nn (by have := h.2.2.1.2.2.1 (d + 1) (by omega); omega)
  unfold MS.is12 at c
  rw [Bool.or_eq_true, decide_eq_true_eq, decide_eq_true_eq] at c
  show (!decide (m.places q < 0)) = true
  rcases c with e | e
  · rw [e, decide_eq_false n1]
    rfl
  · rw [e, decide_eq_false n2]
    rfl
