/-! All points met by the class, at one cell: in the order of the parcels. -/
def cvT (M : MM) (r0 w0 : Nat) : CT := (M.1.cs M.2.2.2.1 M.2.2.2.2 r0 w0, M.2.1, M.2.2.1)
/-- the class's windows and rows are the reference's -/
def awR (m : MS) (x : VS) : Prop := x.afr = m.windowsFrom ∧ x.awd = m.width ∧ x.awi = m.windows ∧ ∀ s, s < m.seriesCount → x.aro s = m.rowOf s
section CF2
variable {m : MS} {x : VS} {PS : Nat → PT} {dn : Nat → Nat} {wh r0 w0 : Nat}
/-- one point -/
theorem mm_1 (hfn : isFn (nI wh)) (ha : awR m x) (hk : wiK m) (hw0 : w0 < m.windows) {M : MM} (hM : M.1.wi = x.awi) {q : Nat} (hs : m.pointSeries q < m.seriesCount) (ht : ¬ 1099511627775 < m.pointTimes q) (hg : gQ m q = true) : cvT (mm1 (nI wh) x M (m.pointSeries q) (m.pointTimes q) (m.pointValues q)) r0 w0 = opQ m wh r0 w0 (cvT M r0 w0) q ∧ (mm1 (nI wh) x M (m.pointSeries q) (m.pointTimes q) (m.pointValues q)).1.wi = x.awi := by
  obtain ⟨a1, a2, a3, a4⟩ := ha
  have hk' : wOk x.afr x.awd x.awi (m.pointTimes q) := by
    rw [a1, a3]
    exact wOk_of hk.1 hk.2.2.1 (Int64.not_lt.mp ht)
  obtain ⟨c1, c2⟩ := mm1_c (fn := nI wh) (x := x) (M := M) (o := m.pointSeries q) (tm := m.pointTimes q) (v := m.pointValues q) (r0 := r0) (w0 := w0) hfn hM (by rw [a3]; exact hk.1) (by rw [a3]; exact hw0) hk'
  refine ⟨?_, c2⟩
  rw [opQ_y hg]
  unfold cvT
  rw [c1, a1, a2, a3, a4 _ hs]
  refine Prod.ext ?_ rfl
  refine if_cg ?_ rfl rfl
  unfold wQ
  rw [decide_eq_true_eq]
section PC
/-- the points of one series in a parcel -/
theorem mmP_w (hfn : isFn (nI wh)) (h : ptR m x PS dn) (ha : awR m x) (hk : wiK m) (hw0 : w0 < m.windows) {k : Nat} (hkp : k < x.npc) {M : MM} {w : Nat} : ∀ q, q ≤ m.points → (mmP (nI wh) x (PS k) M (cnt m.points (arL m.pointSeries (m.inpc k) w))).1.wi = x.awi → cvT (mmP (nI wh) x (PS k) M (cnt m.points (arL m.pointSeries (m.inpc k) w) + cnt q (arS m.pointSeries (m.inpc k) w))) r0 w0 = ((List.range q).filter (arS m.pointSeries (m.inpc k) w)).foldl (opQ m wh r0 w0) (cvT (mmP (nI wh) x (PS k) M (cnt m.points (arL m.pointSeries (m.inpc k) w))) r0 w0) ∧ (mmP (nI wh) x (PS k) M (cnt m.points (arL m.pointSeries (m.inpc k) w) + cnt q (arS m.pointSeries (m.inpc k) w))).1.wi = x.awi
  | 0, _, hM => ⟨rfl, hM⟩
  | q + 1, hq, hM => by
    obtain ⟨i1, i2⟩ := mmP_w hfn h ha hk hw0 hkp (M := M) (w := w) q (by omega) hM
    rw [List.range_succ, List.filter_append, List.foldl_append, ← i1]
    have ec : cnt (q + 1) (arS m.pointSeries (m.inpc k) w) = cnt q (arS m.pointSeries (m.inpc k) w) + (if arS m.pointSeries (m.inpc k) w q then 1 else 0) := rfl
    rw [ec]
    cases c : arS m.pointSeries (m.inpc k) w q with
    | false =>
      rw [show [q].filter (arS m.pointSeries (m.inpc k) w) = [] from List.filter_cons_of_neg (by rw [c]; decide)]
      exact ⟨rfl, i2⟩
    | true =>
      rw [show [q].filter (arS m.pointSeries (m.inpc k) w) = [q] from List.filter_cons_of_pos c]
      obtain ⟨c1, c2⟩ := arS_t.mp c
      have ep : arP m.pointSeries (m.inpc k) m.points q = cnt m.points (arL m.pointSeries (m.inpc k) w) + cnt q (arS m.pointSeries (m.inpc k) w) := by
        unfold arP
        rw [c2]
      obtain ⟨o1, o2, o3⟩ := (h.1.2.2.2 k hkp).1.2 q (by omega) c1
      have se := see_eq h hkp (show q < m.points by omega) c1
      rw [ep] at o1 o2 o3 se
      have hs := in_se h hkp (show q < m.points by omega) c1
      have ar := ha.2.2.2 _ hs
      show cvT (mmP (nI wh) x (PS k) M (cnt m.points (arL m.pointSeries (m.inpc k) w) + cnt q (arS m.pointSeries (m.inpc k) w) + 1)) r0 w0 = opQ m wh r0 w0 (cvT (mmP (nI wh) x (PS k) M (cnt m.points (arL m.pointSeries (m.inpc k) w) + cnt q (arS m.pointSeries (m.inpc k) w))) r0 w0) q ∧ (mmP (nI wh) x (PS k) M (cnt m.points (arL m.pointSeries (m.inpc k) w) + cnt q (arS m.pointSeries (m.inpc k) w) + 1)).1.wi = x.awi
      cases g : gQ m q with
      | true =>
        have g' := g
        unfold gQ at g'
        rw [Bool.and_eq_true] at g'
        have na : ¬ m.rowOf (m.pointSeries q) = -1 := fun z => by
          have := g'.2
          rw [decide_eq_true z] at this
          cases this
        rw [mmP_t (by rw [o1, ar]; exact na) (by rw [se]; exact g'.1), o1, o2, o3]
        exact mm_1 hfn ha hk hw0 i2 hs (h.2.2.2.2.2 q (by omega)).2 g
      | false =>
        rw [mmP_f (by
          unfold gQ at g
          rw [Bool.and_eq_false_iff] at g
          rcases g with g | g
          · exact Or.inr (by rw [se]; exact g)
          · refine Or.inl ?_
            rw [o1, ar]
            cases d : decide (m.rowOf (m.pointSeries q) = -1) with
            | true => exact of_decide_eq_true d
            | false => rw [d] at g; cases g), opQ_n g]
        exact ⟨rfl, i2⟩
/-- a parcel -/
theorem mmP_l (hfn : isFn (nI wh)) (h : ptR m x PS dn) (ha : awR m x) (hk : wiK m) (hw0 : w0 < m.windows) {k : Nat} (hkp : k < x.npc) {M : MM} (hM : M.1.wi = x.awi) : ∀ w, cvT (mmP (nI wh) x (PS k) M (cnt m.points (arL m.pointSeries (m.inpc k) w))) r0 w0 = ((List.range w).flatMap (fun w => (List.range m.points).filter (arS m.pointSeries (m.inpc k) w))).foldl (opQ m wh r0 w0) (cvT M r0 w0) ∧ (mmP (nI wh) x (PS k) M (cnt m.points (arL m.pointSeries (m.inpc k) w))).1.wi = x.awi
  | 0 => by
    rw [arL_0]
    exact ⟨rfl, hM⟩
  | w + 1 => by
    obtain ⟨i1, i2⟩ := mmP_l hfn h ha hk hw0 hkp hM w
    obtain ⟨j1, j2⟩ := mmP_w hfn h ha hk hw0 (r0 := r0) hkp (M := M) (w := w) m.points (Nat.le_refl _) i2
    rw [List.range_succ, List.flatMap_append, List.foldl_append, ← i1, arL_s]
    refine ⟨?_, j2⟩
    rw [j1, List.flatMap_singleton]
/-- the points of parcel k, series by series -/
theorem mmK_l (hfn : isFn (nI wh)) (h : ptR m x PS dn) (ha : awR m x) (hk : wiK m) (hw0 : w0 < m.windows) {M : MM} (hM : M.1.wi = x.awi) : ∀ k, k ≤ x.npc → cvT (mmK (nI wh) x PS M k) r0 w0 = ((List.range k).flatMap (fun k => (List.range m.seriesCount).flatMap (fun w => (List.range m.points).filter (arS m.pointSeries (m.inpc k) w)))).foldl (opQ m wh r0 w0) (cvT M r0 w0) ∧ (mmK (nI wh) x PS M k).1.wi = x.awi
  | 0, _ => ⟨rfl, hM⟩
  | k + 1, hkn => by
    obtain ⟨i1, i2⟩ := mmK_l hfn h ha hk hw0 hM k (by omega)
    obtain ⟨j1, j2⟩ := mmP_l hfn h ha hk hw0 (r0 := r0) (show k < x.npc by omega) i2 m.seriesCount
    have en : (PS k).n = cnt m.points (arL m.pointSeries (m.inpc k) m.seriesCount) := by
      rw [arL_all (fun q hq hc => in_se h (show k < x.npc by omega) hq hc)]
      exact (h.1.2.2.2 k (by omega)).1.1
    rw [List.range_succ, List.flatMap_append, List.foldl_append, ← i1]
    show cvT (mmP (nI wh) x (PS k) (mmK (nI wh) x PS M k) (PS k).n) r0 w0 = _ ∧ (mmP (nI wh) x (PS k) (mmK (nI wh) x PS M k) (PS k).n).1.wi = x.awi
    rw [en, List.flatMap_singleton]
    exact ⟨j1, j2⟩
/-- the head -/
theorem mmH_l (hfn : isFn (nI wh)) (h : ptR m x PS dn) (ha : awR m x) (hk : wiK m) (hw0 : w0 < m.windows) {M : MM} (hM : M.1.wi = x.awi) : ∀ q, q ≤ m.points → cvT (mmH (nI wh) x M (cnt q m.hdd)) r0 w0 = ((List.range q).filter m.hdd).foldl (opQ m wh r0 w0) (cvT M r0 w0) ∧ (mmH (nI wh) x M (cnt q m.hdd)).1.wi = x.awi
  | 0, _ => ⟨rfl, hM⟩
  | q + 1, hq => by
    obtain ⟨i1, i2⟩ := mmH_l hfn h ha hk hw0 hM q (by omega)
    rw [List.range_succ, List.filter_append, List.foldl_append, ← i1]
    have ec : cnt (q + 1) m.hdd = cnt q m.hdd + (if m.hdd q then 1 else 0) := rfl
    rw [ec]
    cases c : m.hdd q with
    | false =>
      rw [show [q].filter m.hdd = [] from List.filter_cons_of_neg (by rw [c]; decide)]
      exact ⟨rfl, i2⟩
    | true =>
      rw [show [q].filter m.hdd = [q] from List.filter_cons_of_pos c]
      obtain ⟨o1, o2, o3⟩ := h.1.1.2 q (by omega) c
      have sn := hd_seen h (show q < m.points by omega) c
      have np : ¬ m.places q = -2 := by
        have : m.places q = -1 := of_decide_eq_true c
        rw [this]
        decide
      have hs := (h.2.2.2.2.1.2.1 q (by omega) np).1
      have ar := ha.2.2.2 _ hs
      show cvT (mmH (nI wh) x M (cnt q m.hdd + 1)) r0 w0 = opQ m wh r0 w0 (cvT (mmH (nI wh) x M (cnt q m.hdd)) r0 w0) q ∧ (mmH (nI wh) x M (cnt q m.hdd + 1)).1.wi = x.awi
      by_cases na : m.rowOf (m.pointSeries q) = -1
      · have g : gQ m q = false := by unfold gQ; rw [decide_eq_true na, Bool.not_true, Bool.and_false]
        rw [mmH_f (by rw [o1, ar]; exact na), opQ_n g]
        exact ⟨rfl, i2⟩
      · have g : gQ m q = true := by unfold gQ; rw [sn, decide_eq_false na]; rfl
        rw [mmH_t (by rw [o1, ar]; exact na), o1, o2, o3]
        exact mm_1 hfn ha hk hw0 i2 hs (h.2.2.2.2.2 q (by omega)).2 g
end PC
end CF2
