/-! All points met: the same cell by both ways. -/
section LS
variable {se : Nat → Nat} {N : Nat}
theorem fm_s {c : Nat → Bool} {s : Nat} : ∀ W, ((List.range W).flatMap (fun w => (List.range N).filter (arS se c w))).filter (fun q => decide (se q = s)) = if s < W then (List.range N).filter (arS se c s) else []
  | 0 => by rw [if_neg (Nat.not_lt_zero s)]; rfl
  | W + 1 => by
    have ih := fm_s (c := c) (s := s) W
    rw [List.range_succ, List.flatMap_append, List.filter_append, ih, List.flatMap_singleton, List.filter_filter]
    by_cases e : W = s
    · subst e
      rw [if_neg (Nat.lt_irrefl W), if_pos (Nat.lt_succ_self W), List.nil_append]
      refine List.filter_congr (fun q _ => ?_)
      unfold arS
      cases decide (se q = W) with
      | true => rw [Bool.true_and]
      | false => rw [Bool.and_false, Bool.false_and]
    · have e1 : (List.range N).filter (fun q => decide (se q = s) && arS se c W q) = [] := List.filter_eq_nil_iff.mpr (fun q _ z => by
        rw [Bool.and_eq_true, arS_t] at z
        exact e (z.2.2.symm.trans (of_decide_eq_true z.1)))
      rw [e1, List.append_nil]
      by_cases g : s < W
      · rw [if_pos g, if_pos (by omega)]
      · rw [if_neg g, if_neg (by omega)]
theorem fm_S {c : Nat → Bool} {s W : Nat} (hW : ∀ q, q < N → c q = true → se q < W) : ((List.range W).flatMap (fun w => (List.range N).filter (arS se c w))).filter (fun q => decide (se q = s)) = (List.range N).filter (fun q => c q && decide (se q = s)) := by
  rw [fm_s]
  split
  · rfl
  · rename_i g
    refine (List.filter_eq_nil_iff.mpr (fun q hq z => ?_)).symm
    rw [Bool.and_eq_true] at z
    have := hW q (List.mem_range.mp hq) z.1
    have := of_decide_eq_true z.2
    omega
end LS
section AM
variable {m : MS} {x : VS} {PS : Nat → PT} {dn : Nat → Nat}
/-- the class's order of points -/
def lvQ (m : MS) (x : VS) : List Nat := (List.range x.npc).flatMap (fun k => (List.range m.seriesCount).flatMap (fun w => (List.range m.points).filter (arS m.pointSeries (m.inpc k) w))) ++ (List.range m.points).filter m.hdd
theorem pc_U (h : ptR m x PS dn) (s : Nat) : ∀ k, k ≤ x.npc → (List.range k).flatMap (fun k => (List.range m.points).filter (fun q => m.inpc k q && decide (m.pointSeries q = s))) = (List.range m.points).filter (fun q => anyB k (fun k => m.inpc k q) && decide (m.pointSeries q = s))
  | 0, _ => (List.filter_eq_nil_iff.mpr (fun q _ z => by cases z)).symm
  | k + 1, hk => by
    rw [List.range_succ, List.flatMap_append, List.flatMap_singleton, pc_U h s k (by omega), flt_or]
    · refine List.filter_congr (fun q _ => ?_)
      rw [anyB_s, ← Bool.and_or_distrib_right]
    · intro p r hp hr a b
      rw [Bool.and_eq_true] at a b
      obtain ⟨j, j1, j2⟩ := anyB_iff.mp a.1
      exact h.2.2.2.1.1 j k p r j1 (by omega) hp hr j2 b.1
theorem seen_U (h : ptR m x PS dn) {q : Nat} (hq : q < m.points) (hs : m.seen q = true) : (anyB x.npc (fun k => m.inpc k q) || m.hdd q) = true := by
  have np : ¬ m.places q = -2 := fun e => by
    unfold MS.seen at hs
    rw [e, decide_eq_true (by decide)] at hs
    revert hs
    simp
  rcases h.2.2.1.1 q hq with e | e | ⟨k, hk, e⟩
  · exact absurd e np
  · rw [show m.hdd q = true from decide_eq_true e, Bool.or_true]
  · rw [anyB_iff.mpr ⟨k, hk, decide_eq_true e⟩, Bool.true_or]
theorem lv_s (h : ptR m x PS dn) (s : Nat) : (lvQ m x).filter (fun q => decide (m.pointSeries q = s)) = (List.range m.points).filter (fun q => (anyB x.npc (fun k => m.inpc k q) || m.hdd q) && decide (m.pointSeries q = s)) := by
  unfold lvQ
  rw [List.filter_append, List.filter_flatMap]
  have e1 : (List.range x.npc).flatMap (fun k => ((List.range m.seriesCount).flatMap (fun w => (List.range m.points).filter (arS m.pointSeries (m.inpc k) w))).filter (fun q => decide (m.pointSeries q = s))) = (List.range x.npc).flatMap (fun k => (List.range m.points).filter (fun q => m.inpc k q && decide (m.pointSeries q = s))) := by
    have : ∀ L : List Nat, (∀ k, k ∈ L → k < x.npc) → L.flatMap (fun k => ((List.range m.seriesCount).flatMap (fun w => (List.range m.points).filter (arS m.pointSeries (m.inpc k) w))).filter (fun q => decide (m.pointSeries q = s))) = L.flatMap (fun k => (List.range m.points).filter (fun q => m.inpc k q && decide (m.pointSeries q = s))) := by
      intro L
      induction L with
      | nil => intro _; rfl
      | cons a L ih =>
        intro hL
        rw [List.flatMap_cons, List.flatMap_cons, ih (fun k hk => hL k (List.mem_cons_of_mem _ hk)), fm_S (fun q hq hc => in_se h (hL a (List.mem_cons_self ..)) hq hc)]
    exact this _ (fun k hk => List.mem_range.mp hk)
  rw [e1, pc_U h s x.npc (Nat.le_refl _), List.filter_filter]
  rw [show (List.range m.points).filter (fun q => decide (m.pointSeries q = s) && m.hdd q) = (List.range m.points).filter (fun q => m.hdd q && decide (m.pointSeries q = s)) from List.filter_congr (fun q _ => Bool.and_comm _ _), flt_or]
  · refine List.filter_congr (fun q _ => ?_)
    rw [← Bool.and_or_distrib_right]
  · intro p r hp hr a b
    rw [Bool.and_eq_true] at a b
    obtain ⟨j, j1, j2⟩ := anyB_iff.mp a.1
    exact h.2.2.2.1.2 j p r j1 hp hr j2 b.1
/-- both orders give the same -/
theorem lv_f (h : ptR m x PS dn) {wh r0 w0 : Nat} (c : CT) : (lvQ m x).foldl (opQ m wh r0 w0) c = (List.range m.points).foldl (opQ m wh r0 w0) c := by
  rw [fold_flt (g := gQ m) (fun q st hq => opQ_n hq) (lvQ m x), fold_flt (g := gQ m) (fun q st hq => opQ_n hq) (List.range m.points)]
  refine trc (se := m.pointSeries) (fun a b st hab => ctO_c a b st hab) _ _ c (fun s => ?_)
  rw [List.filter_filter, List.filter_filter]
  have e1 : (lvQ m x).filter (fun q => decide (m.pointSeries q = s) && gQ m q) = ((lvQ m x).filter (fun q => decide (m.pointSeries q = s))).filter (gQ m) := by
    rw [List.filter_filter]
    exact List.filter_congr (fun q _ => Bool.and_comm _ _)
  rw [e1, lv_s h s, List.filter_filter]
  refine List.filter_congr (fun q hq => ?_)
  cases g : gQ m q with
  | false => rw [Bool.false_and, Bool.and_false]
  | true =>
    unfold gQ at g
    rw [Bool.and_eq_true] at g
    rw [seen_U h (List.mem_range.mp hq) g.1, Bool.true_and, Bool.true_and, Bool.and_true]
/-- the same cell, but for the keys of an empty one -/
def csE (fn : Int32) (c c' : CS) : Prop := c.1 = c'.1 ∧ c.2.1 = c'.2.1 ∧ ((fn = 4 ∨ fn = 5) → c.1 = true → c.2.2 = c'.2.2)
theorem clO_E {fn : Int32} (hfn : isFn fn) {c c' : CS} {s : Nat} {t v : Int64} {h h' : Bool} {b b' : Int64} (e : csE fn c c') (eh : h = h') (eb : h = true → b = b') : csE fn (clO fn c s t v h b) (clO fn c' s t v h' b') := by
  subst eh
  obtain ⟨i, u, k⟩ := c
  obtain ⟨i', u', k'⟩ := c'
  obtain ⟨e1, e2, e3⟩ := e
  have e1 : i = i' := e1
  have e2 : u = u' := e2
  have e3 : (fn = 4 ∨ fn = 5) → i = true → k = k' := e3
  subst e1
  subst e2
  have ch : fn = 4 ∨ fn = 5 → csE fn (if chsB fn i t k.1 s k.2 = true then (true, v, t, s) else (i, u, k)) (if chsB fn i t k'.1 s k'.2 = true then (true, v, t, s) else (i, u, k')) := fun f => by
    cases i with
    | false => exact ⟨rfl, rfl, fun _ _ => rfl⟩
    | true =>
      have e3 := e3 f rfl
      subst e3
      exact ⟨rfl, rfl, fun _ _ => rfl⟩
  rcases hfn with f | f | f | f | f | f | f
  · subst f; exact ⟨rfl, rfl, fun z => absurd z (by decide)⟩
  · subst f; exact ⟨rfl, rfl, fun z => absurd z (by decide)⟩
  · subst f; exact ⟨rfl, rfl, fun z => absurd z (by decide)⟩
  · subst f; exact ⟨rfl, rfl, fun z => absurd z (by decide)⟩
  · subst f; exact ch (Or.inl rfl)
  · subst f; exact ch (Or.inr rfl)
  · subst f
    cases h with
    | false => exact ⟨rfl, rfl, fun z => absurd z (by decide)⟩
    | true =>
      rw [eb rfl]
      exact ⟨rfl, rfl, fun z => absurd z (by decide)⟩
def ctE (fn : Int32) (W : Nat) (c c' : CT) : Prop := csE fn c.1 c'.1 ∧ ∀ s, s < W → c.2.1 s = c'.2.1 s ∧ (c.2.1 s = true → c.2.2 s = c'.2.2 s)
theorem op_E {wh r0 w0 : Nat} (hfn : isFn (nI wh)) (hse : ∀ q, q < m.points → m.seen q = true → m.pointSeries q < m.seriesCount) : ∀ (L : List Nat) (c c' : CT), (∀ q, q ∈ L → q < m.points) → ctE (nI wh) m.seriesCount c c' → ctE (nI wh) m.seriesCount (L.foldl (opQ m wh r0 w0) c) (L.foldl (opQ m wh r0 w0) c')
  | [], c, c', _, e => e
  | q :: L, c, c', hL, e => by
    refine op_E hfn hse L _ _ (fun p hp => hL p (List.mem_cons_of_mem _ hp)) ?_
    cases g : gQ m q with
    | false => rw [opQ_n g, opQ_n g]; exact e
    | true =>
      rw [opQ_y g, opQ_y g]
      have g' := g
      unfold gQ at g'
      rw [Bool.and_eq_true] at g'
      have hs := hse q (hL q (List.mem_cons_self ..)) g'.1
      obtain ⟨b1, b2⟩ := e.2 _ hs
      refine ⟨?_, fun s h1 => ?_⟩
      · show csE (nI wh) (if wQ m r0 w0 q = true then _ else c.1) (if wQ m r0 w0 q = true then _ else c'.1)
        cases wQ m r0 w0 q with
        | true =>
          rw [if_pos rfl, if_pos rfl]
          exact clO_E hfn e.1 b1 b2
        | false =>
          rw [if_neg (by decide), if_neg (by decide)]
          exact e.1
      · show va_up c.2.1 (m.pointSeries q) true s = va_up c'.2.1 (m.pointSeries q) true s ∧ (va_up c.2.1 (m.pointSeries q) true s = true → va_up c.2.2 (m.pointSeries q) (m.pointValues q) s = va_up c'.2.2 (m.pointSeries q) (m.pointValues q) s)
        by_cases d : s = m.pointSeries q
        · rw [d, va_up_self, va_up_self, va_up_self, va_up_self]
          exact ⟨rfl, fun _ => rfl⟩
        · rw [va_up_ne _ _ d, va_up_ne _ _ d, va_up_ne _ _ d, va_up_ne _ _ d]
          exact e.2 s h1
theorem seen_se (h : ptR m x PS dn) {q : Nat} (hq : q < m.points) (hs : m.seen q = true) : m.pointSeries q < m.seriesCount := by
  have np : ¬ m.places q = -2 := fun e => by
    unfold MS.seen at hs
    rw [e, decide_eq_true (by decide)] at hs
    revert hs
    simp
  exact (h.2.2.2.2.1.2.1 q hq np).1
/-- all points met: the cell of the reference and of the class -/
theorem met_eq {wh r0 w0 t : Nat} (hwh : wh < 7) (h : ptR m x PS dn) (ha : awR m x) (hk : wiK m) (hw0 : w0 < m.windows) (hro : ∀ s, s < m.seriesCount → m.rowOf s = -1 ∨ ∃ r, r < 256 ∧ m.rowOf s = nI r) {tt : TB} (hwi : tt.wi = x.awi) (h0 : csE (nI wh) (tt.cs x.bT x.bO r0 w0) (m.xC t r0 w0)) (hb : ∀ s, s < m.seriesCount → x.ahb s = false ∧ m.hasBefore s = false) : csE (nI wh) ((mmA (nI wh) x PS tt).1.cs (mmA (nI wh) x PS tt).2.2.2.1 (mmA (nI wh) x PS tt).2.2.2.2 r0 w0) (rkC (m.rkG t wh m.points) t r0 w0) := by
  have hfn : isFn (nI wh) := by
    rcases (show wh = 0 ∨ wh = 1 ∨ wh = 2 ∨ wh = 3 ∨ wh = 4 ∨ wh = 5 ∨ wh = 6 by omega) with rfl | rfl | rfl | rfl | rfl | rfl | rfl
    · exact Or.inl rfl
    · exact Or.inr (Or.inl rfl)
    · exact Or.inr (Or.inr (Or.inl rfl))
    · exact Or.inr (Or.inr (Or.inr (Or.inl rfl)))
    · exact Or.inr (Or.inr (Or.inr (Or.inr (Or.inl rfl))))
    · exact Or.inr (Or.inr (Or.inr (Or.inr (Or.inr (Or.inl rfl)))))
    · exact Or.inr (Or.inr (Or.inr (Or.inr (Or.inr (Or.inr rfl)))))
  have h64 := hk.1
  obtain ⟨r1, -⟩ := rk_f (t := t) (r0 := r0) hwh (show w0 < 64 by omega) hk hro (fun q hq hs => seen_se h hq hs) h.2.2.2.2.2 m.points (Nat.le_refl _)
  obtain ⟨k1, k2⟩ := mmK_l hfn h ha hk hw0 (r0 := r0) (M := x.m0 tt) hwi x.npc (Nat.le_refl _)
  obtain ⟨g1, -⟩ := mmH_l hfn h ha hk hw0 (r0 := r0) (M := mmK (nI wh) x PS (x.m0 tt) x.npc) k2 m.points (Nat.le_refl _)
  rw [← h.1.1.1, k1, ← List.foldl_append] at g1
  have g1 : cvT (mmA (nI wh) x PS tt) r0 w0 = (lvQ m x).foldl (opQ m wh r0 w0) (cvT (x.m0 tt) r0 w0) := g1
  rw [lv_f h] at g1
  have e := op_E (r0 := r0) (w0 := w0) hfn (fun q hq hs => seen_se h hq hs) (List.range m.points) (cvT (x.m0 tt) r0 w0) (m.xC t r0 w0, m.hasBefore, m.befores) (fun q hq => List.mem_range.mp hq) ⟨h0, fun s hs => by
    obtain ⟨b1, b2⟩ := hb s hs
    refine ⟨b1.trans b2.symm, fun z => ?_⟩
    have z : x.ahb s = true := z
    rw [b1] at z
    cases z⟩
  rw [← g1] at e
  rw [r1]
  exact e.1
end AM
