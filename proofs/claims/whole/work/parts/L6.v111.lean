/-! Parcels made anew: both sides. -/
section RE
variable {m m' : MS} {x x' : VS} {PS PS' : Nat → PT} {dn : Nat → Nat} {c' : Nat → Nat → Bool} {ke : Nat → Bool}
/-- parcels and scars are others; the head is as it was -/
theorem ptR_re (h : ptR m x PS dn) (hm : m'.points = m.points ∧ m'.pointSeries = m.pointSeries ∧ m'.pointTimes = m.pointTimes ∧ m'.pointValues = m.pointValues ∧ m'.hidden = m.hidden ∧ m'.deletes = m.deletes ∧ m'.seriesCount = m.seriesCount ∧ m'.lasts = m.lasts ∧ m'.horizon = m.horizon ∧ m'.parcelCount = x'.npc) (hx : x'.nhor = x.nhor ∧ x'.hsize = x.hsize ∧ x'.hO = x.hO ∧ x'.hT = x.hT ∧ x'.hV = x.hV)
    (hsc : x'.nsO = tdT ke x.nsO x.nsc ∧ x'.nsF = tdT ke x.nsF x.nsc ∧ x'.nsT = tdT ke x.nsT x.nsc ∧ x'.nsc = cnt x.nsc ke) (hke : ∀ j, j < x.nsc → (ke j = true ↔ ∃ q, q < m.points ∧ m'.pkd q = true ∧ cv1 x.nsO x.nsF x.nsT x.nsc (m.pointSeries q) (m.pointTimes q) = some j))
    (F1 : ∀ j, j < x'.npc → ∀ q, q < m.points → m'.inpc j q = c' j q) (F2 : ∀ j, j < x'.npc → arr m.pointSeries m.pointTimes m.pointValues (c' j) m.points (PS' j).n (PS' j).o (PS' j).t (PS' j).v ∧ PS' j = mkP (PS' j).n (PS' j).o (PS' j).t (PS' j).v ∧ m'.parcelBlocks j = (PS' j).bl) (F3 : ∀ q, q < m.points → m'.places q = -2 ∨ m'.places q = -1 ∨ ∃ k, k < x'.npc ∧ m'.places q = nI (m'.parcels k)) (F4 : ∀ i j, i < x'.npc → j < x'.npc → m'.parcels i = m'.parcels j → i = j) (F4b : ∀ k, k < x'.npc → m'.parcels k < m'.parcelNumber) (F4c : m'.parcelNumber ≤ 2 ^ 29)
    (F5 : ∀ i j p r, i < j → j < x'.npc → p < m.points → r < m.points → c' i p = true → c' j r = true → p < r) (F5b : ∀ k p r, k < x'.npc → p < m.points → r < m.points → c' k p = true → m.hdd r = true → p < r) (F6 : ∀ q, q < m.points → m'.hdd q = m.hdd q) (F7 : ∀ q, q < m.points → m'.pkd q = true → m.pkd q = true) (F8 : ∀ q, q < m.points → ¬ m'.places q = -2 → ¬ m.places q = -2) : ptR m' x' PS' (tdT ke dn x.nsc) := by
  obtain ⟨b1, b2, b3, b4, b6, b7, b8, b9, b10, b11⟩ := hm
  obtain ⟨c2, d1, d2, d3, d4⟩ := hx
  obtain ⟨e1, e2, e3, e4⟩ := hsc
  obtain ⟨⟨g1, g2, g3, g4⟩, ⟨i1, i2, i3, i4⟩, ⟨j1, j2, j3, j4⟩, ⟨k1, k2⟩, ⟨l1, l2, l3⟩, n1⟩ := h
  have kk : ∀ q, q < m.points → m'.pkd q = true → ∀ j, cv1 x.nsO x.nsF x.nsT x.nsc (m.pointSeries q) (m.pointTimes q) = some j → ke j = true := fun q hq hp j e => (hke j (cv1_lt e)).mpr ⟨q, hq, hp, e⟩
  refine ⟨⟨?_, b11, ?_, ?_⟩, ⟨?_, ?_, ?_, ?_⟩, ⟨?_, F4, F4b, F4c⟩, ⟨?_, ?_⟩, ⟨?_, ?_, ?_⟩, ?_⟩
  · rw [b1, b2, b3, b4, d1, d2, d3, d4]
    exact lst_congr g1 (fun q _ => ⟨rfl, rfl, rfl⟩) F6
  · rw [b10, c2]; exact g3
  · intro k hk
    obtain ⟨f1, f2, f3⟩ := F2 k hk
    rw [b1, b2, b3, b4]
    exact ⟨arr_congr f1 (fun q _ => ⟨rfl, rfl, rfl⟩) (F1 k hk), f2, f3⟩
  · rw [b1, b2, b3, b6, e1, e2, e3, e4]
    exact hdR_td (pk := m'.pkd) (fun q hq hp => i1 q hq (F7 q hq hp)) kk
  · rw [e4, b7]; exact dnR_td i2
  · rw [b1, b2, b3, e1, e2, e3, e4]
    intro j hj
    obtain ⟨j0, y1, y2, y3⟩ := cnt_at hj
    obtain ⟨q, q1, q2, q3⟩ := (hke j0 y1).mp y2
    refine ⟨q, q1, q2, ?_⟩
    rw [cv1_td (kk q q1 q2), q3, ← y3]
    rfl
  · rw [b7]; exact i4
  · rw [b1]; exact F3
  · intro i j p r hij hj hp1 hr u1 u2
    rw [b1] at hp1 hr
    exact F5 i j p r hij hj hp1 hr ((F1 i (by omega) p hp1).symm.trans u1) ((F1 j hj r hr).symm.trans u2)
  · intro k p r hk hp1 hr u1 u2
    rw [b1] at hp1 hr
    exact F5b k p r hk hp1 hr ((F1 k hk p hp1).symm.trans u1) ((F6 r hr).symm.trans u2)
  · intro q hq e
    rw [b1] at hq
    rw [b10, b3, b6]
    exact l1 q hq ((F6 q hq).symm.trans e)
  · intro q hq e
    rw [b1] at hq
    rw [b8, b9, b2, b3]
    exact l2 q hq (F8 q hq e)
  · intro p r hpr hr u1 u2 u3
    rw [b1] at hr
    rw [b2] at u3
    rw [b3]
    exact l3 p r hpr hr (F8 p (by omega) u1) (F8 r hr u2) u3
  · rw [b1, b3]; exact n1
end RE
/-- a scar's points counted -/
theorem spK_pos {sc : Nat → Option Nat} {g : Nat → Nat} {j : Nat} : ∀ {i : Nat}, 0 < spK sc g i j ↔ 0 < g j ∨ ∃ k, k < i ∧ sc k = some j
  | 0 => ⟨fun h => Or.inl h, fun h => by
      rcases h with h | ⟨k, hk, _⟩
      · exact h
      · exact absurd hk (Nat.not_lt_zero k)⟩
  | i + 1 => by
    have ih := spK_pos (sc := sc) (g := g) (j := j) (i := i)
    cases e : sc i with
    | none =>
      rw [spK_n e, ih]
      constructor
      · rintro (h | ⟨k, h1, h2⟩)
        · exact Or.inl h
        · exact Or.inr ⟨k, by omega, h2⟩
      · rintro (h | ⟨k, h1, h2⟩)
        · exact Or.inl h
        · refine Or.inr ⟨k, ?_, h2⟩
          have : k ≠ i := fun z => by rw [z, e] at h2; cases h2
          omega
    | some q =>
      rw [spK_s e]
      by_cases z : j = q
      · subst z
        rw [va_up_self]
        exact ⟨fun _ => Or.inr ⟨i, by omega, e⟩, fun _ => Nat.succ_pos _⟩
      · rw [va_up_ne _ _ z, ih]
        constructor
        · rintro (h | ⟨k, h1, h2⟩)
          · exact Or.inl h
          · exact Or.inr ⟨k, by omega, h2⟩
        · rintro (h | ⟨k, h1, h2⟩)
          · exact Or.inl h
          · refine Or.inr ⟨k, ?_, h2⟩
            have : k ≠ i := fun y => by rw [y, e] at h2; injection h2 with h2; exact z h2.symm
            omega
theorem scP_pos {x : VS} {PS : Nat → PT} {g : Nat → Nat} {j : Nat} : ∀ {n : Nat}, 0 < x.scP PS g n j ↔ 0 < g j ∨ ∃ k, k < n ∧ ∃ i, i < (PS k).n ∧ x.scI (PS k) i = some j
  | 0 => ⟨fun h => Or.inl h, fun h => by
      rcases h with h | ⟨k, hk, _⟩
      · exact h
      · exact absurd hk (Nat.not_lt_zero k)⟩
  | n + 1 => by
    show 0 < spK (x.scI (PS n)) (x.scP PS g n) (PS n).n j ↔ _
    rw [spK_pos, scP_pos (n := n)]
    constructor
    · rintro ((h | ⟨k, h1, h2⟩) | ⟨i, h1, h2⟩)
      · exact Or.inl h
      · exact Or.inr ⟨k, by omega, h2⟩
      · exact Or.inr ⟨n, by omega, i, h1, h2⟩
    · rintro (h | ⟨k, h1, i, h2, h3⟩)
      · exact Or.inl (Or.inl h)
      · by_cases z : k = n
        · subst z; exact Or.inr ⟨i, h2, h3⟩
        · exact Or.inl (Or.inr ⟨k, by omega, i, h2, h3⟩)
theorem esC_i {x : VS} {PS : Nat → PT} {j : Nat} (hj : j < 64) : x.esC PS j = true ↔ ∃ k, k < x.npc ∧ ∃ i, i < (PS k).n ∧ x.scI (PS k) i = some j := by
  unfold VS.esC
  rw [decide_eq_true_eq]
  unfold VS.esG
  rw [scP_pos, filG_z _ _ hj]
  constructor
  · rintro (h | h)
    · exact absurd h (Nat.lt_irrefl 0)
    · exact h
  · exact Or.inr
/-- places of a parcel and its points -/
theorem arr_ix {se : Nat → Nat} {ti va : Nat → Int64} {c : Nat → Bool} {N n W : Nat} {o : Nat → Nat} {t v : Nat → Int64} (h : arr se ti va c N n o t v) (hW : ∀ q, q < N → c q = true → se q < W) {i : Nat} (hi : i < n) : ∃ q, q < N ∧ c q = true ∧ o i = se q ∧ t i = ti q := by
  rw [h.1, ← arL_all hW] at hi
  have : ∀ w, i < cnt N (arL se c w) → ∃ q, q < N ∧ c q = true ∧ o i = se q ∧ t i = ti q := fun w => by
    induction w with
    | zero => intro z; rw [arL_0] at z; omega
    | succ w ih =>
      intro z
      rw [arL_s] at z
      by_cases e : i < cnt N (arL se c w)
      · exact ih e
      · obtain ⟨q, q1, q2, -, q4, q5, -⟩ := arr_at h (w := w) (j := i - cnt N (arL se c w)) (by omega)
        rw [show cnt N (arL se c w) + (i - cnt N (arL se c w)) = i by omega] at q4 q5
        obtain ⟨y1, y2⟩ := arS_t.mp q2
        exact ⟨q, q1, y1, by rw [q4, y2], q5⟩
  exact this W hi
