/-! Rows by the values of names: the order, the two ways. -/
/-- a series as it is read: words -/
def serG (S : List LB) : Prop := serOk S ∧ serW S ∧ ∀ i, i < S.length → asc (lab S i).2
theorem valS_a {S : List LB} (h : serG S) (M : List Int32) : asc (valS S M) ∧ (valS S M).length ≤ 24 := by
  refine ⟨?_, valS_le h.1⟩
  cases e : frst (vsB S M) S.length 0 with
  | none => rw [valS_n e]; exact fun v hv => by cases hv
  | some k =>
    rw [valS_s e]
    have := frst_lt e
    exact h.2.2 k (by omega)
theorem seg_eq {f : Nat → Int32} {a b : Nat} {W : List Int32} (h1 : b - a = W.length) (h2 : ∀ i, i < W.length → f (a + i) = W.getD i 0) : seg f a b = W := by
  apply List.ext_getElem
  · rw [seg_len, h1]
  · intro i h3 h4
    have h5 := seg_get f (a := a) (b := b) (i := i) (by rw [h1]; exact h4)
    rw [List.getD_eq_getElem?_getD, List.getElem?_eq_getElem h3] at h5
    have h6 := h2 i h4
    rw [List.getD_eq_getElem?_getD, List.getElem?_eq_getElem h4] at h6
    exact h5.trans h6
theorem vo_seg {t : Nat → Int32} {W : List Int32} {z : Nat × Nat × Bool} (h : voR t W z) : seg t z.1 (z.1 + z.2.1) = W := seg_eq (by rw [Nat.add_sub_cancel_left]; exact h.1) h.2
section CM
variable {NL : Nat → List Int32} {n : Nat} {S1 S2 S3 : List LB}
theorem ctC_o (h1 : serG S1) (h2 : serG S2) (k : Nat) : (ctC NL S1 S2 k < 0 ↔ ltL (valS S1 (NL k)) (valS S2 (NL k)) = true) ∧ (ctC NL S1 S2 k = 0 ↔ valS S1 (NL k) = valS S2 (NL k)) ∧ (0 < ctC NL S1 S2 k ↔ ltL (valS S2 (NL k)) (valS S1 (NL k)) = true) := by
  obtain ⟨a1, a2⟩ := valS_a h1 (NL k)
  obtain ⟨b1, b2⟩ := valS_a h2 (NL k)
  exact cmpW_o a1 b1 (by omega) (by omega)
theorem ctB_f (h1 : serG S1) (h2 : serG S2) {k : Nat} : ctB NL S1 S2 k = false ↔ valS S1 (NL k) = valS S2 (NL k) := by
  rw [← (ctC_o h1 h2 k).2.1]
  unfold ctB
  rw [Bool.not_eq_false', decide_eq_true_eq]
theorem ctB_t (h1 : serG S1) (h2 : serG S2) {k : Nat} : ctB NL S1 S2 k = true ↔ ¬ valS S1 (NL k) = valS S2 (NL k) := by
  rw [← ctB_f h1 h2, Bool.not_eq_false]
theorem cmT_eq (h1 : serG S1) (h2 : serG S2) : cmT NL n S1 S2 = 0 ↔ ∀ i, i < n → valS S1 (NL i) = valS S2 (NL i) := by
  cases e : frst (ctB NL S1 S2) n 0 with
  | none =>
    rw [cmT_n e]
    refine ⟨fun _ i hi => (ctB_f h1 h2).mp (frst_none e i (Nat.zero_le _) (by omega)), fun _ => rfl⟩
  | some k =>
    obtain ⟨a, -, b, -⟩ := frst_some e
    rw [cmT_s e, (ctC_o h1 h2 k).2.1]
    exact ⟨fun g => absurd g ((ctB_t h1 h2).mp a), fun g => g k (by omega)⟩
/-- the first name whose values differ -/
def ltK (NL : Nat → List Int32) (n : Nat) (S1 S2 : List LB) : Prop := ∃ k, k < n ∧ (∀ i, i < k → valS S1 (NL i) = valS S2 (NL i)) ∧ ltL (valS S1 (NL k)) (valS S2 (NL k)) = true
theorem ltK_f (h1 : serG S1) (h2 : serG S2) {k : Nat} (hk : k < n) (he : ∀ i, i < k → valS S1 (NL i) = valS S2 (NL i)) (hn : ¬ valS S1 (NL k) = valS S2 (NL k)) : frst (ctB NL S1 S2) n 0 = some k := frst_mk hk ((ctB_t h1 h2).mpr hn) (fun i hi => (ctB_f h1 h2).mpr (he i hi))
theorem ltL_ne {L M : List Int32} (h : ltL L M = true) : ¬ L = M := fun e => by rw [e, ltL_irr] at h; cases h
theorem cmT_lt (h1 : serG S1) (h2 : serG S2) : cmT NL n S1 S2 < 0 ↔ ltK NL n S1 S2 := by
  cases e : frst (ctB NL S1 S2) n 0 with
  | none =>
    rw [cmT_n e]
    constructor
    · intro g; exact absurd g (by decide)
    · rintro ⟨k, k1, -, k2⟩
      exact absurd ((ctB_f h1 h2).mp (frst_none e k (Nat.zero_le _) (by omega))) (ltL_ne k2)
  | some k =>
    obtain ⟨a, -, b, c⟩ := frst_some e
    rw [cmT_s e, (ctC_o h1 h2 k).1]
    constructor
    · intro g
      exact ⟨k, by omega, fun i hi => (ctB_f h1 h2).mp (c i (Nat.zero_le _) hi), g⟩
    · rintro ⟨j, j1, j2, j3⟩
      have := ltK_f h1 h2 j1 j2 (ltL_ne j3)
      rw [e] at this
      have : k = j := Option.some.inj this
      rw [this]
      exact j3
theorem cmT_gt (h1 : serG S1) (h2 : serG S2) : 0 < cmT NL n S1 S2 ↔ ltK NL n S2 S1 := by
  cases e : frst (ctB NL S1 S2) n 0 with
  | none =>
    rw [cmT_n e]
    constructor
    · intro g; exact absurd g (by decide)
    · rintro ⟨k, k1, -, k2⟩
      exact absurd ((ctB_f h1 h2).mp (frst_none e k (Nat.zero_le _) (by omega))).symm (ltL_ne k2)
  | some k =>
    obtain ⟨a, -, b, c⟩ := frst_some e
    rw [cmT_s e, (ctC_o h1 h2 k).2.2]
    constructor
    · intro g
      exact ⟨k, by omega, fun i hi => ((ctB_f h1 h2).mp (c i (Nat.zero_le _) hi)).symm, g⟩
    · rintro ⟨j, j1, j2, j3⟩
      have := ltK_f h1 h2 j1 (fun i hi => (j2 i hi).symm) (fun q => ltL_ne j3 q.symm)
      rw [e] at this
      have : k = j := Option.some.inj this
      rw [this]
      exact j3
theorem ltK_tr (h12 : ltK NL n S1 S2) (h23 : ltK NL n S2 S3) : ltK NL n S1 S3 := by
  obtain ⟨a, a1, a2, a3⟩ := h12
  obtain ⟨b, b1, b2, b3⟩ := h23
  by_cases c : a < b
  · exact ⟨a, a1, fun i hi => (a2 i hi).trans (b2 i (by omega)), by rw [← b2 a c]; exact a3⟩
  · by_cases d : b < a
    · exact ⟨b, b1, fun i hi => (a2 i (by omega)).trans (b2 i hi), by rw [a2 b d]; exact b3⟩
    · have e : a = b := by omega
      subst e
      exact ⟨a, a1, fun i hi => (a2 i hi).trans (b2 i hi), ltL_tr a3 b3⟩
theorem ltK_irr : ¬ ltK NL n S1 S1 := fun ⟨_, _, _, h⟩ => ltL_ne h rfl
/-- the same values -/
def eqK (NL : Nat → List Int32) (n : Nat) (S1 S2 : List LB) : Prop := ∀ i, i < n → valS S1 (NL i) = valS S2 (NL i)
theorem ltK_e1 (h : eqK NL n S1 S2) (g : ltK NL n S1 S3) : ltK NL n S2 S3 := by
  obtain ⟨a, a1, a2, a3⟩ := g
  exact ⟨a, a1, fun i hi => (h i (by omega)).symm.trans (a2 i hi), by rw [← h a a1]; exact a3⟩
theorem ltK_e2 (h : eqK NL n S1 S2) (g : ltK NL n S3 S1) : ltK NL n S3 S2 := by
  obtain ⟨a, a1, a2, a3⟩ := g
  exact ⟨a, a1, fun i hi => (a2 i hi).trans (h i (by omega)), by rw [← h a a1]; exact a3⟩
theorem cmT_3 (h1 : serG S1) (h2 : serG S2) : ltK NL n S1 S2 ∨ eqK NL n S1 S2 ∨ ltK NL n S2 S1 := by
  by_cases c : cmT NL n S1 S2 < 0
  · exact Or.inl ((cmT_lt h1 h2).mp c)
  · by_cases d : cmT NL n S1 S2 = 0
    · exact Or.inr (Or.inl ((cmT_eq h1 h2).mp d))
    · exact Or.inr (Or.inr ((cmT_gt h1 h2).mp (Int32.lt_of_le_of_ne (Int32.not_lt.mp c) (fun e => d e.symm))))
end CM
/-- the reference's compare of two series by the names of a table -/
theorem cr_eq {x : MS} {tb nc a b : Nat} {NL : Nat → List Int32} {SS : Nat → List LB} (hn : nmRe x tb nc NL) (hx : txR x.texts x.textLengths x.seriesCount SS) (ha : a < x.seriesCount) (hb : b < x.seriesCount) (ga : serG (SS a)) (gb : serG (SS b)) : (x.cr tb a b).1 = cmT NL nc (SS a) (SS b) := by
  have hc : ∀ k, k < nc → x.cmR tb a b k = ctC NL (SS a) (SS b) k := fun k hk => by
    have va := vo_val hx ha ga.2.1 ga.1.1 (x.nameFroms (6 * tb + k)) (x.nameLengths (6 * tb + k))
    have vb := vo_val hx hb gb.2.1 gb.1.1 (x.nameFroms (6 * tb + k)) (x.nameLengths (6 * tb + k))
    rw [hn.2 k hk] at va vb
    obtain ⟨a1, a2⟩ := valS_a ga (NL k)
    obtain ⟨b1, b2⟩ := valS_a gb (NL k)
    have ea := vo_seg va
    have eb := vo_seg vb
    unfold MS.cmR ctC MS.vn
    rw [cmpT_W (fun i hi => ?_) (fun i hi => ?_) (by rw [va.1]; omega) (by rw [vb.1]; omega), ea, eb]
    · rw [va.1] at hi
      rw [va.2 i hi, List.getD_eq_getElem?_getD, List.getElem?_eq_getElem hi]
      exact a1 _ (List.getElem_mem hi)
    · rw [vb.1] at hi
      rw [vb.2 i hi, List.getD_eq_getElem?_getD, List.getElem?_eq_getElem hi]
      exact b1 _ (List.getElem_mem hi)
  have key : ∀ (w k v : Nat), k + w = nc → (crG (x.cmR tb a b) (x.crL tb b) w k v).1 = match frst (ctB NL (SS a) (SS b)) w k with | none => 0 | some j => ctC NL (SS a) (SS b) j := by
    intro w
    induction w with
    | zero => intro k v _; rfl
    | succ w ih =>
      intro k v hk
      by_cases c : ctC NL (SS a) (SS b) k = 0
      · rw [crG_0 (Nat.succ_pos w) (by rw [hc k (by omega)]; exact c), frst_f (Nat.succ_pos w) (by unfold ctB; rw [decide_eq_true c]; rfl)]
        exact ih (k + 1) _ (by omega)
      · rw [crG_1 (Nat.succ_pos w) (by rw [hc k (by omega)]; exact c), frst_t (Nat.succ_pos w) (by unfold ctB; rw [decide_eq_false c]; rfl)]
        exact hc k (by omega)
  unfold MS.cr
  rw [hn.1]
  exact key nc 0 _ (by omega)
