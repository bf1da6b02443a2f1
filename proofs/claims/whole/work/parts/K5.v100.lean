/-! The number of a text: the two ways. -/
/-- the texts of the first n series -/
def txR (tx : Nat → Int32) (tl : Nat → Nat) (n : Nat) (SS : Nat → List LB) : Prop := ∀ s, s < n → tl s = (joinT (SS s)).length ∧ (joinT (SS s)).length ≤ 303 ∧ ∀ i, i < (joinT (SS s)).length → tx (304 * s + i) = (joinT (SS s)).getD i 0
theorem fndG_nu {y : MS} {SS : Nat → List LB} {S : List LB} {n : Nat} (hx : ∀ w, w < y.seriesCount → y.txS n w = nuB SS S w) : ∀ j w, w + j ≤ y.seriesCount → (∃ k, k < w + j ∧ y.fndG n j w = nI k ∧ frst (nuB SS S) j w = some k) ∨ (y.fndG n j w = -1 ∧ frst (nuB SS S) j w = none)
  | 0, w, _ => Or.inr ⟨rfl, rfl⟩
  | j + 1, w, h => by
    have e := hx w (by omega)
    cases hb : nuB SS S w with
    | true =>
      rw [hb] at e
      exact Or.inl ⟨w, by omega, fnd_t (Nat.succ_pos j) e, frst_t (Nat.succ_pos j) hb⟩
    | false =>
      rw [hb] at e
      rw [fnd_f (Nat.succ_pos j) e, frst_f (Nat.succ_pos j) hb]
      rcases fndG_nu hx j (w + 1) (by omega) with ⟨k, h1, h2, h3⟩ | ⟨h2, h3⟩
      · exact Or.inl ⟨k, by omega, h2, h3⟩
      · exact Or.inr ⟨h2, h3⟩
theorem fnd_nu {y : MS} {SS : Nat → List LB} {S : List LB} {n : Nat} (hx : ∀ w, w < y.seriesCount → y.txS n w = nuB SS S w) : (∃ k, k < y.seriesCount ∧ y.fnd n = nI k ∧ nuN SS S y.seriesCount = k) ∨ (y.fnd n = -1 ∧ nuN SS S y.seriesCount = y.seriesCount) := by
  rcases fndG_nu hx y.seriesCount 0 (by omega) with ⟨k, h1, h2, h3⟩ | ⟨h2, h3⟩
  · exact Or.inl ⟨k, by omega, h2, nuN_s h3⟩
  · exact Or.inr ⟨h2, nuN_n h3⟩
theorem txS_nu {y : MS} {SS : Nat → List LB} {S : List LB} {w : Nat} (h1 : y.textLengths w = (joinT (SS w)).length) (h2 : ∀ i, i < (joinT (SS w)).length → y.texts (304 * w + i) = (joinT (SS w)).getD i 0) (h3 : ∀ i, i < (joinT S).length → y.texts (304 * y.seriesCount + i) = (joinT S).getD i 0) : y.txS (joinT S).length w = nuB SS S w := by
  unfold MS.txS nuB sameW
  rw [h1]
  by_cases e : (joinT (SS w)).length = (joinT S).length
  · rw [e]
    congr 1
    exact allB_ext (fun i hi => by
      show decide (y.texts (304 * w + i) = y.texts (304 * y.seriesCount + i)) = decide ((joinT (SS w)).getD i 0 = (joinT S).getD i 0)
      rw [h2 i (by omega), h3 i hi])
  · rw [decide_eq_false e]
    rfl
/-- the text laid behind the others -/
theorem lay_nu {x : MS} {SS : Nat → List LB} {S E V : Nat → Nat} (hr : labR x.labelCount x.labels S E V) (hq : labQ x.tape x.labelCount S E V) (ht : txR x.texts x.textLengths x.seriesCount SS) : (x.layT x.labelCount).2 = (joinT (srtL x.tape S E V x.labelCount)).length ∧ txR x.lyS.texts x.lyS.textLengths x.seriesCount SS ∧ (∀ i, i < (joinT (srtL x.tape S E V x.labelCount)).length → x.lyS.texts (304 * x.seriesCount + i) = (joinT (srtL x.tape S E V x.labelCount)).getD i 0) ∧ ((∃ k, k < x.seriesCount ∧ x.lyS.fnd (x.layT x.labelCount).2 = nI k ∧ nuN SS (srtL x.tape S E V x.labelCount) x.seriesCount = k) ∨ (x.lyS.fnd (x.layT x.labelCount).2 = -1 ∧ nuN SS (srtL x.tape S E V x.labelCount) x.seriesCount = x.seriesCount)) := by
  obtain ⟨h1, h2, h3⟩ := lay_j hr hq (Nat.le_refl _)
  have ej : joinT (srtL x.tape S E V x.labelCount) = joinP (srtL x.tape S E V x.labelCount) x.labelCount := by unfold joinT; rw [srtL_len]
  rw [← ej] at h1 h2 h3
  have hk : txR x.lyS.texts x.lyS.textLengths x.seriesCount SS := fun s hs => by
    obtain ⟨a1, a2, a3⟩ := ht s hs
    refine ⟨a1, a2, fun i hi => ?_⟩
    show (x.layT x.labelCount).1 (304 * s + i) = _
    rw [h3 _ (Or.inl (by omega))]
    exact a3 i hi
  refine ⟨h1, hk, h2, ?_⟩
  rw [h1]
  exact fnd_nu (y := x.lyS) (fun w hw => txS_nu (hk w hw).1 (hk w hw).2.2 h2)
