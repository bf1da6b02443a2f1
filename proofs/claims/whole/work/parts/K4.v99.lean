/-! The text of a series laid: the two ways. -/
theorem getD_app (A B : List Int32) (i : Nat) : (A ++ B).getD i 0 = if i < A.length then A.getD i 0 else B.getD (i - A.length) 0 := by
  rw [List.getD_eq_getElem?_getD]
  by_cases h : i < A.length
  · rw [if_pos h, List.getElem?_append_left h, ← List.getD_eq_getElem?_getD]
  · rw [if_neg h, List.getElem?_append_right (by omega), ← List.getD_eq_getElem?_getD]
theorem seg_app (f : Nat → Int32) : ∀ (n a b c : Nat), b - a = n → a ≤ b → b ≤ c → seg f a b ++ seg f b c = seg f a c
  | 0, a, b, c, h, h1, h2 => by
    rw [seg_n f (show b ≤ a by omega), show b = a by omega]
    rfl
  | n + 1, a, b, c, h, h1, h2 => by
    rw [seg_c f (show a < b by omega), seg_c f (show a < c by omega), List.cons_append, seg_app f n (a + 1) b c (by omega) (by omega) h2]
theorem cpG_at (f tx : Nat → Int32) (a b : Nat) : ∀ n j, cpG f tx a b n j = if b ≤ j ∧ j < b + n then f (a + (j - b)) else tx j
  | 0, j => by rw [if_neg (by omega)]; rfl
  | n + 1, j => by
    show va_up (cpG f tx a b n) (b + n) (f (a + n)) j = _
    by_cases e : j = b + n
    · subst e
      rw [va_up_self, if_pos (by omega)]
      congr 1
      omega
    · rw [va_up_ne _ _ e, cpG_at f tx a b n j]
      by_cases h : b ≤ j ∧ j < b + n
      · rw [if_pos h, if_pos (by omega)]
      · rw [if_neg h, if_neg (by omega)]
section LY
variable {x : MS} {S E V : Nat → Nat}
theorem blw_e (hr : labR x.labelCount x.labels S E V) (hq : labQ x.tape x.labelCount S E V) {k j : Nat} (hk : k < x.labelCount) (hj : j < x.labelCount) : x.blw k j = nbfB x.tape S E k j := by
  obtain ⟨s1, s2, -, -, s5, -⟩ := hr j hj
  obtain ⟨t1, t2, -, -, t5, -⟩ := hr k hk
  have a1 := (hq j hj).2.1
  have a2 := (hq k hk).2.1
  have ec : cmpT x.tape (x.labels (4 * j)) (x.labels (4 * j + 1)) (x.labels (4 * k)) (x.labels (4 * k + 1)) = cmpW (seg x.tape (S j) (E j)) (seg x.tape (S k) (E k)) := by
    rw [s1, s2, t1, t2]
    rw [s1, s2] at a1
    rw [t1, t2] at a2
    exact cmpT_W (fun i hi => isWd_a (a1 _ (by omega) (by omega))) (fun i hi => isWd_a (a2 _ (by omega) (by omega))) (by omega) (by omega)
  have eo := (cmpW_o (asc_seg a1) (asc_seg a2) (by rw [seg_len, s1, s2]; omega) (by rw [seg_len, t1, t2]; omega)).1
  show (!decide (0 ≤ cmpT _ _ _ _ _)) = ltL _ _
  rw [ec]
  cases hz : ltL (seg x.tape (S j) (E j)) (seg x.tape (S k) (E k)) with
  | true => rw [decide_eq_false (Int32.not_le.mpr (eo.mpr hz))]; rfl
  | false =>
    rw [decide_eq_true (Int32.not_lt.mp (fun y => by rw [eo.mp y] at hz; cases hz))]
    rfl
theorem whG_e {t : Nat} : ∀ {n : Nat}, (∃ k, k < n ∧ cnt x.labelCount (x.blw k) = t) → cnt x.labelCount (x.blw (x.whG t n)) = t ∧ x.whG t n < n
  | 0, ⟨k, hk, _⟩ => absurd hk (Nat.not_lt_zero k)
  | n + 1, ⟨k, hk, ek⟩ => by
    by_cases h : cnt x.labelCount (x.blw n) = t
    · rw [whG_t h]
      exact ⟨h, Nat.lt_succ_self n⟩
    · rw [whG_f h]
      have e : k ≠ n := fun z => h (by rw [← z]; exact ek)
      have ih := whG_e (n := n) ⟨k, by omega, ek⟩
      exact ⟨ih.1, by omega⟩
theorem lay_w (hr : labR x.labelCount x.labels S E V) (hq : labQ x.tape x.labelCount S E V) {t : Nat} (ht : t < x.labelCount) : x.wh t < x.labelCount ∧ lab (srtL x.tape S E V x.labelCount) t = rawL x.tape S E V (x.wh t) := by
  have hl : ∀ k, k < x.labelCount → E k - S k < 2 ^ 29 := fun k hk => by
    obtain ⟨s1, s2, -, -, s5, -⟩ := hr k hk
    omega
  obtain ⟨h1, h2⟩ := srt_rk hq hl (Nat.le_refl _)
  have ce : ∀ k, k < x.labelCount → cnt x.labelCount (x.blw k) = cnt x.labelCount (nbfB x.tape S E k) := fun k hk => cnt_ext (fun j hj => blw_e hr hq hk hj)
  obtain ⟨k, hk, ek⟩ := h2 t ht
  obtain ⟨w1, w2⟩ := whG_e (x := x) (t := t) (n := x.labelCount) ⟨k, hk, by rw [ce k hk]; exact ek⟩
  have w1 : cnt x.labelCount (x.blw (x.wh t)) = t := w1
  have w2 : x.wh t < x.labelCount := w2
  refine ⟨w2, ?_⟩
  have := h1 (x.wh t) w2
  rw [← ce _ w2, w1] at this
  exact this
theorem lay_j (hr : labR x.labelCount x.labels S E V) (hq : labQ x.tape x.labelCount S E V) : ∀ {t : Nat}, t ≤ x.labelCount → (x.layT t).2 = (joinP (srtL x.tape S E V x.labelCount) t).length ∧ (∀ i, i < (joinP (srtL x.tape S E V x.labelCount) t).length → (x.layT t).1 (304 * x.seriesCount + i) = (joinP (srtL x.tape S E V x.labelCount) t).getD i 0) ∧ ∀ j, (j < 304 * x.seriesCount ∨ 304 * x.seriesCount + (joinP (srtL x.tape S E V x.labelCount) t).length ≤ j) → (x.layT t).1 j = x.texts j
  | 0, _ => ⟨rfl, fun i hi => absurd hi (Nat.not_lt_zero i), fun j _ => rfl⟩
  | t + 1, ht => by
    obtain ⟨h1, h2, h3⟩ := lay_j hr hq (t := t) (by omega)
    obtain ⟨w1, w2⟩ := lay_w hr hq (t := t) (by omega)
    obtain ⟨L, hL⟩ : ∃ L, L = srtL x.tape S E V x.labelCount := ⟨_, rfl⟩
    obtain ⟨J, hJ⟩ : ∃ J, J = joinP L t := ⟨_, rfl⟩
    rw [← hL] at h1 h2 h3 w2 ⊢
    rw [← hJ] at h1 h2 h3
    obtain ⟨w, hw⟩ : ∃ w, w = x.wh t := ⟨_, rfl⟩
    rw [← hw] at w1 w2
    obtain ⟨s1, s2, s3, s4, s5, s6, s7, s8⟩ := hr w w1
    have g61 := (hq w w1).1
    have es : (lab L t).1 ++ (61 :: (lab L t).2) = seg x.tape (S w) (V w) := by
      rw [w2]
      show seg x.tape (S w) (E w) ++ (61 :: seg x.tape (E w + 1) (V w)) = _
      rw [← g61, ← seg_c x.tape (show E w < V w by omega)]
      exact seg_app x.tape _ _ _ _ rfl (by omega) (by omega)
    have em : x.lbL (x.wh t) = V w - S w := by rw [← hw]; show x.labels (4 * w + 2) + x.labels (4 * w + 3) - x.labels (4 * w) = _; omega
    have ej : joinP L (t + 1) = J ++ ((if t = 0 then [] else [44]) ++ seg x.tape (S w) (V w)) := by
      rw [hJ, ← es]
      rfl
    have eS : x.labels (4 * x.wh t) = S w := by rw [← hw]; exact s1.symm
    obtain ⟨tx, n, elt⟩ : ∃ tx n, x.layT t = (tx, n) := ⟨_, _, rfl⟩
    rw [elt] at h1 h2 h3
    have h1 : n = J.length := h1
    have h2 : ∀ i, i < J.length → tx (304 * x.seriesCount + i) = J.getD i 0 := h2
    have h3 : ∀ j, (j < 304 * x.seriesCount ∨ 304 * x.seriesCount + J.length ≤ j) → tx j = x.texts j := h3
    have gs : ∀ i, i < V w - S w → (seg x.tape (S w) (V w)).getD i 0 = x.tape (S w + i) := fun i hi => seg_get x.tape hi
    by_cases h0 : t = 0
    · rw [layT_0 elt h0 em, eS, ej, if_pos h0]
      have el : (J ++ (([] : List Int32) ++ seg x.tape (S w) (V w))).length = J.length + (V w - S w) := by rw [List.length_append, List.nil_append, seg_len]
      rw [el]
      refine ⟨by show n + (V w - S w) = _; omega, fun i hi => ?_, fun j hj => ?_⟩
      · show cpG x.tape tx (S w) (304 * x.seriesCount + n) (V w - S w) (304 * x.seriesCount + i) = _
        rw [cpG_at, getD_app, List.nil_append]
        by_cases g : i < J.length
        · rw [if_neg (by omega), if_pos g]
          exact h2 i g
        · rw [if_pos (by omega), if_neg g, gs _ (by omega)]
          congr 1
          omega
      · show cpG x.tape tx (S w) (304 * x.seriesCount + n) (V w - S w) j = _
        rw [cpG_at, if_neg (by omega)]
        exact h3 j (by omega)
    · rw [layT_1 elt h0 em, eS, ej, if_neg h0]
      have el : (J ++ (([44] : List Int32) ++ seg x.tape (S w) (V w))).length = J.length + (1 + (V w - S w)) := by rw [List.length_append, List.length_append, seg_len]; rfl
      rw [el]
      refine ⟨by show n + 1 + (V w - S w) = _; omega, fun i hi => ?_, fun j hj => ?_⟩
      · show cpG x.tape (va_up tx (304 * x.seriesCount + n) 44) (S w) (304 * x.seriesCount + (n + 1)) (V w - S w) (304 * x.seriesCount + i) = _
        rw [cpG_at, getD_app]
        by_cases g : i < J.length
        · rw [if_neg (by omega), if_pos g, va_up_ne _ _ (by omega)]
          exact h2 i g
        · rw [if_neg g, getD_app]
          by_cases g2 : i = J.length
          · rw [if_neg (by omega), show 304 * x.seriesCount + i = 304 * x.seriesCount + n by omega, va_up_self, if_pos (by rw [List.length_cons]; omega), show i - J.length = 0 by omega]
            rfl
          · rw [if_pos (by omega), if_neg (by rw [List.length_cons, List.length_nil]; omega), gs _ (by rw [List.length_cons, List.length_nil]; omega)]
            congr 1
            rw [List.length_cons, List.length_nil]
            omega
      · show cpG x.tape (va_up tx (304 * x.seriesCount + n) 44) (S w) (304 * x.seriesCount + (n + 1)) (V w - S w) j = _
        rw [cpG_at, if_neg (by omega), va_up_ne _ _ (by omega)]
        exact h3 j (by omega)
end LY
