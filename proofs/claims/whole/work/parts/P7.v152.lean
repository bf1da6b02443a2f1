/-! The value of a name in a text of labels: the two ways. -/
theorem gd_r (A B : List Int32) (q : Nat) : (A ++ B).getD (A.length + q) 0 = B.getD q 0 := by
  rw [List.getD_eq_getElem?_getD, List.getD_eq_getElem?_getD, List.getElem?_append_right (Nat.le_add_right _ _), Nat.add_sub_cancel_left]
theorem gd_l (A B : List Int32) {q : Nat} (h : q < A.length) : (A ++ B).getD q 0 = A.getD q 0 := by
  rw [List.getD_eq_getElem?_getD, List.getD_eq_getElem?_getD, List.getElem?_append_left h]
theorem jp_pre (S : List LB) (m : Nat) : ∀ d, ∃ X, joinP S (m + d) = joinP S m ++ X
  | 0 => ⟨[], (List.append_nil _).symm⟩
  | d + 1 => by
    obtain ⟨X, e⟩ := jp_pre S m d
    refine ⟨X ++ ((if m + d = 0 then [] else [44]) ++ ((lab S (m + d)).1 ++ (61 :: (lab S (m + d)).2))), ?_⟩
    rw [← List.append_assoc, ← e]
    rfl
/-- where label i begins -/
def lbO (S : List LB) (i : Nat) : Nat := (joinP S i).length + (if i = 0 then 0 else 1)
theorem jT_at {S : List LB} {i : Nat} (h : i < S.length) : ∃ A X, joinT S = A ++ ((lab S i).1 ++ (61 :: ((lab S i).2 ++ X))) ∧ A.length = lbO S i ∧ ((i + 1 = S.length ∧ X = []) ∨ (i + 1 < S.length ∧ ∃ Y, X = 44 :: Y)) := by
  have e1 : joinP S (i + 1) = joinP S i ++ ((if i = 0 then [] else [44]) ++ ((lab S i).1 ++ (61 :: (lab S i).2))) := rfl
  have la : (joinP S i ++ (if i = 0 then [] else [44])).length = lbO S i := by
    unfold lbO
    rw [List.length_append]
    split <;> rfl
  by_cases c : i + 1 = S.length
  · refine ⟨joinP S i ++ (if i = 0 then [] else [44]), [], ?_, la, Or.inl ⟨c, rfl⟩⟩
    unfold joinT
    rw [← c, e1, List.append_nil, List.append_assoc]
  · obtain ⟨X, eX⟩ := jp_pre S (i + 2) (S.length - (i + 2))
    rw [show i + 2 + (S.length - (i + 2)) = S.length by omega] at eX
    have e2 : joinP S (i + 2) = joinP S (i + 1) ++ ([44] ++ ((lab S (i + 1)).1 ++ (61 :: (lab S (i + 1)).2))) := rfl
    refine ⟨joinP S i ++ (if i = 0 then [] else [44]), 44 :: (((lab S (i + 1)).1 ++ (61 :: (lab S (i + 1)).2)) ++ X), ?_, la, Or.inr ⟨by omega, _, rfl⟩⟩
    unfold joinT
    rw [eX, e2, e1]
    simp only [List.append_assoc, List.cons_append, List.nil_append]
theorem fb_at {t : Nat → Int32} {v : Int32} {en : Nat} : ∀ {m k : Nat}, (∀ q, q < m → ¬ t (k + q) = v) → (k + m = en ∨ (k + m < en ∧ t (k + m) = v)) → fbG t v en (en - k) k = k + m
  | 0, k, _, h => by
    rcases h with h | ⟨_, h⟩
    · exact fbG_e (by omega)
    · exact fbG_y h
  | m + 1, k, h0, h => by
    have hk : k < en := by
      rcases h with h | h
      · omega
      · omega
    rw [fbG_n hk (h0 0 (by omega)), fb_at (m := m) (k := k + 1) (fun q hq => by rw [show k + 1 + q = k + (q + 1) by omega]; exact h0 (q + 1) (by omega)) (by rw [show k + 1 + m = k + (m + 1) by omega]; exact h)]
    omega
/-- no '=' in a name, no ',' in a value -/
def serW (S : List LB) : Prop := ∀ i, i < S.length → (∀ q, q < (lab S i).1.length → ¬ (lab S i).1.getD q 0 = 61) ∧ (∀ q, q < (lab S i).2.length → ¬ (lab S i).2.getD q 0 = 44)
def valF (S : List LB) (M : List Int32) (i : Nat) : List Int32 := match frst (vsB S M) (S.length - i) i with
  | none => []
  | some j => (lab S j).2
/-- a value found -/
def voR (t : Nat → Int32) (W : List Int32) (z : Nat × Nat × Bool) : Prop := z.2.1 = W.length ∧ ∀ q, q < W.length → t (z.1 + q) = W.getD q 0
section VO
variable {S : List LB} {t tp : Nat → Int32} {b nm n : Nat}
theorem voM_s {en k : Nat} {N : List Int32} (he : eqP t en k = k + N.length) (hN : ∀ q, q < N.length → t (k + q) = N.getD q 0) : voM t tp en nm n k = sameW N (seg tp nm (nm + n)) := by
  unfold voM sameW
  rw [he, Nat.add_sub_cancel_left, seg_len, Nat.add_sub_cancel_left]
  by_cases c : N.length = n
  · rw [c]
    congr 1
    refine allB_ext (fun j hj => ?_)
    unfold txEq smB
    rw [hN j (by omega), seg_get tp (by omega)]
  · rw [decide_eq_false c]
    rfl
theorem vo_q (hw : serW S) (hT : ∀ i, i < (joinT S).length → t (b + i) = (joinT S).getD i 0) : ∀ (d i w : Nat), S.length - i = d → i ≤ S.length → d ≤ w → voR t (valF S (seg tp nm (nm + n)) i) (voG t tp (b + (joinT S).length) nm n w (b + lbO S i))
  | 0, i, w, hd, hi, hwd => by
    have ei : i = S.length := by omega
    have e0 : valF S (seg tp nm (nm + n)) i = [] := by
      unfold valF
      rw [show S.length - i = 0 by omega]
      rfl
    have e1 : voG t tp (b + (joinT S).length) nm n w (b + lbO S i) = (0, 0, false) := by
      cases w with
      | zero => rfl
      | succ w =>
        refine if_pos ?_
        rw [ei]
        unfold lbO joinT
        omega
    rw [e0, e1]
    exact ⟨rfl, fun q hq => absurd hq (Nat.not_lt_zero q)⟩
  | d + 1, i, w, hd, hi, hwd => by
    have il : i < S.length := by omega
    obtain ⟨A, X, ej, la, hX⟩ := jT_at il
    obtain ⟨w1, w2⟩ := hw i il
    obtain ⟨N, eN⟩ : ∃ N, N = (lab S i).1 := ⟨_, rfl⟩
    obtain ⟨V, eV⟩ : ∃ V, V = (lab S i).2 := ⟨_, rfl⟩
    rw [← eN] at w1 ej
    rw [← eV] at w2 ej
    have hl : (joinT S).length = lbO S i + N.length + 1 + V.length + X.length := by
      rw [ej, List.length_append, List.length_append, List.length_cons, List.length_append, la]
      omega
    have A1 : ∀ q, q < N.length → t (b + lbO S i + q) = N.getD q 0 := fun q hq => by
      rw [Nat.add_assoc, hT _ (by omega), ej, ← la, gd_r, gd_l _ _ hq]
    have A2 : t (b + lbO S i + N.length) = 61 := by
      rw [Nat.add_assoc, hT _ (by omega), ej, ← la, gd_r]
      have := gd_r N (61 :: (V ++ X)) 0
      rw [Nat.add_zero] at this
      rw [this]
      rfl
    have A3 : ∀ q, t (b + lbO S i + N.length + (1 + q)) = (V ++ X).getD q 0 ∨ ¬ q < (V ++ X).length := fun q => by
      by_cases hq : q < (V ++ X).length
      · refine Or.inl ?_
        rw [List.length_append] at hq
        rw [show b + lbO S i + N.length + (1 + q) = b + (lbO S i + (N.length + (q + 1))) by omega, hT _ (by omega), ej, ← la, gd_r, gd_r]
        rfl
      · exact Or.inr hq
    have A4 : ∀ q, q < V.length → t (b + lbO S i + N.length + (1 + q)) = V.getD q 0 := fun q hq => by
      rw [(A3 q).resolve_right (by rw [List.length_append]; omega), gd_l _ _ hq]
    have E1 : eqP t (b + (joinT S).length) (b + lbO S i) = b + lbO S i + N.length := fb_at (fun q hq => by rw [A1 q hq]; exact w1 q hq) (Or.inr ⟨by omega, A2⟩)
    have E2 : cmP t (b + (joinT S).length) (b + lbO S i + N.length) = b + lbO S i + N.length + (1 + V.length) := by
      refine fb_at (fun q hq => ?_) ?_
      · cases q with
        | zero => rw [Nat.add_zero, A2]; decide
        | succ q =>
          rw [Nat.add_comm q 1, A4 q (by omega)]
          exact w2 q (by omega)
      · rcases hX with ⟨_, e⟩ | ⟨_, Y, e⟩
        · refine Or.inl ?_
          rw [e] at hl
          have hl : (joinT S).length = lbO S i + N.length + 1 + V.length + 0 := hl
          omega
        · refine Or.inr ⟨?_, ?_⟩
          · rw [e, List.length_cons] at hl
            omega
          · rw [(A3 V.length).resolve_right (by rw [e, List.length_append, List.length_cons]; omega), e]
            have := gd_r V (44 :: Y) 0
            rw [Nat.add_zero] at this
            rw [this]
            rfl
    obtain ⟨w', rfl⟩ : ∃ w', w = w' + 1 := ⟨w - 1, by omega⟩
    have vm := voM_s (tp := tp) (nm := nm) (n := n) (N := N) E1 A1
    have hk : ¬ b + (joinT S).length ≤ b + lbO S i := by omega
    cases c : sameW N (seg tp nm (nm + n)) with
    | true =>
      rw [c] at vm
      rw [voG_t (Nat.succ_pos w') hk E1 E2 vm]
      have e0 : valF S (seg tp nm (nm + n)) i = V := by
        unfold valF
        rw [frst_t (by omega) (show vsB S (seg tp nm (nm + n)) i = true by unfold vsB; rw [← eN]; exact c)]
        exact eV.symm
      rw [e0]
      refine ⟨by show b + lbO S i + N.length + (1 + V.length) - (b + lbO S i + N.length) - 1 = V.length; omega, fun q hq => ?_⟩
      show t (b + lbO S i + N.length + 1 + q) = _
      rw [Nat.add_assoc (b + lbO S i + N.length) 1 q]
      exact A4 q hq
    | false =>
      rw [c] at vm
      rw [voG_f (Nat.succ_pos w') hk E1 E2 vm]
      have e0 : valF S (seg tp nm (nm + n)) i = valF S (seg tp nm (nm + n)) (i + 1) := by
        unfold valF
        rw [frst_f (by omega) (show vsB S (seg tp nm (nm + n)) i = false by unfold vsB; rw [← eN]; exact c), show S.length - i - 1 = S.length - (i + 1) by omega]
      have e3 : b + lbO S i + N.length + (1 + V.length) + 1 = b + lbO S (i + 1) := by
        have q1 := jp_len S i
        rw [← eN, ← eV] at q1
        unfold lbO
        rw [if_neg (Nat.succ_ne_zero i)]
        unfold lbO at hk
        split at q1
        · rename_i g
          rw [if_pos g]
          omega
        · rename_i g
          rw [if_neg g]
          omega
      rw [e0, e3]
      exact vo_q hw hT d (i + 1) w' (by omega) (by omega) (by omega)
theorem vo_val {x : MS} {s : Nat} {SS : Nat → List LB} (hx : txR x.texts x.textLengths x.seriesCount SS) (hs : s < x.seriesCount) (hw : serW (SS s)) (hl : (SS s).length ≤ 6) (nm n : Nat) : voR x.texts (valS (SS s) (seg x.tape nm (nm + n))) (x.vo s nm n) := by
  obtain ⟨h1, -, h3⟩ := hx s hs
  have q := vo_q (t := x.texts) (tp := x.tape) (b := 304 * s) (nm := nm) (n := n) hw h3 _ 0 7 rfl (Nat.zero_le _) (by omega)
  unfold MS.vo
  rw [h1]
  exact q
end VO
