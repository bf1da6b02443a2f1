/-! Points in two orders. -/
section TRC
variable {σ : Type} {op : σ → Nat → σ} {se : Nat → Nat}
theorem trc_mv (h : ∀ a b st, ¬ se a = se b → op (op st a) b = op (op st b) a) {a : Nat} : ∀ (A : List Nat) (st : σ), (∀ b, b ∈ A → ¬ se b = se a) → op (A.foldl op st) a = A.foldl op (op st a)
  | [], st, _ => rfl
  | b :: A, st, hA => by
    show op (A.foldl op (op st b)) a = A.foldl op (op (op st a) b)
    rw [trc_mv h A (op st b) (fun c hc => hA c (List.mem_cons_of_mem _ hc)), h b a st (hA b (List.mem_cons_self ..))]
theorem flt_cons {p : Nat → Bool} {a : Nat} {T : List Nat} : ∀ {L : List Nat}, L.filter p = a :: T → ∃ A B, L = A ++ a :: B ∧ (∀ b, b ∈ A → p b = false) ∧ p a = true ∧ T = B.filter p
  | [], h => by cases h
  | b :: L, h => by
    cases c : p b with
    | true =>
      rw [List.filter_cons_of_pos c, List.cons.injEq] at h
      obtain ⟨h1, h2⟩ := h
      subst h1
      exact ⟨[], L, rfl, (fun b hb => by cases hb), c, h2.symm⟩
    | false =>
      rw [List.filter_cons_of_neg (by rw [c]; decide)] at h
      obtain ⟨A, B, e1, e2, e3, e4⟩ := flt_cons h
      refine ⟨b :: A, B, by rw [e1]; rfl, fun d hd => ?_, e3, e4⟩
      rcases List.mem_cons.mp hd with e | e
      · rw [e]; exact c
      · exact e2 d e
/-- the order of points of other series does not matter -/
theorem trc (h : ∀ a b st, ¬ se a = se b → op (op st a) b = op (op st b) a) : ∀ (L1 L2 : List Nat) (st : σ), (∀ s, L1.filter (fun q => decide (se q = s)) = L2.filter (fun q => decide (se q = s))) → L1.foldl op st = L2.foldl op st
  | [], L2, st, hf => by
    cases L2 with
    | nil => rfl
    | cons b L2 =>
      have := hf (se b)
      rw [List.filter_cons_of_pos (p := fun q => decide (se q = se b)) (decide_eq_true rfl)] at this
      cases this
  | a :: L1, L2, st, hf => by
    have e := hf (se a)
    rw [List.filter_cons_of_pos (p := fun q => decide (se q = se a)) (decide_eq_true rfl)] at e
    obtain ⟨A, B, e1, e2, -, e4⟩ := flt_cons e.symm
    have hA : ∀ b, b ∈ A → ¬ se b = se a := fun b hb => of_decide_eq_false (e2 b hb)
    have fA : A.filter (fun q => decide (se q = se a)) = [] := List.filter_eq_nil_iff.mpr (fun b hb => by rw [e2 b hb]; decide)
    have e5 : (a :: L1).foldl op st = L1.foldl op (op st a) := rfl
    have e6 : L2.foldl op st = (A ++ B).foldl op (op st a) := by
      rw [e1, List.foldl_append, List.foldl_append, ← trc_mv h A st hA]
      rfl
    rw [e5, e6]
    refine trc h L1 (A ++ B) (op st a) (fun s => ?_)
    have es := hf s
    rw [e1, List.filter_append] at es
    rw [List.filter_append]
    by_cases c : se a = s
    · subst c
      rw [fA, List.nil_append, ← e4]
    · rw [List.filter_cons_of_neg (p := fun q => decide (se q = s)) (show ¬ decide (se a = s) = true by rw [decide_eq_false c]; decide), List.filter_cons_of_neg (p := fun q => decide (se q = s)) (show ¬ decide (se a = s) = true by rw [decide_eq_false c]; decide)] at es
      exact es
theorem fold_flt {g : Nat → Bool} (h : ∀ q st, g q = false → op st q = st) : ∀ (L : List Nat) (st : σ), L.foldl op st = (L.filter g).foldl op st
  | [], _ => rfl
  | a :: L, st => by
    show L.foldl op (op st a) = _
    cases c : g a with
    | true => rw [List.filter_cons_of_pos c]; exact fold_flt h L (op st a)
    | false => rw [List.filter_cons_of_neg (by rw [c]; decide), h a st c]; exact fold_flt h L st
end TRC
/-- two kinds of points, one before the other -/
theorem flt_or {A B : Nat → Bool} : ∀ {N : Nat}, (∀ p r, p < N → r < N → A p = true → B r = true → p < r) → (List.range N).filter A ++ (List.range N).filter B = (List.range N).filter (fun q => A q || B q)
  | 0, _ => rfl
  | N + 1, h => by
    have ih := flt_or (A := A) (B := B) (N := N) (fun p r h1 h2 => h p r (by omega) (by omega))
    rw [List.range_succ, List.filter_append, List.filter_append, List.filter_append, ← ih]
    cases a : A N with
    | true =>
      have nB : ∀ r, r < N + 1 → B r = false := fun r hr => by
        cases b : B r with
        | false => rfl
        | true =>
          have := h N r (by omega) hr a b
          omega
      have e1 : (List.range N).filter B = [] := List.filter_eq_nil_iff.mpr (fun r hr => by rw [nB r (by have := List.mem_range.mp hr; omega)]; decide)
      have e2 : [N].filter B = [] := List.filter_cons_of_neg (by rw [nB N (by omega)]; decide)
      have e3 : [N].filter A = [N] := List.filter_cons_of_pos a
      have e4 : [N].filter (fun q => A q || B q) = [N] := List.filter_cons_of_pos (by rw [a]; rfl)
      rw [e1, e2, e3, e4, List.append_nil, List.append_nil, List.append_nil]
    | false =>
      have e3 : [N].filter A = [] := List.filter_cons_of_neg (by rw [a]; decide)
      have e4 : [N].filter (fun q => A q || B q) = [N].filter B := by
        cases b : B N with
        | true => rw [List.filter_cons_of_pos (by rw [b, Bool.or_true]), List.filter_cons_of_pos b]; rfl
        | false => rw [List.filter_cons_of_neg (by rw [a, b]; decide), List.filter_cons_of_neg (by rw [b]; decide)]; rfl
      rw [e3, e4, List.append_nil, List.append_assoc]
