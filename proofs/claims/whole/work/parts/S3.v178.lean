/-! What a cell of the world is, is told once; a run of the steps. -/
theorem gD_el {α : Type} {l : List α} {i : Nat} {d : α} (h : i < l.length) : l.getD i d = l[i] := by
  rw [List.getD_eq_getElem?_getD, List.getElem?_eq_getElem h]
  rfl
section UN
variable {dA : Nat → ClassId} {ws : va_W} {a : Nat}
theorem isWo_u {L L' : List Int32} (hp : plF ws) (h1 : isWo dA ws a L) (h2 : isWo dA ws a L') : L = L' := by
  obtain ⟨b, f, p1, p2, -, p4⟩ := h1
  obtain ⟨b', f', q1, q2, -, q4⟩ := h2
  have e1 := hp a _ _ p1 q1
  have e1 : b = b' := by
    cases e1
    rfl
  subst e1
  have e2 := Sum.inl.inj (hp b _ _ p2 q2)
  have e3 : L.length = L'.length := congrArg (fun z => z.2.1) e2
  have e4 : f = f' := Sum.inl.inj (congrArg (fun z => z.2.2) e2)
  refine List.ext_getElem e3 (fun i h1 h2 => ?_)
  have a1 := p4 i h1
  have a2 := q4 i h2
  rw [← e4, a1, gD_el h1, gD_el h2] at a2
  exact a2
theorem isSer_u {S S' : List LB} (hp : plF ws) (h1 : isSer dA ws a S) (h2 : isSer dA ws a S') : S = S' := by
  obtain ⟨na, va, no, tx, fn, fv, p1, p2, p3, -, -, p6⟩ := h1
  obtain ⟨na', va', no', tx', fn', fv', q1, q2, q3, -, -, q6⟩ := h2
  have e1 := hp a _ _ p1 q1
  have e9 : na = na' ∧ va = va' := by
    cases e1
    exact ⟨rfl, rfl⟩
  obtain ⟨e7, e8⟩ := e9
  subst e7
  subst e8
  have e2 := Sum.inl.inj (hp na _ _ p2 q2)
  have e3 := Sum.inl.inj (hp va _ _ p3 q3)
  have el : S.length = S'.length := congrArg (fun z => z.2.1) e2
  have e4 : fn = fn' := Sum.inr.inj (Sum.inr.inj (Sum.inr.inj (Sum.inr.inj (congrArg (fun z => z.2.2) e2))))
  have e5 : fv = fv' := Sum.inr.inj (Sum.inr.inj (Sum.inr.inj (Sum.inr.inj (congrArg (fun z => z.2.2) e3))))
  refine List.ext_getElem el (fun i h1 h2 => ?_)
  obtain ⟨p, q, g1, w1, g2, w2⟩ := p6 i h1
  obtain ⟨p', q', g3, w3, g4, w4⟩ := q6 i h2
  rw [← e4, g1] at g3
  rw [← e5, g2] at g4
  have u1 := Option.some.inj g3
  have u2 := Option.some.inj g4
  rw [← u1] at w3
  rw [← u2] at w4
  have x1 := isWo_u hp w1 w3
  have x2 := isWo_u hp w2 w4
  have y1 : lab S i = S[i] := gD_el h1
  have y2 : lab S' i = S'[i] := gD_el h2
  rw [← y1, ← y2]
  exact Prod.ext x1 x2
theorem nmOk_u {nm : Nat → Option Nat} {n : Nat} {NL NL' : Nat → List Int32} (hp : plF ws) (h1 : nmOk dA ws nm n NL) (h2 : nmOk dA ws nm n NL') : ∀ k, k < n → NL' k = NL k := fun k hk => by
  obtain ⟨p, e1, w1, -⟩ := h1 k hk
  obtain ⟨p', e2, w2, -⟩ := h2 k hk
  rw [e1] at e2
  rw [← Option.some.inj e2] at w2
  exact (isWo_u hp w1 w2).symm
theorem rsOk_u {rs : Nat → Option Nat} {n : Nat} {RS RS' : Nat → List LB} (hp : plF ws) (h1 : rsOk dA ws rs n RS) (h2 : rsOk dA ws rs n RS') : ∀ k, k < n → RS' k = RS k := fun k hk => by
  obtain ⟨p, e1, w1, -⟩ := h1 k hk
  obtain ⟨p', e2, w2, -⟩ := h2 k hk
  rw [e1] at e2
  rw [← Option.some.inj e2] at w2
  exact (isSer_u hp w1 w2).symm
theorem tbK_u {wi wi' : Nat} {t : TB} {NL NL' : Nat → List Int32} {RS RS' : Nat → List LB} (hp : plF ws) (h1 : tbK dA ws wi t NL RS) (h2 : tbK dA ws wi' t NL' RS') : (∀ k, k < t.nc → NL' k = NL k) ∧ (0 < t.nc → ∀ q, q < t.rc → RS' q = RS q) :=
  ⟨nmOk_u hp h1.1 h2.1, fun g => rsOk_u hp (h1.2.2.1 g) (h2.2.2.1 g)⟩
theorem tab_u {m : MS} {tb wi wi' : Nat} {t : TB} {NL NL' : Nat → List Int32} {RS RS' SS : Nat → List LB} (hp : plF ws) (h1 : tbK dA ws wi t NL RS) (h2 : tbK dA ws wi' t NL' RS') (ht : tabR m tb t NL RS SS) : tabR m tb t NL' RS' SS := by
  obtain ⟨u1, u2⟩ := tbK_u hp h1 h2
  exact tabR_rs u2 (tabR_nl u1 ht)
end UN
section WL
variable {dA : Nat → ClassId} {ad : Nat → Nat} {r : va_W} {la : Nat → Nat} {PS : Nat → PT} {SS : Nat → List LB} {nw : Nat} {L X : List SP1} {a0 : SKT} {s d : SP1}
theorem gtD_l {i : Nat} (h : i < L.length) : (L ++ X).getD i d = L.getD i d := by
  rw [List.getD_eq_getElem?_getD, List.getD_eq_getElem?_getD, List.getElem?_append_left h]
theorem gtD_e : (L ++ s :: X).getD L.length d = s := by
  rw [List.getD_eq_getElem?_getD, List.getElem?_append_right (Nat.le_refl _), Nat.sub_self]
  rfl
theorem wkR_app : ∀ {i : Nat} {a : SKT}, i ≤ L.length → (wkR dA ad r la PS SS nw (L ++ X) a0 i a ↔ wkR dA ad r la PS SS nw L a0 i a)
  | 0, a, _ => Iff.rfl
  | i + 1, a, hi => by
    constructor
    · rintro ⟨b, h1, h2⟩
      rw [gtD_l (by omega)] at h2
      exact ⟨b, (wkR_app (by omega)).mp h1, h2⟩
    · rintro ⟨b, h1, h2⟩
      refine ⟨b, (wkR_app (by omega)).mpr h1, ?_⟩
      rw [gtD_l (by omega)]
      exact h2
theorem wkR_s {a : SKT} (h : wkR dA ad r la PS SS nw (L ++ [s]) a0 (L ++ [s]).length a) : ∃ b, wkR dA ad r la PS SS nw L a0 L.length b ∧ wkS dA ad r la PS SS nw s b a := by
  rw [List.length_append] at h
  obtain ⟨b, h1, h2⟩ := (show wkR dA ad r la PS SS nw (L ++ [s]) a0 (L.length + 1) a from h)
  rw [gtD_e] at h2
  exact ⟨b, (wkR_app (Nat.le_refl _)).mp h1, h2⟩
end WL
section SU
theorem sum_up (f : Nat → Nat) (k v : Nat) : ∀ n, k < n → sumN n (va_up f k v) + f k = sumN n f + v
  | 0, h => absurd h (Nat.not_lt_zero k)
  | n + 1, h => by
    show sumN n (va_up f k v) + va_up f k v n + f k = sumN n f + f n + v
    by_cases e : k = n
    · subst e
      rw [va_up_self, sumN_ext (g := f) (fun i hi => va_up_ne _ _ (Nat.ne_of_lt hi))]
      omega
    · have := sum_up f k v n (by omega)
      rw [va_up_ne _ _ (fun z => e z.symm)]
      omega
end SU
