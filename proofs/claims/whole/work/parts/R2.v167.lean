/-! A row joined with a row: the two ways. -/
theorem hb_and {a b : Int64} {w : Nat} (hw : w < 64) : hasB (a &&& b) w = (hasB a w && hasB b w) := by
  rw [hb_bit hw, hb_bit hw, hb_bit hw, Int64.toBitVec_and, BitVec.getLsbD_and]
section JR
variable {sg : Int32} {g : jT} {tw ta tb : Nat}
/-- the reference -/
theorem jr_at : ∀ {k : Nat}, (∀ w w', w' < w → w < k → ¬ ta + w = tw + w' ∧ ¬ tb + w = tw + w') → ∀ q, ((jrG sg g tw ta tb k).1 q = if tw ≤ q ∧ q < tw + k then jnB sg (g.1 (ta + (q - tw))) (g.1 (tb + (q - tw))) (g.2 (tb + (q - tw))) else g.1 q) ∧ ((jrG sg g tw ta tb k).2 q = if tw ≤ q ∧ q < tw + k then jnW sg (jnB sg (g.1 (ta + (q - tw))) (g.1 (tb + (q - tw))) (g.2 (tb + (q - tw)))) (g.2 (ta + (q - tw))) (g.2 (tb + (q - tw))) else g.2 q)
  | 0, _, q => by
    rw [if_neg (by omega), if_neg (by omega)]
    exact ⟨rfl, rfl⟩
  | k + 1, h, q => by
    have ih := jr_at (k := k) (fun w w' h1 h2 => h w w' h1 (by omega))
    have na : ¬ (tw ≤ ta + k ∧ ta + k < tw + k) := fun z => by
      have := (h k (ta + k - tw) (by omega) (Nat.lt_succ_self k)).1
      omega
    have nb : ¬ (tw ≤ tb + k ∧ tb + k < tw + k) := fun z => by
      have := (h k (tb + k - tw) (by omega) (Nat.lt_succ_self k)).2
      omega
    obtain ⟨a1, a2⟩ := ih (ta + k)
    obtain ⟨b1, b2⟩ := ih (tb + k)
    rw [if_neg na] at a1 a2
    rw [if_neg nb] at b1 b2
    rw [jrG_s (show jrG sg g tw ta tb k = ((jrG sg g tw ta tb k).1, (jrG sg g tw ta tb k).2) from rfl)]
    rw [a1, a2, b1, b2]
    obtain ⟨q1, q2⟩ := ih q
    by_cases e : q = tw + k
    · subst e
      rw [if_pos (by omega), if_pos (by omega), Nat.add_sub_cancel_left]
      exact ⟨va_up_self _ _ _, va_up_self _ _ _⟩
    · refine ⟨(va_up_ne _ _ e).trans (q1.trans (if_cg (by omega) rfl rfl)), (va_up_ne _ _ e).trans (q2.trans (if_cg (by omega) rfl rfl))⟩
end JR
section JW
variable {sg : Int32} {both : Int64} {L R f : Nat → Int64} {b : Nat}
/-- the class -/
theorem jw_at : ∀ {k : Nat}, k ≤ 64 → (∀ w, w < 64 → hasB (jrW sg both L R f b k).1 w = (decide (w < k) && jnS sg both (R w) w)) ∧ ∀ q, (jrW sg both L R f b k).2 q = if b ≤ q ∧ q < b + k ∧ jnS sg both (R (q - b)) (q - b) = true then jnVl sg (L (q - b)) (R (q - b)) else f q
  | 0, _ => ⟨fun w hw => hb_0 hw, fun q => by rw [if_neg (by omega)]; rfl⟩
  | k + 1, hk => by
    obtain ⟨i1, i2⟩ := jw_at (k := k) (by omega)
    have e : jrW sg both L R f b (k + 1) = if jnS sg both (R k) k = true then ((jrW sg both L R f b k).1 ||| bitL k, va_up (jrW sg both L R f b k).2 (b + k) (jnVl sg (L k) (R k))) else jrW sg both L R f b k := rfl
    rw [e]
    cases c : jnS sg both (R k) k with
    | true =>
      rw [if_pos rfl]
      refine ⟨fun w hw => ?_, fun q => ?_⟩
      · show hasB ((jrW sg both L R f b k).1 ||| bitL k) w = _
        rw [hb_or (by omega) hw, i1 w hw]
        by_cases d : k = w
        · subst d
          rw [c, decide_eq_true rfl, Bool.or_true, decide_eq_true (Nat.lt_succ_self k)]
          rfl
        · rw [decide_eq_false d, Bool.or_false, show decide (w < k + 1) = decide (w < k) from decide_eq_decide.mpr (by omega)]
      · show va_up (jrW sg both L R f b k).2 (b + k) (jnVl sg (L k) (R k)) q = _
        by_cases d : q = b + k
        · subst d
          rw [va_up_self, if_pos ⟨by omega, by omega, by rw [Nat.add_sub_cancel_left]; exact c⟩, Nat.add_sub_cancel_left]
        · rw [va_up_ne _ _ d, i2 q]
          exact if_cg ⟨fun z => ⟨z.1, by omega, z.2.2⟩, fun z => ⟨z.1, by omega, z.2.2⟩⟩ rfl rfl
    | false =>
      rw [if_neg (by decide)]
      refine ⟨fun w hw => ?_, fun q => ?_⟩
      · rw [i1 w hw]
        by_cases d : w = k
        · subst d
          rw [c, Bool.and_false, Bool.and_false]
        · rw [show decide (w < k + 1) = decide (w < k) from decide_eq_decide.mpr (by omega)]
      · rw [i2 q]
        refine if_cg ⟨fun z => ⟨z.1, by omega, z.2.2⟩, fun z => ⟨z.1, ?_, z.2.2⟩⟩ rfl rfl
        by_cases d : q - b = k
        · rw [d, c] at z
          exact absurd z.2.2 (by decide)
        · omega
end JW
/-- a sign on two cells -/
theorem jn_e {sg : Int32} (hs : isOp sg) {ia ib : Bool} {both u y y' : Int64} {w : Nat} (hw : w < 64) (hb : hasB both w = (ia && ib)) (hy : ib = true → y = y') : jnB sg ia ib y = jnS sg both y' w ∧ (jnB sg ia ib y = true → jnW sg true u y = jnVl sg u y) := by
  have e1 : jnS sg both y' w = (hasB both w && !((decide (sg = 47) || decide (sg = 37)) && decide (y' = 0))) := rfl
  refine ⟨?_, fun h => ?_⟩
  · rw [e1, hb]
    unfold jnB
    cases ia with
    | false => rfl
    | true =>
      cases ib with
      | false => rfl
      | true =>
        rw [hy rfl]
        cases decide (sg = 47) <;> cases decide (sg = 37) <;> cases decide (y' = 0) <;> rfl
  · unfold jnB at h
    rw [Bool.and_eq_true, Bool.and_eq_true] at h
    have h := h.2.2
    unfold jnW jnVl
    rcases hs with e | e | e | e | e
    · subst e; rfl
    · subst e; rfl
    · subst e; rfl
    · subst e
      have hy0 : ¬ y = 0 := fun z => by rw [z] at h; revert h; decide
      show u / y = if y = 0 then 0 else u / y
      rw [if_neg hy0]
    · subst e
      have hy0 : ¬ y = 0 := fun z => by rw [z] at h; revert h; decide
      show u - u / y * y = if y = 0 then 0 else u - u / y * y
      rw [if_neg hy0]
/-- a row of cells told by functions -/
def rwF (ic : Nat → Bool) (ce : Nat → Int64) (a wi : Nat) (th : Int64) (c : Nat → Int64) : Prop := ∀ w, w < wi → ic (a + w) = hasB th w ∧ (hasB th w = true → ce (a + w) = c w)
/-- joined rows are the same -/
theorem jr_E {sg : Int32} (hs : isOp sg) {g : jT} {tw ta tb wi : Nat} {thA thB : Int64} {L R f : Nat → Int64} {b : Nat} (h64 : wi ≤ 64) (hd : ∀ w w', w' < w → w < wi → ¬ ta + w = tw + w' ∧ ¬ tb + w = tw + w') (hA : rwF g.1 g.2 ta wi thA L) (hB : rwF g.1 g.2 tb wi thB R) : rwF (jrG sg g tw ta tb wi).1 (jrG sg g tw ta tb wi).2 tw wi (jrW sg (thA &&& thB) L R f b wi).1 (fun w => (jrW sg (thA &&& thB) L R f b wi).2 (b + w)) ∧ (∀ w, wi ≤ w → w < 64 → hasB (jrW sg (thA &&& thB) L R f b wi).1 w = false) := by
  obtain ⟨c1, c2⟩ := jw_at (sg := sg) (both := thA &&& thB) (L := L) (R := R) (f := f) (b := b) h64
  refine ⟨fun w hw => ?_, fun w h1 h2 => ?_⟩
  · obtain ⟨r1, r2⟩ := jr_at (sg := sg) (g := g) hd (tw + w)
    rw [if_pos (by omega), Nat.add_sub_cancel_left] at r1 r2
    obtain ⟨a1, a2⟩ := hA w hw
    obtain ⟨b1, b2⟩ := hB w hw
    rw [a1, b1] at r1 r2
    obtain ⟨j1, j2⟩ := jn_e hs (ia := hasB thA w) (ib := hasB thB w) (both := thA &&& thB) (u := L w) (y := g.2 (tb + w)) (y' := R w) (w := w) (by omega) (hb_and (by omega)) b2
    rw [r1, c1 w (by omega), decide_eq_true hw, Bool.true_and]
    refine ⟨j1, fun h => ?_⟩
    rw [← j1] at h
    have h' := h
    unfold jnB at h'
    rw [Bool.and_eq_true, Bool.and_eq_true] at h'
    show _ = (jrW sg (thA &&& thB) L R f b wi).2 (b + w)
    rw [r2, h, c2 (b + w), Nat.add_sub_cancel_left, if_pos ⟨by omega, by omega, by rw [← j1]; exact h⟩, a2 h'.1, b2 h'.2.1]
    have := j2 h
    rw [b2 h'.2.1] at this
    exact this
  · rw [c1 w h2, decide_eq_false (by omega)]
    rfl
