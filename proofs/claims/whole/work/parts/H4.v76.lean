/-! The rows of the series that a function takes. -/
theorem roT_c (NL : Nat → List Int32) (nc rc : Nat) (RS : Nat → List LB) (S : List LB) : roT NL nc rc RS S = (-1) ∨ ∃ r, r < rc ∧ roT NL nc rc RS S = nI r := by
  unfold roT
  split
  · rename_i h
    exact Or.inr ⟨_, h.1, rfl⟩
  · exact Or.inl rfl
theorem pkR_c {NL : Nat → List Int32} {SS : Nat → List LB} {nc rc : Nat} {RS : Nat → List LB} {ar : Nat → Int32} : ∀ {j o : Nat}, o < j → pkR NL SS nc rc RS ar j o = (-1) ∨ ∃ r, r < rc ∧ pkR NL SS nc rc RS ar j o = nI r
  | 0, o, h => absurd h (Nat.not_lt_zero o)
  | j + 1, o, h => by
    show (if pkR NL SS nc rc RS ar j j = (-1) then pkR NL SS nc rc RS ar j else va_up (pkR NL SS nc rc RS ar j) j (roT NL nc rc RS (SS j))) o = (-1) ∨ ∃ r, r < rc ∧ (if pkR NL SS nc rc RS ar j j = (-1) then pkR NL SS nc rc RS ar j else va_up (pkR NL SS nc rc RS ar j) j (roT NL nc rc RS (SS j))) o = nI r
    by_cases c : pkR NL SS nc rc RS ar j j = (-1)
    · rw [if_pos c]
      by_cases e : o = j
      · subst e
        exact Or.inl c
      · exact pkR_c (by omega)
    · rw [if_neg c]
      by_cases e : o = j
      · rw [show va_up (pkR NL SS nc rc RS ar j) j (roT NL nc rc RS (SS j)) o = roT NL nc rc RS (SS j) from if_pos e]
        exact roT_c _ _ _ _ _
      · rw [show va_up (pkR NL SS nc rc RS ar j) j (roT NL nc rc RS (SS j)) o = pkR NL SS nc rc RS ar j o from if_neg e]
        exact pkR_c (by omega)
theorem pkR_t {NL : Nat → List Int32} {SS : Nat → List LB} {nc rc : Nat} {RS : Nat → List LB} {ar : Nat → Int32} {j : Nat} (h : pkR NL SS nc rc RS ar j j = (-1)) : pkR NL SS nc rc RS ar (j + 1) = pkR NL SS nc rc RS ar j := if_pos h
theorem pkR_f {NL : Nat → List Int32} {SS : Nat → List LB} {nc rc : Nat} {RS : Nat → List LB} {ar : Nat → Int32} {j : Nat} (h : ¬ pkR NL SS nc rc RS ar j j = (-1)) : pkR NL SS nc rc RS ar (j + 1) = va_up (pkR NL SS nc rc RS ar j) j (roT NL nc rc RS (SS j)) := if_neg h
/-- the kept sizes of the table while rows are added -/
def pkK (t : TB) (nn : Nat) (nx : Nat → Option Nat) (wi i : Nat) (y : TB) : Prop := y.rc ≤ 256 ∧ y.nc = nn ∧ y.nm = nx ∧ y.wi = wi ∧ y.cN = t.cN ∧ y.rc ≤ i
theorem rw_le {a b : Nat} (h1 : a ≤ 256) (h2 : b ≤ 64) : a * b ≤ 16384 := Nat.mul_le_mul h1 h2
theorem clT_c {t : TB} {q : Nat} (h : t.cN ≤ 65536) (h2 : t.rc * t.wi ≤ 16384) : (clT t q).cN ≤ 65536 := by
  unfold clT
  split
  · exact h
  · show max (t.rc * t.wi) (2 * t.cN) ≤ 65536
    omega
theorem beR_k {x : VS} {n : Nat} {qA : Nat → Nat} {qN : Nat} {qT : Nat → Int64} {qO : Nat → Nat} (h : beR x n (qA, qN, qT, qO)) (h1 : x.bN ≤ 65536) (h2 : n ≤ 16384) (h6 : ∀ k, x.bO k < 256) : n ≤ qN ∧ qN ≤ 65536 ∧ ∀ k, qO k < 256 := by
  rcases h with ⟨a, b⟩ | ⟨a, b, -, d⟩
  · cases b
    exact ⟨a, h1, h6⟩
  · have b : qN = max n (2 * x.bN) := b
    have d : qO = fun _ => 0 := d
    subst d
    exact ⟨by omega, by omega, fun _ => (show (0 : Nat) < 256 by decide)⟩
