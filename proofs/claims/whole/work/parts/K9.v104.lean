/-! Scars: the two ways. -/
theorem frst_some {f : Nat → Bool} : ∀ {n k j : Nat}, frst f n k = some j → f j = true ∧ k ≤ j ∧ j < k + n ∧ ∀ i, k ≤ i → i < j → f i = false
  | 0, k, j, h => by cases h
  | n + 1, k, j, h => by
    cases e : f k with
    | true =>
      rw [frst_t (Nat.succ_pos n) e] at h
      injection h with h
      subst h
      exact ⟨e, Nat.le_refl _, by omega, fun i h1 h2 => by omega⟩
    | false =>
      rw [frst_f (Nat.succ_pos n) e] at h
      obtain ⟨a1, a2, a3, a4⟩ := frst_some (n := n) h
      refine ⟨a1, by omega, by omega, fun i h1 h2 => ?_⟩
      by_cases z : i = k
      · subst z; exact e
      · exact a4 i (by omega) h2
theorem frst_none {f : Nat → Bool} : ∀ {n k : Nat}, frst f n k = none → ∀ i, k ≤ i → i < k + n → f i = false
  | 0, k, _, i, h1, h2 => by omega
  | n + 1, k, h, i, h1, h2 => by
    cases e : f k with
    | true => rw [frst_t (Nat.succ_pos n) e] at h; cases h
    | false =>
      rw [frst_f (Nat.succ_pos n) e] at h
      by_cases z : i = k
      · subst z; exact e
      · exact frst_none (n := n) h i (by omega) (by omega)
theorem frst_mk {f : Nat → Bool} {n j : Nat} (hj : j < n) (h : f j = true) (hb : ∀ i, i < j → f i = false) : frst f n 0 = some j := by
  cases e : frst f n 0 with
  | none => rw [frst_none e j (Nat.zero_le _) (by omega)] at h; cases h
  | some k =>
    obtain ⟨a1, -, a3, a4⟩ := frst_some e
    rcases Nat.lt_trichotomy k j with z | z | z
    · rw [hb k z] at a1; cases a1
    · rw [z]
    · rw [a4 j (Nat.zero_le _) z] at h; cases h
theorem frst_mn {f : Nat → Bool} {n : Nat} (h : ∀ i, i < n → f i = false) : frst f n 0 = none := by
  cases e : frst f n 0 with
  | none => rfl
  | some k =>
    obtain ⟨a1, -, a3, -⟩ := frst_some e
    rw [h k (by omega)] at a1
    cases a1
theorem frst_sn {f g : Nat → Bool} {n : Nat} (h : ∀ i, i < n → g i = f i) : frst g (n + 1) 0 = match frst f n 0 with | some j => some j | none => if g n = true then some n else none := by
  cases e : frst f n 0 with
  | some j =>
    obtain ⟨a1, -, a3, a4⟩ := frst_some e
    exact frst_mk (by omega) ((h j (by omega)).trans a1) (fun i hi => (h i (by omega)).trans (a4 i (Nat.zero_le _) hi))
  | none =>
    have b := frst_none e
    cases e2 : g n with
    | true => exact frst_mk (by omega) e2 (fun i hi => (h i hi).trans (b i (Nat.zero_le _) (by omega)))
    | false => exact frst_mn (fun i hi => by
        by_cases z : i = n
        · subst z; exact e2
        · exact (h i (by omega)).trans (b i (Nat.zero_le _) (by omega)))
def cvS (sO : Nat → Nat) (sF sT : Nat → Int64) (w : Nat) (t : Int64) (i : Nat) : Bool := decide (sO i = w) && (!decide (t < sF i) && !decide (sT i < t))
def cv1 (sO : Nat → Nat) (sF sT : Nat → Int64) (n w : Nat) (t : Int64) : Option Nat := frst (cvS sO sF sT w t) n 0
def hdV (dn : Nat → Nat) : Option Nat → Int32
  | none => -1
  | some j => nI (dn j)
/-- which delete hid a packed point: the first scar that covers it -/
def hdR (hid : Nat → Int32) (pk : Nat → Bool) (se : Nat → Nat) (ti : Nat → Int64) (N : Nat) (sO : Nat → Nat) (sF sT : Nat → Int64) (n : Nat) (dn : Nat → Nat) : Prop := ∀ q, q < N → pk q = true → hid q = hdV dn (cv1 sO sF sT n (se q) (ti q))
/-- the numbers of deletes rise -/
def dnR (n d : Nat) (dn : Nat → Nat) : Prop := (∀ j, j < n → dn j < d) ∧ ∀ i j, i < j → j < n → dn i < dn j
/-- each scar covers a packed point that none before it covers -/
def scE1 (pk : Nat → Bool) (se : Nat → Nat) (ti : Nat → Int64) (N : Nat) (sO : Nat → Nat) (sF sT : Nat → Int64) (n : Nat) : Prop := ∀ j, j < n → ∃ q, q < N ∧ pk q = true ∧ cv1 sO sF sT n (se q) (ti q) = some j
section SC
variable {hid : Nat → Int32} {pk : Nat → Bool} {se : Nat → Nat} {ti : Nat → Int64} {N : Nat} {sO : Nat → Nat} {sF sT : Nat → Int64} {n d : Nat} {dn : Nat → Nat}
theorem hdV_n {z : Option Nat} (hd : dnR n d dn) (hl : d ≤ 2 ^ 30) (hz : ∀ j, z = some j → j < n) : 0 ≤ hdV dn z ↔ z ≠ none := by
  cases z with
  | none => exact ⟨fun h => absurd h (show ¬ (0 : Int32) ≤ -1 by decide), fun h => absurd rfl h⟩
  | some j => exact ⟨fun _ h => (by cases h), fun _ => nI_pos' (by have := hd.1 j (hz j rfl); omega)⟩
theorem cv1_lt {w : Nat} {t : Int64} {j : Nat} (h : cv1 sO sF sT n w t = some j) : j < n := by
  have := (frst_some h).2.2.1
  omega
/-- a scar more -/
theorem cv1_s {w w0 : Nat} {t a b : Int64} : cv1 (va_up sO n w0) (va_up sF n a) (va_up sT n b) (n + 1) w t = match cv1 sO sF sT n w t with | some j => some j | none => if (decide (w0 = w) && (!decide (t < a) && !decide (b < t))) = true then some n else none := by
  have e : cvS (va_up sO n w0) (va_up sF n a) (va_up sT n b) w t n = (decide (w0 = w) && (!decide (t < a) && !decide (b < t))) := by
    unfold cvS
    rw [va_up_self, va_up_self, va_up_self]
  unfold cv1
  rw [frst_sn (f := cvS sO sF sT w t) (fun i hi => by unfold cvS; rw [va_up_ne _ _ (by omega), va_up_ne _ _ (by omega), va_up_ne _ _ (by omega)]), e]
/-- a delete that hits packed points -/
theorem hdR_s {hid' : Nat → Int32} {w0 : Nat} {a b : Int64} (h : hdR hid pk se ti N sO sF sT n dn) (hh : ∀ q, q < N → pk q = true → hid' q = if cv1 sO sF sT n (se q) (ti q) = none ∧ se q = w0 ∧ ¬ ti q < a ∧ ¬ b < ti q then nI d else hid q) : hdR hid' pk se ti N (va_up sO n w0) (va_up sF n a) (va_up sT n b) (n + 1) (va_up dn n d) := by
  intro q hq hp
  rw [hh q hq hp, cv1_s, h q hq hp]
  cases e : cv1 sO sF sT n (se q) (ti q) with
  | some j =>
    have := cv1_lt e
    rw [if_neg (fun z => by cases z.1)]
    show nI (dn j) = nI (va_up dn n d j)
    rw [va_up_ne _ _ (by omega)]
  | none =>
    by_cases g : se q = w0 ∧ ¬ ti q < a ∧ ¬ b < ti q
    · rw [if_pos ⟨rfl, g⟩]
      show nI d = hdV (va_up dn n d) (if (decide (w0 = se q) && (!decide (ti q < a) && !decide (b < ti q))) = true then some n else none)
      rw [if_pos (by rw [decide_eq_true g.1.symm, decide_eq_false g.2.1, decide_eq_false g.2.2]; rfl)]
      show nI d = nI (va_up dn n d n)
      rw [va_up_self]
    · rw [if_neg (fun z => g z.2)]
      show (-1 : Int32) = hdV (va_up dn n d) (if (decide (w0 = se q) && (!decide (ti q < a) && !decide (b < ti q))) = true then some n else none)
      rw [if_neg]
      · rfl
      · intro z
        rw [Bool.and_eq_true, Bool.and_eq_true, decide_eq_true_eq] at z
        refine g ⟨z.1.symm, fun y => ?_, fun y => ?_⟩
        · rw [decide_eq_true y] at z; cases z.2.1
        · rw [decide_eq_true y] at z; cases z.2.2
theorem dnR_s (h : dnR n d dn) : dnR (n + 1) (d + 1) (va_up dn n d) := by
  refine ⟨fun j hj => ?_, fun i j hi hj => ?_⟩
  · by_cases e : j = n
    · subst e; rw [va_up_self]; omega
    · rw [va_up_ne _ _ e]; have := h.1 j (by omega); omega
  · by_cases e : j = n
    · subst e; rw [va_up_self, va_up_ne _ _ (by omega)]; exact h.1 i hi
    · rw [va_up_ne _ _ e, va_up_ne _ _ (by omega)]; exact h.2 i j hi (by omega)
theorem scE_s {w0 q0 : Nat} {a b : Int64} (h : scE1 pk se ti N sO sF sT n) (hq : q0 < N) (hp : pk q0 = true) (h0 : cv1 sO sF sT n (se q0) (ti q0) = none) (h1 : se q0 = w0) (h2 : ¬ ti q0 < a) (h3 : ¬ b < ti q0) : scE1 pk se ti N (va_up sO n w0) (va_up sF n a) (va_up sT n b) (n + 1) := by
  intro j hj
  by_cases e : j = n
  · subst e
    refine ⟨q0, hq, hp, ?_⟩
    rw [cv1_s, h0]
    exact if_pos (by rw [decide_eq_true h1.symm, decide_eq_false h2, decide_eq_false h3]; rfl)
  · obtain ⟨q, a1, a2, a3⟩ := h j (by omega)
    refine ⟨q, a1, a2, ?_⟩
    rw [cv1_s, a3]
/-- scars that end -/
theorem cv1_td {ke : Nat → Bool} {w : Nat} {t : Int64} (hk : ∀ j, cv1 sO sF sT n w t = some j → ke j = true) : cv1 (tdT ke sO n) (tdT ke sF n) (tdT ke sT n) (cnt n ke) w t = (cv1 sO sF sT n w t).map (fun j => cnt j ke) := by
  have ec : ∀ i, i < n → ke i = true → cvS (tdT ke sO n) (tdT ke sF n) (tdT ke sT n) w t (cnt i ke) = cvS sO sF sT w t i := fun i hi e => by
    unfold cvS
    rw [tdT_get hi e, tdT_get hi e, tdT_get hi e]
  cases e : cv1 sO sF sT n w t with
  | none =>
    refine frst_mn (fun i hi => ?_)
    obtain ⟨q, h1, h2, h3⟩ := cnt_at hi
    subst h3
    rw [ec q h1 h2]
    exact frst_none e q (Nat.zero_le _) (by omega)
  | some j =>
    obtain ⟨a1, -, a3, a4⟩ := frst_some e
    have hj : j < n := by omega
    refine frst_mk (cnt_lt hj (hk j e)) ((ec j hj (hk j e)).trans a1) (fun i hi => ?_)
    obtain ⟨q, h1, h2, h3⟩ := cnt_at (n := j) hi
    subst h3
    rw [ec q (by omega) h2]
    exact a4 q (Nat.zero_le _) h1
theorem hdR_td {ke : Nat → Bool} (h : hdR hid pk se ti N sO sF sT n dn) (hk : ∀ q, q < N → pk q = true → ∀ j, cv1 sO sF sT n (se q) (ti q) = some j → ke j = true) : hdR hid pk se ti N (tdT ke sO n) (tdT ke sF n) (tdT ke sT n) (cnt n ke) (tdT ke dn n) := by
  intro q hq hp
  rw [h q hq hp, cv1_td (hk q hq hp)]
  cases e : cv1 sO sF sT n (se q) (ti q) with
  | none => rfl
  | some j =>
    show nI (dn j) = nI (tdT ke dn n (cnt j ke))
    rw [tdT_get (cv1_lt e) (hk q hq hp j e)]
theorem dnR_td {ke : Nat → Bool} (h : dnR n d dn) : dnR (cnt n ke) d (tdT ke dn n) := by
  refine ⟨fun j hj => ?_, fun i j hi hj => ?_⟩
  · obtain ⟨q, h1, h2, h3⟩ := cnt_at hj
    subst h3
    rw [tdT_get h1 h2]
    exact h.1 q h1
  · obtain ⟨q, h1, h2, h3⟩ := cnt_at hj
    subst h3
    obtain ⟨p, g1, g2, g3⟩ := cnt_at (n := q) hi
    subst g3
    rw [tdT_get h1 h2, tdT_get (by omega) g2]
    exact h.2 p q g1 h1
/-- a choice of n different places counted -/
theorem cnt_one {N k : Nat} (hk : k < N) : cnt N (fun q => decide (q = k)) = 1 := by
  obtain ⟨e, he⟩ : ∃ e, N = k + (e + 1) := ⟨N - k - 1, by omega⟩
  rw [he, cnt_plus, cnt_0 (fun j hj => decide_eq_false (by omega)), Nat.zero_add, Nat.add_comm e 1, cnt_plus]
  rw [cnt_0 (f := fun j => decide (k + (1 + j) = k)) (fun j _ => decide_eq_false (by omega))]
  show cnt (0 + 1) (fun j => decide (k + j = k)) + 0 = 1
  rw [cnt_t (decide_eq_true (by omega))]
  rfl
theorem cnt_pick {N : Nat} {m : Nat → Nat} : ∀ {n : Nat}, (∀ j, j < n → m j < N) → (∀ i j, i < n → j < n → m i = m j → i = j) → cnt N (fun q => anyB n (fun j => decide (q = m j))) = n
  | 0, _, _ => cnt_0 (fun _ _ => rfl)
  | n + 1, h1, h2 => by
    have ih := cnt_pick (n := n) (fun j hj => h1 j (by omega)) (fun i j hi hj => h2 i j (by omega) (by omega))
    have e : cnt N (fun q => anyB (n + 1) (fun j => decide (q = m j))) = cnt N (fun q => anyB n (fun j => decide (q = m j))) + cnt N (fun q => decide (q = m n)) := cnt_add (fun q _ => by
      refine ⟨?_, fun z => ?_⟩
      · show (anyB n _ || decide (q = m n)) = true ↔ _
        rw [Bool.or_eq_true]
      · have g : q = m n := of_decide_eq_true z.2
        have : anyB n (fun j => decide (q = m j)) = false := by
          cases y : anyB n (fun j => decide (q = m j)) with
          | false => rfl
          | true =>
            exfalso
            have : ∀ {k : Nat}, k ≤ n → anyB k (fun j => decide (q = m j)) = true → False := fun {k} hk hy => by
              induction k with
              | zero => cases hy
              | succ k ihk =>
                have hy : (anyB k (fun j => decide (q = m j)) || decide (q = m k)) = true := hy
                rw [Bool.or_eq_true] at hy
                rcases hy with hy | hy
                · exact ihk (by omega) hy
                · have := h2 k n (by omega) (by omega) ((of_decide_eq_true hy).symm.trans g)
                  omega
            exact this (Nat.le_refl n) y
        rw [this] at z
        cases z.1)
    rw [e, ih, cnt_one (h1 n (by omega))]
end SC
