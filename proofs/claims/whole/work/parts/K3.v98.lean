/-! Labels in order: the two ways. -/
theorem wlen_w {f : Nat → Int32} {len : Nat} : ∀ {w q i : Nat}, i < wlen f len w q → isWd (f (q + i)) = true
  | 0, q, i, h => absurd h (Nat.not_lt_zero i)
  | w + 1, q, i, h => by
    by_cases h1 : len ≤ q
    · rw [wlen_0 h1] at h; exact absurd h (Nat.not_lt_zero i)
    · cases h2 : isWd (f q) with
      | false => rw [wlen_f h2] at h; exact absurd h (Nat.not_lt_zero i)
      | true =>
        rw [wlen_t (Nat.succ_pos w) h1 h2] at h
        cases i with
        | zero => exact h2
        | succ i =>
          have := wlen_w (f := f) (len := len) (w := w) (q := q + 1) (i := i) (by
            have h : i + 1 < wlen f len w (q + 1) + 1 := h
            omega)
          rw [show q + 1 + i = q + (i + 1) by omega] at this
          exact this
theorem isWd_a {z : Int32} (h : isWd z = true) : asc1 z := by
  unfold isWd at h
  rw [Bool.and_eq_true, Bool.and_eq_true] at h
  obtain ⟨h1, h2, -⟩ := h
  have g1 : ¬ z ≤ 32 := fun y => by rw [decide_eq_true y] at h1; cases h1
  have g2 : ¬ 127 ≤ z := fun y => by rw [decide_eq_true y] at h2; cases h2
  rw [Int32.le_iff_toInt_le] at g1 g2
  have e1 : (32 : Int32).toInt = 32 := by decide
  have e2 : (127 : Int32).toInt = 127 := by decide
  rw [e1] at g1
  rw [e2] at g2
  refine ⟨z.toInt.toNat, by omega, Int32.toInt_inj.mp ?_⟩
  rw [nI_toInt (by omega)]
  omega
theorem allB_ext {f g : Nat → Bool} : ∀ {n : Nat}, (∀ i, i < n → f i = g i) → allB n f = allB n g
  | 0, _ => rfl
  | n + 1, h => by rw [allB_s, allB_s, allB_ext (fun i hi => h i (by omega)), h n (by omega)]
theorem sb_same (f : Nat → Int32) (a b a2 b2 : Nat) : sbB f a b a2 b2 = sameW (seg f a b) (seg f a2 b2) := by
  unfold sbB sameW
  rw [seg_len, seg_len]
  by_cases h : b - a = b2 - a2
  · congr 1
    exact allB_ext (fun i hi => by
      show decide (f (a + i) = f (a2 + i)) = decide ((seg f a b).getD i 0 = (seg f a2 b2).getD i 0)
      rw [seg_get f hi, seg_get f (by omega)])
  · rw [decide_eq_false h]
    rfl
theorem anyB_no {f : Nat → Bool} : ∀ {n : Nat}, anyB n f = false → ∀ i, i < n → f i = false
  | 0, _, i, hi => absurd hi (Nat.not_lt_zero i)
  | n + 1, h, i, hi => by
    rw [anyB_s, Bool.or_eq_false_iff] at h
    by_cases e : i = n
    · subst e; exact h.2
    · exact anyB_no h.1 i (by omega)
/-- labels read: words, distinct names -/
def labQ (f : Nat → Int32) (c : Nat) (S E V : Nat → Nat) : Prop := ∀ k, k < c → f (E k) = 61 ∧ (∀ i, S k ≤ i → i < E k → isWd (f i) = true) ∧ (∀ i, E k + 1 ≤ i → i < V k → isWd (f i) = true) ∧ ∀ j, j < k → seg f (S j) (E j) ≠ seg f (S k) (E k)
theorem labQ_s {f : Nat → Int32} {len q c a b : Nat} {S E V : Nat → Nat} (h : labQ f c S E V) (hq : q ≤ len) (hr : rlC f len q c S E = .inr (a, b)) : labQ f (c + 1) (va_up S c q) (va_up E c a) (va_up V c b) := by
  obtain ⟨-, -, -, -, -, -, r7, r8, r9, r10⟩ := rl_in hq hr
  intro k hk
  by_cases e : k = c
  · subst e
    rw [va_up_self, va_up_self, va_up_self]
    refine ⟨r7, fun i h1 h2 => ?_, fun i h1 h2 => ?_, fun j hj => ?_⟩
    · have := wlen_w (f := f) (len := len) (w := 24) (q := q) (i := i - q) (by omega)
      rw [show q + (i - q) = i by omega] at this
      exact this
    · have := wlen_w (f := f) (len := len) (w := 24) (q := a + 1) (i := i - (a + 1)) (by omega)
      rw [show a + 1 + (i - (a + 1)) = i by omega] at this
      exact this
    · rw [va_up_ne _ _ (by omega), va_up_ne _ _ (by omega)]
      intro z
      have h0 := anyB_no r10 j hj
      unfold taC at h0
      rw [sb_same, z, sameW_i.mpr rfl] at h0
      cases h0
  · obtain ⟨a1, a2, a3, a4⟩ := h k (by omega)
    rw [va_up_ne _ _ e, va_up_ne _ _ e, va_up_ne _ _ e]
    refine ⟨a1, a2, a3, fun j hj => ?_⟩
    rw [va_up_ne _ _ (by omega), va_up_ne _ _ (by omega)]
    exact a4 j hj
theorem rdC_q {f : Nat → Int32} {len : Nat} : ∀ {w q c c' : Nat} {S E V S' E' V' : Nat → Nat}, q ≤ len → labQ f c S E V → rdC f len w q c S E V = .inr (c', S', E', V') → labQ f c' S' E' V'
  | 0, q, c, c', S, E, V, S', E', V', _, _, h => by cases h
  | w + 1, q, c, c', S, E, V, S', E', V', hq, hl, h => by
    cases hr : rlC f len q c S E with
    | inl a => rw [rd_x hr] at h; cases h
    | inr p =>
      obtain ⟨a, b⟩ := p
      obtain ⟨-, -, -, -, -, r6, -⟩ := rl_in hq hr
      rw [rd_s hr] at h
      have hs := labQ_s hl hq hr
      by_cases h1 : b = len
      · rw [if_pos h1] at h
        injection h with h
        injection h with e1 h
        injection h with e2 h
        injection h with e3 e4
        subst e1 e2 e3 e4
        exact hs
      · rw [if_neg h1] at h
        by_cases h2 : f b = 44
        · rw [if_pos h2] at h
          exact rdC_q (by omega) hs h
        · rw [if_neg h2] at h
          cases h
theorem cnt_le2 {f g : Nat → Bool} : ∀ {n : Nat}, (∀ i, i < n → f i = true → g i = true) → cnt n f ≤ cnt n g
  | 0, _ => Nat.le_refl _
  | n + 1, h => by
    have ih := cnt_le2 (n := n) (fun i hi => h i (by omega))
    cases e : f n with
    | false => rw [cnt_f e]; cases e2 : g n with | false => rw [cnt_f e2]; exact ih | true => rw [cnt_t e2]; omega
    | true => rw [cnt_t e, cnt_t (h n (by omega) e)]; omega
theorem cnt_lt2 {f g : Nat → Bool} {k : Nat} : ∀ {n : Nat}, k < n → (∀ i, i < n → f i = true → g i = true) → f k = false → g k = true → cnt n f < cnt n g
  | 0, hk, _, _, _ => absurd hk (Nat.not_lt_zero k)
  | n + 1, hk, h, h1, h2 => by
    by_cases e : k = n
    · subst e
      rw [cnt_f h1, cnt_t h2]
      have := cnt_le2 (n := k) (fun i hi => h i (by omega))
      omega
    · have ih := cnt_lt2 (n := n) (by omega) (fun i hi => h i (by omega)) h1 h2
      cases e1 : f n with
      | false => rw [cnt_f e1]; cases e2 : g n with | false => rw [cnt_f e2]; exact ih | true => rw [cnt_t e2]; omega
      | true => rw [cnt_t e1, cnt_t (h n (by omega) e1)]; omega
theorem insP_q {n : List Int32} {L : List LB} {q : Nat} (h2 : 0 < q → ¬ 0 < cmpW (lab L (q - 1)).1 n) : ∀ {i : Nat}, q ≤ i → (∀ r, q ≤ r → r < i → 0 < cmpW (lab L r).1 n) → insP n L i = q
  | 0, hq, _ => by
    show 0 = q
    omega
  | i + 1, hq, h => by
    show (if 0 < cmpW (lab L i).1 n then insP n L i else i + 1) = q
    by_cases e : q = i + 1
    · rw [if_neg]
      · exact e.symm
      · have := h2 (by omega)
        rw [e] at this
        exact this
    · rw [if_pos (h i (by omega) (by omega))]
      exact insP_q h2 (by omega) (fun r a b => h r a (by omega))
section SR
variable {f : Nat → Int32} {S E V : Nat → Nat}
/-- name j stands before name k -/
def nbfB (f : Nat → Int32) (S E : Nat → Nat) (k j : Nat) : Bool := ltL (seg f (S j) (E j)) (seg f (S k) (E k))
theorem asc_seg {a b : Nat} (h : ∀ i, a ≤ i → i < b → isWd (f i) = true) : asc (seg f a b) := by
  intro v hv
  unfold seg at hv
  obtain ⟨i, hi, rfl⟩ := List.mem_map.mp hv
  rw [List.mem_range] at hi
  exact isWd_a (h (a + i) (by omega) (by omega))
theorem srt_rk {c : Nat} (hq : labQ f c S E V) (hl : ∀ k, k < c → E k - S k < 2 ^ 29) : ∀ {i : Nat}, i ≤ c → (∀ k, k < i → lab (srtL f S E V i) (cnt i (nbfB f S E k)) = rawL f S E V k) ∧ ∀ r, r < i → ∃ k, k < i ∧ cnt i (nbfB f S E k) = r
  | 0, _ => ⟨fun k hk => absurd hk (Nat.not_lt_zero k), fun r hr => absurd hr (Nat.not_lt_zero r)⟩
  | i + 1, hi => by
    obtain ⟨h1, h2⟩ := srt_rk hq hl (i := i) (by omega)
    have as : ∀ k, k < c → asc (seg f (S k) (E k)) := fun k hk => asc_seg (hq k hk).2.1
    have le : ∀ k, k < c → (seg f (S k) (E k)).length < 2 ^ 29 := fun k hk => by rw [seg_len]; exact hl k hk
    have ne : ∀ k, k < i → seg f (S k) (E k) ≠ seg f (S i) (E i) := fun k hk => (hq i (by omega)).2.2.2 k hk
    -- below the new name: rank below its count
    have lo : ∀ k, k < i → nbfB f S E i k = true → cnt i (nbfB f S E k) < cnt i (nbfB f S E i) := fun k hk g => cnt_lt2 hk (fun j _ hj => ltL_tr hj g) (ltL_irr _) g
    have hi2 : ∀ k, k < i → nbfB f S E k i = true → cnt i (nbfB f S E i) ≤ cnt i (nbfB f S E k) := fun k hk g => cnt_le2 (fun j _ hj => ltL_tr hj g)
    have L1 := srtL_len f S E V i
    have hp : insP (rawL f S E V i).1 (srtL f S E V i) (srtL f S E V i).length = cnt i (nbfB f S E i) := by
      rw [L1]
      refine insP_q (fun q0 => ?_) (cnt_le _ _) (fun r a b => ?_)
      · obtain ⟨k, hk, ek⟩ := h2 (cnt i (nbfB f S E i) - 1) (by have := cnt_le i (nbfB f S E i); omega)
        rw [← ek, h1 k hk]
        show ¬ 0 < cmpW (seg f (S k) (E k)) (seg f (S i) (E i))
        rw [(cmpW_o (as k (by omega)) (as i (by omega)) (le k (by omega)) (le i (by omega))).2.2]
        intro g
        have := hi2 k hk g
        omega
      · obtain ⟨k, hk, ek⟩ := h2 r b
        rw [← ek, h1 k hk]
        show 0 < cmpW (seg f (S k) (E k)) (seg f (S i) (E i))
        rw [(cmpW_o (as k (by omega)) (as i (by omega)) (le k (by omega)) (le i (by omega))).2.2]
        rcases ltL_tot (ne k hk) with g | g
        · have := lo k hk g
          omega
        · exact g
    have sp : ∀ k, k < i → (nbfB f S E i k = true ∧ nbfB f S E k i = false ∧ cnt (i + 1) (nbfB f S E k) = cnt i (nbfB f S E k)) ∨ (nbfB f S E k i = true ∧ cnt (i + 1) (nbfB f S E k) = cnt i (nbfB f S E k) + 1) := fun k hk => by
      rcases ltL_tot (ne k hk) with g | g
      · exact Or.inl ⟨g, ltL_as g, cnt_f (ltL_as g)⟩
      · exact Or.inr ⟨g, cnt_t g⟩
    have se : cnt (i + 1) (nbfB f S E i) = cnt i (nbfB f S E i) := cnt_f (ltL_irr _)
    refine ⟨fun k hk => ?_, fun r hr => ?_⟩
    · show lab (insL (rawL f S E V i) (srtL f S E V i)) _ = _
      rw [lab_ins, hp]
      by_cases e : k = i
      · subst e
        rw [se, if_neg (Nat.lt_irrefl _), if_pos rfl]
      · rcases sp k (by omega) with ⟨g1, g2, g3⟩ | ⟨g1, g3⟩
        · have := lo k (by omega) g1
          rw [g3, if_pos this]
          exact h1 k (by omega)
        · have := hi2 k (by omega) g1
          rw [g3, if_neg (by omega), if_neg (by omega), Nat.add_sub_cancel]
          exact h1 k (by omega)
    · by_cases e1 : r < cnt i (nbfB f S E i)
      · obtain ⟨k, hk, ek⟩ := h2 r (by have := cnt_le i (nbfB f S E i); omega)
        refine ⟨k, by omega, ?_⟩
        rcases sp k hk with ⟨g1, g2, g3⟩ | ⟨g1, g3⟩
        · rw [g3]; exact ek
        · have := hi2 k hk g1
          omega
      · by_cases e2 : r = cnt i (nbfB f S E i)
        · exact ⟨i, by omega, by rw [se, e2]⟩
        · obtain ⟨k, hk, ek⟩ := h2 (r - 1) (by omega)
          refine ⟨k, by omega, ?_⟩
          rcases sp k hk with ⟨g1, g2, g3⟩ | ⟨g1, g3⟩
          · have := lo k hk g1
            omega
          · rw [g3]; omega
end SR
