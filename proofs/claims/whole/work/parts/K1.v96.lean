/-! The text of a series read: the two ways. -/
theorem wlen_25 (f : Nat → Int32) (len : Nat) : ∀ (w q : Nat), wlen f len w q = min w (wlen f len (w + 1) q)
  | 0, q => by show 0 = _; omega
  | w + 1, q => by
    have ih := wlen_25 f len w (q + 1)
    show (if len ≤ q then 0 else if isWd (f q) = true then wlen f len w (q + 1) + 1 else 0) = min (w + 1) (if len ≤ q then 0 else if isWd (f q) = true then wlen f len (w + 1) (q + 1) + 1 else 0)
    split
    · omega
    · split <;> omega
/-- the byte behind a word of w that goes on -/
theorem wlen_go {f : Nat → Int32} {len : Nat} : ∀ {w q : Nat}, wlen f len (w + 1) q = w + 1 → q + w < len ∧ isWd (f (q + w)) = true
  | 0, q, h => by
    by_cases h1 : len ≤ q
    · rw [wlen_0 h1] at h; omega
    · cases h2 : isWd (f q) with
      | false => rw [wlen_f h2] at h; omega
      | true => exact ⟨by omega, rfl⟩
  | w + 1, q, h => by
    by_cases h1 : len ≤ q
    · rw [wlen_0 h1] at h; omega
    · cases h2 : isWd (f q) with
      | false => rw [wlen_f h2] at h; omega
      | true =>
        rw [wlen_t (by omega) h1 h2] at h
        have h : wlen f len (w + 1) (q + 1) + 1 = w + 1 + 1 := h
        have ih := wlen_go (f := f) (len := len) (w := w) (q := q + 1) (by omega)
        rw [show q + 1 + w = q + (w + 1) by omega] at ih
        exact ih
theorem isWd_61 : isWd 61 = false := by decide
theorem isWd_44 : isWd 44 = false := by decide
theorem sub_z {a b : Int32} (h : a - b = 0) : a = b := by
  have := congrArg (fun z => z + b) h
  simp at this
  exact this
theorem nI_sub0 {n m : Nat} (hn : n < 2 ^ 31) (hm : m < 2 ^ 31) (h : nI n - nI m = 0) : n = m := by
  have h1 := sub_z h
  have h2 := congrArg Int32.toInt h1
  rw [nI_toInt hn, nI_toInt hm] at h2
  exact_mod_cast h2
theorem cmpG_0 {f : Nat → Int32} {a n b m : Nat} (hn : n < 2 ^ 31) (hm : m < 2 ^ 31) : ∀ {w k : Nat}, n < k + w → cmpG f a n b m w k = 0 → (k ≤ n → k ≤ m → n = m) ∧ ∀ i, k ≤ i → i < n → i < m → f (a + i) = f (b + i)
  | 0, k, hw, h => ⟨fun h1 _ => by omega, fun i h1 h2 _ => by omega⟩
  | w + 1, k, hw, h => by
    by_cases h1 : n ≤ k
    · rw [cmpG_n (Or.inl h1)] at h
      have e := nI_sub0 hn hm h
      exact ⟨fun _ _ => e, fun i g1 g2 _ => by omega⟩
    · by_cases h2 : m ≤ k
      · rw [cmpG_n (Or.inr h2)] at h
        have e := nI_sub0 hn hm h
        exact ⟨fun _ _ => e, fun i g1 g2 g3 => by omega⟩
      · by_cases h3 : f (a + k) = f (b + k)
        · rw [cmpG_s (by omega) h1 h2 h3] at h
          obtain ⟨c1, c2⟩ := cmpG_0 hn hm (w := w) (k := k + 1) (by omega) h
          refine ⟨fun _ _ => c1 (by omega) (by omega), fun i g1 g2 g3 => ?_⟩
          by_cases e : i = k
          · subst e; exact h3
          · exact c2 i (by omega) g2 g3
        · rw [cmpG_d (by omega) h1 h2 h3] at h
          exact absurd (sub_z h) h3
theorem cmpG_e {f : Nat → Int32} {a n b : Nat} : ∀ {w k : Nat}, (∀ i, k ≤ i → i < n → f (a + i) = f (b + i)) → cmpG f a n b n w k = 0
  | 0, k, _ => by show nI n - nI n = 0; simp
  | w + 1, k, h => by
    by_cases h1 : n ≤ k
    · rw [cmpG_n (Or.inl h1)]; simp
    · rw [cmpG_s (by omega) h1 h1 (h k (Nat.le_refl _) (by omega))]
      exact cmpG_e (fun i g1 g2 => h i (by omega) g2)
theorem allB_iff {f : Nat → Bool} : ∀ {n : Nat}, allB n f = true ↔ ∀ i, i < n → f i = true
  | 0 => ⟨fun _ i hi => absurd hi (Nat.not_lt_zero i), fun _ => rfl⟩
  | n + 1 => by
    rw [allB_s, Bool.and_eq_true, allB_iff (n := n)]
    constructor
    · rintro ⟨h1, h2⟩ i hi
      by_cases e : i = n
      · subst e; exact h2
      · exact h1 i (by omega)
    · intro h
      exact ⟨fun i hi => h i (by omega), h n (by omega)⟩
theorem anyB_ext {f g : Nat → Bool} : ∀ {n : Nat}, (∀ i, i < n → f i = g i) → anyB n f = anyB n g
  | 0, _ => rfl
  | n + 1, h => by
    rw [anyB_s, anyB_s, anyB_ext (fun i hi => h i (by omega)), h n (by omega)]
/-- the same bytes: the two ways -/
theorem sb_cmpT {f : Nat → Int32} {a n b m : Nat} (hn : n < 2 ^ 31) (hm : m < 2 ^ 31) : sbB f a (a + n) b (b + m) = decide (cmpT f a n b m = 0) := by
  apply Bool.eq_iff_iff.mpr
  rw [decide_eq_true_eq]
  unfold sbB
  rw [Bool.and_eq_true, decide_eq_true_eq, allB_iff, show a + n - a = n by omega, show b + m - b = m by omega]
  constructor
  · rintro ⟨h1, h2⟩
    subst h1
    exact cmpG_e (fun i _ hi => of_decide_eq_true (h2 i hi))
  · intro h
    obtain ⟨c1, c2⟩ := cmpG_0 hn hm (w := n + 1) (k := 0) (by omega) h
    have e := c1 (Nat.zero_le _) (Nat.zero_le _)
    exact ⟨e, fun i hi => decide_eq_true (c2 i (Nat.zero_le _) hi (by omega))⟩
/-- the labels: the two ways -/
def labR (c : Nat) (g S E V : Nat → Nat) : Prop := ∀ k, k < c → S k = g (4 * k) ∧ E k = g (4 * k) + g (4 * k + 1) ∧ g (4 * k + 2) = g (4 * k) + g (4 * k + 1) + 1 ∧ V k = g (4 * k + 2) + g (4 * k + 3) ∧ g (4 * k + 1) ≤ 24 ∧ g (4 * k + 3) ≤ 24 ∧ 0 < g (4 * k + 1) ∧ 0 < g (4 * k + 3)
theorem labR_s {c q n v : Nat} {g S E V : Nat → Nat} (h : labR c g S E V) (hn : n ≤ 24) (hv : v ≤ 24) (hn0 : 0 < n) (hv0 : 0 < v) : labR (c + 1) (va_up (va_up (va_up (va_up g (4 * c) q) (4 * c + 1) n) (4 * c + 2) (q + n + 1)) (4 * c + 3) v) (va_up S c q) (va_up E c (q + n)) (va_up V c (q + n + 1 + v)) := by
  intro k hk
  by_cases e : k = c
  · subst e
    have a0 : (va_up (va_up (va_up (va_up g (4 * k) q) (4 * k + 1) n) (4 * k + 2) (q + n + 1)) (4 * k + 3) v) (4 * k) = q := by
      rw [va_up_ne _ _ (by omega), va_up_ne _ _ (by omega), va_up_ne _ _ (by omega), va_up_self]
    have a1 : (va_up (va_up (va_up (va_up g (4 * k) q) (4 * k + 1) n) (4 * k + 2) (q + n + 1)) (4 * k + 3) v) (4 * k + 1) = n := by
      rw [va_up_ne _ _ (by omega), va_up_ne _ _ (by omega), va_up_self]
    have a2 : (va_up (va_up (va_up (va_up g (4 * k) q) (4 * k + 1) n) (4 * k + 2) (q + n + 1)) (4 * k + 3) v) (4 * k + 2) = q + n + 1 := by
      rw [va_up_ne _ _ (by omega), va_up_self]
    have a3 : (va_up (va_up (va_up (va_up g (4 * k) q) (4 * k + 1) n) (4 * k + 2) (q + n + 1)) (4 * k + 3) v) (4 * k + 3) = v := va_up_self _ _ _
    rw [a0, a1, a2, a3, va_up_self, va_up_self, va_up_self]
    exact ⟨rfl, rfl, rfl, rfl, hn, hv, hn0, hv0⟩
  · have b : ∀ j, j < 4 * c → (va_up (va_up (va_up (va_up g (4 * c) q) (4 * c + 1) n) (4 * c + 2) (q + n + 1)) (4 * c + 3) v) j = g j := fun j hj => by
      rw [va_up_ne _ _ (by omega), va_up_ne _ _ (by omega), va_up_ne _ _ (by omega), va_up_ne _ _ (by omega)]
    rw [b _ (by omega), b _ (by omega), b _ (by omega), b _ (by omega), va_up_ne _ _ e, va_up_ne _ _ e, va_up_ne _ _ e]
    exact h k (by omega)
theorem rd_eq {f : Nat → Int32} {len : Nat} : ∀ {w q c : Nat} {g S E V : Nat → Nat}, q ≤ len → labR c g S E V → (∃ (kf : Int32) (pf : Nat), rdM f len w q c g = .inl (kf, pf) ∧ rdC f len w q c S E V = .inl (kf, pf)) ∨ (∃ (c' : Nat) (g' S' E' V' : Nat → Nat), rdM f len w q c g = .inr (c', g') ∧ rdC f len w q c S E V = .inr (c', S', E', V') ∧ labR c' g' S' E' V')
  | 0, q, c, g, S, E, V, _, _ => Or.inl ⟨8, q, rfl, rfl⟩
  | w + 1, q, c, g, S, E, V, hq, h => by
    obtain ⟨n, hn⟩ : ∃ n, wlen f len 25 q = n := ⟨_, rfl⟩
    obtain ⟨v, hv⟩ : ∃ v, wlen f len 25 (q + n + 1) = v := ⟨_, rfl⟩
    have n25 := wlen_le f len 25 q
    have v25 := wlen_le f len 25 (q + n + 1)
    have n24 : wlen f len 24 q = min 24 n := by rw [wlen_25, hn]
    have nin := wlen_in (f := f) (len := len) (w := 25) hq
    rw [hn] at n25 nin
    rw [hv] at v25
    rw [rdM_s hn hv]
    by_cases h1 : n = 0
    · rw [if_pos h1]
      have e : wlen f len 24 q = 0 := by omega
      exact Or.inl ⟨7, q, rfl, rd_x (by rw [rl_a (Or.inl (by omega)), e, Nat.add_zero])⟩
    rw [if_neg h1]
    by_cases h2 : 24 < n
    · rw [if_pos h2]
      have e : wlen f len 24 q = 24 := by omega
      obtain ⟨g1, g2⟩ := wlen_go (f := f) (len := len) (w := 24) (q := q) (show wlen f len 25 q = 25 by omega)
      refine Or.inl ⟨7, q + 24, rfl, rd_x ?_⟩
      rw [rl_a (Or.inr (Or.inr (by rw [e]; intro z; rw [z, isWd_61] at g2; cases g2))), e]
    rw [if_neg h2]
    have e : wlen f len 24 q = n := by omega
    by_cases h3 : len ≤ q + n
    · rw [if_pos h3]
      exact Or.inl ⟨7, q + n, rfl, rd_x (by rw [rl_a (Or.inr (Or.inl (by omega))), e])⟩
    rw [if_neg h3]
    by_cases h4 : f (q + n) = 61
    · rw [if_neg (fun z => z h4)]
      have ta : anyB c (fun k => decide (cmpT f (g (4 * k)) (g (4 * k + 1)) q n = 0)) = anyB c (taC f S E q (q + n)) := anyB_ext (fun k hk => by
        obtain ⟨s1, s2, -, -, s5, -⟩ := h k hk
        unfold taC
        rw [s1, s2, sb_cmpT (by omega) (by omega)])
      by_cases h5 : c = 6 ∨ anyB c (taC f S E q (q + n)) = true
      · rw [if_pos (by rw [ta]; rcases h5 with z | z; (rw [decide_eq_true z]; rfl); rw [z, Bool.or_true])]
        exact Or.inl ⟨8, q, rfl, rd_x (rl_b (by omega) (by omega) (by rw [e]; exact h4) (by rw [e]; exact h5))⟩
      · have h6 : ¬ c = 6 := fun z => h5 (Or.inl z)
        have h7 : anyB c (taC f S E q (q + n)) = false := by
          cases z : anyB c (taC f S E q (q + n)) with
          | false => rfl
          | true => exact absurd (Or.inr z) h5
        rw [if_neg (by rw [ta, h7, decide_eq_false h6]; decide)]
        have v24 : wlen f len 24 (q + n + 1) = min 24 v := by rw [wlen_25, hv]
        have vin := wlen_in (f := f) (len := len) (w := 25) (show q + n + 1 ≤ len by omega)
        rw [hv] at vin
        by_cases h8 : v = 0
        · rw [if_pos h8]
          refine Or.inl ⟨7, q + n + 1, rfl, rd_x ?_⟩
          rw [rl_c (by omega) (by omega) (by rw [e]; exact h4) h6 (by rw [e]; exact h7) (by rw [e]; omega), e, v24, h8]
          rfl
        rw [if_neg h8]
        by_cases h9 : 24 < v
        · rw [if_pos h9]
          obtain ⟨g1, g2⟩ := wlen_go (f := f) (len := len) (w := 24) (q := q + n + 1) (show wlen f len 25 (q + n + 1) = 25 by omega)
          have rr : rlC f len q c S E = .inr (q + n, q + n + 1 + 24) := by
            rw [rl_d (by omega) (by omega) (by rw [e]; exact h4) h6 (by rw [e]; exact h7) (by rw [e]; omega), e, v24, show min 24 v = 24 by omega]
          refine Or.inl ⟨7, q + n + 1 + 24, rfl, ?_⟩
          rw [rd_s rr, if_neg (by omega), if_neg (fun z => by rw [z, isWd_44] at g2; cases g2)]
        rw [if_neg h9]
        have rr : rlC f len q c S E = .inr (q + n, q + n + 1 + v) := by
          rw [rl_d (by omega) (by omega) (by rw [e]; exact h4) h6 (by rw [e]; exact h7) (by rw [e]; omega), e, v24, show min 24 v = v by omega]
        have hl := labR_s (q := q) h (show n ≤ 24 by omega) (show v ≤ 24 by omega) (by omega) (by omega)
        by_cases h10 : q + n + 1 + v = len
        · rw [if_pos h10]
          exact Or.inr ⟨_, _, _, _, _, rfl, by rw [rd_s rr, if_pos h10], hl⟩
        rw [if_neg h10]
        by_cases h11 : f (q + n + 1 + v) = 44
        · rw [if_neg (fun z => z h11)]
          rcases rd_eq (f := f) (len := len) (w := w) (show q + n + 1 + v + 1 ≤ len by omega) hl with ⟨kf, pf, a1, a2⟩ | ⟨c', g', S', E', V', a1, a2, a3⟩
          · exact Or.inl ⟨kf, pf, a1, by rw [rd_s rr, if_neg h10, if_pos h11]; exact a2⟩
          · exact Or.inr ⟨c', g', S', E', V', a1, by rw [rd_s rr, if_neg h10, if_pos h11]; exact a2, a3⟩
        · rw [if_pos h11]
          exact Or.inl ⟨7, q + n + 1 + v, rfl, by rw [rd_s rr, if_neg h10, if_neg h11]⟩
    · rw [if_pos h4]
      exact Or.inl ⟨7, q + n, rfl, rd_x (by rw [rl_a (Or.inr (Or.inr (by rw [e]; exact h4))), e])⟩
