section
/-! Words by their bytes: their order. -/
def asc1 (v : Int32) : Prop := ∃ n : Nat, n < 128 ∧ v = nI n
def asc (L : List Int32) : Prop := ∀ v, v ∈ L → asc1 v
def ltL : List Int32 → List Int32 → Bool
  | _, [] => false
  | [], _ :: _ => true
  | a :: L, b :: M => if a = b then ltL L M else decide (a < b)
theorem asc_and : ∀ n : Nat, n < 128 → nI n &&& 255 = nI n := by decide +kernel
theorem frst_sh {f g : Nat → Bool} (h : ∀ i, f (i + 1) = g i) : ∀ n k, frst f n (k + 1) = (frst g n k).map (· + 1)
  | 0, k => rfl
  | n + 1, k => by
    cases e : g k with
    | true => rw [frst_t (Nat.succ_pos n) ((h k).trans e), frst_t (Nat.succ_pos n) e]; rfl
    | false =>
      rw [frst_f (Nat.succ_pos n) ((h k).trans e), frst_f (Nat.succ_pos n) e]
      exact frst_sh h n (k + 1)
theorem cmpW_c {a b : Int32} {L M : List Int32} (l1 : L.length < 2 ^ 29) (l2 : M.length < 2 ^ 29) : cmpW (a :: L) (b :: M) = if a = b then cmpW L M else (a &&& 255) - (b &&& 255) := by
  have hf : ∀ i, dfB (a :: L) (b :: M) (i + 1) = dfB L M i := fun i => rfl
  have hm : min (a :: L).length (b :: M).length = min L.length M.length + 1 := by rw [List.length_cons, List.length_cons]; omega
  by_cases h : a = b
  · rw [if_pos h]
    have e0 : dfB (a :: L) (b :: M) 0 = false := by
      show (!decide (a = b)) = false
      rw [decide_eq_true h]
      rfl
    have e1 : frst (dfB (a :: L) (b :: M)) (min (a :: L).length (b :: M).length) 0 = (frst (dfB L M) (min L.length M.length) 0).map (· + 1) := by
      rw [hm, frst_f (Nat.succ_pos _) e0]
      exact frst_sh hf _ 0
    cases e2 : frst (dfB L M) (min L.length M.length) 0 with
    | none =>
      rw [e2] at e1
      rw [cmpW_n e2, cmpW_n e1]
      apply Int32.toInt_inj.mp
      rw [List.length_cons, List.length_cons, pk_sub_toInt (by omega) (by omega), pk_sub_toInt (by omega) (by omega)]
      omega
    | some i =>
      rw [e2] at e1
      rw [cmpW_s e2, cmpW_s e1]
      rfl
  · rw [if_neg h]
    have e0 : dfB (a :: L) (b :: M) 0 = true := by
      show (!decide (a = b)) = true
      rw [decide_eq_false h]
      rfl
    rw [cmpW_s (i := 0) (by rw [hm]; exact frst_t (Nat.succ_pos _) e0)]
    rfl
theorem cmpW_l (M : List Int32) : cmpW [] M = nI 0 - nI M.length := cmpW_n (by rw [show min ([] : List Int32).length M.length = 0 by rw [List.length_nil]; omega]; rfl)
theorem cmpW_r (L : List Int32) : cmpW L [] = nI L.length - nI 0 := cmpW_n (by rw [show min L.length ([] : List Int32).length = 0 by rw [List.length_nil]; omega]; rfl)
theorem i0 : (0 : Int32).toInt = 0 := by decide
theorem sb_lt {a b : Nat} (ha : a < 2 ^ 30) (hb : b < 2 ^ 30) : (nI a - nI b < 0 ↔ a < b) ∧ (nI a - nI b = 0 ↔ a = b) ∧ (0 < nI a - nI b ↔ b < a) := by
  have e := pk_sub_toInt ha hb
  refine ⟨?_, ?_, ?_⟩
  · rw [Int32.lt_iff_toInt_lt, e, i0]; omega
  · rw [← Int32.toInt_inj, e, i0]; omega
  · rw [Int32.lt_iff_toInt_lt, e, i0]; omega
theorem asc_c {a : Int32} {L : List Int32} (h : asc (a :: L)) : asc1 a ∧ asc L := ⟨h a (List.mem_cons_self ..), fun v hv => h v (List.mem_cons_of_mem _ hv)⟩
theorem cmpW_o : ∀ {L M : List Int32}, asc L → asc M → L.length < 2 ^ 29 → M.length < 2 ^ 29 → (cmpW L M < 0 ↔ ltL L M = true) ∧ (cmpW L M = 0 ↔ L = M) ∧ (0 < cmpW L M ↔ ltL M L = true)
  | [], [], _, _, _, _ => by decide
  | [], b :: M, _, _, _, h4 => by
    rw [cmpW_l]
    obtain ⟨c1, c2, c3⟩ := sb_lt (a := 0) (b := (b :: M).length) (by decide) (by omega)
    refine ⟨⟨fun _ => rfl, fun _ => c1.mpr (Nat.succ_pos _)⟩, ⟨fun h => ?_, fun h => by cases h⟩, ⟨fun h => ?_, fun h => by cases h⟩⟩
    · exact absurd (c2.mp h) (Nat.succ_ne_zero _).symm
    · exact absurd (c3.mp h) (Nat.not_lt_zero _)
  | a :: L, [], _, _, h3, _ => by
    rw [cmpW_r]
    obtain ⟨c1, c2, c3⟩ := sb_lt (a := (a :: L).length) (b := 0) (by omega) (by decide)
    refine ⟨⟨fun h => ?_, fun h => by cases h⟩, ⟨fun h => ?_, fun h => by cases h⟩, ⟨fun _ => rfl, fun _ => c3.mpr (Nat.succ_pos _)⟩⟩
    · exact absurd (c1.mp h) (Nat.not_lt_zero _)
    · exact absurd (c2.mp h) (Nat.succ_ne_zero _)
  | a :: L, b :: M, h1, h2, h3, h4 => by
    rw [List.length_cons] at h3 h4
    rw [cmpW_c (by omega) (by omega)]
    obtain ⟨a1, a2⟩ := asc_c h1
    obtain ⟨b1, b2⟩ := asc_c h2
    by_cases e : a = b
    · subst e
      obtain ⟨i1, i2, i3⟩ := cmpW_o a2 b2 (by omega) (by omega)
      have e1 : ltL (a :: L) (a :: M) = ltL L M := if_pos rfl
      have e2 : ltL (a :: M) (a :: L) = ltL M L := if_pos rfl
      rw [if_pos rfl, e1, e2]
      exact ⟨i1, i2.trans ⟨fun h => by rw [h], fun h => by injection h⟩, i3⟩
    · obtain ⟨n, hn, rfl⟩ := a1
      obtain ⟨m, hm, rfl⟩ := b1
      rw [if_neg e, asc_and n hn, asc_and m hm]
      obtain ⟨c1, c2, c3⟩ := sb_lt (a := n) (b := m) (by omega) (by omega)
      have e1 : ltL (nI n :: L) (nI m :: M) = decide (nI n < nI m) := if_neg e
      have e2 : ltL (nI m :: M) (nI n :: L) = decide (nI m < nI n) := if_neg (fun z => e z.symm)
      rw [e1, e2, decide_eq_true_eq, decide_eq_true_eq, nI_ltI (by omega) (by omega), nI_ltI (by omega) (by omega)]
      refine ⟨c1, ⟨fun h => absurd (by rw [c2.mp h]) e, fun h => ?_⟩, c3⟩
      injection h with h5 _
      exact absurd h5 e
theorem ltL_irr : ∀ L : List Int32, ltL L L = false
  | [] => rfl
  | a :: L => (if_pos rfl).trans (ltL_irr L)
theorem lt_i {a b : Int32} : a < b ↔ a.toInt < b.toInt := Int32.lt_iff_toInt_lt
theorem ltL_tr : ∀ {L M N : List Int32}, ltL L M = true → ltL M N = true → ltL L N = true
  | _, _, [], _, h => by cases ‹List Int32› <;> cases h
  | [], _, _ :: _, _, _ => rfl
  | _ :: _, [], _ :: _, h, _ => by cases h
  | a :: L, b :: M, c :: N, h1, h2 => by
    have h1 : (if a = b then ltL L M else decide (a < b)) = true := h1
    have h2 : (if b = c then ltL M N else decide (b < c)) = true := h2
    show (if a = c then ltL L N else decide (a < c)) = true
    by_cases e1 : a = b
    · subst e1
      rw [if_pos rfl] at h1
      by_cases e2 : a = c
      · rw [if_pos e2] at h2 ⊢
        exact ltL_tr h1 h2
      · rw [if_neg e2] at h2 ⊢
        exact h2
    · rw [if_neg e1] at h1
      have h1 := lt_i.mp (of_decide_eq_true h1)
      by_cases e2 : b = c
      · subst e2
        rw [if_neg e1]
        exact decide_eq_true (lt_i.mpr h1)
      · rw [if_neg e2] at h2
        have h2 := lt_i.mp (of_decide_eq_true h2)
        have e3 : ¬ a = c := fun z => by subst z; omega
        rw [if_neg e3]
        exact decide_eq_true (lt_i.mpr (by omega))
theorem ltL_as {L M : List Int32} (h : ltL L M = true) : ltL M L = false := by
  cases e : ltL M L with
  | false => rfl
  | true =>
    have := ltL_tr h e
    rw [ltL_irr] at this
    cases this
theorem ltL_tot : ∀ {L M : List Int32}, L ≠ M → ltL L M = true ∨ ltL M L = true
  | [], [], h => absurd rfl h
  | [], _ :: _, _ => Or.inl rfl
  | _ :: _, [], _ => Or.inr rfl
  | a :: L, b :: M, h => by
    show (if a = b then ltL L M else decide (a < b)) = true ∨ (if b = a then ltL M L else decide (b < a)) = true
    by_cases e : a = b
    · subst e
      rw [if_pos rfl, if_pos rfl]
      exact ltL_tot (fun z => h (by rw [z]))
    · rw [if_neg e, if_neg (fun z => e z.symm), decide_eq_true_eq, decide_eq_true_eq, lt_i, lt_i]
      have : a.toInt ≠ b.toInt := fun z => e (Int32.toInt_inj.mp z)
      omega
theorem seg_n (f : Nat → Int32) {a b : Nat} (h : b ≤ a) : seg f a b = [] := by
  unfold seg
  rw [show b - a = 0 by omega]
  rfl
theorem seg_c (f : Nat → Int32) {a b : Nat} (h : a < b) : seg f a b = f a :: seg f (a + 1) b := by
  unfold seg
  obtain ⟨n, hn⟩ : ∃ n, b - a = n + 1 := ⟨b - a - 1, by omega⟩
  rw [hn, show b - (a + 1) = n by omega, List.range_succ_eq_map, List.map_cons, List.map_map]
  congr 1
  apply List.map_congr_left
  intro i _
  show f (a + (i + 1)) = f (a + 1 + i)
  congr 1
  omega
/-- the reference's way to compare -/
theorem cmpG_W {f : Nat → Int32} {a n b m : Nat} (h1 : ∀ i, i < n → asc1 (f (a + i))) (h2 : ∀ i, i < m → asc1 (f (b + i))) (hn : n < 2 ^ 29) (hm : m < 2 ^ 29) : ∀ {w k : Nat}, k ≤ n → k ≤ m → n < k + w → cmpG f a n b m w k = cmpW (seg f (a + k) (a + n)) (seg f (b + k) (b + m))
  | 0, k, c1, c2, c3 => by omega
  | w + 1, k, c1, c2, c3 => by
    have se : ∀ p q : Nat, p < 2 ^ 29 → q < 2 ^ 29 → (p : Int) - q = n - m → nI n - nI m = nI p - nI q := fun p q hp hq e => Int32.toInt_inj.mp (by rw [pk_sub_toInt (by omega) (by omega), pk_sub_toInt (by omega) (by omega)]; omega)
    by_cases g1 : n ≤ k
    · rw [cmpG_n (Or.inl g1), seg_n f (show a + n ≤ a + k by omega), cmpW_l, seg_len]
      exact se _ _ (by omega) (by omega) (by omega)
    · by_cases g2 : m ≤ k
      · rw [cmpG_n (Or.inr g2), seg_n f (show b + m ≤ b + k by omega), cmpW_r, seg_len]
        exact se _ _ (by omega) (by omega) (by omega)
      · rw [seg_c f (show a + k < a + n by omega), seg_c f (show b + k < b + m by omega), cmpW_c (by rw [seg_len]; omega) (by rw [seg_len]; omega)]
        by_cases g3 : f (a + k) = f (b + k)
        · rw [cmpG_s (Nat.succ_pos w) g1 g2 g3, if_pos g3]
          exact cmpG_W h1 h2 hn hm (w := w) (k := k + 1) (by omega) (by omega) (by omega)
        · obtain ⟨p, hp, ep⟩ := h1 k (by omega)
          obtain ⟨q, hq, eq⟩ := h2 k (by omega)
          rw [cmpG_d (Nat.succ_pos w) g1 g2 g3, if_neg g3, ep, eq, asc_and p hp, asc_and q hq]
theorem cmpT_W {f : Nat → Int32} {a n b m : Nat} (h1 : ∀ i, i < n → asc1 (f (a + i))) (h2 : ∀ i, i < m → asc1 (f (b + i))) (hn : n < 2 ^ 29) (hm : m < 2 ^ 29) : cmpT f a n b m = cmpW (seg f a (a + n)) (seg f b (b + m)) := by
  have := cmpG_W h1 h2 hn hm (w := n + 1) (k := 0) (Nat.zero_le _) (Nat.zero_le _) (by omega)
  exact this
theorem sameW_i {L M : List Int32} : sameW L M = true ↔ L = M := by
  unfold sameW
  rw [Bool.and_eq_true, decide_eq_true_eq, allB_iff]
  constructor
  · rintro ⟨h1, h2⟩
    apply List.ext_getElem? 
    intro i
    by_cases hi : i < L.length
    · have := of_decide_eq_true (h2 i hi)
      rw [List.getD_eq_getElem?_getD, List.getD_eq_getElem?_getD, List.getElem?_eq_getElem hi, List.getElem?_eq_getElem (by omega)] at this
      rw [List.getElem?_eq_getElem hi, List.getElem?_eq_getElem (by omega)]
      exact congrArg some this
    · rw [List.getElem?_eq_none (by omega), List.getElem?_eq_none (by omega)]
  · intro h
    subst h
    exact ⟨rfl, fun i _ => decide_eq_true rfl⟩
end
section
/-! Labels in order: the two ways. -/
theorem wlen_w {f : Nat → Int32} {len : Nat} : ∀ {w q i : Nat}, i < wlen f len w q → isWd (f (q + i)) = true
  | 0, q, i, h => absurd h (Nat.not_lt_zero i)
  | w + 1, q, i, h => by
    by_cases h1 : len ≤ q
    · rw [wlen_0 h1] at h; exact absurd h (Nat.not_lt_zero i)
    · cases h2 : isWd (f q) with
      | false => rw [wlen_f h2] at h; exact absurd h (Nat.not_lt_zero i)
      | true =>
        rw [wlen_t (Nat.succ_pos w) h1 h2] at h
        cases i with
        | zero => exact h2
        | succ i =>
          have := wlen_w (f := f) (len := len) (w := w) (q := q + 1) (i := i) (by
            have h : i + 1 < wlen f len w (q + 1) + 1 := h
            omega)
          rw [show q + 1 + i = q + (i + 1) by omega] at this
          exact this
theorem isWd_a {z : Int32} (h : isWd z = true) : asc1 z := by
  unfold isWd at h
  rw [Bool.and_eq_true, Bool.and_eq_true] at h
  obtain ⟨h1, h2, -⟩ := h
  have g1 : ¬ z ≤ 32 := fun y => by rw [decide_eq_true y] at h1; cases h1
  have g2 : ¬ 127 ≤ z := fun y => by rw [decide_eq_true y] at h2; cases h2
  rw [Int32.le_iff_toInt_le] at g1 g2
  have e1 : (32 : Int32).toInt = 32 := by decide
  have e2 : (127 : Int32).toInt = 127 := by decide
  rw [e1] at g1
  rw [e2] at g2
  refine ⟨z.toInt.toNat, by omega, Int32.toInt_inj.mp ?_⟩
  rw [nI_toInt (by omega)]
  omega
theorem allB_ext {f g : Nat → Bool} : ∀ {n : Nat}, (∀ i, i < n → f i = g i) → allB n f = allB n g
  | 0, _ => rfl
  | n + 1, h => by rw [allB_s, allB_s, allB_ext (fun i hi => h i (by omega)), h n (by omega)]
theorem sb_same (f : Nat → Int32) (a b a2 b2 : Nat) : sbB f a b a2 b2 = sameW (seg f a b) (seg f a2 b2) := by
  unfold sbB sameW
  rw [seg_len, seg_len]
  by_cases h : b - a = b2 - a2
  · congr 1
    exact allB_ext (fun i hi => by
      show decide (f (a + i) = f (a2 + i)) = decide ((seg f a b).getD i 0 = (seg f a2 b2).getD i 0)
      rw [seg_get f hi, seg_get f (by omega)])
  · rw [decide_eq_false h]
    rfl
theorem anyB_no {f : Nat → Bool} : ∀ {n : Nat}, anyB n f = false → ∀ i, i < n → f i = false
  | 0, _, i, hi => absurd hi (Nat.not_lt_zero i)
  | n + 1, h, i, hi => by
    rw [anyB_s, Bool.or_eq_false_iff] at h
    by_cases e : i = n
    · subst e; exact h.2
    · exact anyB_no h.1 i (by omega)
/-- labels read: words, distinct names -/
def labQ (f : Nat → Int32) (c : Nat) (S E V : Nat → Nat) : Prop := ∀ k, k < c → f (E k) = 61 ∧ (∀ i, S k ≤ i → i < E k → isWd (f i) = true) ∧ (∀ i, E k + 1 ≤ i → i < V k → isWd (f i) = true) ∧ ∀ j, j < k → seg f (S j) (E j) ≠ seg f (S k) (E k)
theorem labQ_s {f : Nat → Int32} {len q c a b : Nat} {S E V : Nat → Nat} (h : labQ f c S E V) (hq : q ≤ len) (hr : rlC f len q c S E = .inr (a, b)) : labQ f (c + 1) (va_up S c q) (va_up E c a) (va_up V c b) := by
  obtain ⟨-, -, -, -, -, -, r7, r8, r9, r10⟩ := rl_in hq hr
  intro k hk
  by_cases e : k = c
  · subst e
    rw [va_up_self, va_up_self, va_up_self]
    refine ⟨r7, fun i h1 h2 => ?_, fun i h1 h2 => ?_, fun j hj => ?_⟩
    · have := wlen_w (f := f) (len := len) (w := 24) (q := q) (i := i - q) (by omega)
      rw [show q + (i - q) = i by omega] at this
      exact this
    · have := wlen_w (f := f) (len := len) (w := 24) (q := a + 1) (i := i - (a + 1)) (by omega)
      rw [show a + 1 + (i - (a + 1)) = i by omega] at this
      exact this
    · rw [va_up_ne _ _ (by omega), va_up_ne _ _ (by omega)]
      intro z
      have h0 := anyB_no r10 j hj
      unfold taC at h0
      rw [sb_same, z, sameW_i.mpr rfl] at h0
      cases h0
  · obtain ⟨a1, a2, a3, a4⟩ := h k (by omega)
    rw [va_up_ne _ _ e, va_up_ne _ _ e, va_up_ne _ _ e]
    refine ⟨a1, a2, a3, fun j hj => ?_⟩
    rw [va_up_ne _ _ (by omega), va_up_ne _ _ (by omega)]
    exact a4 j hj
theorem rdC_q {f : Nat → Int32} {len : Nat} : ∀ {w q c c' : Nat} {S E V S' E' V' : Nat → Nat}, q ≤ len → labQ f c S E V → rdC f len w q c S E V = .inr (c', S', E', V') → labQ f c' S' E' V'
  | 0, q, c, c', S, E, V, S', E', V', _, _, h => by cases h
  | w + 1, q, c, c', S, E, V, S', E', V', hq, hl, h => by
    cases hr : rlC f len q c S E with
    | inl a => rw [rd_x hr] at h; cases h
    | inr p =>
      obtain ⟨a, b⟩ := p
      obtain ⟨-, -, -, -, -, r6, -⟩ := rl_in hq hr
      rw [rd_s hr] at h
      have hs := labQ_s hl hq hr
      by_cases h1 : b = len
      · rw [if_pos h1] at h
        injection h with h
        injection h with e1 h
        injection h with e2 h
        injection h with e3 e4
        subst e1 e2 e3 e4
        exact hs
      · rw [if_neg h1] at h
        by_cases h2 : f b = 44
        · rw [if_pos h2] at h
          exact rdC_q (by omega) hs h
        · rw [if_neg h2] at h
          cases h
theorem cnt_le2 {f g : Nat → Bool} : ∀ {n : Nat}, (∀ i, i < n → f i = true → g i = true) → cnt n f ≤ cnt n g
  | 0, _ => Nat.le_refl _
  | n + 1, h => by
    have ih := cnt_le2 (n := n) (fun i hi => h i (by omega))
    cases e : f n with
    | false => rw [cnt_f e]; cases e2 : g n with | false => rw [cnt_f e2]; exact ih | true => rw [cnt_t e2]; omega
    | true => rw [cnt_t e, cnt_t (h n (by omega) e)]; omega
theorem cnt_lt2 {f g : Nat → Bool} {k : Nat} : ∀ {n : Nat}, k < n → (∀ i, i < n → f i = true → g i = true) → f k = false → g k = true → cnt n f < cnt n g
  | 0, hk, _, _, _ => absurd hk (Nat.not_lt_zero k)
  | n + 1, hk, h, h1, h2 => by
    by_cases e : k = n
    · subst e
      rw [cnt_f h1, cnt_t h2]
      have := cnt_le2 (n := k) (fun i hi => h i (by omega))
      omega
    · have ih := cnt_lt2 (n := n) (by omega) (fun i hi => h i (by omega)) h1 h2
      cases e1 : f n with
      | false => rw [cnt_f e1]; cases e2 : g n with | false => rw [cnt_f e2]; exact ih | true => rw [cnt_t e2]; omega
      | true => rw [cnt_t e1, cnt_t (h n (by omega) e1)]; omega
theorem insP_q {n : List Int32} {L : List LB} {q : Nat} (h2 : 0 < q → ¬ 0 < cmpW (lab L (q - 1)).1 n) : ∀ {i : Nat}, q ≤ i → (∀ r, q ≤ r → r < i → 0 < cmpW (lab L r).1 n) → insP n L i = q
  | 0, hq, _ => by
    show 0 = q
    omega
  | i + 1, hq, h => by
    show (if 0 < cmpW (lab L i).1 n then insP n L i else i + 1) = q
    by_cases e : q = i + 1
    · rw [if_neg]
      · exact e.symm
      · have := h2 (by omega)
        rw [e] at this
        exact this
    · rw [if_pos (h i (by omega) (by omega))]
      exact insP_q h2 (by omega) (fun r a b => h r a (by omega))
section SR
variable {f : Nat → Int32} {S E V : Nat → Nat}
/-- name j stands before name k -/
def nbfB (f : Nat → Int32) (S E : Nat → Nat) (k j : Nat) : Bool := ltL (seg f (S j) (E j)) (seg f (S k) (E k))
theorem asc_seg {a b : Nat} (h : ∀ i, a ≤ i → i < b → isWd (f i) = true) : asc (seg f a b) := by
  intro v hv
  unfold seg at hv
  obtain ⟨i, hi, rfl⟩ := List.mem_map.mp hv
  rw [List.mem_range] at hi
  exact isWd_a (h (a + i) (by omega) (by omega))
theorem srt_rk {c : Nat} (hq : labQ f c S E V) (hl : ∀ k, k < c → E k - S k < 2 ^ 29) : ∀ {i : Nat}, i ≤ c → (∀ k, k < i → lab (srtL f S E V i) (cnt i (nbfB f S E k)) = rawL f S E V k) ∧ ∀ r, r < i → ∃ k, k < i ∧ cnt i (nbfB f S E k) = r
  | 0, _ => ⟨fun k hk => absurd hk (Nat.not_lt_zero k), fun r hr => absurd hr (Nat.not_lt_zero r)⟩
  | i + 1, hi => by
    obtain ⟨h1, h2⟩ := srt_rk hq hl (i := i) (by omega)
    have as : ∀ k, k < c → asc (seg f (S k) (E k)) := fun k hk => asc_seg (hq k hk).2.1
    have le : ∀ k, k < c → (seg f (S k) (E k)).length < 2 ^ 29 := fun k hk => by rw [seg_len]; exact hl k hk
    have ne : ∀ k, k < i → seg f (S k) (E k) ≠ seg f (S i) (E i) := fun k hk => (hq i (by omega)).2.2.2 k hk
    -- below the new name: rank below its count
    have lo : ∀ k, k < i → nbfB f S E i k = true → cnt i (nbfB f S E k) < cnt i (nbfB f S E i) := fun k hk g => cnt_lt2 hk (fun j _ hj => ltL_tr hj g) (ltL_irr _) g
    have hi2 : ∀ k, k < i → nbfB f S E k i = true → cnt i (nbfB f S E i) ≤ cnt i (nbfB f S E k) := fun k hk g => cnt_le2 (fun j _ hj => ltL_tr hj g)
    have L1 := srtL_len f S E V i
    have hp : insP (rawL f S E V i).1 (srtL f S E V i) (srtL f S E V i).length = cnt i (nbfB f S E i) := by
      rw [L1]
      refine insP_q (fun q0 => ?_) (cnt_le _ _) (fun r a b => ?_)
      · obtain ⟨k, hk, ek⟩ := h2 (cnt i (nbfB f S E i) - 1) (by have := cnt_le i (nbfB f S E i); omega)
        rw [← ek, h1 k hk]
        show ¬ 0 < cmpW (seg f (S k) (E k)) (seg f (S i) (E i))
        rw [(cmpW_o (as k (by omega)) (as i (by omega)) (le k (by omega)) (le i (by omega))).2.2]
        intro g
        have := hi2 k hk g
        omega
      · obtain ⟨k, hk, ek⟩ := h2 r b
        rw [← ek, h1 k hk]
        show 0 < cmpW (seg f (S k) (E k)) (seg f (S i) (E i))
        rw [(cmpW_o (as k (by omega)) (as i (by omega)) (le k (by omega)) (le i (by omega))).2.2]
        rcases ltL_tot (ne k hk) with g | g
        · have := lo k hk g
          omega
        · exact g
    have sp : ∀ k, k < i → (nbfB f S E i k = true ∧ nbfB f S E k i = false ∧ cnt (i + 1) (nbfB f S E k) = cnt i (nbfB f S E k)) ∨ (nbfB f S E k i = true ∧ cnt (i + 1) (nbfB f S E k) = cnt i (nbfB f S E k) + 1) := fun k hk => by
      rcases ltL_tot (ne k hk) with g | g
      · exact Or.inl ⟨g, ltL_as g, cnt_f (ltL_as g)⟩
      · exact Or.inr ⟨g, cnt_t g⟩
    have se : cnt (i + 1) (nbfB f S E i) = cnt i (nbfB f S E i) := cnt_f (ltL_irr _)
    refine ⟨fun k hk => ?_, fun r hr => ?_⟩
    · show lab (insL (rawL f S E V i) (srtL f S E V i)) _ = _
      rw [lab_ins, hp]
      by_cases e : k = i
      · subst e
        rw [se, if_neg (Nat.lt_irrefl _), if_pos rfl]
      · rcases sp k (by omega) with ⟨g1, g2, g3⟩ | ⟨g1, g3⟩
        · have := lo k (by omega) g1
          rw [g3, if_pos this]
          exact h1 k (by omega)
        · have := hi2 k (by omega) g1
          rw [g3, if_neg (by omega), if_neg (by omega), Nat.add_sub_cancel]
          exact h1 k (by omega)
    · by_cases e1 : r < cnt i (nbfB f S E i)
      · obtain ⟨k, hk, ek⟩ := h2 r (by have := cnt_le i (nbfB f S E i); omega)
        refine ⟨k, by omega, ?_⟩
        rcases sp k hk with ⟨g1, g2, g3⟩ | ⟨g1, g3⟩
        · rw [g3]; exact ek
        · have := hi2 k hk g1
          omega
      · by_cases e2 : r = cnt i (nbfB f S E i)
        · exact ⟨i, by omega, by rw [se, e2]⟩
        · obtain ⟨k, hk, ek⟩ := h2 (r - 1) (by omega)
          refine ⟨k, by omega, ?_⟩
          rcases sp k hk with ⟨g1, g2, g3⟩ | ⟨g1, g3⟩
          · have := lo k hk g1
            omega
          · rw [g3]; omega
end SR
end
section
/-! The text of a series laid: the two ways. -/
theorem getD_app (A B : List Int32) (i : Nat) : (A ++ B).getD i 0 = if i < A.length then A.getD i 0 else B.getD (i - A.length) 0 := by
  rw [List.getD_eq_getElem?_getD]
  by_cases h : i < A.length
  · rw [if_pos h, List.getElem?_append_left h, ← List.getD_eq_getElem?_getD]
  · rw [if_neg h, List.getElem?_append_right (by omega), ← List.getD_eq_getElem?_getD]
theorem seg_app (f : Nat → Int32) : ∀ (n a b c : Nat), b - a = n → a ≤ b → b ≤ c → seg f a b ++ seg f b c = seg f a c
  | 0, a, b, c, h, h1, h2 => by
    rw [seg_n f (show b ≤ a by omega), show b = a by omega]
    rfl
  | n + 1, a, b, c, h, h1, h2 => by
    rw [seg_c f (show a < b by omega), seg_c f (show a < c by omega), List.cons_append, seg_app f n (a + 1) b c (by omega) (by omega) h2]
theorem cpG_at (f tx : Nat → Int32) (a b : Nat) : ∀ n j, cpG f tx a b n j = if b ≤ j ∧ j < b + n then f (a + (j - b)) else tx j
  | 0, j => by rw [if_neg (by omega)]; rfl
  | n + 1, j => by
    show va_up (cpG f tx a b n) (b + n) (f (a + n)) j = _
    by_cases e : j = b + n
    · subst e
      rw [va_up_self, if_pos (by omega)]
      congr 1
      omega
    · rw [va_up_ne _ _ e, cpG_at f tx a b n j]
      by_cases h : b ≤ j ∧ j < b + n
      · rw [if_pos h, if_pos (by omega)]
      · rw [if_neg h, if_neg (by omega)]
section LY
variable {x : MS} {S E V : Nat → Nat}
theorem blw_e (hr : labR x.labelCount x.labels S E V) (hq : labQ x.tape x.labelCount S E V) {k j : Nat} (hk : k < x.labelCount) (hj : j < x.labelCount) : x.blw k j = nbfB x.tape S E k j := by
  obtain ⟨s1, s2, -, -, s5, -⟩ := hr j hj
  obtain ⟨t1, t2, -, -, t5, -⟩ := hr k hk
  have a1 := (hq j hj).2.1
  have a2 := (hq k hk).2.1
  have ec : cmpT x.tape (x.labels (4 * j)) (x.labels (4 * j + 1)) (x.labels (4 * k)) (x.labels (4 * k + 1)) = cmpW (seg x.tape (S j) (E j)) (seg x.tape (S k) (E k)) := by
    rw [s1, s2, t1, t2]
    rw [s1, s2] at a1
    rw [t1, t2] at a2
    exact cmpT_W (fun i hi => isWd_a (a1 _ (by omega) (by omega))) (fun i hi => isWd_a (a2 _ (by omega) (by omega))) (by omega) (by omega)
  have eo := (cmpW_o (asc_seg a1) (asc_seg a2) (by rw [seg_len, s1, s2]; omega) (by rw [seg_len, t1, t2]; omega)).1
  show (!decide (0 ≤ cmpT _ _ _ _ _)) = ltL _ _
  rw [ec]
  cases hz : ltL (seg x.tape (S j) (E j)) (seg x.tape (S k) (E k)) with
  | true => rw [decide_eq_false (Int32.not_le.mpr (eo.mpr hz))]; rfl
  | false =>
    rw [decide_eq_true (Int32.not_lt.mp (fun y => by rw [eo.mp y] at hz; cases hz))]
    rfl
theorem whG_e {t : Nat} : ∀ {n : Nat}, (∃ k, k < n ∧ cnt x.labelCount (x.blw k) = t) → cnt x.labelCount (x.blw (x.whG t n)) = t ∧ x.whG t n < n
  | 0, ⟨k, hk, _⟩ => absurd hk (Nat.not_lt_zero k)
  | n + 1, ⟨k, hk, ek⟩ => by
    by_cases h : cnt x.labelCount (x.blw n) = t
    · rw [whG_t h]
      exact ⟨h, Nat.lt_succ_self n⟩
    · rw [whG_f h]
      have e : k ≠ n := fun z => h (by rw [← z]; exact ek)
      have ih := whG_e (n := n) ⟨k, by omega, ek⟩
      exact ⟨ih.1, by omega⟩
theorem lay_w (hr : labR x.labelCount x.labels S E V) (hq : labQ x.tape x.labelCount S E V) {t : Nat} (ht : t < x.labelCount) : x.wh t < x.labelCount ∧ lab (srtL x.tape S E V x.labelCount) t = rawL x.tape S E V (x.wh t) := by
  have hl : ∀ k, k < x.labelCount → E k - S k < 2 ^ 29 := fun k hk => by
    obtain ⟨s1, s2, -, -, s5, -⟩ := hr k hk
    omega
  obtain ⟨h1, h2⟩ := srt_rk hq hl (Nat.le_refl _)
  have ce : ∀ k, k < x.labelCount → cnt x.labelCount (x.blw k) = cnt x.labelCount (nbfB x.tape S E k) := fun k hk => cnt_ext (fun j hj => blw_e hr hq hk hj)
  obtain ⟨k, hk, ek⟩ := h2 t ht
  obtain ⟨w1, w2⟩ := whG_e (x := x) (t := t) (n := x.labelCount) ⟨k, hk, by rw [ce k hk]; exact ek⟩
  have w1 : cnt x.labelCount (x.blw (x.wh t)) = t := w1
  have w2 : x.wh t < x.labelCount := w2
  refine ⟨w2, ?_⟩
  have := h1 (x.wh t) w2
  rw [← ce _ w2, w1] at this
  exact this
theorem lay_j (hr : labR x.labelCount x.labels S E V) (hq : labQ x.tape x.labelCount S E V) : ∀ {t : Nat}, t ≤ x.labelCount → (x.layT t).2 = (joinP (srtL x.tape S E V x.labelCount) t).length ∧ (∀ i, i < (joinP (srtL x.tape S E V x.labelCount) t).length → (x.layT t).1 (304 * x.seriesCount + i) = (joinP (srtL x.tape S E V x.labelCount) t).getD i 0) ∧ ∀ j, (j < 304 * x.seriesCount ∨ 304 * x.seriesCount + (joinP (srtL x.tape S E V x.labelCount) t).length ≤ j) → (x.layT t).1 j = x.texts j
  | 0, _ => ⟨rfl, fun i hi => absurd hi (Nat.not_lt_zero i), fun j _ => rfl⟩
  | t + 1, ht => by
    obtain ⟨h1, h2, h3⟩ := lay_j hr hq (t := t) (by omega)
    obtain ⟨w1, w2⟩ := lay_w hr hq (t := t) (by omega)
    obtain ⟨L, hL⟩ : ∃ L, L = srtL x.tape S E V x.labelCount := ⟨_, rfl⟩
    obtain ⟨J, hJ⟩ : ∃ J, J = joinP L t := ⟨_, rfl⟩
    rw [← hL] at h1 h2 h3 w2 ⊢
    rw [← hJ] at h1 h2 h3
    obtain ⟨w, hw⟩ : ∃ w, w = x.wh t := ⟨_, rfl⟩
    rw [← hw] at w1 w2
    obtain ⟨s1, s2, s3, s4, s5, s6, s7, s8⟩ := hr w w1
    have g61 := (hq w w1).1
    have es : (lab L t).1 ++ (61 :: (lab L t).2) = seg x.tape (S w) (V w) := by
      rw [w2]
      show seg x.tape (S w) (E w) ++ (61 :: seg x.tape (E w + 1) (V w)) = _
      rw [← g61, ← seg_c x.tape (show E w < V w by omega)]
      exact seg_app x.tape _ _ _ _ rfl (by omega) (by omega)
    have em : x.lbL (x.wh t) = V w - S w := by rw [← hw]; show x.labels (4 * w + 2) + x.labels (4 * w + 3) - x.labels (4 * w) = _; omega
    have ej : joinP L (t + 1) = J ++ ((if t = 0 then [] else [44]) ++ seg x.tape (S w) (V w)) := by
      rw [hJ, ← es]
      rfl
    have eS : x.labels (4 * x.wh t) = S w := by rw [← hw]; exact s1.symm
    obtain ⟨tx, n, elt⟩ : ∃ tx n, x.layT t = (tx, n) := ⟨_, _, rfl⟩
    rw [elt] at h1 h2 h3
    have h1 : n = J.length := h1
    have h2 : ∀ i, i < J.length → tx (304 * x.seriesCount + i) = J.getD i 0 := h2
    have h3 : ∀ j, (j < 304 * x.seriesCount ∨ 304 * x.seriesCount + J.length ≤ j) → tx j = x.texts j := h3
    have gs : ∀ i, i < V w - S w → (seg x.tape (S w) (V w)).getD i 0 = x.tape (S w + i) := fun i hi => seg_get x.tape hi
    by_cases h0 : t = 0
    · rw [layT_0 elt h0 em, eS, ej, if_pos h0]
      have el : (J ++ (([] : List Int32) ++ seg x.tape (S w) (V w))).length = J.length + (V w - S w) := by rw [List.length_append, List.nil_append, seg_len]
      rw [el]
      refine ⟨by show n + (V w - S w) = _; omega, fun i hi => ?_, fun j hj => ?_⟩
      · show cpG x.tape tx (S w) (304 * x.seriesCount + n) (V w - S w) (304 * x.seriesCount + i) = _
        rw [cpG_at, getD_app, List.nil_append]
        by_cases g : i < J.length
        · rw [if_neg (by omega), if_pos g]
          exact h2 i g
        · rw [if_pos (by omega), if_neg g, gs _ (by omega)]
          congr 1
          omega
      · show cpG x.tape tx (S w) (304 * x.seriesCount + n) (V w - S w) j = _
        rw [cpG_at, if_neg (by omega)]
        exact h3 j (by omega)
    · rw [layT_1 elt h0 em, eS, ej, if_neg h0]
      have el : (J ++ (([44] : List Int32) ++ seg x.tape (S w) (V w))).length = J.length + (1 + (V w - S w)) := by rw [List.length_append, List.length_append, seg_len]; rfl
      rw [el]
      refine ⟨by show n + 1 + (V w - S w) = _; omega, fun i hi => ?_, fun j hj => ?_⟩
      · show cpG x.tape (va_up tx (304 * x.seriesCount + n) 44) (S w) (304 * x.seriesCount + (n + 1)) (V w - S w) (304 * x.seriesCount + i) = _
        rw [cpG_at, getD_app]
        by_cases g : i < J.length
        · rw [if_neg (by omega), if_pos g, va_up_ne _ _ (by omega)]
          exact h2 i g
        · rw [if_neg g, getD_app]
          by_cases g2 : i = J.length
          · rw [if_neg (by omega), show 304 * x.seriesCount + i = 304 * x.seriesCount + n by omega, va_up_self, if_pos (by rw [List.length_cons]; omega), show i - J.length = 0 by omega]
            rfl
          · rw [if_pos (by omega), if_neg (by rw [List.length_cons, List.length_nil]; omega), gs _ (by rw [List.length_cons, List.length_nil]; omega)]
            congr 1
            rw [List.length_cons, List.length_nil]
            omega
      · show cpG x.tape (va_up tx (304 * x.seriesCount + n) 44) (S w) (304 * x.seriesCount + (n + 1)) (V w - S w) j = _
        rw [cpG_at, if_neg (by omega), va_up_ne _ _ (by omega)]
        exact h3 j (by omega)
end LY
end
section
/-! The number of a text: the two ways. -/
/-- the texts of the first n series -/
def txR (tx : Nat → Int32) (tl : Nat → Nat) (n : Nat) (SS : Nat → List LB) : Prop := ∀ s, s < n → tl s = (joinT (SS s)).length ∧ (joinT (SS s)).length ≤ 303 ∧ ∀ i, i < (joinT (SS s)).length → tx (304 * s + i) = (joinT (SS s)).getD i 0
theorem fndG_nu {y : MS} {SS : Nat → List LB} {S : List LB} {n : Nat} (hx : ∀ w, w < y.seriesCount → y.txS n w = nuB SS S w) : ∀ j w, w + j ≤ y.seriesCount → (∃ k, k < w + j ∧ y.fndG n j w = nI k ∧ frst (nuB SS S) j w = some k) ∨ (y.fndG n j w = -1 ∧ frst (nuB SS S) j w = none)
  | 0, w, _ => Or.inr ⟨rfl, rfl⟩
  | j + 1, w, h => by
    have e := hx w (by omega)
    cases hb : nuB SS S w with
    | true =>
      rw [hb] at e
      exact Or.inl ⟨w, by omega, fnd_t (Nat.succ_pos j) e, frst_t (Nat.succ_pos j) hb⟩
    | false =>
      rw [hb] at e
      rw [fnd_f (Nat.succ_pos j) e, frst_f (Nat.succ_pos j) hb]
      rcases fndG_nu hx j (w + 1) (by omega) with ⟨k, h1, h2, h3⟩ | ⟨h2, h3⟩
      · exact Or.inl ⟨k, by omega, h2, h3⟩
      · exact Or.inr ⟨h2, h3⟩
theorem fnd_nu {y : MS} {SS : Nat → List LB} {S : List LB} {n : Nat} (hx : ∀ w, w < y.seriesCount → y.txS n w = nuB SS S w) : (∃ k, k < y.seriesCount ∧ y.fnd n = nI k ∧ nuN SS S y.seriesCount = k) ∨ (y.fnd n = -1 ∧ nuN SS S y.seriesCount = y.seriesCount) := by
  rcases fndG_nu hx y.seriesCount 0 (by omega) with ⟨k, h1, h2, h3⟩ | ⟨h2, h3⟩
  · exact Or.inl ⟨k, by omega, h2, nuN_s h3⟩
  · exact Or.inr ⟨h2, nuN_n h3⟩
theorem txS_nu {y : MS} {SS : Nat → List LB} {S : List LB} {w : Nat} (h1 : y.textLengths w = (joinT (SS w)).length) (h2 : ∀ i, i < (joinT (SS w)).length → y.texts (304 * w + i) = (joinT (SS w)).getD i 0) (h3 : ∀ i, i < (joinT S).length → y.texts (304 * y.seriesCount + i) = (joinT S).getD i 0) : y.txS (joinT S).length w = nuB SS S w := by
  unfold MS.txS nuB sameW
  rw [h1]
  by_cases e : (joinT (SS w)).length = (joinT S).length
  · rw [e]
    congr 1
    exact allB_ext (fun i hi => by
      show decide (y.texts (304 * w + i) = y.texts (304 * y.seriesCount + i)) = decide ((joinT (SS w)).getD i 0 = (joinT S).getD i 0)
      rw [h2 i (by omega), h3 i hi])
  · rw [decide_eq_false e]
    rfl
/-- the text laid behind the others -/
theorem lay_nu {x : MS} {SS : Nat → List LB} {S E V : Nat → Nat} (hr : labR x.labelCount x.labels S E V) (hq : labQ x.tape x.labelCount S E V) (ht : txR x.texts x.textLengths x.seriesCount SS) : (x.layT x.labelCount).2 = (joinT (srtL x.tape S E V x.labelCount)).length ∧ txR x.lyS.texts x.lyS.textLengths x.seriesCount SS ∧ (∀ i, i < (joinT (srtL x.tape S E V x.labelCount)).length → x.lyS.texts (304 * x.seriesCount + i) = (joinT (srtL x.tape S E V x.labelCount)).getD i 0) ∧ ((∃ k, k < x.seriesCount ∧ x.lyS.fnd (x.layT x.labelCount).2 = nI k ∧ nuN SS (srtL x.tape S E V x.labelCount) x.seriesCount = k) ∨ (x.lyS.fnd (x.layT x.labelCount).2 = -1 ∧ nuN SS (srtL x.tape S E V x.labelCount) x.seriesCount = x.seriesCount)) := by
  obtain ⟨h1, h2, h3⟩ := lay_j hr hq (Nat.le_refl _)
  have ej : joinT (srtL x.tape S E V x.labelCount) = joinP (srtL x.tape S E V x.labelCount) x.labelCount := by unfold joinT; rw [srtL_len]
  rw [← ej] at h1 h2 h3
  have hk : txR x.lyS.texts x.lyS.textLengths x.seriesCount SS := fun s hs => by
    obtain ⟨a1, a2, a3⟩ := ht s hs
    refine ⟨a1, a2, fun i hi => ?_⟩
    show (x.layT x.labelCount).1 (304 * s + i) = _
    rw [h3 _ (Or.inl (by omega))]
    exact a3 i hi
  refine ⟨h1, hk, h2, ?_⟩
  rw [h1]
  exact fnd_nu (y := x.lyS) (fun w hw => txS_nu (hk w hw).1 (hk w hw).2.2 h2)
end
section
/-! Points of a parcel at their places; its bits: the two ways. -/
def arS (se : Nat → Nat) (c : Nat → Bool) (w q : Nat) : Bool := c q && decide (se q = w)
def arL (se : Nat → Nat) (c : Nat → Bool) (w q : Nat) : Bool := c q && decide (se q < w)
/-- the place of point q: behind those of lower series, and those of its own that came before -/
def arP (se : Nat → Nat) (c : Nat → Bool) (N q : Nat) : Nat := cnt N (arL se c (se q)) + cnt q (arS se c (se q))
def arr (se : Nat → Nat) (ti va : Nat → Int64) (c : Nat → Bool) (N n : Nat) (o : Nat → Nat) (t v : Nat → Int64) : Prop := n = cnt N c ∧ ∀ q, q < N → c q = true → o (arP se c N q) = se q ∧ t (arP se c N q) = ti q ∧ v (arP se c N q) = va q
section AR
variable {se : Nat → Nat} {ti va : Nat → Int64} {c : Nat → Bool} {N n : Nat} {o : Nat → Nat} {t v : Nat → Int64}
theorem arS_t {w q : Nat} : arS se c w q = true ↔ c q = true ∧ se q = w := by
  unfold arS
  rw [Bool.and_eq_true, decide_eq_true_eq]
theorem arL_t {w q : Nat} : arL se c w q = true ↔ c q = true ∧ se q < w := by
  unfold arL
  rw [Bool.and_eq_true, decide_eq_true_eq]
theorem arL_0 : cnt N (arL se c 0) = 0 := cnt_0 (fun j _ => by
  unfold arL
  rw [decide_eq_false (Nat.not_lt_zero _), Bool.and_false])
theorem arL_s (w : Nat) : cnt N (arL se c (w + 1)) = cnt N (arL se c w) + cnt N (arS se c w) := cnt_add (fun j _ => by
  rw [arL_t, arL_t, arS_t]
  refine ⟨⟨fun h => ?_, fun h => ?_⟩, fun h => ?_⟩
  · by_cases e : se j = w
    · exact Or.inr ⟨h.1, e⟩
    · exact Or.inl ⟨h.1, by omega⟩
  · rcases h with h | h
    · exact ⟨h.1, by omega⟩
    · exact ⟨h.1, by omega⟩
  · have a := h.1.2
    have b := h.2.2
    omega)
theorem arL_all {w : Nat} (h : ∀ q, q < N → c q = true → se q < w) : cnt N (arL se c w) = cnt N c := cnt_ext (fun q hq => by
  cases e : c q with
  | false => unfold arL; rw [e]; rfl
  | true => unfold arL; rw [e, decide_eq_true (h q hq e)]; rfl)
theorem arr_at (h : arr se ti va c N n o t v) {w j : Nat} (hj : j < cnt N (arS se c w)) : ∃ q, q < N ∧ arS se c w q = true ∧ cnt q (arS se c w) = j ∧ o (cnt N (arL se c w) + j) = w ∧ t (cnt N (arL se c w) + j) = ti q ∧ v (cnt N (arL se c w) + j) = va q := by
  obtain ⟨q, h1, h2, h3⟩ := cnt_at hj
  obtain ⟨c1, c2⟩ := arS_t.mp h2
  obtain ⟨a1, a2, a3⟩ := h.2 q h1 c1
  unfold arP at a1 a2 a3
  rw [c2, h3] at a1 a2 a3
  exact ⟨q, h1, h2, h3, a1, a2, a3⟩
theorem arr_lt (h : arr se ti va c N n o t v) : ∀ {w i : Nat}, i < cnt N (arL se c w) → o i < w
  | 0, i, hi => by rw [arL_0] at hi; omega
  | w + 1, i, hi => by
    rw [arL_s] at hi
    by_cases e : i < cnt N (arL se c w)
    · have := arr_lt h e
      omega
    · obtain ⟨q, -, -, -, a, -⟩ := arr_at h (w := w) (j := i - cnt N (arL se c w)) (by omega)
      rw [show cnt N (arL se c w) + (i - cnt N (arL se c w)) = i by omega] at a
      omega
end AR
section BT
variable {x : MS} {o1 o2 : Int32} {sn : Bool} {c : Nat → Bool} {n : Nat} {o : Nat → Nat} {t v : Nat → Int64}
/-- j points of series w in: the reference's sums against the class's -/
def btI (x : MS) (o1 o2 : Int32) (sn : Bool) (o : Nat → Nat) (t v : Nat → Int64) (B w b q j : Nat) : Prop :=
  (j = 0 → x.bP o1 o2 sn w b q = (0, 0, 0, 0, (-1), 0, b)) ∧ (0 < j → ∃ (fb g1 : Nat) (sp : Int64) (fa : Int32) (fl : Nat), bcG o t v (B + j) = (g1, sp, fa, fl) ∧ (bcG o t v B).1 ≤ g1 ∧ x.bP o1 o2 sn w b q = (j, t (B + j - 1), sp, v (B + j - 1), fa, fb, b + 64 + (g1 - (bcG o t v B).1)) ∧ (fa = -1 ∨ fb = fl ∧ ¬ fa < 0) ∧ (j = 1 → sp = 0) ∧ cnt (B + j) (chB o) = cnt B (chB o) + 1)
theorem m1_neg : (-1 : Int32) < 0 := by decide
theorem bt_in (h : arr x.pointSeries x.pointTimes x.pointValues c x.points n o t v) (hs : ∀ w q, x.sel o1 o2 sn w q = arS x.pointSeries c w q) (w b : Nat) : ∀ {q : Nat}, q ≤ x.points → btI x o1 o2 sn o t v (cnt x.points (arL x.pointSeries c w)) w b q (cnt q (arS x.pointSeries c w))
  | 0, _ => ⟨fun _ => rfl, fun h => absurd h (Nat.not_lt_zero _)⟩
  | q + 1, hq => by
    have ih := bt_in h hs w b (q := q) (by omega)
    obtain ⟨B, hB⟩ : ∃ B, B = cnt x.points (arL x.pointSeries c w) := ⟨_, rfl⟩
    obtain ⟨j, hj⟩ : ∃ j, j = cnt q (arS x.pointSeries c w) := ⟨_, rfl⟩
    rw [← hB, ← hj] at ih
    rw [← hB]
    cases hc : arS x.pointSeries c w q with
    | false =>
      rw [cnt_f hc, ← hj]
      have hs0 : x.sel o1 o2 sn w q = false := (hs w q).trans hc
      refine ⟨fun e => bP_f (ih.1 e) hs0, fun e => ?_⟩
      obtain ⟨fb, g1, sp, fa, fl, a1, a2, a3, a4⟩ := ih.2 e
      exact ⟨fb, g1, sp, fa, fl, a1, a2, bP_f a3 hs0, a4⟩
    | true =>
      rw [cnt_t hc, ← hj]
      have hs1 : x.sel o1 o2 sn w q = true := (hs w q).trans hc
      obtain ⟨c1, c2⟩ := arS_t.mp hc
      obtain ⟨p1, p2, p3⟩ := h.2 q (by omega) c1
      unfold arP at p1 p2 p3
      rw [c2, ← hB, ← hj] at p1 p2 p3
      refine ⟨fun e => absurd e (Nat.succ_ne_zero _), fun _ => ?_⟩
      rcases Nat.eq_zero_or_pos j with e | e
      · subst e
        rw [Nat.add_zero] at p1 p2 p3
        have hnew : B = 0 ∨ ¬ o B = o (B - 1) := by
          rcases Nat.eq_zero_or_pos B with z | z
          · exact Or.inl z
          · have := arr_lt h (w := w) (i := B - 1) (by omega)
            exact Or.inr (by omega)
        obtain ⟨g0, s0, f0, l0, e0⟩ : ∃ g0 s0 f0 l0, bcG o t v B = (g0, s0, f0, l0) := ⟨_, _, _, _, rfl⟩
        have eb := bP_t (ih.1 rfl) hs1 (b3_0 rfl) (if_pos rfl)
        refine ⟨0, g0 + 104, 0, -1, l0, bc_a hnew e0, by rw [e0]; omega, ?_, Or.inl rfl, fun _ => rfl, ?_⟩
        · rw [eb, e0, show B + (0 + 1) - 1 = B by omega, p2, p3]
          show (0 + 1, x.pointTimes q, (0 : Int64), x.pointValues q, (-1 : Int32), 0, b + 168) = (0 + 1, x.pointTimes q, (0 : Int64), x.pointValues q, (-1 : Int32), 0, b + 64 + (g0 + 104 - g0))
          rw [show b + 64 + (g0 + 104 - g0) = b + 168 by omega]
        · show cnt (B + 1) (chB o) = _
          rw [cnt_t]
          unfold chB
          rcases hnew with z | z
          · rw [decide_eq_true z]; rfl
          · rw [decide_eq_false z]; simp
      · obtain ⟨fb, g1, sp, fa, fl, a1, a2, a3, a4, a5, a6⟩ := ih.2 e
        obtain ⟨q2, -, -, -, r1, -⟩ := arr_at h (w := w) (j := j - 1) (by have := cnt_lt (f := arS x.pointSeries c w) (n := x.points) (by omega) hc; omega)
        rw [← hB, show B + (j - 1) = B + j - 1 by omega] at r1
        have n0 : ¬ B + j = 0 := by omega
        have ho : o (B + j) = o (B + j - 1) := by rw [p1, r1]
        have ech : cnt (B + (j + 1)) (chB o) = cnt B (chB o) + 1 := by
          rw [show B + (j + 1) = B + j + 1 by omega, cnt_f (by unfold chB; rw [decide_eq_false n0, decide_eq_true ho]; rfl)]
          exact a6
        have ej : B + (j + 1) - 1 = B + j := by omega
        have et : (if j = 1 then x.pointTimes q - t (B + j - 1) else x.pointTimes q - t (B + j - 1) - sp) = t (B + j) - t (B + j - 1) - sp := by
          rw [p2]
          by_cases e1 : j = 1
          · rw [if_pos e1, a5 e1]; simp
          · rw [if_neg e1]
        have ev : x.pointValues q ^^^ v (B + j - 1) = v (B + j) ^^^ v (B + j - 1) := by rw [p3]
        have ep : (if j = 0 then 0 else x.pointTimes q - t (B + j - 1)) = t (B + j) - t (B + j - 1) := by rw [if_neg (by omega), p2]
        rw [ej, ech]
        by_cases hx : v (B + j) ^^^ v (B + j - 1) = 0
        · have e3 : b3 j sp fa fb (b + 64 + (g1 - (bcG o t v B).1)) (x.pointTimes q - t (B + j - 1)) (x.pointValues q ^^^ v (B + j - 1)) = (fa, fb, b + 64 + (g1 - (bcG o t v B).1) + tbN (t (B + j) - t (B + j - 1) - sp) + 1) := by rw [ev]; exact b3_z (by omega) hx et
          have eb := bP_t a3 hs1 e3 ep
          have ebc : bcG o t v (B + j + 1) = (g1 + tbN (t (B + j) - t (B + j - 1) - sp) + 1, t (B + j) - t (B + j - 1), fa, fl) := bc_z n0 ho hx a1
          refine ⟨fb, _, _, fa, fl, ebc, by omega, ?_, a4, fun z => by omega, rfl⟩
          rw [eb, ← p2, ← p3, show b + 64 + (g1 - (bcG o t v B).1) + tbN (t (B + j) - t (B + j - 1) - sp) + 1 = b + 64 + (g1 + tbN (t (B + j) - t (B + j - 1) - sp) + 1 - (bcG o t v B).1) by omega]
        · have hh := hi_ab hx
          have hl := lo_ct hx
          by_cases hcd : fa = -1 ∨ nI (abL (v (B + j) ^^^ v (B + j - 1))) < fa ∨ nI (ctzL (v (B + j) ^^^ v (B + j - 1))) < 64 - fa - nI fl
          · have hcd2 : fa < 0 ∨ nI (abL (v (B + j) ^^^ v (B + j - 1))) < fa ∨ nI (ctzL (v (B + j) ^^^ v (B + j - 1))) < 64 - fa - nI fb := by
              rcases a4 with z | ⟨z, z2⟩
              · exact Or.inl (by rw [z]; exact m1_neg)
              · rw [z]
                rcases hcd with y | y
                · exact Or.inl (by rw [y]; exact m1_neg)
                · exact Or.inr y
            have e3 : b3 j sp fa fb (b + 64 + (g1 - (bcG o t v B).1)) (x.pointTimes q - t (B + j - 1)) (x.pointValues q ^^^ v (B + j - 1)) = (nI (abL (v (B + j) ^^^ v (B + j - 1))), 64 - abL (v (B + j) ^^^ v (B + j - 1)) - ctzL (v (B + j) ^^^ v (B + j - 1)), b + 64 + (g1 - (bcG o t v B).1) + tbN (t (B + j) - t (B + j - 1) - sp) + (13 + (64 - abL (v (B + j) ^^^ v (B + j - 1)) - ctzL (v (B + j) ^^^ v (B + j - 1))))) := by rw [ev]; exact b3_n (by omega) hx et hh hl hcd2
            have eb := bP_t a3 hs1 e3 ep
            have ebc : bcG o t v (B + j + 1) = (g1 + tbN (t (B + j) - t (B + j - 1) - sp) + (13 + (64 - abL (v (B + j) ^^^ v (B + j - 1)) - ctzL (v (B + j) ^^^ v (B + j - 1)))), t (B + j) - t (B + j - 1), nI (abL (v (B + j) ^^^ v (B + j - 1))), 64 - abL (v (B + j) ^^^ v (B + j - 1)) - ctzL (v (B + j) ^^^ v (B + j - 1))) := bc_n n0 ho hx hcd a1
            refine ⟨_, _, _, _, _, ebc, by omega, ?_, Or.inr ⟨rfl, nI_pos (Nat.lt_of_le_of_lt (abL_le (v (B + j) ^^^ v (B + j - 1))) (by decide))⟩, fun z => by omega, rfl⟩
            rw [eb, ← p2, ← p3, show b + 64 + (g1 - (bcG o t v B).1) + tbN (t (B + j) - t (B + j - 1) - sp) + (13 + (64 - abL (v (B + j) ^^^ v (B + j - 1)) - ctzL (v (B + j) ^^^ v (B + j - 1)))) = b + 64 + (g1 + tbN (t (B + j) - t (B + j - 1) - sp) + (13 + (64 - abL (v (B + j) ^^^ v (B + j - 1)) - ctzL (v (B + j) ^^^ v (B + j - 1)))) - (bcG o t v B).1) by omega]
          · have k1 : ¬ fa = -1 := fun z => hcd (Or.inl z)
            obtain ⟨z, z2⟩ := a4.resolve_left k1
            have k2 : ¬ nI (abL (v (B + j) ^^^ v (B + j - 1))) < fa := fun y => hcd (Or.inr (Or.inl y))
            have k3 : ¬ nI (ctzL (v (B + j) ^^^ v (B + j - 1))) < 64 - fa - nI fl := fun y => hcd (Or.inr (Or.inr y))
            have e3 : b3 j sp fa fb (b + 64 + (g1 - (bcG o t v B).1)) (x.pointTimes q - t (B + j - 1)) (x.pointValues q ^^^ v (B + j - 1)) = (fa, fb, b + 64 + (g1 - (bcG o t v B).1) + tbN (t (B + j) - t (B + j - 1) - sp) + (2 + fb)) := by rw [ev]; exact b3_k (by omega) hx et hh hl z2 k2 (by rw [z]; exact k3)
            have eb := bP_t a3 hs1 e3 ep
            have ebc : bcG o t v (B + j + 1) = (g1 + tbN (t (B + j) - t (B + j - 1) - sp) + (2 + fl), t (B + j) - t (B + j - 1), fa, fl) := bc_k n0 ho hx k1 k2 k3 a1
            refine ⟨fb, _, _, fa, fl, ebc, by omega, ?_, Or.inr ⟨z, z2⟩, fun z => by omega, rfl⟩
            rw [eb, ← p2, ← p3, z, show b + 64 + (g1 - (bcG o t v B).1) + tbN (t (B + j) - t (B + j - 1) - sp) + (2 + fl) = b + 64 + (g1 + tbN (t (B + j) - t (B + j - 1) - sp) + (2 + fl) - (bcG o t v B).1) by omega]
theorem bt_w (h : arr x.pointSeries x.pointTimes x.pointValues c x.points n o t v) (hs : ∀ w q, x.sel o1 o2 sn w q = arS x.pointSeries c w q) : ∀ w, x.bA o1 o2 sn w = 64 * cnt (cnt x.points (arL x.pointSeries c w)) (chB o) + (bcG o t v (cnt x.points (arL x.pointSeries c w))).1
  | 0 => by rw [arL_0]; rfl
  | w + 1 => by
    have ih := bt_w h hs w
    have hi := bt_in h hs w (x.bA o1 o2 sn w) (Nat.le_refl x.points)
    rw [arL_s]
    show (x.bP o1 o2 sn w (x.bA o1 o2 sn w) x.points).2.2.2.2.2.2 = _
    rcases Nat.eq_zero_or_pos (cnt x.points (arS x.pointSeries c w)) with e | e
    · rw [hi.1 e, e, Nat.add_zero]
      exact ih
    · obtain ⟨fb, g1, sp, fa, fl, a1, a2, a3, -, -, a6⟩ := hi.2 e
      rw [a3, a6, a1]
      show x.bA o1 o2 sn w + 64 + (g1 - (bcG o t v (cnt x.points (arL x.pointSeries c w))).1) = 64 * (cnt (cnt x.points (arL x.pointSeries c w)) (chB o) + 1) + g1
      rw [ih]
      omega
/-- the bits of a parcel -/
theorem bt_all (h : arr x.pointSeries x.pointTimes x.pointValues c x.points n o t v) (hs : ∀ w q, x.sel o1 o2 sn w q = arS x.pointSeries c w q) {W : Nat} (hw : ∀ q, q < x.points → c q = true → x.pointSeries q < W) : x.bA o1 o2 sn W = (mkP n o t v).bi := by
  rw [bt_w h hs W, arL_all hw, ← h.1]
  rfl
end BT
end
section
/-! Points chosen in their order, gathered, laid. -/
theorem sub_cnt (c f : Nat → Bool) : ∀ q, cnt (cnt q c) f = cnt q (fun p => c p && f (cnt p c))
  | 0 => rfl
  | q + 1 => by
    have ih := sub_cnt c f q
    cases e : c q with
    | false =>
      rw [cnt_f e, cnt_f (f := fun p => c p && f (cnt p c)) (show (c q && f (cnt q c)) = false by rw [e]; rfl)]
      exact ih
    | true =>
      rw [cnt_t e]
      cases e2 : f (cnt q c) with
      | false =>
        rw [cnt_f e2, cnt_f (f := fun p => c p && f (cnt p c)) (show (c q && f (cnt q c)) = false by rw [e, e2]; rfl)]
        exact ih
      | true => rw [cnt_t e2, cnt_t (f := fun p => c p && f (cnt p c)) (show (c q && f (cnt q c)) = true by rw [e, e2]; rfl), ih]
theorem cnt_plus (f : Nat → Bool) (a : Nat) : ∀ b, cnt (a + b) f = cnt a f + cnt b (fun j => f (a + j))
  | 0 => rfl
  | b + 1 => by
    have ih := cnt_plus f a b
    cases e : f (a + b) with
    | false => rw [show a + (b + 1) = a + b + 1 by omega, cnt_f e, cnt_f (f := fun j => f (a + j)) e]; exact ih
    | true => rw [show a + (b + 1) = a + b + 1 by omega, cnt_t e, cnt_t (f := fun j => f (a + j)) e, ih]; omega
/-- the points chosen, in their order -/
def lst (se : Nat → Nat) (ti va : Nat → Int64) (c : Nat → Bool) (N n : Nat) (o : Nat → Nat) (t v : Nat → Int64) : Prop := n = cnt N c ∧ ∀ q, q < N → c q = true → o (cnt q c) = se q ∧ t (cnt q c) = ti q ∧ v (cnt q c) = va q
section LT
variable {se : Nat → Nat} {ti va : Nat → Int64} {c : Nat → Bool} {N n : Nat} {o : Nat → Nat} {t v : Nat → Int64}
theorem arr_lst {O : Nat → Nat} {T V : Nat → Int64} (h : lst se ti va c N n o t v) (l1 : laid o n n o O) (l2 : laid o n n t T) (l3 : laid o n n v V) : arr se ti va c N n O T V := by
  refine ⟨h.1, fun q hq hc => ?_⟩
  obtain ⟨a1, a2, a3⟩ := h.2 q hq hc
  have hj : cnt q c < n := by rw [h.1]; exact cnt_lt hq hc
  have ep : posN o n (cnt q c) = arP se c N q := by
    unfold posN arP
    rw [a1]
    congr 1
    · rw [h.1, sub_cnt]
      refine cnt_ext (fun p hp => ?_)
      show (c p && cpL o (se q) (cnt p c)) = (c p && decide (se p < se q))
      cases e : c p with
      | false => rfl
      | true => unfold cpL; rw [(h.2 p hp e).1]
    · rw [sub_cnt]
      refine cnt_ext (fun p hp => ?_)
      show (c p && cpQ o (se q) (cnt p c)) = (c p && decide (se p = se q))
      cases e : c p with
      | false => rfl
      | true => unfold cpQ; rw [(h.2 p (by omega) e).1]
  rw [← ep]
  exact ⟨(l1 _ hj).trans a1, (l2 _ hj).trans a2, (l3 _ hj).trans a3⟩
theorem arr_cnt (F : Nat → Bool) : ∀ w, cnt (cnt N (arL se c w)) F = cnt N (fun q => arL se c w q && F (arP se c N q))
  | 0 => by
    rw [arL_0]
    symm
    refine cnt_0 (fun j _ => ?_)
    show (arL se c 0 j && _) = false
    unfold arL
    rw [decide_eq_false (Nat.not_lt_zero _), Bool.and_false]
    rfl
  | w + 1 => by
    rw [arL_s, cnt_plus, arr_cnt F w, sub_cnt]
    symm
    have e : cnt N (fun p => arS se c w p && F (cnt N (arL se c w) + cnt p (arS se c w))) = cnt N (fun q => arS se c w q && F (arP se c N q)) := cnt_ext (fun p _ => by
      cases g : arS se c w p with
      | false => rfl
      | true =>
        obtain ⟨g1, g2⟩ := arS_t.mp g
        unfold arP
        rw [g2])
    rw [e]
    refine cnt_add (fun j _ => ?_)
    rw [Bool.and_eq_true, Bool.and_eq_true, Bool.and_eq_true, arL_t, arL_t, arS_t]
    refine ⟨⟨fun h => ?_, fun h => ?_⟩, fun h => ?_⟩
    · by_cases e : se j = w
      · exact Or.inr ⟨⟨h.1.1, e⟩, h.2⟩
      · exact Or.inl ⟨⟨h.1.1, by omega⟩, h.2⟩
    · rcases h with h | h
      · exact ⟨⟨h.1.1, by omega⟩, h.2⟩
      · exact ⟨⟨h.1.1, by omega⟩, h.2⟩
    · have a := h.1.1.2
      have b := h.2.1.2
      omega
theorem arP_lt (h : arr se ti va c N n o t v) {q : Nat} (hq : q < N) (hc : c q = true) : arP se c N q < n := by
  have h1 : cnt q (arS se c (se q)) < cnt N (arS se c (se q)) := cnt_lt hq (arS_t.mpr ⟨hc, rfl⟩)
  have h2 := arL_s (se := se) (c := c) (N := N) (se q)
  have h3 : cnt N (arL se c (se q + 1)) ≤ cnt N c := cnt_le2 (fun i _ hi => (arL_t.mp hi).1)
  rw [h.1]
  unfold arP
  omega
/-- places counted: points counted -/
theorem arr_f {f sn : Nat → Bool} {W : Nat} (h : arr se ti va c N n o t v) (hW : ∀ q, q < N → c q = true → se q < W) (hf : ∀ q, q < N → c q = true → f (arP se c N q) = sn q) (φ : Nat → Bool) : cnt n (fun i => f i && φ (o i)) = cnt N (fun q => c q && (sn q && φ (se q))) := by
  rw [h.1, ← arL_all hW, arr_cnt]
  refine cnt_ext (fun q hq => ?_)
  cases e : c q with
  | false => unfold arL; rw [e]; rfl
  | true =>
    unfold arL
    rw [e, decide_eq_true (hW q hq e), hf q hq e, (h.2 q hq e).1]
    rfl
theorem arr_p {f sn : Nat → Bool} (h : arr se ti va c N n o t v) (hf : ∀ q, q < N → c q = true → f (arP se c N q) = sn q) {q : Nat} (hq : q < N) : cnt (arP se c N q) (fun i => f i && decide (o i = se q)) = cnt q (fun p => c p && (sn p && decide (se p = se q))) := by
  have e0 : cnt (cnt N (arL se c (se q))) (fun i => f i && decide (o i = se q)) = 0 := cnt_0 (fun i hi => by
    have := arr_lt h hi
    rw [decide_eq_false (by omega), Bool.and_false])
  show cnt (cnt N (arL se c (se q)) + cnt q (arS se c (se q))) _ = _
  rw [cnt_plus, e0, Nat.zero_add, sub_cnt]
  refine cnt_ext (fun p hp => ?_)
  cases g : c p with
  | false => unfold arS; rw [g]; rfl
  | true =>
    by_cases e : se p = se q
    · have a := h.2 p (by omega) g
      have b := hf p (by omega) g
      unfold arP at a b
      rw [e] at a b
      rw [show arS se c (se q) p = true from arS_t.mpr ⟨g, e⟩, b, a.1, decide_eq_true rfl, decide_eq_true e]
    · rw [show arS se c (se q) p = false by unfold arS; rw [decide_eq_false e, Bool.and_false], decide_eq_false e, Bool.and_false]
      rfl
end LT
section CP
variable {se : Nat → Nat} {ti va : Nat → Int64} {c1 c2 sn f g : Nat → Bool} {N W : Nat} {P Q : PT} {go : Nat → Nat} {gt gv : Nat → Int64}
/-- two parcels put together: the points that are seen, laid -/
theorem arr_cp {O : Nat → Nat} {T V : Nat → Int64} (h1 : arr se ti va c1 N P.n P.o P.t P.v) (h2 : arr se ti va c2 N Q.n Q.o Q.t Q.v) (hW1 : ∀ q, q < N → c1 q = true → se q < W) (hW2 : ∀ q, q < N → c2 q = true → se q < W) (hf : ∀ q, q < N → c1 q = true → f (arP se c1 N q) = sn q) (hg : ∀ q, q < N → c2 q = true → g (arP se c2 N q) = sn q) (hord : ∀ p r, p < N → r < N → c1 p = true → c2 r = true → p < r) (ha : gat2 f g P Q go gt gv) (l1 : laid go (cnt P.n f + cnt Q.n g) (cnt P.n f + cnt Q.n g) go O) (l2 : laid go (cnt P.n f + cnt Q.n g) (cnt P.n f + cnt Q.n g) gt T) (l3 : laid go (cnt P.n f + cnt Q.n g) (cnt P.n f + cnt Q.n g) gv V) : arr se ti va (fun q => (c1 q || c2 q) && sn q) N (cnt P.n f + cnt Q.n g) O T V := by
  have hdis : ∀ q, q < N → c1 q = true → c2 q = false := fun q hq e => by
    cases e2 : c2 q with
    | false => rfl
    | true => exact absurd (hord q q hq hq e e2) (Nat.lt_irrefl _)
  -- by owner, in the first part and in the second
  have k1 : ∀ (φ : Nat → Bool) (i : Nat), i ≤ P.n → cnt (cnt i f) (fun k => φ (go k)) = cnt i (fun k => f k && φ (P.o k)) := fun φ i hi => by
    rw [sub_cnt]
    refine cnt_ext (fun k hk => ?_)
    cases e : f k with
    | false => rfl
    | true => rw [(ha.1 k (by omega) e).1]
  have k2 : ∀ (φ : Nat → Bool) (i : Nat), i ≤ Q.n → cnt (cnt i g) (fun j => φ (go (cnt P.n f + j))) = cnt i (fun k => g k && φ (Q.o k)) := fun φ i hi => by
    rw [sub_cnt]
    refine cnt_ext (fun k hk => ?_)
    cases e : g k with
    | false => rfl
    | true => rw [(ha.2 k (by omega) e).1]
  have tot : ∀ φ : Nat → Bool, cnt (cnt P.n f + cnt Q.n g) (fun k => φ (go k)) = cnt N (fun q => ((c1 q || c2 q) && sn q) && φ (se q)) := fun φ => by
    rw [cnt_plus, k1 φ P.n (Nat.le_refl _), k2 φ Q.n (Nat.le_refl _), arr_f h1 hW1 hf φ, arr_f h2 hW2 hg φ]
    symm
    refine cnt_add (fun q hq => ?_)
    cases e1 : c1 q with
    | false => cases e2 : c2 q <;> simp
    | true => rw [hdis q hq e1]; simp
  have ne : cnt P.n f + cnt Q.n g = cnt N (fun q => (c1 q || c2 q) && sn q) := by
    have a := tot (fun _ => true)
    have b : cnt (cnt P.n f + cnt Q.n g) (fun _ => true) = cnt P.n f + cnt Q.n g := by
      have : ∀ m, cnt m (fun _ => true) = m := fun m => by
        induction m with
        | zero => rfl
        | succ m ih => rw [cnt_t rfl, ih]
      exact this _
    rw [b] at a
    rw [a]
    exact cnt_ext (fun q _ => by rw [Bool.and_true])
  refine ⟨ne, fun q hq hc => ?_⟩
  obtain ⟨n, hn⟩ : ∃ n, n = cnt P.n f + cnt Q.n g := ⟨_, rfl⟩
  rw [← hn] at l1 l2 l3 tot
  rw [Bool.and_eq_true] at hc
  obtain ⟨hc, hsq⟩ := hc
  have hL : cnt n (cpL go (se q)) = cnt N (arL se (fun q => (c1 q || c2 q) && sn q) (se q)) := tot (fun z => decide (z < se q))
  -- where point q is among the gathered
  have fin : ∀ ix, ix < n → go ix = se q → gt ix = ti q → gv ix = va q → cnt ix (cpQ go (se q)) = cnt q (arS se (fun q => (c1 q || c2 q) && sn q) (se q)) → O (arP se (fun q => (c1 q || c2 q) && sn q) N q) = se q ∧ T (arP se (fun q => (c1 q || c2 q) && sn q) N q) = ti q ∧ V (arP se (fun q => (c1 q || c2 q) && sn q) N q) = va q := fun ix hi e1 e2 e3 e4 => by
    have ep : posN go n ix = arP se (fun q => (c1 q || c2 q) && sn q) N q := by
      unfold posN arP
      rw [e1, hL, e4]
    rw [← ep]
    exact ⟨(l1 _ hi).trans e1, (l2 _ hi).trans e2, (l3 _ hi).trans e3⟩
  cases e1 : c1 q with
  | true =>
    have hp := arP_lt h1 hq e1
    have hfq : f (arP se c1 N q) = true := (hf q hq e1).trans hsq
    obtain ⟨b1, b2, b3⟩ := ha.1 _ hp hfq
    obtain ⟨d1, d2, d3⟩ := h1.2 q hq e1
    refine fin (cnt (arP se c1 N q) f) (by have := cnt_lt hp hfq; omega) (b1.trans d1) (b2.trans d2) (b3.trans d3) ?_
    have a := k1 (fun z => decide (z = se q)) (arP se c1 N q) (by omega)
    have b := arr_p h1 hf hq
    refine (show cnt (cnt (arP se c1 N q) f) (cpQ go (se q)) = _ from a).trans (b.trans (cnt_ext (fun p hp => ?_)))
    have n2 : c2 p = false := by
      cases e2 : c2 p with
      | false => rfl
      | true => have := hord q p hq (by omega) e1 e2; omega
    show (c1 p && (sn p && decide (se p = se q))) = (((c1 p || c2 p) && sn p) && decide (se p = se q))
    rw [n2, Bool.or_false, Bool.and_assoc]
  | false =>
    have e2 : c2 q = true := by rw [e1] at hc; exact hc
    have hp := arP_lt h2 hq e2
    have hgq : g (arP se c2 N q) = true := (hg q hq e2).trans hsq
    obtain ⟨b1, b2, b3⟩ := ha.2 _ hp hgq
    obtain ⟨d1, d2, d3⟩ := h2.2 q hq e2
    refine fin (cnt P.n f + cnt (arP se c2 N q) g) (by have := cnt_lt hp hgq; omega) (b1.trans d1) (b2.trans d2) (b3.trans d3) ?_
    show cnt (cnt P.n f + cnt (arP se c2 N q) g) (fun k => decide (go k = se q)) = _
    rw [cnt_plus, k1 (fun z => decide (z = se q)) P.n (Nat.le_refl _), k2 (fun z => decide (z = se q)) (arP se c2 N q) (by omega), arr_f h1 hW1 hf (fun z => decide (z = se q)), arr_p h2 hg hq]
    have e3 : cnt N (fun p => c1 p && (sn p && decide (se p = se q))) = cnt q (fun p => c1 p && (sn p && decide (se p = se q))) := by
      obtain ⟨d, hd⟩ : ∃ d, N = q + d := ⟨N - q, by omega⟩
      rw [hd, cnt_plus, cnt_0 (f := fun j => c1 (q + j) && (sn (q + j) && decide (se (q + j) = se q))) (fun j hj => ?_), Nat.add_zero]
      cases e4 : c1 (q + j) with
      | false => rfl
      | true => have := hord (q + j) q (by omega) hq e4 e2; omega
    rw [e3]
    symm
    refine cnt_add (fun p hp => ?_)
    show ((((c1 p || c2 p) && sn p) && decide (se p = se q)) = true ↔ (c1 p && (sn p && decide (se p = se q))) = true ∨ (c2 p && (sn p && decide (se p = se q))) = true) ∧ ¬ ((c1 p && (sn p && decide (se p = se q))) = true ∧ (c2 p && (sn p && decide (se p = se q))) = true)
    cases e4 : c1 p with
    | false => cases e5 : c2 p <;> simp
    | true => rw [hdis p (by omega) e4]; simp
end CP
end
section
/-! Points added, dropped, put in order. -/
theorem tdT_get {α : Type} {c : Nat → Bool} {f : Nat → α} : ∀ {n k : Nat}, k < n → c k = true → tdT c f n (cnt k c) = f k
  | 0, k, h, _ => absurd h (Nat.not_lt_zero k)
  | n + 1, k, h, hk => by
    cases e : c n with
    | false =>
      rw [tdT_f e]
      have : k ≠ n := fun z => by rw [z, e] at hk; cases hk
      exact tdT_get (by omega) hk
    | true =>
      rw [tdT_t e rfl]
      by_cases z : k = n
      · subst z; exact va_up_self _ _ _
      · have := cnt_lt (f := c) (show k < n by omega) hk
        rw [va_up_ne _ _ (by omega)]
        exact tdT_get (by omega) hk
section PT
variable {se se' : Nat → Nat} {ti va ti' va' : Nat → Int64} {c c' : Nat → Bool} {N n : Nat} {o : Nat → Nat} {t v : Nat → Int64}
theorem lst_congr (h : lst se ti va c N n o t v) (hs : ∀ q, q < N → se' q = se q ∧ ti' q = ti q ∧ va' q = va q) (hc : ∀ q, q < N → c' q = c q) : lst se' ti' va' c' N n o t v := by
  refine ⟨h.1.trans (cnt_ext (fun q hq => (hc q hq).symm)), fun q hq e => ?_⟩
  obtain ⟨s1, s2, s3⟩ := hs q hq
  rw [s1, s2, s3, cnt_ext (f := c') (g := c) (n := q) (fun p hp => hc p (by omega))]
  exact h.2 q hq ((hc q hq).symm.trans e)
theorem arP_congr (hs : ∀ q, q < N → se' q = se q) (hc : ∀ q, q < N → c' q = c q) {q : Nat} (hq : q < N) : arP se' c' N q = arP se c N q := by
  unfold arP
  rw [hs q hq]
  congr 1
  · exact cnt_ext (fun p hp => by unfold arL; rw [hc p hp, hs p hp])
  · exact cnt_ext (fun p hp => by unfold arS; rw [hc p (by omega), hs p (by omega)])
theorem arr_congr (h : arr se ti va c N n o t v) (hs : ∀ q, q < N → se' q = se q ∧ ti' q = ti q ∧ va' q = va q) (hc : ∀ q, q < N → c' q = c q) : arr se' ti' va' c' N n o t v := by
  refine ⟨h.1.trans (cnt_ext (fun q hq => (hc q hq).symm)), fun q hq e => ?_⟩
  obtain ⟨s1, s2, s3⟩ := hs q hq
  rw [s1, s2, s3, arP_congr (fun p hp => (hs p hp).1) hc hq]
  exact h.2 q hq ((hc q hq).symm.trans e)
/-- one more point: chosen -/
theorem lst_add (h : lst se ti va c N n o t v) (hc : c N = true) : lst se ti va c (N + 1) (n + 1) (va_up o n (se N)) (va_up t n (ti N)) (va_up v n (va N)) := by
  refine ⟨by rw [cnt_t hc, ← h.1], fun q hq e => ?_⟩
  by_cases z : q = N
  · subst z
    rw [← h.1, va_up_self, va_up_self, va_up_self]
    exact ⟨rfl, rfl, rfl⟩
  · have := cnt_lt (f := c) (show q < N by omega) e
    rw [h.1, va_up_ne _ _ (by omega), va_up_ne _ _ (by omega), va_up_ne _ _ (by omega)]
    exact h.2 q (by omega) e
/-- one more point: not chosen -/
theorem lst_more (h : lst se ti va c N n o t v) (hc : c N = false) : lst se ti va c (N + 1) n o t v := by
  refine ⟨by rw [cnt_f hc]; exact h.1, fun q hq e => ?_⟩
  have : q ≠ N := fun z => by rw [z, hc] at e; cases e
  exact h.2 q (by omega) e
theorem arr_more (h : arr se ti va c N n o t v) (hc : c N = false) : arr se ti va c (N + 1) n o t v := by
  refine ⟨by rw [cnt_f hc]; exact h.1, fun q hq e => ?_⟩
  have : q ≠ N := fun z => by rw [z, hc] at e; cases e
  have ep : arP se c (N + 1) q = arP se c N q := by
    unfold arP
    rw [cnt_f (show arL se c (se q) N = false by unfold arL; rw [hc]; rfl)]
  rw [ep]
  exact h.2 q (by omega) e
/-- points dropped -/
theorem lst_td {d dp : Nat → Bool} (h : lst se ti va c N n o t v) (hd : ∀ q, q < N → c q = true → d (cnt q c) = dp q) : lst se ti va (fun q => c q && dp q) N (cnt n d) (tdT d o n) (tdT d t n) (tdT d v n) := by
  have ec : ∀ q, q ≤ N → cnt (cnt q c) d = cnt q (fun q => c q && dp q) := fun q hq => by
    rw [sub_cnt]
    refine cnt_ext (fun p hp => ?_)
    cases e : c p with
    | false => rfl
    | true => rw [hd p (by omega) e]
  refine ⟨by rw [h.1]; exact ec N (Nat.le_refl _), fun q hq e => ?_⟩
  rw [Bool.and_eq_true] at e
  have hi : cnt q c < n := by rw [h.1]; exact cnt_lt hq e.1
  have hq2 : d (cnt q c) = true := (hd q hq e.1).trans e.2
  rw [← ec q (by omega), tdT_get hi hq2, tdT_get hi hq2, tdT_get hi hq2]
  exact h.2 q hq e.1
/-- points put in order: those that stay -/
theorem td_cnt {st : Nat → Bool} {c c' : Nat → Bool} {N : Nat} (hc : ∀ q, q < N → c q = true → st q = true) (hc' : ∀ q, q < N → st q = true → c' (cnt q st) = c q) : ∀ q, q ≤ N → cnt (cnt q st) c' = cnt q c := fun q hq => by
  rw [sub_cnt]
  refine cnt_ext (fun p hp => ?_)
  cases e : st p with
  | false =>
    cases e2 : c p with
    | false => rfl
    | true => rw [hc p (by omega) e2] at e; cases e
  | true => rw [hc' p (by omega) e]; rfl
theorem lst_tidy {st : Nat → Bool} (h : lst se ti va c N n o t v) (hc : ∀ q, q < N → c q = true → st q = true) (hc' : ∀ q, q < N → st q = true → c' (cnt q st) = c q) : lst (tdT st se N) (tdT st ti N) (tdT st va N) c' (cnt N st) n o t v := by
  have ec := td_cnt hc hc'
  refine ⟨by rw [ec N (Nat.le_refl _)]; exact h.1, fun i hi e => ?_⟩
  obtain ⟨q, h1, h2, h3⟩ := cnt_at hi
  subst h3
  rw [ec q (by omega), tdT_get h1 h2, tdT_get h1 h2, tdT_get h1 h2]
  exact h.2 q h1 ((hc' q h1 h2).symm.trans e)
theorem arr_tidy {st : Nat → Bool} (h : arr se ti va c N n o t v) (hc : ∀ q, q < N → c q = true → st q = true) (hc' : ∀ q, q < N → st q = true → c' (cnt q st) = c q) : arr (tdT st se N) (tdT st ti N) (tdT st va N) c' (cnt N st) n o t v := by
  have ec := td_cnt hc hc'
  refine ⟨by rw [ec N (Nat.le_refl _)]; exact h.1, fun i hi e => ?_⟩
  obtain ⟨q, h1, h2, h3⟩ := cnt_at hi
  subst h3
  have ep : arP (tdT st se N) c' (cnt N st) (cnt q st) = arP se c N q := by
    unfold arP
    rw [tdT_get h1 h2]
    congr 1
    · refine td_cnt (c := arL se c (se q)) (fun p hp e2 => hc p hp (arL_t.mp e2).1) (fun p hp e2 => ?_) N (Nat.le_refl _)
      unfold arL
      rw [hc' p hp e2, tdT_get hp e2]
    · refine td_cnt (c := arS se c (se q)) (N := N) (fun p hp e2 => hc p hp (arS_t.mp e2).1) (fun p hp e2 => ?_) q (by omega)
      unfold arS
      rw [hc' p hp e2, tdT_get hp e2]
  rw [ep, tdT_get h1 h2, tdT_get h1 h2, tdT_get h1 h2]
  exact h.2 q h1 ((hc' q h1 h2).symm.trans e)
end PT
end
section
/-! Scars: the two ways. -/
theorem frst_some {f : Nat → Bool} : ∀ {n k j : Nat}, frst f n k = some j → f j = true ∧ k ≤ j ∧ j < k + n ∧ ∀ i, k ≤ i → i < j → f i = false
  | 0, k, j, h => by cases h
  | n + 1, k, j, h => by
    cases e : f k with
    | true =>
      rw [frst_t (Nat.succ_pos n) e] at h
      injection h with h
      subst h
      exact ⟨e, Nat.le_refl _, by omega, fun i h1 h2 => by omega⟩
    | false =>
      rw [frst_f (Nat.succ_pos n) e] at h
      obtain ⟨a1, a2, a3, a4⟩ := frst_some (n := n) h
      refine ⟨a1, by omega, by omega, fun i h1 h2 => ?_⟩
      by_cases z : i = k
      · subst z; exact e
      · exact a4 i (by omega) h2
theorem frst_none {f : Nat → Bool} : ∀ {n k : Nat}, frst f n k = none → ∀ i, k ≤ i → i < k + n → f i = false
  | 0, k, _, i, h1, h2 => by omega
  | n + 1, k, h, i, h1, h2 => by
    cases e : f k with
    | true => rw [frst_t (Nat.succ_pos n) e] at h; cases h
    | false =>
      rw [frst_f (Nat.succ_pos n) e] at h
      by_cases z : i = k
      · subst z; exact e
      · exact frst_none (n := n) h i (by omega) (by omega)
theorem frst_mk {f : Nat → Bool} {n j : Nat} (hj : j < n) (h : f j = true) (hb : ∀ i, i < j → f i = false) : frst f n 0 = some j := by
  cases e : frst f n 0 with
  | none => rw [frst_none e j (Nat.zero_le _) (by omega)] at h; cases h
  | some k =>
    obtain ⟨a1, -, a3, a4⟩ := frst_some e
    rcases Nat.lt_trichotomy k j with z | z | z
    · rw [hb k z] at a1; cases a1
    · rw [z]
    · rw [a4 j (Nat.zero_le _) z] at h; cases h
theorem frst_mn {f : Nat → Bool} {n : Nat} (h : ∀ i, i < n → f i = false) : frst f n 0 = none := by
  cases e : frst f n 0 with
  | none => rfl
  | some k =>
    obtain ⟨a1, -, a3, -⟩ := frst_some e
    rw [h k (by omega)] at a1
    cases a1
theorem frst_sn {f g : Nat → Bool} {n : Nat} (h : ∀ i, i < n → g i = f i) : frst g (n + 1) 0 = match frst f n 0 with | some j => some j | none => if g n = true then some n else none := by
  cases e : frst f n 0 with
  | some j =>
    obtain ⟨a1, -, a3, a4⟩ := frst_some e
    exact frst_mk (by omega) ((h j (by omega)).trans a1) (fun i hi => (h i (by omega)).trans (a4 i (Nat.zero_le _) hi))
  | none =>
    have b := frst_none e
    cases e2 : g n with
    | true => exact frst_mk (by omega) e2 (fun i hi => (h i hi).trans (b i (Nat.zero_le _) (by omega)))
    | false => exact frst_mn (fun i hi => by
        by_cases z : i = n
        · subst z; exact e2
        · exact (h i (by omega)).trans (b i (Nat.zero_le _) (by omega)))
def cvS (sO : Nat → Nat) (sF sT : Nat → Int64) (w : Nat) (t : Int64) (i : Nat) : Bool := decide (sO i = w) && (!decide (t < sF i) && !decide (sT i < t))
def cv1 (sO : Nat → Nat) (sF sT : Nat → Int64) (n w : Nat) (t : Int64) : Option Nat := frst (cvS sO sF sT w t) n 0
def hdV (dn : Nat → Nat) : Option Nat → Int32
  | none => -1
  | some j => nI (dn j)
/-- which delete hid a packed point: the first scar that covers it -/
def hdR (hid : Nat → Int32) (pk : Nat → Bool) (se : Nat → Nat) (ti : Nat → Int64) (N : Nat) (sO : Nat → Nat) (sF sT : Nat → Int64) (n : Nat) (dn : Nat → Nat) : Prop := ∀ q, q < N → pk q = true → hid q = hdV dn (cv1 sO sF sT n (se q) (ti q))
/-- the numbers of deletes rise -/
def dnR (n d : Nat) (dn : Nat → Nat) : Prop := (∀ j, j < n → dn j < d) ∧ ∀ i j, i < j → j < n → dn i < dn j
/-- each scar covers a packed point that none before it covers -/
def scE1 (pk : Nat → Bool) (se : Nat → Nat) (ti : Nat → Int64) (N : Nat) (sO : Nat → Nat) (sF sT : Nat → Int64) (n : Nat) : Prop := ∀ j, j < n → ∃ q, q < N ∧ pk q = true ∧ cv1 sO sF sT n (se q) (ti q) = some j
section SC
variable {hid : Nat → Int32} {pk : Nat → Bool} {se : Nat → Nat} {ti : Nat → Int64} {N : Nat} {sO : Nat → Nat} {sF sT : Nat → Int64} {n d : Nat} {dn : Nat → Nat}
theorem hdV_n {z : Option Nat} (hd : dnR n d dn) (hl : d ≤ 2 ^ 30) (hz : ∀ j, z = some j → j < n) : 0 ≤ hdV dn z ↔ z ≠ none := by
  cases z with
  | none => exact ⟨fun h => absurd h (show ¬ (0 : Int32) ≤ -1 by decide), fun h => absurd rfl h⟩
  | some j => exact ⟨fun _ h => (by cases h), fun _ => nI_pos' (by have := hd.1 j (hz j rfl); omega)⟩
theorem cv1_lt {w : Nat} {t : Int64} {j : Nat} (h : cv1 sO sF sT n w t = some j) : j < n := by
  have := (frst_some h).2.2.1
  omega
/-- a scar more -/
theorem cv1_s {w w0 : Nat} {t a b : Int64} : cv1 (va_up sO n w0) (va_up sF n a) (va_up sT n b) (n + 1) w t = match cv1 sO sF sT n w t with | some j => some j | none => if (decide (w0 = w) && (!decide (t < a) && !decide (b < t))) = true then some n else none := by
  have e : cvS (va_up sO n w0) (va_up sF n a) (va_up sT n b) w t n = (decide (w0 = w) && (!decide (t < a) && !decide (b < t))) := by
    unfold cvS
    rw [va_up_self, va_up_self, va_up_self]
  unfold cv1
  rw [frst_sn (f := cvS sO sF sT w t) (fun i hi => by unfold cvS; rw [va_up_ne _ _ (by omega), va_up_ne _ _ (by omega), va_up_ne _ _ (by omega)]), e]
/-- a delete that hits packed points -/
theorem hdR_s {hid' : Nat → Int32} {w0 : Nat} {a b : Int64} (h : hdR hid pk se ti N sO sF sT n dn) (hh : ∀ q, q < N → pk q = true → hid' q = if cv1 sO sF sT n (se q) (ti q) = none ∧ se q = w0 ∧ ¬ ti q < a ∧ ¬ b < ti q then nI d else hid q) : hdR hid' pk se ti N (va_up sO n w0) (va_up sF n a) (va_up sT n b) (n + 1) (va_up dn n d) := by
  intro q hq hp
  rw [hh q hq hp, cv1_s, h q hq hp]
  cases e : cv1 sO sF sT n (se q) (ti q) with
  | some j =>
    have := cv1_lt e
    rw [if_neg (fun z => by cases z.1)]
    show nI (dn j) = nI (va_up dn n d j)
    rw [va_up_ne _ _ (by omega)]
  | none =>
    by_cases g : se q = w0 ∧ ¬ ti q < a ∧ ¬ b < ti q
    · rw [if_pos ⟨rfl, g⟩]
      show nI d = hdV (va_up dn n d) (if (decide (w0 = se q) && (!decide (ti q < a) && !decide (b < ti q))) = true then some n else none)
      rw [if_pos (by rw [decide_eq_true g.1.symm, decide_eq_false g.2.1, decide_eq_false g.2.2]; rfl)]
      show nI d = nI (va_up dn n d n)
      rw [va_up_self]
    · rw [if_neg (fun z => g z.2)]
      show (-1 : Int32) = hdV (va_up dn n d) (if (decide (w0 = se q) && (!decide (ti q < a) && !decide (b < ti q))) = true then some n else none)
      rw [if_neg]
      · rfl
      · intro z
        rw [Bool.and_eq_true, Bool.and_eq_true, decide_eq_true_eq] at z
        refine g ⟨z.1.symm, fun y => ?_, fun y => ?_⟩
        · rw [decide_eq_true y] at z; cases z.2.1
        · rw [decide_eq_true y] at z; cases z.2.2
theorem dnR_s (h : dnR n d dn) : dnR (n + 1) (d + 1) (va_up dn n d) := by
  refine ⟨fun j hj => ?_, fun i j hi hj => ?_⟩
  · by_cases e : j = n
    · subst e; rw [va_up_self]; omega
    · rw [va_up_ne _ _ e]; have := h.1 j (by omega); omega
  · by_cases e : j = n
    · subst e; rw [va_up_self, va_up_ne _ _ (by omega)]; exact h.1 i hi
    · rw [va_up_ne _ _ e, va_up_ne _ _ (by omega)]; exact h.2 i j hi (by omega)
theorem scE_s {w0 q0 : Nat} {a b : Int64} (h : scE1 pk se ti N sO sF sT n) (hq : q0 < N) (hp : pk q0 = true) (h0 : cv1 sO sF sT n (se q0) (ti q0) = none) (h1 : se q0 = w0) (h2 : ¬ ti q0 < a) (h3 : ¬ b < ti q0) : scE1 pk se ti N (va_up sO n w0) (va_up sF n a) (va_up sT n b) (n + 1) := by
  intro j hj
  by_cases e : j = n
  · subst e
    refine ⟨q0, hq, hp, ?_⟩
    rw [cv1_s, h0]
    exact if_pos (by rw [decide_eq_true h1.symm, decide_eq_false h2, decide_eq_false h3]; rfl)
  · obtain ⟨q, a1, a2, a3⟩ := h j (by omega)
    refine ⟨q, a1, a2, ?_⟩
    rw [cv1_s, a3]
/-- scars that end -/
theorem cv1_td {ke : Nat → Bool} {w : Nat} {t : Int64} (hk : ∀ j, cv1 sO sF sT n w t = some j → ke j = true) : cv1 (tdT ke sO n) (tdT ke sF n) (tdT ke sT n) (cnt n ke) w t = (cv1 sO sF sT n w t).map (fun j => cnt j ke) := by
  have ec : ∀ i, i < n → ke i = true → cvS (tdT ke sO n) (tdT ke sF n) (tdT ke sT n) w t (cnt i ke) = cvS sO sF sT w t i := fun i hi e => by
    unfold cvS
    rw [tdT_get hi e, tdT_get hi e, tdT_get hi e]
  cases e : cv1 sO sF sT n w t with
  | none =>
    refine frst_mn (fun i hi => ?_)
    obtain ⟨q, h1, h2, h3⟩ := cnt_at hi
    subst h3
    rw [ec q h1 h2]
    exact frst_none e q (Nat.zero_le _) (by omega)
  | some j =>
    obtain ⟨a1, -, a3, a4⟩ := frst_some e
    have hj : j < n := by omega
    refine frst_mk (cnt_lt hj (hk j e)) ((ec j hj (hk j e)).trans a1) (fun i hi => ?_)
    obtain ⟨q, h1, h2, h3⟩ := cnt_at (n := j) hi
    subst h3
    rw [ec q (by omega) h2]
    exact a4 q (Nat.zero_le _) h1
theorem hdR_td {ke : Nat → Bool} (h : hdR hid pk se ti N sO sF sT n dn) (hk : ∀ q, q < N → pk q = true → ∀ j, cv1 sO sF sT n (se q) (ti q) = some j → ke j = true) : hdR hid pk se ti N (tdT ke sO n) (tdT ke sF n) (tdT ke sT n) (cnt n ke) (tdT ke dn n) := by
  intro q hq hp
  rw [h q hq hp, cv1_td (hk q hq hp)]
  cases e : cv1 sO sF sT n (se q) (ti q) with
  | none => rfl
  | some j =>
    show nI (dn j) = nI (tdT ke dn n (cnt j ke))
    rw [tdT_get (cv1_lt e) (hk q hq hp j e)]
theorem dnR_td {ke : Nat → Bool} (h : dnR n d dn) : dnR (cnt n ke) d (tdT ke dn n) := by
  refine ⟨fun j hj => ?_, fun i j hi hj => ?_⟩
  · obtain ⟨q, h1, h2, h3⟩ := cnt_at hj
    subst h3
    rw [tdT_get h1 h2]
    exact h.1 q h1
  · obtain ⟨q, h1, h2, h3⟩ := cnt_at hj
    subst h3
    obtain ⟨p, g1, g2, g3⟩ := cnt_at (n := q) hi
    subst g3
    rw [tdT_get h1 h2, tdT_get (by omega) g2]
    exact h.2 p q g1 h1
/-- a choice of n different places counted -/
theorem cnt_one {N k : Nat} (hk : k < N) : cnt N (fun q => decide (q = k)) = 1 := by
  obtain ⟨e, he⟩ : ∃ e, N = k + (e + 1) := ⟨N - k - 1, by omega⟩
  rw [he, cnt_plus, cnt_0 (fun j hj => decide_eq_false (by omega)), Nat.zero_add, Nat.add_comm e 1, cnt_plus]
  rw [cnt_0 (f := fun j => decide (k + (1 + j) = k)) (fun j _ => decide_eq_false (by omega))]
  show cnt (0 + 1) (fun j => decide (k + j = k)) + 0 = 1
  rw [cnt_t (decide_eq_true (by omega))]
  rfl
theorem cnt_pick {N : Nat} {m : Nat → Nat} : ∀ {n : Nat}, (∀ j, j < n → m j < N) → (∀ i j, i < n → j < n → m i = m j → i = j) → cnt N (fun q => anyB n (fun j => decide (q = m j))) = n
  | 0, _, _ => cnt_0 (fun _ _ => rfl)
  | n + 1, h1, h2 => by
    have ih := cnt_pick (n := n) (fun j hj => h1 j (by omega)) (fun i j hi hj => h2 i j (by omega) (by omega))
    have e : cnt N (fun q => anyB (n + 1) (fun j => decide (q = m j))) = cnt N (fun q => anyB n (fun j => decide (q = m j))) + cnt N (fun q => decide (q = m n)) := cnt_add (fun q _ => by
      refine ⟨?_, fun z => ?_⟩
      · show (anyB n _ || decide (q = m n)) = true ↔ _
        rw [Bool.or_eq_true]
      · have g : q = m n := of_decide_eq_true z.2
        have : anyB n (fun j => decide (q = m j)) = false := by
          cases y : anyB n (fun j => decide (q = m j)) with
          | false => rfl
          | true =>
            exfalso
            have : ∀ {k : Nat}, k ≤ n → anyB k (fun j => decide (q = m j)) = true → False := fun {k} hk hy => by
              induction k with
              | zero => cases hy
              | succ k ihk =>
                have hy : (anyB k (fun j => decide (q = m j)) || decide (q = m k)) = true := hy
                rw [Bool.or_eq_true] at hy
                rcases hy with hy | hy
                · exact ihk (by omega) hy
                · have := h2 k n (by omega) (by omega) ((of_decide_eq_true hy).symm.trans g)
                  omega
            exact this (Nat.le_refl n) y
        rw [this] at z
        cases z.1)
    rw [e, ih, cnt_one (h1 n (by omega))]
end SC
end
section
/-! How many scars: the two ways. -/
theorem anyB_iff {f : Nat → Bool} : ∀ {n : Nat}, anyB n f = true ↔ ∃ j, j < n ∧ f j = true
  | 0 => ⟨fun h => (by cases h), fun ⟨j, hj, _⟩ => absurd hj (Nat.not_lt_zero j)⟩
  | n + 1 => by
    rw [anyB_s, Bool.or_eq_true, anyB_iff (n := n)]
    constructor
    · rintro (⟨j, h1, h2⟩ | h)
      · exact ⟨j, by omega, h2⟩
      · exact ⟨n, by omega, h⟩
    · rintro ⟨j, h1, h2⟩
      by_cases e : j = n
      · subst e; exact Or.inr h2
      · exact Or.inl ⟨j, by omega, h2⟩
def MS.pkd (x : MS) (q : Nat) : Bool := !decide (x.places q < 0)
theorem pkd_t {x : MS} {q : Nat} : x.pkd q = true ↔ ¬ x.places q < 0 := by
  unfold MS.pkd
  by_cases h : x.places q < 0
  · rw [decide_eq_true h]; exact ⟨fun z => (by cases z), fun z => absurd h z⟩
  · rw [decide_eq_false h]; exact ⟨fun _ => h, fun _ => rfl⟩
section SN
variable {x : MS} {sO : Nat → Nat} {sF sT : Nat → Int64} {n : Nat} {dn : Nat → Nat}
/-- the first packed point that scar j hides -/
def scQ (x : MS) (sO : Nat → Nat) (sF sT : Nat → Int64) (n j q : Nat) : Bool := x.pkd q && decide (cv1 sO sF sT n (x.pointSeries q) (x.pointTimes q) = some j)
def scM (x : MS) (sO : Nat → Nat) (sF sT : Nat → Int64) (n j : Nat) : Nat := (frst (scQ x sO sF sT n j) x.points 0).getD 0
theorem scM_p (h : scE1 x.pkd x.pointSeries x.pointTimes x.points sO sF sT n) {j : Nat} (hj : j < n) : scM x sO sF sT n j < x.points ∧ x.pkd (scM x sO sF sT n j) = true ∧ cv1 sO sF sT n (x.pointSeries (scM x sO sF sT n j)) (x.pointTimes (scM x sO sF sT n j)) = some j ∧ ∀ r, r < scM x sO sF sT n j → scQ x sO sF sT n j r = false := by
  obtain ⟨q, h1, h2, h3⟩ := h j hj
  cases e : frst (scQ x sO sF sT n j) x.points 0 with
  | none =>
    have := frst_none e q (Nat.zero_le _) (by omega)
    unfold scQ at this
    rw [h2, decide_eq_true h3] at this
    cases this
  | some m =>
    obtain ⟨a1, -, a3, a4⟩ := frst_some e
    have em : scM x sO sF sT n j = m := by unfold scM; rw [e]; rfl
    rw [em]
    unfold scQ at a1
    rw [Bool.and_eq_true, decide_eq_true_eq] at a1
    exact ⟨by omega, a1.1, a1.2, fun r hr => a4 r (Nat.zero_le _) hr⟩
theorem sc_cnt (hh : hdR x.hidden x.pkd x.pointSeries x.pointTimes x.points sO sF sT n dn) (hd : dnR n x.deletes dn) (hl : x.deletes ≤ 2 ^ 30) (h : scE1 x.pkd x.pointSeries x.pointTimes x.points sO sF sT n) : cnt x.points x.firstOf = n := by
  have hz : ∀ q j, cv1 sO sF sT n (x.pointSeries q) (x.pointTimes q) = some j → j < n := fun q j e => cv1_lt e
  have inj : ∀ i j, i < n → j < n → nI (dn i) = nI (dn j) → i = j := fun i j hi hj e => by
    have b1 := hd.1 i hi
    have b2 := hd.1 j hj
    have e2 := nI_inj (by omega) (by omega) e
    rcases Nat.lt_trichotomy i j with z | z | z
    · have := hd.2 i j z hj; omega
    · exact z
    · have := hd.2 j i z hi; omega
  rw [← cnt_pick (N := x.points) (m := scM x sO sF sT n) (n := n) (fun j hj => (scM_p h hj).1) (fun i j hi hj e => by
    have a := (scM_p h hi).2.2.1
    have b := (scM_p h hj).2.2.1
    rw [e, b] at a
    injection a with a
    exact a.symm)]
  refine cnt_ext (fun q hq => ?_)
  apply Bool.eq_iff_iff.mpr
  rw [anyB_iff]
  unfold MS.firstOf
  rw [Bool.and_eq_true, allB_iff]
  constructor
  · rintro ⟨h1, h2⟩
    unfold MS.scB at h1
    rw [Bool.and_eq_true] at h1
    have hp : x.pkd q = true := h1.1
    have h0 : 0 ≤ x.hidden q := Int32.not_lt.mp (fun z => by rw [decide_eq_true z] at h1; cases h1.2)
    rw [hh q hq hp, hdV_n hd hl (hz q)] at h0
    cases e : cv1 sO sF sT n (x.pointSeries q) (x.pointTimes q) with
    | none => exact absurd e h0
    | some j =>
      have hj := hz q j e
      obtain ⟨m1, m2, m3, m4⟩ := scM_p h hj
      refine ⟨j, hj, decide_eq_true ?_⟩
      rcases Nat.lt_trichotomy q (scM x sO sF sT n j) with z | z | z
      · have := m4 q z
        unfold scQ at this
        rw [hp, decide_eq_true e] at this
        cases this
      · exact z
      · have := h2 _ z
        unfold MS.scA at this
        rw [Bool.or_eq_true] at this
        rcases this with y | y
        · exact absurd (of_decide_eq_true y) (pkd_t.mp m2)
        · rw [hh _ m1 m2, hh q hq hp, m3, e, decide_eq_true rfl] at y
          cases y
  · rintro ⟨j, hj, e⟩
    have e := of_decide_eq_true e
    obtain ⟨m1, m2, m3, m4⟩ := scM_p h hj
    rw [← e] at m1 m2 m3 m4
    have hv : x.hidden q = nI (dn j) := by rw [hh q m1 m2, m3]; rfl
    have bd := hd.1 j hj
    refine ⟨?_, fun r hr => ?_⟩
    · unfold MS.scB
      rw [hv, decide_eq_false (nI_pos (by omega))]
      rw [show (!decide (x.places q < 0)) = true from m2]
      rfl
    · unfold MS.scA
      cases g : x.pkd r with
      | false =>
        have : x.places r < 0 := Decidable.byContradiction (fun z => by rw [pkd_t.mpr z] at g; cases g)
        rw [decide_eq_true this]
        rfl
      | true =>
        have gr := m4 r hr
        unfold scQ at gr
        rw [g, Bool.true_and] at gr
        have gr := of_decide_eq_false gr
        rw [decide_eq_false (pkd_t.mp g), Bool.false_or, hh r (by omega) g, hv]
        rw [decide_eq_false (fun z => ?_)]
        · rfl
        · cases e3 : cv1 sO sF sT n (x.pointSeries r) (x.pointTimes r) with
          | none =>
            rw [e3] at z
            exact nI_nm (show dn j < 2 ^ 31 by omega) z.symm
          | some i =>
            rw [e3] at z
            exact gr (by rw [e3, inj i j (hz r i e3) hj z])
end SN
end
section
/-! Points of both sides. -/
def MS.hdd (x : MS) (q : Nat) : Bool := decide (x.places q = -1)
def MS.inpc (x : MS) (k q : Nat) : Bool := decide (x.places q = nI (x.parcels k))
/-- the points: head, parcels, scars -/
def ptR (m : MS) (x : VS) (PS : Nat → PT) (dn : Nat → Nat) : Prop :=
  (lst m.pointSeries m.pointTimes m.pointValues m.hdd m.points x.hsize x.hO x.hT x.hV ∧ m.parcelCount = x.npc ∧ m.horizon = x.nhor ∧ ∀ k, k < x.npc → arr m.pointSeries m.pointTimes m.pointValues (m.inpc k) m.points (PS k).n (PS k).o (PS k).t (PS k).v ∧ PS k = mkP (PS k).n (PS k).o (PS k).t (PS k).v ∧ m.parcelBlocks k = (PS k).bl) ∧
  (hdR m.hidden m.pkd m.pointSeries m.pointTimes m.points x.nsO x.nsF x.nsT x.nsc dn ∧ dnR x.nsc m.deletes dn ∧ scE1 m.pkd m.pointSeries m.pointTimes m.points x.nsO x.nsF x.nsT x.nsc ∧ m.deletes ≤ 2 ^ 29) ∧
  ((∀ q, q < m.points → m.places q = -2 ∨ m.places q = -1 ∨ ∃ k, k < x.npc ∧ m.places q = nI (m.parcels k)) ∧ (∀ i j, i < x.npc → j < x.npc → m.parcels i = m.parcels j → i = j) ∧ (∀ k, k < x.npc → m.parcels k < m.parcelNumber) ∧ m.parcelNumber ≤ 2 ^ 29) ∧
  ((∀ i j p r, i < j → j < x.npc → p < m.points → r < m.points → m.inpc i p = true → m.inpc j r = true → p < r) ∧ ∀ k p r, k < x.npc → p < m.points → r < m.points → m.inpc k p = true → m.hdd r = true → p < r) ∧
  ((∀ q, q < m.points → m.hdd q = true → ¬ m.pointTimes q < m.horizon ∧ m.hidden q = -1) ∧ (∀ q, q < m.points → ¬ m.places q = -2 → m.pointSeries q < m.seriesCount ∧ ¬ m.lasts (m.pointSeries q) < m.pointTimes q) ∧ ∀ p r, p < r → r < m.points → ¬ m.places p = -2 → ¬ m.places r = -2 → m.pointSeries p = m.pointSeries r → m.pointTimes p < m.pointTimes r) ∧
  ∀ q, q < m.points → ¬ m.pointTimes q < 0 ∧ ¬ 1099511627775 < m.pointTimes q
theorem arr_all {se : Nat → Nat} {ti va : Nat → Int64} {c : Nat → Bool} {N n : Nat} {o : Nat → Nat} {t v : Nat → Int64} {W : Nat} (h : arr se ti va c N n o t v) (hW : ∀ q, q < N → c q = true → se q < W) (F : Nat → Bool) : cnt n F = cnt N (fun q => c q && F (arP se c N q)) := by
  rw [h.1, ← arL_all hW, arr_cnt]
  refine cnt_ext (fun q hq => ?_)
  cases e : c q with
  | false => unfold arL; rw [e]; rfl
  | true => unfold arL; rw [e, decide_eq_true (hW q hq e)]; rfl
theorem lst_all {se : Nat → Nat} {ti va : Nat → Int64} {c : Nat → Bool} {N n : Nat} {o : Nat → Nat} {t v : Nat → Int64} (h : lst se ti va c N n o t v) (F : Nat → Bool) : cnt n F = cnt N (fun q => c q && F (cnt q c)) := by
  rw [h.1, sub_cnt]
section PR
variable {m : MS} {x : VS} {PS : Nat → PT} {dn : Nat → Nat}
theorem inP_pk (h : ptR m x PS dn) {k q : Nat} (hk : k < x.npc) (hq : m.inpc k q = true) : m.pkd q = true ∧ ¬ m.places q = -2 ∧ m.hdd q = false := by
  have hp := h.2.2.1.2.2.1 k hk
  have hb := h.2.2.1.2.2.2
  have e : m.places q = nI (m.parcels k) := of_decide_eq_true hq
  refine ⟨pkd_t.mpr (by rw [e]; exact nI_pos (by omega)), fun z => ?_, decide_eq_false (fun z => ?_)⟩
  · rw [e] at z
    exact nI_pos (n := m.parcels k) (by omega) (by rw [z]; decide)
  · rw [e] at z
    exact nI_nm (by omega) z
theorem inP_1 (h : ptR m x PS dn) {i j q : Nat} (hi : i < x.npc) (hj : j < x.npc) (h1 : m.inpc i q = true) (h2 : m.inpc j q = true) : i = j := by
  have a := h.2.2.1.2.2.1 i hi
  have b := h.2.2.1.2.2.1 j hj
  have hb := h.2.2.1.2.2.2
  have e : nI (m.parcels i) = nI (m.parcels j) := (of_decide_eq_true h1).symm.trans (of_decide_eq_true h2)
  exact h.2.2.1.2.1 i j hi hj (nI_inj (by omega) (by omega) e)
/-- a point in parcel k, seen by the class at its place -/
theorem see_eq (h : ptR m x PS dn) {k q : Nat} (hk : k < x.npc) (hq : q < m.points) (hc : m.inpc k q = true) : x.sePc (PS k) (arP m.pointSeries (m.inpc k) m.points q) = m.seen q := by
  obtain ⟨a1, a2, a3⟩ := (h.1.2.2.2 k hk).1.2 q hq hc
  obtain ⟨p1, p2, -⟩ := inP_pk h hk hc
  unfold VS.sePc MS.seen
  rw [a1, a2, ← h.1.2.2.1]
  have e1 : (m.places q ≤ -2) ↔ False := ⟨fun z => pkd_t.mp p1 (Int32.lt_of_le_of_lt z (by decide)), False.elim⟩
  have hd := h.2.1
  have e2 : 0 ≤ m.hidden q ↔ x.sc1 (m.pointSeries q) (m.pointTimes q) ≠ none := by
    rw [hd.1 q hq p1]
    exact hdV_n hd.2.1 (by have := hd.2.2.2; omega) (fun j e => cv1_lt e)
  rw [decide_eq_false (fun z => e1.mp z)]
  by_cases g : x.sc1 (m.pointSeries q) (m.pointTimes q) = none
  · rw [decide_eq_true g, decide_eq_false (fun z => e2.mp z g), Bool.and_true]
    rfl
  · rw [decide_eq_false g, decide_eq_true (e2.mpr g), Bool.and_false]
    rfl
theorem hd_seen (h : ptR m x PS dn) {q : Nat} (hq : q < m.points) (hc : m.hdd q = true) : m.seen q = true := by
  obtain ⟨a1, a2⟩ := h.2.2.2.2.1.1 q hq hc
  have e : m.places q = -1 := of_decide_eq_true hc
  unfold MS.seen
  rw [e, a2, decide_eq_false (show ¬ (-1 : Int32) ≤ -2 by decide), decide_eq_false (show ¬ (0 : Int32) ≤ -1 by decide), decide_eq_false a1]
  rfl
theorem in_se (h : ptR m x PS dn) {k q : Nat} (hk : k < x.npc) (hq : q < m.points) (hc : m.inpc k q = true) : m.pointSeries q < m.seriesCount := (h.2.2.2.2.1.2.1 q hq (inP_pk h hk hc).2.1).1
/-- all packed points, parcel by parcel -/
theorem pk_sum (h : ptR m x PS dn) (F : Nat → Bool) : cnt m.points (fun q => m.pkd q && F q) = sumN x.npc (fun k => cnt m.points (fun q => m.inpc k q && F q)) := by
  have e1 : ∀ n, n ≤ x.npc → cnt m.points (fun q => anyB n (fun k => m.inpc k q) && F q) = sumN n (fun k => cnt m.points (fun q => m.inpc k q && F q)) := fun n => by
    induction n with
    | zero => exact fun _ => cnt_0 (fun _ _ => rfl)
    | succ n ih =>
      intro hn
      show _ = sumN n _ + cnt m.points (fun q => m.inpc n q && F q)
      rw [← ih (by omega)]
      refine cnt_add (fun q hq => ?_)
      rw [Bool.and_eq_true, Bool.and_eq_true, Bool.and_eq_true, anyB_s, Bool.or_eq_true]
      refine ⟨⟨fun z => ?_, fun z => ?_⟩, fun z => ?_⟩
      · rcases z.1 with y | y
        · exact Or.inl ⟨y, z.2⟩
        · exact Or.inr ⟨y, z.2⟩
      · rcases z with y | y
        · exact ⟨Or.inl y.1, y.2⟩
        · exact ⟨Or.inr y.1, y.2⟩
      · obtain ⟨j, hj, e⟩ := anyB_iff.mp z.1.1
        have := inP_1 h (by omega) (by omega) e z.2.1
        omega
  rw [← e1 x.npc (Nat.le_refl _)]
  refine cnt_ext (fun q hq => ?_)
  congr 1
  apply Bool.eq_iff_iff.mpr
  rw [anyB_iff]
  constructor
  · intro hp
    rcases h.2.2.1.1 q hq with e | e | ⟨k, hk, e⟩
    · rw [pkd_t, e] at hp; exact absurd (by decide) hp
    · rw [pkd_t, e] at hp; exact absurd (by decide) hp
    · exact ⟨k, hk, decide_eq_true e⟩
  · rintro ⟨k, hk, e⟩
    exact (inP_pk h hk e).1
theorem sumN_ext {f g : Nat → Nat} : ∀ {n : Nat}, (∀ k, k < n → f k = g k) → sumN n f = sumN n g
  | 0, _ => rfl
  | n + 1, h => by
    show sumN n f + f n = sumN n g + g n
    rw [sumN_ext (fun k hk => h k (by omega)), h n (by omega)]
/-- seen points counted: packed and in the head -/
theorem seen_sum (h : ptR m x PS dn) (F : Nat → Bool) : cnt m.points (fun q => m.seen q && F q) = cnt m.points (fun q => m.pkd q && (m.seen q && F q)) + cnt m.points (fun q => m.hdd q && F q) := cnt_add (fun q hq => by
  rw [Bool.and_eq_true, Bool.and_eq_true, Bool.and_eq_true, Bool.and_eq_true]
  refine ⟨⟨fun z => ?_, fun z => ?_⟩, fun z => ?_⟩
  · rcases h.2.2.1.1 q hq with e | e | ⟨k, hk, e⟩
    · have := z.1
      unfold MS.seen at this
      rw [e, decide_eq_true (show (-2 : Int32) ≤ -2 by decide)] at this
      cases this
    · exact Or.inr ⟨decide_eq_true e, z.2⟩
    · exact Or.inl ⟨(inP_pk h hk (decide_eq_true e)).1, z⟩
  · rcases z with z | z
    · exact z.2
    · exact ⟨hd_seen h hq z.1, z.2⟩
  · have a := pkd_t.mp z.1.1
    have b : m.places q = -1 := of_decide_eq_true z.2.1
    rw [b] at a
    exact a (by decide))
/-- in parcel k -/
theorem pc_cnt (h : ptR m x PS dn) {k : Nat} (hk : k < x.npc) {F G : Nat → Bool} (hF : ∀ q, q < m.points → m.inpc k q = true → F (arP m.pointSeries (m.inpc k) m.points q) = G q) : cnt (PS k).n F = cnt m.points (fun q => m.inpc k q && G q) := by
  rw [arr_all (h.1.2.2.2 k hk).1 (fun q hq hc => in_se h hk hq hc) F]
  refine cnt_ext (fun q hq => ?_)
  cases e : m.inpc k q with
  | false => rfl
  | true => rw [hF q hq e]
theorem hd_cnt (h : ptR m x PS dn) {F G : Nat → Bool} (hF : ∀ q, q < m.points → m.hdd q = true → F (cnt q m.hdd) = G q) : cnt x.hsize F = cnt m.points (fun q => m.hdd q && G q) := by
  rw [lst_all h.1.1 F]
  refine cnt_ext (fun q hq => ?_)
  cases e : m.hdd q with
  | false => rfl
  | true => rw [hF q hq e]
end PR
end
section
/-! What both sides answer about points. -/
section AQ
variable {se : Nat → Nat} {ti va : Nat → Int64} {c : Nat → Bool} {N n : Nat} {o : Nat → Nat} {t v : Nat → Int64}
theorem ar_sum : ∀ W, sumN W (fun w => cnt N (arS se c w)) = cnt N (arL se c W)
  | 0 => arL_0.symm
  | W + 1 => by
    show sumN W _ + cnt N (arS se c W) = _
    rw [ar_sum W, arL_s]
theorem ch_in (h : arr se ti va c N n o t v) {w : Nat} : ∀ {j : Nat}, 0 < j → j ≤ cnt N (arS se c w) → cnt (cnt N (arL se c w) + j) (chB o) = cnt (cnt N (arL se c w)) (chB o) + 1
  | 0, h0, _ => absurd h0 (Nat.lt_irrefl 0)
  | 1, _, hj => by
    obtain ⟨q, -, -, -, a, -⟩ := arr_at h (w := w) (j := 0) (by omega)
    rw [Nat.add_zero] at a
    rw [cnt_t]
    unfold chB
    rcases Nat.eq_zero_or_pos (cnt N (arL se c w)) with z | z
    · rw [decide_eq_true z]; rfl
    · have := arr_lt h (w := w) (i := cnt N (arL se c w) - 1) (by omega)
      rw [decide_eq_false (show ¬ o (cnt N (arL se c w)) = o (cnt N (arL se c w) - 1) by omega)]
      simp
  | j + 2, _, hj => by
    have ih := ch_in h (w := w) (j := j + 1) (by omega) (by omega)
    obtain ⟨q, -, -, -, a, -⟩ := arr_at h (w := w) (j := j + 1) (by omega)
    obtain ⟨q2, -, -, -, b, -⟩ := arr_at h (w := w) (j := j) (by omega)
    rw [show cnt N (arL se c w) + (j + 2) = cnt N (arL se c w) + (j + 1) + 1 by omega, cnt_f, ih]
    unfold chB
    rw [decide_eq_false (show ¬ cnt N (arL se c w) + (j + 1) = 0 by omega), show cnt N (arL se c w) + (j + 1) - 1 = cnt N (arL se c w) + j by omega, a, b, decide_eq_true rfl]
    rfl
theorem ch_all (h : arr se ti va c N n o t v) : ∀ W, cnt W (fun w => decide (0 < cnt N (arS se c w))) = cnt (cnt N (arL se c W)) (chB o)
  | 0 => by rw [arL_0]; rfl
  | W + 1 => by
    have ih := ch_all h W
    rw [arL_s]
    rcases Nat.eq_zero_or_pos (cnt N (arS se c W)) with e | e
    · rw [cnt_f (decide_eq_false (by omega)), e, Nat.add_zero]
      exact ih
    · rw [cnt_t (decide_eq_true e), ch_in h e (Nat.le_refl _), ih]
end AQ
section AN
variable {m : MS} {x : VS} {PS : Nat → PT} {dn : Nat → Nat}
theorem heads_eq (h : ptR m x PS dn) : m.heads = x.hsize := by
  rw [h.1.1.1]
  refine cnt_ext (fun q hq => ?_)
  show (m.hdd q && m.seen q) = m.hdd q
  cases e : m.hdd q with
  | false => rfl
  | true => rw [hd_seen h hq e]; rfl
theorem si_eq (h : ptR m x PS dn) {k q : Nat} (hk : k < x.npc) (hq : q < m.points) (hc : m.inpc k q = true) : x.siPc (PS k) 1099511627775 (arP m.pointSeries (m.inpc k) m.points q) = m.seen q := by
  unfold VS.siPc
  rw [see_eq h hk hq hc, ((h.1.2.2.2 k hk).1.2 q hq hc).2.1, decide_eq_false (h.2.2.2.2.2 q hq).2]
  rfl
theorem all_seen (h : ptR m x PS dn) : cnt m.points m.seen = sumN x.npc (x.sbN PS (1099511627776 - 1)) + x.hsize := by
  have a := seen_sum h (fun _ => true)
  have b : cnt m.points (fun q => m.seen q && true) = cnt m.points m.seen := cnt_ext (fun q _ => Bool.and_true _)
  have d : cnt m.points (fun q => m.hdd q && true) = x.hsize := by rw [h.1.1.1]; exact cnt_ext (fun q _ => Bool.and_true _)
  rw [b, d] at a
  rw [a, pk_sum h]
  congr 1
  refine sumN_ext (fun k hk => ?_)
  exact (pc_cnt h hk (F := x.siPc (PS k) (1099511627776 - 1)) (fun q hq hc => by rw [Bool.and_true]; exact si_eq h hk hq hc)).symm
/-- a parcel told -/
theorem inP_e (m : MS) (k w q : Nat) : m.inP (m.parcels k) w q = arS m.pointSeries (m.inpc k) w q := Bool.and_comm _ _
theorem pc_0 (h : ptR m x PS dn) {k : Nat} (hk : k < x.npc) : sumN m.seriesCount (fun z => cnt m.points (m.inP (m.parcels k) z)) = (PS k).n := by
  have e : (fun z => cnt m.points (m.inP (m.parcels k) z)) = fun z => cnt m.points (arS m.pointSeries (m.inpc k) z) := by
    funext z
    exact cnt_ext (fun q _ => inP_e m k z q)
  rw [e, ar_sum, arL_all (fun q hq hc => in_se h hk hq hc)]
  exact (h.1.2.2.2 k hk).1.1.symm
theorem pc_1 (h : ptR m x PS dn) {k : Nat} (hk : k < x.npc) : sumN m.seriesCount (fun z => cnt m.points (fun y => m.inP (m.parcels k) z y && m.seen y)) = cnt (PS k).n (x.siPc (PS k) 1099511627775) := by
  have e : (fun z => cnt m.points (fun y => m.inP (m.parcels k) z y && m.seen y)) = fun z => cnt m.points (arS m.pointSeries (fun y => m.inpc k y && m.seen y) z) := by
    funext z
    refine cnt_ext (fun q _ => ?_)
    rw [inP_e]
    show ((m.inpc k q && decide (m.pointSeries q = z)) && m.seen q) = ((m.inpc k q && m.seen q) && decide (m.pointSeries q = z))
    cases m.inpc k q <;> cases m.seen q <;> simp
  rw [e, ar_sum, arL_all (fun q hq hc => in_se h hk hq (by rw [Bool.and_eq_true] at hc; exact hc.1))]
  exact (pc_cnt h hk (fun q hq hc => si_eq h hk hq hc)).symm
theorem pc_2 (h : ptR m x PS dn) {k : Nat} (hk : k < x.npc) : cnt m.seriesCount (fun z => decide (0 < cnt m.points (m.inP (m.parcels k) z))) = (PS k).ch := by
  obtain ⟨a1, a2, -⟩ := h.1.2.2.2 k hk
  have e : (fun z => decide (0 < cnt m.points (m.inP (m.parcels k) z))) = fun z => decide (0 < cnt m.points (arS m.pointSeries (m.inpc k) z)) := by
    funext z
    rw [cnt_ext (f := m.inP (m.parcels k) z) (fun q _ => inP_e m k z q)]
  rw [e, ch_all a1, arL_all (fun q hq hc => in_se h hk hq hc), ← a1.1]
  rw [a2]
  rfl
theorem pc_3 (h : ptR m x PS dn) {k : Nat} (hk : k < x.npc) : m.bA (nI (m.parcels k)) (nI (m.parcels k)) false m.seriesCount = (PS k).bi := by
  obtain ⟨a1, a2, -⟩ := h.1.2.2.2 k hk
  rw [bt_all (n := (PS k).n) a1 (fun w q => by
    unfold MS.sel arS MS.inpc
    rw [Bool.or_self, Bool.not_false, Bool.true_or, Bool.and_true]
    exact Bool.and_comm _ _) (fun q hq hc => in_se h hk hq hc), ← a2]
theorem fr_eq (h : ptR m x PS dn) (h1 : m.blocks = x.diskBlocks) (h2 : m.journal = x.jlimit) (h3 : m.catalogBlocks = x.ncat) : m.freeN = x.fr PS := by
  have e : sumN m.parcelCount m.parcelBlocks = sumN x.npc (blN PS) := by
    rw [h.1.2.1]
    exact sumN_ext (fun k hk => (h.1.2.2.2 k hk).2.2)
  unfold MS.freeN
  rw [e, h1, h2, h3]
  show _ = x.diskBlocks - 2 - x.jlimit - (x.ncat + sumN x.npc (blN PS))
  omega
/-- points within -/
theorem btw_1 (h : ptR m x PS dn) (w : Nat) (a b : Int64) : cnt m.points (m.btw w a b true) = sumN x.npc (x.soN PS w a b) := by
  have e : cnt m.points (m.btw w a b true) = cnt m.points (fun q => m.pkd q && m.bt w a b q) := cnt_ext (fun q _ => by
    show (m.bt w a b q && (!true || !decide (m.places q < 0))) = (!decide (m.places q < 0) && m.bt w a b q)
    rw [Bool.not_true, Bool.false_or]
    exact Bool.and_comm _ _)
  rw [e, pk_sum h]
  refine sumN_ext (fun k hk => (pc_cnt h hk (F := x.soPc (PS k) w a b) (fun q hq hc => ?_)).symm)
  obtain ⟨a1, a2, -⟩ := (h.1.2.2.2 k hk).1.2 q hq hc
  unfold VS.soPc MS.bt
  rw [see_eq h hk hq hc, a1, a2]
  cases decide (m.pointSeries q = w) <;> cases m.seen q <;> cases decide (m.pointTimes q < a) <;> simp
theorem btw_0 (h : ptR m x PS dn) (w : Nat) (a b : Int64) : cnt m.points (m.btw w a b false) = sumN x.npc (x.soN PS w a b) + cnt x.hsize (x.hW w a b) := by
  rw [← btw_1 h w a b]
  have e : cnt x.hsize (x.hW w a b) = cnt m.points (fun q => m.hdd q && m.bt w a b q) := hd_cnt h (fun q hq hc => by
    obtain ⟨a1, a2, -⟩ := h.1.1.2 q hq hc
    unfold VS.hW MS.bt
    rw [a1, a2, hd_seen h hq hc]
    rfl)
  rw [e]
  refine cnt_add (fun q hq => ?_)
  show ((m.bt w a b q && (!false || !decide (m.places q < 0))) = true ↔ (m.bt w a b q && (!true || !decide (m.places q < 0))) = true ∨ (m.hdd q && m.bt w a b q) = true) ∧ ¬ ((m.bt w a b q && (!true || !decide (m.places q < 0))) = true ∧ (m.hdd q && m.bt w a b q) = true)
  rcases h.2.2.1.1 q hq with e2 | e2 | ⟨k, hk, e2⟩
  · have n : m.bt w a b q = false := by
      unfold MS.bt MS.seen
      rw [e2, decide_eq_true (show (-2 : Int32) ≤ -2 by decide)]
      simp
    rw [n]
    simp
  · rw [show m.hdd q = true from decide_eq_true e2, e2]
    simp
  · rw [(inP_pk h hk (decide_eq_true e2)).2.2, show (!decide (m.places q < 0)) = true from (inP_pk h hk (decide_eq_true e2)).1]
    simp
end AN
end
section
/-! A point comes: both sides. -/
theorem lst_fn {se : Nat → Nat} {ti va : Nat → Int64} {c : Nat → Bool} {N n : Nat} {o o' : Nat → Nat} {t v t' v' : Nat → Int64} (h : lst se ti va c N n o t v) (hf : ∀ i, i < n → o' i = o i ∧ t' i = t i ∧ v' i = v i) : lst se ti va c N n o' t' v' := by
  refine ⟨h.1, fun q hq e => ?_⟩
  obtain ⟨a1, a2, a3⟩ := hf _ (show cnt q c < n by rw [h.1]; exact cnt_lt hq e)
  rw [a1, a2, a3]
  exact h.2 q hq e
/-- fields of the reference that points rest on -/
def mP (m m' : MS) : Prop := m'.parcelCount = m.parcelCount ∧ m'.parcels = m.parcels ∧ m'.parcelBlocks = m.parcelBlocks ∧ m'.parcelNumber = m.parcelNumber ∧ m'.horizon = m.horizon
def mQ (m m' : MS) : Prop := m'.points = m.points ∧ m'.pointSeries = m.pointSeries ∧ m'.pointTimes = m.pointTimes ∧ m'.pointValues = m.pointValues ∧ m'.places = m.places ∧ m'.hidden = m.hidden ∧ m'.deletes = m.deletes ∧ m'.seriesCount = m.seriesCount ∧ m'.lasts = m.lasts
/-- .. and of the class -/
def vP (x x' : VS) : Prop := x'.npc = x.npc ∧ x'.nhor = x.nhor ∧ x'.nsO = x.nsO ∧ x'.nsF = x.nsF ∧ x'.nsT = x.nsT ∧ x'.nsc = x.nsc
def vH (x x' : VS) : Prop := x'.hsize = x.hsize ∧ x'.hO = x.hO ∧ x'.hT = x.hT ∧ x'.hV = x.hV
section CM
variable {m m' : MS} {x x' : VS} {PS : Nat → PT} {dn : Nat → Nat}
/-- nothing of it changed -/
theorem ptR_same (h : ptR m x PS dn) (h1 : mP m m') (h2 : mQ m m') (h3 : vP x x') (h4 : vH x x') : ptR m' x' PS dn := by
  obtain ⟨a1, a2, a3, a4, a5⟩ := h1
  obtain ⟨b1, b2, b3, b4, b5, b6, b7, b8, b9⟩ := h2
  obtain ⟨c1, c2, c3, c4, c5, c6⟩ := h3
  obtain ⟨d1, d2, d3, d4⟩ := h4
  have e1 : m'.hdd = m.hdd := by funext q; unfold MS.hdd; rw [b5]
  have e2 : m'.inpc = m.inpc := by funext k q; unfold MS.inpc; rw [b5, a2]
  have e3 : m'.pkd = m.pkd := by funext q; unfold MS.pkd; rw [b5]
  unfold ptR at h ⊢
  rw [a1, a2, a3, a4, a5, b1, b2, b3, b4, b5, b6, b7, b8, b9, c1, c2, c3, c4, c5, c6, d1, d2, d3, d4, e1, e2, e3]
  exact h
theorem ptR_come {w : Nat} {a b : Int64} (h : ptR m x PS dn) (h1 : mP m m') (h3 : vP x x') (hm : m'.points = m.points + 1 ∧ m'.pointSeries = va_up m.pointSeries m.points w ∧ m'.pointTimes = va_up m.pointTimes m.points a ∧ m'.pointValues = va_up m.pointValues m.points b ∧ m'.places = va_up m.places m.points (-1) ∧ m'.hidden = va_up m.hidden m.points (-1) ∧ m'.deletes = m.deletes ∧ m'.seriesCount = m.seriesCount ∧ m'.lasts = va_up m.lasts w a)
    (hx : x'.hsize = x.hsize + 1 ∧ (∀ i, i < x.hsize → x'.hO i = x.hO i ∧ x'.hT i = x.hT i ∧ x'.hV i = x.hV i) ∧ x'.hO x.hsize = w ∧ x'.hT x.hsize = a ∧ x'.hV x.hsize = b) (hw : w < m.seriesCount) (ha : ¬ a < m.horizon) (hl : m.lasts w < a) (ht : ¬ a < 0 ∧ ¬ 1099511627775 < a) : ptR m' x' PS dn := by
  obtain ⟨a1, a2, a3, a4, a5⟩ := h1
  obtain ⟨b1, b2, b3, b4, b5, b6, b7, b8, b9⟩ := hm
  obtain ⟨c1, c2, c3, c4, c5, c6⟩ := h3
  obtain ⟨d1, d2, d3, d4, d5⟩ := hx
  have old : ∀ q, q < m.points → m'.pointSeries q = m.pointSeries q ∧ m'.pointTimes q = m.pointTimes q ∧ m'.pointValues q = m.pointValues q ∧ m'.places q = m.places q ∧ m'.hidden q = m.hidden q := fun q hq => by
    rw [b2, b3, b4, b5, b6]
    exact ⟨va_up_ne _ _ (by omega), va_up_ne _ _ (by omega), va_up_ne _ _ (by omega), va_up_ne _ _ (by omega), va_up_ne _ _ (by omega)⟩
  have nw : m'.pointSeries m.points = w ∧ m'.pointTimes m.points = a ∧ m'.pointValues m.points = b ∧ m'.places m.points = -1 ∧ m'.hidden m.points = -1 := by
    rw [b2, b3, b4, b5, b6]
    exact ⟨va_up_self _ _ _, va_up_self _ _ _, va_up_self _ _ _, va_up_self _ _ _, va_up_self _ _ _⟩
  have hd : ∀ q, q < m.points → m'.hdd q = m.hdd q := fun q hq => by unfold MS.hdd; rw [(old q hq).2.2.2.1]
  have hdn : m'.hdd m.points = true := decide_eq_true nw.2.2.2.1
  have hi : ∀ k q, q < m.points → m'.inpc k q = m.inpc k q := fun k q hq => by unfold MS.inpc; rw [(old q hq).2.2.2.1, a2]
  have hin : ∀ k, k < x.npc → m'.inpc k m.points = false := fun k hk => decide_eq_false (fun z => by
    rw [nw.2.2.2.1, a2] at z
    have p1 := h.2.2.1.2.2.1 k hk
    have p2 := h.2.2.1.2.2.2
    exact nI_nm (by omega) z.symm)
  have hp : ∀ q, q < m.points → m'.pkd q = m.pkd q := fun q hq => by unfold MS.pkd; rw [(old q hq).2.2.2.1]
  have hpn : m'.pkd m.points = false := by unfold MS.pkd; rw [nw.2.2.2.1]; rfl
  obtain ⟨⟨g1, g2, g3, g4⟩, ⟨i1, i2, i3, i4⟩, ⟨j1, j2, j3, j4⟩, ⟨k1, k2⟩, ⟨l1, l2, l3⟩, n1⟩ := h
  refine ⟨⟨?_, ?_, ?_, ?_⟩, ⟨?_, ?_, ?_, ?_⟩, ⟨?_, ?_, ?_, ?_⟩, ⟨?_, ?_⟩, ⟨?_, ?_, ?_⟩, ?_⟩
  · have e := lst_add (lst_congr g1 (fun q hq => ⟨(old q hq).1, (old q hq).2.1, (old q hq).2.2.1⟩) hd) hdn
    rw [b1, d1]
    refine lst_fn e (fun i hi => ?_)
    by_cases z : i = x.hsize
    · subst z
      rw [va_up_self, va_up_self, va_up_self, nw.1, nw.2.1, nw.2.2.1]
      exact ⟨d3, d4, d5⟩
    · rw [va_up_ne _ _ z, va_up_ne _ _ z, va_up_ne _ _ z]
      exact d2 i (by omega)
  · rw [a1, c1]; exact g2
  · rw [a5, c2]; exact g3
  · intro k hk
    rw [c1] at hk
    obtain ⟨e1, e2, e3⟩ := g4 k hk
    refine ⟨?_, e2, by rw [a3]; exact e3⟩
    rw [b1]
    exact arr_more (arr_congr e1 (fun q hq => ⟨(old q hq).1, (old q hq).2.1, (old q hq).2.2.1⟩) (hi k)) (hin k hk)
  · intro q hq e
    rw [b1] at hq
    by_cases z : q = m.points
    · subst z; rw [hpn] at e; cases e
    · obtain ⟨o1, o2, -, -, o5⟩ := old q (by omega)
      rw [o1, o2, o5, c3, c4, c5, c6]
      exact i1 q (by omega) ((hp q (by omega)).symm.trans e)
  · rw [c6, b7]; exact i2
  · intro j hj
    rw [c6] at hj
    obtain ⟨q, q1, q2, q3⟩ := i3 j hj
    obtain ⟨o1, o2, -⟩ := old q q1
    refine ⟨q, by omega, (hp q q1).trans q2, ?_⟩
    rw [o1, o2, c3, c4, c5, c6]
    exact q3
  · rw [b7]; exact i4
  · intro q hq
    rw [b1] at hq
    by_cases z : q = m.points
    · subst z; exact Or.inr (Or.inl nw.2.2.2.1)
    · rw [(old q (by omega)).2.2.2.1, c1, a2]
      exact j1 q (by omega)
  · rw [c1, a2]; exact j2
  · rw [c1, a2, a4]; exact j3
  · rw [a4]; exact j4
  · intro i j p r hij hj hp1 hr e1 e2
    rw [c1] at hj
    rw [b1] at hp1 hr
    have z1 : p ≠ m.points := fun z => by rw [z, hin i (by omega)] at e1; cases e1
    have z2 : r ≠ m.points := fun z => by rw [z, hin j hj] at e2; cases e2
    exact k1 i j p r hij hj (by omega) (by omega) ((hi i p (by omega)).symm.trans e1) ((hi j r (by omega)).symm.trans e2)
  · intro k p r hk hp1 hr e1 e2
    rw [c1] at hk
    rw [b1] at hp1 hr
    have z1 : p ≠ m.points := fun z => by rw [z, hin k hk] at e1; cases e1
    by_cases z2 : r = m.points
    · omega
    · exact k2 k p r hk (by omega) (by omega) ((hi k p (by omega)).symm.trans e1) ((hd r (by omega)).symm.trans e2)
  · intro q hq e
    rw [b1] at hq
    rw [a5]
    by_cases z : q = m.points
    · subst z; rw [nw.2.1, nw.2.2.2.2]; exact ⟨ha, rfl⟩
    · rw [(old q (by omega)).2.1, (old q (by omega)).2.2.2.2]
      exact l1 q (by omega) ((hd q (by omega)).symm.trans e)
  · intro q hq e
    rw [b1] at hq
    rw [b8, b9]
    by_cases z : q = m.points
    · subst z
      rw [nw.1, nw.2.1, va_up_self]
      exact ⟨hw, Int64.lt_irrefl⟩
    · obtain ⟨o1, o2, -, o4, -⟩ := old q (by omega)
      rw [o4] at e
      rw [o1, o2]
      obtain ⟨y1, y2⟩ := l2 q (by omega) e
      refine ⟨y1, ?_⟩
      by_cases z2 : m.pointSeries q = w
      · rw [z2, va_up_self]
        rw [z2] at y2
        intro y3
        exact y2 (Int64.lt_trans hl y3)
      · rw [va_up_ne _ _ z2]; exact y2
  · intro p r hpr hr e1 e2 e3
    rw [b1] at hr
    obtain ⟨o1, o2, -, o4, -⟩ := old p (by omega)
    rw [o4] at e1
    by_cases z : r = m.points
    · subst z
      rw [o1, nw.1] at e3
      rw [o2, nw.2.1]
      have y := (l2 p (by omega) e1).2
      rw [e3] at y
      exact Int64.lt_of_le_of_lt (Int64.not_lt.mp y) hl
    · obtain ⟨u1, u2, -, u4, -⟩ := old r (by omega)
      rw [u4] at e2
      rw [o1, u1] at e3
      rw [o2, u2]
      exact l3 p r hpr (by omega) e1 e2 e3
  · intro q hq
    rw [b1] at hq
    by_cases z : q = m.points
    · subst z; rw [nw.2.1]; exact ht
    · rw [(old q (by omega)).2.1]; exact n1 q (by omega)
end CM
end
