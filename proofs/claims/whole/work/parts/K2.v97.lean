/-! Words by their bytes: their order. -/
def asc1 (v : Int32) : Prop := ∃ n : Nat, n < 128 ∧ v = nI n
def asc (L : List Int32) : Prop := ∀ v, v ∈ L → asc1 v
def ltL : List Int32 → List Int32 → Bool
  | _, [] => false
  | [], _ :: _ => true
  | a :: L, b :: M => if a = b then ltL L M else decide (a < b)
theorem asc_and : ∀ n : Nat, n < 128 → nI n &&& 255 = nI n := by decide +kernel
theorem frst_sh {f g : Nat → Bool} (h : ∀ i, f (i + 1) = g i) : ∀ n k, frst f n (k + 1) = (frst g n k).map (· + 1)
  | 0, k => rfl
  | n + 1, k => by
    cases e : g k with
    | true => rw [frst_t (Nat.succ_pos n) ((h k).trans e), frst_t (Nat.succ_pos n) e]; rfl
    | false =>
      rw [frst_f (Nat.succ_pos n) ((h k).trans e), frst_f (Nat.succ_pos n) e]
      exact frst_sh h n (k + 1)
theorem cmpW_c {a b : Int32} {L M : List Int32} (l1 : L.length < 2 ^ 29) (l2 : M.length < 2 ^ 29) : cmpW (a :: L) (b :: M) = if a = b then cmpW L M else (a &&& 255) - (b &&& 255) := by
  have hf : ∀ i, dfB (a :: L) (b :: M) (i + 1) = dfB L M i := fun i => rfl
  have hm : min (a :: L).length (b :: M).length = min L.length M.length + 1 := by rw [List.length_cons, List.length_cons]; omega
  by_cases h : a = b
  · rw [if_pos h]
    have e0 : dfB (a :: L) (b :: M) 0 = false := by
      show (!decide (a = b)) = false
      rw [decide_eq_true h]
      rfl
    have e1 : frst (dfB (a :: L) (b :: M)) (min (a :: L).length (b :: M).length) 0 = (frst (dfB L M) (min L.length M.length) 0).map (· + 1) := by
      rw [hm, frst_f (Nat.succ_pos _) e0]
      exact frst_sh hf _ 0
    cases e2 : frst (dfB L M) (min L.length M.length) 0 with
    | none =>
      rw [e2] at e1
      rw [cmpW_n e2, cmpW_n e1]
      apply Int32.toInt_inj.mp
      rw [List.length_cons, List.length_cons, pk_sub_toInt (by omega) (by omega), pk_sub_toInt (by omega) (by omega)]
      omega
    | some i =>
      rw [e2] at e1
      rw [cmpW_s e2, cmpW_s e1]
      rfl
  · rw [if_neg h]
    have e0 : dfB (a :: L) (b :: M) 0 = true := by
      show (!decide (a = b)) = true
      rw [decide_eq_false h]
      rfl
    rw [cmpW_s (i := 0) (by rw [hm]; exact frst_t (Nat.succ_pos _) e0)]
    rfl
theorem cmpW_l (M : List Int32) : cmpW [] M = nI 0 - nI M.length := cmpW_n (by rw [show min ([] : List Int32).length M.length = 0 by rw [List.length_nil]; omega]; rfl)
theorem cmpW_r (L : List Int32) : cmpW L [] = nI L.length - nI 0 := cmpW_n (by rw [show min L.length ([] : List Int32).length = 0 by rw [List.length_nil]; omega]; rfl)
theorem i0 : (0 : Int32).toInt = 0 := by decide
theorem sb_lt {a b : Nat} (ha : a < 2 ^ 30) (hb : b < 2 ^ 30) : (nI a - nI b < 0 ↔ a < b) ∧ (nI a - nI b = 0 ↔ a = b) ∧ (0 < nI a - nI b ↔ b < a) := by
  have e := pk_sub_toInt ha hb
  refine ⟨?_, ?_, ?_⟩
  · rw [Int32.lt_iff_toInt_lt, e, i0]; omega
  · rw [← Int32.toInt_inj, e, i0]; omega
  · rw [Int32.lt_iff_toInt_lt, e, i0]; omega
theorem asc_c {a : Int32} {L : List Int32} (h : asc (a :: L)) : asc1 a ∧ asc L := ⟨h a (List.mem_cons_self ..), fun v hv => h v (List.mem_cons_of_mem _ hv)⟩
theorem cmpW_o : ∀ {L M : List Int32}, asc L → asc M → L.length < 2 ^ 29 → M.length < 2 ^ 29 → (cmpW L M < 0 ↔ ltL L M = true) ∧ (cmpW L M = 0 ↔ L = M) ∧ (0 < cmpW L M ↔ ltL M L = true)
  | [], [], _, _, _, _ => by decide
  | [], b :: M, _, _, _, h4 => by
    rw [cmpW_l]
    obtain ⟨c1, c2, c3⟩ := sb_lt (a := 0) (b := (b :: M).length) (by decide) (by omega)
    refine ⟨⟨fun _ => rfl, fun _ => c1.mpr (Nat.succ_pos _)⟩, ⟨fun h => ?_, fun h => by cases h⟩, ⟨fun h => ?_, fun h => by cases h⟩⟩
    · exact absurd (c2.mp h) (Nat.succ_ne_zero _).symm
    · exact absurd (c3.mp h) (Nat.not_lt_zero _)
  | a :: L, [], _, _, h3, _ => by
    rw [cmpW_r]
    obtain ⟨c1, c2, c3⟩ := sb_lt (a := (a :: L).length) (b := 0) (by omega) (by decide)
    refine ⟨⟨fun h => ?_, fun h => by cases h⟩, ⟨fun h => ?_, fun h => by cases h⟩, ⟨fun _ => rfl, fun _ => c3.mpr (Nat.succ_pos _)⟩⟩
    · exact absurd (c1.mp h) (Nat.not_lt_zero _)
    · exact absurd (c2.mp h) (Nat.succ_ne_zero _)
  | a :: L, b :: M, h1, h2, h3, h4 => by
    rw [List.length_cons] at h3 h4
    rw [cmpW_c (by omega) (by omega)]
    obtain ⟨a1, a2⟩ := asc_c h1
    obtain ⟨b1, b2⟩ := asc_c h2
    by_cases e : a = b
    · subst e
      obtain ⟨i1, i2, i3⟩ := cmpW_o a2 b2 (by omega) (by omega)
      have e1 : ltL (a :: L) (a :: M) = ltL L M := if_pos rfl
      have e2 : ltL (a :: M) (a :: L) = ltL M L := if_pos rfl
      rw [if_pos rfl, e1, e2]
      exact ⟨i1, i2.trans ⟨fun h => by rw [h], fun h => by injection h⟩, i3⟩
    · obtain ⟨n, hn, rfl⟩ := a1
      obtain ⟨m, hm, rfl⟩ := b1
      rw [if_neg e, asc_and n hn, asc_and m hm]
      obtain ⟨c1, c2, c3⟩ := sb_lt (a := n) (b := m) (by omega) (by omega)
      have e1 : ltL (nI n :: L) (nI m :: M) = decide (nI n < nI m) := if_neg e
      have e2 : ltL (nI m :: M) (nI n :: L) = decide (nI m < nI n) := if_neg (fun z => e z.symm)
      rw [e1, e2, decide_eq_true_eq, decide_eq_true_eq, nI_ltI (by omega) (by omega), nI_ltI (by omega) (by omega)]
      refine ⟨c1, ⟨fun h => absurd (by rw [c2.mp h]) e, fun h => ?_⟩, c3⟩
      injection h with h5 _
      exact absurd h5 e
theorem ltL_irr : ∀ L : List Int32, ltL L L = false
  | [] => rfl
  | a :: L => (if_pos rfl).trans (ltL_irr L)
theorem lt_i {a b : Int32} : a < b ↔ a.toInt < b.toInt := Int32.lt_iff_toInt_lt
theorem ltL_tr : ∀ {L M N : List Int32}, ltL L M = true → ltL M N = true → ltL L N = true
  | _, _, [], _, h => by cases ‹List Int32› <;> cases h
  | [], _, _ :: _, _, _ => rfl
  | _ :: _, [], _ :: _, h, _ => by cases h
  | a :: L, b :: M, c :: N, h1, h2 => by
    have h1 : (if a = b then ltL L M else decide (a < b)) = true := h1
    have h2 : (if b = c then ltL M N else decide (b < c)) = true := h2
    show (if a = c then ltL L N else decide (a < c)) = true
    by_cases e1 : a = b
    · subst e1
      rw [if_pos rfl] at h1
      by_cases e2 : a = c
      · rw [if_pos e2] at h2 ⊢
        exact ltL_tr h1 h2
      · rw [if_neg e2] at h2 ⊢
        exact h2
    · rw [if_neg e1] at h1
      have h1 := lt_i.mp (of_decide_eq_true h1)
      by_cases e2 : b = c
      · subst e2
        rw [if_neg e1]
        exact decide_eq_true (lt_i.mpr h1)
      · rw [if_neg e2] at h2
        have h2 := lt_i.mp (of_decide_eq_true h2)
        have e3 : ¬ a = c := fun z => by subst z; omega
        rw [if_neg e3]
        exact decide_eq_true (lt_i.mpr (by omega))
theorem ltL_as {L M : List Int32} (h : ltL L M = true) : ltL M L = false := by
  cases e : ltL M L with
  | false => rfl
  | true =>
    have := ltL_tr h e
    rw [ltL_irr] at this
    cases this
theorem ltL_tot : ∀ {L M : List Int32}, L ≠ M → ltL L M = true ∨ ltL M L = true
  | [], [], h => absurd rfl h
  | [], _ :: _, _ => Or.inl rfl
  | _ :: _, [], _ => Or.inr rfl
  | a :: L, b :: M, h => by
    show (if a = b then ltL L M else decide (a < b)) = true ∨ (if b = a then ltL M L else decide (b < a)) = true
    by_cases e : a = b
    · subst e
      rw [if_pos rfl, if_pos rfl]
      exact ltL_tot (fun z => h (by rw [z]))
    · rw [if_neg e, if_neg (fun z => e z.symm), decide_eq_true_eq, decide_eq_true_eq, lt_i, lt_i]
      have : a.toInt ≠ b.toInt := fun z => e (Int32.toInt_inj.mp z)
      omega
theorem seg_n (f : Nat → Int32) {a b : Nat} (h : b ≤ a) : seg f a b = [] := by
  unfold seg
  rw [show b - a = 0 by omega]
  rfl
theorem seg_c (f : Nat → Int32) {a b : Nat} (h : a < b) : seg f a b = f a :: seg f (a + 1) b := by
  unfold seg
  obtain ⟨n, hn⟩ : ∃ n, b - a = n + 1 := ⟨b - a - 1, by omega⟩
  rw [hn, show b - (a + 1) = n by omega, List.range_succ_eq_map, List.map_cons, List.map_map]
  congr 1
  apply List.map_congr_left
  intro i _
  show f (a + (i + 1)) = f (a + 1 + i)
  congr 1
  omega
/-- the reference's way to compare -/
theorem cmpG_W {f : Nat → Int32} {a n b m : Nat} (h1 : ∀ i, i < n → asc1 (f (a + i))) (h2 : ∀ i, i < m → asc1 (f (b + i))) (hn : n < 2 ^ 29) (hm : m < 2 ^ 29) : ∀ {w k : Nat}, k ≤ n → k ≤ m → n < k + w → cmpG f a n b m w k = cmpW (seg f (a + k) (a + n)) (seg f (b + k) (b + m))
  | 0, k, c1, c2, c3 => by omega
  | w + 1, k, c1, c2, c3 => by
    have se : ∀ p q : Nat, p < 2 ^ 29 → q < 2 ^ 29 → (p : Int) - q = n - m → nI n - nI m = nI p - nI q := fun p q hp hq e => Int32.toInt_inj.mp (by rw [pk_sub_toInt (by omega) (by omega), pk_sub_toInt (by omega) (by omega)]; omega)
    by_cases g1 : n ≤ k
    · rw [cmpG_n (Or.inl g1), seg_n f (show a + n ≤ a + k by omega), cmpW_l, seg_len]
      exact se _ _ (by omega) (by omega) (by omega)
    · by_cases g2 : m ≤ k
      · rw [cmpG_n (Or.inr g2), seg_n f (show b + m ≤ b + k by omega), cmpW_r, seg_len]
        exact se _ _ (by omega) (by omega) (by omega)
      · rw [seg_c f (show a + k < a + n by omega), seg_c f (show b + k < b + m by omega), cmpW_c (by rw [seg_len]; omega) (by rw [seg_len]; omega)]
        by_cases g3 : f (a + k) = f (b + k)
        · rw [cmpG_s (Nat.succ_pos w) g1 g2 g3, if_pos g3]
          exact cmpG_W h1 h2 hn hm (w := w) (k := k + 1) (by omega) (by omega) (by omega)
        · obtain ⟨p, hp, ep⟩ := h1 k (by omega)
          obtain ⟨q, hq, eq⟩ := h2 k (by omega)
          rw [cmpG_d (Nat.succ_pos w) g1 g2 g3, if_neg g3, ep, eq, asc_and p hp, asc_and q hq]
theorem cmpT_W {f : Nat → Int32} {a n b m : Nat} (h1 : ∀ i, i < n → asc1 (f (a + i))) (h2 : ∀ i, i < m → asc1 (f (b + i))) (hn : n < 2 ^ 29) (hm : m < 2 ^ 29) : cmpT f a n b m = cmpW (seg f a (a + n)) (seg f b (b + m)) := by
  have := cmpG_W h1 h2 hn hm (w := n + 1) (k := 0) (Nat.zero_le _) (Nat.zero_le _) (by omega)
  exact this
theorem sameW_i {L M : List Int32} : sameW L M = true ↔ L = M := by
  unfold sameW
  rw [Bool.and_eq_true, decide_eq_true_eq, allB_iff]
  constructor
  · rintro ⟨h1, h2⟩
    apply List.ext_getElem? 
    intro i
    by_cases hi : i < L.length
    · have := of_decide_eq_true (h2 i hi)
      rw [List.getD_eq_getElem?_getD, List.getD_eq_getElem?_getD, List.getElem?_eq_getElem hi, List.getElem?_eq_getElem (by omega)] at this
      rw [List.getElem?_eq_getElem hi, List.getElem?_eq_getElem (by omega)]
      exact congrArg some this
    · rw [List.getElem?_eq_none (by omega), List.getElem?_eq_none (by omega)]
  · intro h
    subst h
    exact ⟨rfl, fun i _ => decide_eq_true rfl⟩
