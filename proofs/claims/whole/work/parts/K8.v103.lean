/-! Points added, dropped, put in order. -/
theorem tdT_get {α : Type} {c : Nat → Bool} {f : Nat → α} : ∀ {n k : Nat}, k < n → c k = true → tdT c f n (cnt k c) = f k
  | 0, k, h, _ => absurd h (Nat.not_lt_zero k)
  | n + 1, k, h, hk => by
    cases e : c n with
    | false =>
      rw [tdT_f e]
      have : k ≠ n := fun z => by rw [z, e] at hk; cases hk
      exact tdT_get (by omega) hk
    | true =>
      rw [tdT_t e rfl]
      by_cases z : k = n
      · subst z; exact va_up_self _ _ _
      · have := cnt_lt (f := c) (show k < n by omega) hk
        rw [va_up_ne _ _ (by omega)]
        exact tdT_get (by omega) hk
section PT
variable {se se' : Nat → Nat} {ti va ti' va' : Nat → Int64} {c c' : Nat → Bool} {N n : Nat} {o : Nat → Nat} {t v : Nat → Int64}
theorem lst_congr (h : lst se ti va c N n o t v) (hs : ∀ q, q < N → se' q = se q ∧ ti' q = ti q ∧ va' q = va q) (hc : ∀ q, q < N → c' q = c q) : lst se' ti' va' c' N n o t v := by
  refine ⟨h.1.trans (cnt_ext (fun q hq => (hc q hq).symm)), fun q hq e => ?_⟩
  obtain ⟨s1, s2, s3⟩ := hs q hq
  rw [s1, s2, s3, cnt_ext (f := c') (g := c) (n := q) (fun p hp => hc p (by omega))]
  exact h.2 q hq ((hc q hq).symm.trans e)
theorem arP_congr (hs : ∀ q, q < N → se' q = se q) (hc : ∀ q, q < N → c' q = c q) {q : Nat} (hq : q < N) : arP se' c' N q = arP se c N q := by
  unfold arP
  rw [hs q hq]
  congr 1
  · exact cnt_ext (fun p hp => by unfold arL; rw [hc p hp, hs p hp])
  · exact cnt_ext (fun p hp => by unfold arS; rw [hc p (by omega), hs p (by omega)])
theorem arr_congr (h : arr se ti va c N n o t v) (hs : ∀ q, q < N → se' q = se q ∧ ti' q = ti q ∧ va' q = va q) (hc : ∀ q, q < N → c' q = c q) : arr se' ti' va' c' N n o t v := by
  refine ⟨h.1.trans (cnt_ext (fun q hq => (hc q hq).symm)), fun q hq e => ?_⟩
  obtain ⟨s1, s2, s3⟩ := hs q hq
  rw [s1, s2, s3, arP_congr (fun p hp => (hs p hp).1) hc hq]
  exact h.2 q hq ((hc q hq).symm.trans e)
/-- one more point: chosen -/
theorem lst_add (h : lst se ti va c N n o t v) (hc : c N = true) : lst se ti va c (N + 1) (n + 1) (va_up o n (se N)) (va_up t n (ti N)) (va_up v n (va N)) := by
  refine ⟨by rw [cnt_t hc, ← h.1], fun q hq e => ?_⟩
  by_cases z : q = N
  · subst z
    rw [← h.1, va_up_self, va_up_self, va_up_self]
    exact ⟨rfl, rfl, rfl⟩
  · have := cnt_lt (f := c) (show q < N by omega) e
    rw [h.1, va_up_ne _ _ (by omega), va_up_ne _ _ (by omega), va_up_ne _ _ (by omega)]
    exact h.2 q (by omega) e
/-- one more point: not chosen -/
theorem lst_more (h : lst se ti va c N n o t v) (hc : c N = false) : lst se ti va c (N + 1) n o t v := by
  refine ⟨by rw [cnt_f hc]; exact h.1, fun q hq e => ?_⟩
  have : q ≠ N := fun z => by rw [z, hc] at e; cases e
  exact h.2 q (by omega) e
theorem arr_more (h : arr se ti va c N n o t v) (hc : c N = false) : arr se ti va c (N + 1) n o t v := by
  refine ⟨by rw [cnt_f hc]; exact h.1, fun q hq e => ?_⟩
  have : q ≠ N := fun z => by rw [z, hc] at e; cases e
  have ep : arP se c (N + 1) q = arP se c N q := by
    unfold arP
    rw [cnt_f (show arL se c (se q) N = false by unfold arL; rw [hc]; rfl)]
  rw [ep]
  exact h.2 q (by omega) e
/-- points dropped -/
theorem lst_td {d dp : Nat → Bool} (h : lst se ti va c N n o t v) (hd : ∀ q, q < N → c q = true → d (cnt q c) = dp q) : lst se ti va (fun q => c q && dp q) N (cnt n d) (tdT d o n) (tdT d t n) (tdT d v n) := by
  have ec : ∀ q, q ≤ N → cnt (cnt q c) d = cnt q (fun q => c q && dp q) := fun q hq => by
    rw [sub_cnt]
    refine cnt_ext (fun p hp => ?_)
    cases e : c p with
    | false => rfl
    | true => rw [hd p (by omega) e]
  refine ⟨by rw [h.1]; exact ec N (Nat.le_refl _), fun q hq e => ?_⟩
  rw [Bool.and_eq_true] at e
  have hi : cnt q c < n := by rw [h.1]; exact cnt_lt hq e.1
  have hq2 : d (cnt q c) = true := (hd q hq e.1).trans e.2
  rw [← ec q (by omega), tdT_get hi hq2, tdT_get hi hq2, tdT_get hi hq2]
  exact h.2 q hq e.1
/-- points put in order: those that stay -/
theorem td_cnt {st : Nat → Bool} {c c' : Nat → Bool} {N : Nat} (hc : ∀ q, q < N → c q = true → st q = true) (hc' : ∀ q, q < N → st q = true → c' (cnt q st) = c q) : ∀ q, q ≤ N → cnt (cnt q st) c' = cnt q c := fun q hq => by
  rw [sub_cnt]
  refine cnt_ext (fun p hp => ?_)
  cases e : st p with
  | false =>
    cases e2 : c p with
    | false => rfl
    | true => rw [hc p (by omega) e2] at e; cases e
  | true => rw [hc' p (by omega) e]; rfl
theorem lst_tidy {st : Nat → Bool} (h : lst se ti va c N n o t v) (hc : ∀ q, q < N → c q = true → st q = true) (hc' : ∀ q, q < N → st q = true → c' (cnt q st) = c q) : lst (tdT st se N) (tdT st ti N) (tdT st va N) c' (cnt N st) n o t v := by
  have ec := td_cnt hc hc'
  refine ⟨by rw [ec N (Nat.le_refl _)]; exact h.1, fun i hi e => ?_⟩
  obtain ⟨q, h1, h2, h3⟩ := cnt_at hi
  subst h3
  rw [ec q (by omega), tdT_get h1 h2, tdT_get h1 h2, tdT_get h1 h2]
  exact h.2 q h1 ((hc' q h1 h2).symm.trans e)
theorem arr_tidy {st : Nat → Bool} (h : arr se ti va c N n o t v) (hc : ∀ q, q < N → c q = true → st q = true) (hc' : ∀ q, q < N → st q = true → c' (cnt q st) = c q) : arr (tdT st se N) (tdT st ti N) (tdT st va N) c' (cnt N st) n o t v := by
  have ec := td_cnt hc hc'
  refine ⟨by rw [ec N (Nat.le_refl _)]; exact h.1, fun i hi e => ?_⟩
  obtain ⟨q, h1, h2, h3⟩ := cnt_at hi
  subst h3
  have ep : arP (tdT st se N) c' (cnt N st) (cnt q st) = arP se c N q := by
    unfold arP
    rw [tdT_get h1 h2]
    congr 1
    · refine td_cnt (c := arL se c (se q)) (fun p hp e2 => hc p hp (arL_t.mp e2).1) (fun p hp e2 => ?_) N (Nat.le_refl _)
      unfold arL
      rw [hc' p hp e2, tdT_get hp e2]
    · refine td_cnt (c := arS se c (se q)) (N := N) (fun p hp e2 => hc p hp (arS_t.mp e2).1) (fun p hp e2 => ?_) q (by omega)
      unfold arS
      rw [hc' p hp e2, tdT_get hp e2]
  rw [ep, tdT_get h1 h2, tdT_get h1 h2, tdT_get h1 h2]
  exact h.2 q h1 ((hc' q h1 h2).symm.trans e)
end PT
