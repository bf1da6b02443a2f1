/-! Points chosen in their order, gathered, laid. -/
theorem sub_cnt (c f : Nat → Bool) : ∀ q, cnt (cnt q c) f = cnt q (fun p => c p && f (cnt p c))
  | 0 => rfl
  | q + 1 => by
    have ih := sub_cnt c f q
    cases e : c q with
    | false =>
      rw [cnt_f e, cnt_f (f := fun p => c p && f (cnt p c)) (show (c q && f (cnt q c)) = false by rw [e]; rfl)]
      exact ih
    | true =>
      rw [cnt_t e]
      cases e2 : f (cnt q c) with
      | false =>
        rw [cnt_f e2, cnt_f (f := fun p => c p && f (cnt p c)) (show (c q && f (cnt q c)) = false by rw [e, e2]; rfl)]
        exact ih
      | true => rw [cnt_t e2, cnt_t (f := fun p => c p && f (cnt p c)) (show (c q && f (cnt q c)) = true by rw [e, e2]; rfl), ih]
theorem cnt_plus (f : Nat → Bool) (a : Nat) : ∀ b, cnt (a + b) f = cnt a f + cnt b (fun j => f (a + j))
  | 0 => rfl
  | b + 1 => by
    have ih := cnt_plus f a b
    cases e : f (a + b) with
    | false => rw [show a + (b + 1) = a + b + 1 by omega, cnt_f e, cnt_f (f := fun j => f (a + j)) e]; exact ih
    | true => rw [show a + (b + 1) = a + b + 1 by omega, cnt_t e, cnt_t (f := fun j => f (a + j)) e, ih]; omega
/-- the points chosen, in their order -/
def lst (se : Nat → Nat) (ti va : Nat → Int64) (c : Nat → Bool) (N n : Nat) (o : Nat → Nat) (t v : Nat → Int64) : Prop := n = cnt N c ∧ ∀ q, q < N → c q = true → o (cnt q c) = se q ∧ t (cnt q c) = ti q ∧ v (cnt q c) = va q
section LT
variable {se : Nat → Nat} {ti va : Nat → Int64} {c : Nat → Bool} {N n : Nat} {o : Nat → Nat} {t v : Nat → Int64}
theorem arr_lst {O : Nat → Nat} {T V : Nat → Int64} (h : lst se ti va c N n o t v) (l1 : laid o n n o O) (l2 : laid o n n t T) (l3 : laid o n n v V) : arr se ti va c N n O T V := by
  refine ⟨h.1, fun q hq hc => ?_⟩
  obtain ⟨a1, a2, a3⟩ := h.2 q hq hc
  have hj : cnt q c < n := by rw [h.1]; exact cnt_lt hq hc
  have ep : posN o n (cnt q c) = arP se c N q := by
    unfold posN arP
    rw [a1]
    congr 1
    · rw [h.1, sub_cnt]
      refine cnt_ext (fun p hp => ?_)
      show (c p && cpL o (se q) (cnt p c)) = (c p && decide (se p < se q))
      cases e : c p with
      | false => rfl
      | true => unfold cpL; rw [(h.2 p hp e).1]
    · rw [sub_cnt]
      refine cnt_ext (fun p hp => ?_)
      show (c p && cpQ o (se q) (cnt p c)) = (c p && decide (se p = se q))
      cases e : c p with
      | false => rfl
      | true => unfold cpQ; rw [(h.2 p (by omega) e).1]
  rw [← ep]
  exact ⟨(l1 _ hj).trans a1, (l2 _ hj).trans a2, (l3 _ hj).trans a3⟩
theorem arr_cnt (F : Nat → Bool) : ∀ w, cnt (cnt N (arL se c w)) F = cnt N (fun q => arL se c w q && F (arP se c N q))
  | 0 => by
    rw [arL_0]
    symm
    refine cnt_0 (fun j _ => ?_)
    show (arL se c 0 j && _) = false
    unfold arL
    rw [decide_eq_false (Nat.not_lt_zero _), Bool.and_false]
    rfl
  | w + 1 => by
    rw [arL_s, cnt_plus, arr_cnt F w, sub_cnt]
    symm
    have e : cnt N (fun p => arS se c w p && F (cnt N (arL se c w) + cnt p (arS se c w))) = cnt N (fun q => arS se c w q && F (arP se c N q)) := cnt_ext (fun p _ => by
      cases g : arS se c w p with
      | false => rfl
      | true =>
        obtain ⟨g1, g2⟩ := arS_t.mp g
        unfold arP
        rw [g2])
    rw [e]
    refine cnt_add (fun j _ => ?_)
    rw [Bool.and_eq_true, Bool.and_eq_true, Bool.and_eq_true, arL_t, arL_t, arS_t]
    refine ⟨⟨fun h => ?_, fun h => ?_⟩, fun h => ?_⟩
    · by_cases e : se j = w
      · exact Or.inr ⟨⟨h.1.1, e⟩, h.2⟩
      · exact Or.inl ⟨⟨h.1.1, by omega⟩, h.2⟩
    · rcases h with h | h
      · exact ⟨⟨h.1.1, by omega⟩, h.2⟩
      · exact ⟨⟨h.1.1, by omega⟩, h.2⟩
    · have a := h.1.1.2
      have b := h.2.1.2
      omega
theorem arP_lt (h : arr se ti va c N n o t v) {q : Nat} (hq : q < N) (hc : c q = true) : arP se c N q < n := by
  have h1 : cnt q (arS se c (se q)) < cnt N (arS se c (se q)) := cnt_lt hq (arS_t.mpr ⟨hc, rfl⟩)
  have h2 := arL_s (se := se) (c := c) (N := N) (se q)
  have h3 : cnt N (arL se c (se q + 1)) ≤ cnt N c := cnt_le2 (fun i _ hi => (arL_t.mp hi).1)
  rw [h.1]
  unfold arP
  omega
/-- places counted: points counted -/
theorem arr_f {f sn : Nat → Bool} {W : Nat} (h : arr se ti va c N n o t v) (hW : ∀ q, q < N → c q = true → se q < W) (hf : ∀ q, q < N → c q = true → f (arP se c N q) = sn q) (φ : Nat → Bool) : cnt n (fun i => f i && φ (o i)) = cnt N (fun q => c q && (sn q && φ (se q))) := by
  rw [h.1, ← arL_all hW, arr_cnt]
  refine cnt_ext (fun q hq => ?_)
  cases e : c q with
  | false => unfold arL; rw [e]; rfl
  | true =>
    unfold arL
    rw [e, decide_eq_true (hW q hq e), hf q hq e, (h.2 q hq e).1]
    rfl
theorem arr_p {f sn : Nat → Bool} (h : arr se ti va c N n o t v) (hf : ∀ q, q < N → c q = true → f (arP se c N q) = sn q) {q : Nat} (hq : q < N) : cnt (arP se c N q) (fun i => f i && decide (o i = se q)) = cnt q (fun p => c p && (sn p && decide (se p = se q))) := by
  have e0 : cnt (cnt N (arL se c (se q))) (fun i => f i && decide (o i = se q)) = 0 := cnt_0 (fun i hi => by
    have := arr_lt h hi
    rw [decide_eq_false (by omega), Bool.and_false])
  show cnt (cnt N (arL se c (se q)) + cnt q (arS se c (se q))) _ = _
  rw [cnt_plus, e0, Nat.zero_add, sub_cnt]
  refine cnt_ext (fun p hp => ?_)
  cases g : c p with
  | false => unfold arS; rw [g]; rfl
  | true =>
    by_cases e : se p = se q
    · have a := h.2 p (by omega) g
      have b := hf p (by omega) g
      unfold arP at a b
      rw [e] at a b
      rw [show arS se c (se q) p = true from arS_t.mpr ⟨g, e⟩, b, a.1, decide_eq_true rfl, decide_eq_true e]
    · rw [show arS se c (se q) p = false by unfold arS; rw [decide_eq_false e, Bool.and_false], decide_eq_false e, Bool.and_false]
      rfl
end LT
section CP
variable {se : Nat → Nat} {ti va : Nat → Int64} {c1 c2 sn f g : Nat → Bool} {N W : Nat} {P Q : PT} {go : Nat → Nat} {gt gv : Nat → Int64}
/-- two parcels put together: the points that are seen, laid -/
theorem arr_cp {O : Nat → Nat} {T V : Nat → Int64} (h1 : arr se ti va c1 N P.n P.o P.t P.v) (h2 : arr se ti va c2 N Q.n Q.o Q.t Q.v) (hW1 : ∀ q, q < N → c1 q = true → se q < W) (hW2 : ∀ q, q < N → c2 q = true → se q < W) (hf : ∀ q, q < N → c1 q = true → f (arP se c1 N q) = sn q) (hg : ∀ q, q < N → c2 q = true → g (arP se c2 N q) = sn q) (hord : ∀ p r, p < N → r < N → c1 p = true → c2 r = true → p < r) (ha : gat2 f g P Q go gt gv) (l1 : laid go (cnt P.n f + cnt Q.n g) (cnt P.n f + cnt Q.n g) go O) (l2 : laid go (cnt P.n f + cnt Q.n g) (cnt P.n f + cnt Q.n g) gt T) (l3 : laid go (cnt P.n f + cnt Q.n g) (cnt P.n f + cnt Q.n g) gv V) : arr se ti va (fun q => (c1 q || c2 q) && sn q) N (cnt P.n f + cnt Q.n g) O T V := by
  have hdis : ∀ q, q < N → c1 q = true → c2 q = false := fun q hq e => by
    cases e2 : c2 q with
    | false => rfl
    | true => exact absurd (hord q q hq hq e e2) (Nat.lt_irrefl _)
  -- by owner, in the first part and in the second
  have k1 : ∀ (φ : Nat → Bool) (i : Nat), i ≤ P.n → cnt (cnt i f) (fun k => φ (go k)) = cnt i (fun k => f k && φ (P.o k)) := fun φ i hi => by
    rw [sub_cnt]
    refine cnt_ext (fun k hk => ?_)
    cases e : f k with
    | false => rfl
    | true => rw [(ha.1 k (by omega) e).1]
  have k2 : ∀ (φ : Nat → Bool) (i : Nat), i ≤ Q.n → cnt (cnt i g) (fun j => φ (go (cnt P.n f + j))) = cnt i (fun k => g k && φ (Q.o k)) := fun φ i hi => by
    rw [sub_cnt]
    refine cnt_ext (fun k hk => ?_)
    cases e : g k with
    | false => rfl
    | true => rw [(ha.2 k (by omega) e).1]
  have tot : ∀ φ : Nat → Bool, cnt (cnt P.n f + cnt Q.n g) (fun k => φ (go k)) = cnt N (fun q => ((c1 q || c2 q) && sn q) && φ (se q)) := fun φ => by
    rw [cnt_plus, k1 φ P.n (Nat.le_refl _), k2 φ Q.n (Nat.le_refl _), arr_f h1 hW1 hf φ, arr_f h2 hW2 hg φ]
    symm
    refine cnt_add (fun q hq => ?_)
    cases e1 : c1 q with
    | false => cases e2 : c2 q <;> simp
    | true => rw [hdis q hq e1]; simp
  have ne : cnt P.n f + cnt Q.n g = cnt N (fun q => (c1 q || c2 q) && sn q) := by
    have a := tot (fun _ => true)
    have b : cnt (cnt P.n f + cnt Q.n g) (fun _ => true) = cnt P.n f + cnt Q.n g := by
      have : ∀ m, cnt m (fun _ => true) = m := fun m => by
        induction m with
        | zero => rfl
        | succ m ih => rw [cnt_t rfl, ih]
      exact this _
    rw [b] at a
    rw [a]
    exact cnt_ext (fun q _ => by rw [Bool.and_true])
  refine ⟨ne, fun q hq hc => ?_⟩
  obtain ⟨n, hn⟩ : ∃ n, n = cnt P.n f + cnt Q.n g := ⟨_, rfl⟩
  rw [← hn] at l1 l2 l3 tot
  rw [Bool.and_eq_true] at hc
  obtain ⟨hc, hsq⟩ := hc
  have hL : cnt n (cpL go (se q)) = cnt N (arL se (fun q => (c1 q || c2 q) && sn q) (se q)) := tot (fun z => decide (z < se q))
  -- where point q is among the gathered
  have fin : ∀ ix, ix < n → go ix = se q → gt ix = ti q → gv ix = va q → cnt ix (cpQ go (se q)) = cnt q (arS se (fun q => (c1 q || c2 q) && sn q) (se q)) → O (arP se (fun q => (c1 q || c2 q) && sn q) N q) = se q ∧ T (arP se (fun q => (c1 q || c2 q) && sn q) N q) = ti q ∧ V (arP se (fun q => (c1 q || c2 q) && sn q) N q) = va q := fun ix hi e1 e2 e3 e4 => by
    have ep : posN go n ix = arP se (fun q => (c1 q || c2 q) && sn q) N q := by
      unfold posN arP
      rw [e1, hL, e4]
    rw [← ep]
    exact ⟨(l1 _ hi).trans e1, (l2 _ hi).trans e2, (l3 _ hi).trans e3⟩
  cases e1 : c1 q with
  | true =>
    have hp := arP_lt h1 hq e1
    have hfq : f (arP se c1 N q) = true := (hf q hq e1).trans hsq
    obtain ⟨b1, b2, b3⟩ := ha.1 _ hp hfq
    obtain ⟨d1, d2, d3⟩ := h1.2 q hq e1
    refine fin (cnt (arP se c1 N q) f) (by have := cnt_lt hp hfq; omega) (b1.trans d1) (b2.trans d2) (b3.trans d3) ?_
    have a := k1 (fun z => decide (z = se q)) (arP se c1 N q) (by omega)
    have b := arr_p h1 hf hq
    refine (show cnt (cnt (arP se c1 N q) f) (cpQ go (se q)) = _ from a).trans (b.trans (cnt_ext (fun p hp => ?_)))
    have n2 : c2 p = false := by
      cases e2 : c2 p with
      | false => rfl
      | true => have := hord q p hq (by omega) e1 e2; omega
    show (c1 p && (sn p && decide (se p = se q))) = (((c1 p || c2 p) && sn p) && decide (se p = se q))
    rw [n2, Bool.or_false, Bool.and_assoc]
  | false =>
    have e2 : c2 q = true := by rw [e1] at hc; exact hc
    have hp := arP_lt h2 hq e2
    have hgq : g (arP se c2 N q) = true := (hg q hq e2).trans hsq
    obtain ⟨b1, b2, b3⟩ := ha.2 _ hp hgq
    obtain ⟨d1, d2, d3⟩ := h2.2 q hq e2
    refine fin (cnt P.n f + cnt (arP se c2 N q) g) (by have := cnt_lt hp hgq; omega) (b1.trans d1) (b2.trans d2) (b3.trans d3) ?_
    show cnt (cnt P.n f + cnt (arP se c2 N q) g) (fun k => decide (go k = se q)) = _
    rw [cnt_plus, k1 (fun z => decide (z = se q)) P.n (Nat.le_refl _), k2 (fun z => decide (z = se q)) (arP se c2 N q) (by omega), arr_f h1 hW1 hf (fun z => decide (z = se q)), arr_p h2 hg hq]
    have e3 : cnt N (fun p => c1 p && (sn p && decide (se p = se q))) = cnt q (fun p => c1 p && (sn p && decide (se p = se q))) := by
      obtain ⟨d, hd⟩ : ∃ d, N = q + d := ⟨N - q, by omega⟩
      rw [hd, cnt_plus, cnt_0 (f := fun j => c1 (q + j) && (sn (q + j) && decide (se (q + j) = se q))) (fun j hj => ?_), Nat.add_zero]
      cases e4 : c1 (q + j) with
      | false => rfl
      | true => have := hord (q + j) q (by omega) hq e4 e2; omega
    rw [e3]
    symm
    refine cnt_add (fun p hp => ?_)
    show ((((c1 p || c2 p) && sn p) && decide (se p = se q)) = true ↔ (c1 p && (sn p && decide (se p = se q))) = true ∨ (c2 p && (sn p && decide (se p = se q))) = true) ∧ ¬ ((c1 p && (sn p && decide (se p = se q))) = true ∧ (c2 p && (sn p && decide (se p = se q))) = true)
    cases e4 : c1 p with
    | false => cases e5 : c2 p <;> simp
    | true => rw [hdis p (by omega) e4]; simp
end CP
