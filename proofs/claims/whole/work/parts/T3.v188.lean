/-! The table shown: both sides. -/
/-- what names, text, isThere and cell tell -/
def shwR (m : MS) (t : TB) (NL : Nat → List Int32) (RS : Nat → List LB) : Prop :=
  (m.names = t.nc ∧ t.nc ≤ 6 ∧ m.rows = t.rc ∧ t.rc ≤ 256 ∧ m.shownWindows = t.wi ∧ t.wi ≤ 64) ∧
  (∀ r w, r < t.rc → w < t.wi → m.isShown (64 * r + w) = hasB (t.th r) w ∧ (hasB (t.th r) w = true → m.shown (64 * r + w) = t.ce (r * t.wi + w))) ∧
  ∀ r k, r < t.rc → k < t.nc → m.rowLengths (6 * r + k) = (valS (RS r) (NL k)).length ∧ (valS (RS r) (NL k)).length ≤ 24 ∧ ∀ j, j < (valS (RS r) (NL k)).length → m.rowTexts ((6 * r + k) * 24 + j) = (valS (RS r) (NL k)).getD j 0 &&& 255
theorem cpA_at {α : Type} (f g : Nat → α) (a b : Nat) : ∀ n j, cpA f g a b n j = if b ≤ j ∧ j < b + n then f (a + (j - b)) else g j
  | 0, j => by rw [if_neg (by omega)]; rfl
  | n + 1, j => by
    show va_up (cpA f g a b n) (b + n) (f (a + n)) j = _
    by_cases e : j = b + n
    · rw [e, va_up_self, if_pos (by omega), show b + n - b = n by omega]
    · rw [va_up_ne _ _ e, cpA_at f g a b n j]
      exact if_cg (by omega) rfl rfl
theorem shG_at {α : Type} (f g : Nat → α) {w : Nat} (hw : w ≤ 64) : ∀ n r c, r < n → c < w → shG f g w n (64 * r + c) = f ((0 * 256 + r) * 64 + c)
  | 0, r, c, hr, _ => absurd hr (Nat.not_lt_zero r)
  | n + 1, r, c, hr, hc => by
    show cpA f (shG f g w n) (cA 0 n) (64 * n) w (64 * r + c) = _
    rw [cpA_at]
    by_cases e : r = n
    · subst e
      rw [if_pos (by omega)]
      unfold cA
      rw [show 64 * r + c - 64 * r = c by omega]
    · rw [if_neg (by omega)]
      exact shG_at f g hw n r c (by omega) hc
section KT
variable {x : MS} {r : Nat}
theorem ktK_at (g : ktT) (hl : ∀ k, k < x.tableNames 0 → (x.ktV r k).2.1 ≤ 24) : ∀ n, n ≤ x.tableNames 0 → (∀ k, k < n → (x.ktK r g n).1 (6 * r + k) = (x.ktV r k).2.1 ∧ ∀ j, j < (x.ktV r k).2.1 → (x.ktK r g n).2.1 ((6 * r + k) * 24 + j) = x.texts ((x.ktV r k).1 + j)) ∧ (∀ q, q < 6 * r → (x.ktK r g n).1 q = g.1 q) ∧ ∀ q, q < 6 * r * 24 → (x.ktK r g n).2.1 q = g.2.1 q
  | 0, _ => ⟨fun k hk => absurd hk (Nat.not_lt_zero k), fun _ _ => rfl, fun _ _ => rfl⟩
  | n + 1, hn => by
    obtain ⟨i1, i2, i3⟩ := ktK_at g hl n (by omega)
    have ln := hl n (by omega)
    show (∀ k, k < n + 1 → va_up (x.ktK r g n).1 (6 * r + n) (x.ktV r n).2.1 (6 * r + k) = _ ∧ ∀ j, j < (x.ktV r k).2.1 → cpG x.texts (x.ktK r g n).2.1 (x.ktV r n).1 ((6 * r + n) * 24) (x.ktV r n).2.1 ((6 * r + k) * 24 + j) = _) ∧ (∀ q, q < 6 * r → va_up (x.ktK r g n).1 (6 * r + n) (x.ktV r n).2.1 q = _) ∧ ∀ q, q < 6 * r * 24 → cpG x.texts (x.ktK r g n).2.1 (x.ktV r n).1 ((6 * r + n) * 24) (x.ktV r n).2.1 q = _
    refine ⟨fun k hk => ?_, fun q hq => ?_, fun q hq => ?_⟩
    · by_cases e : k = n
      · subst e
        rw [va_up_self]
        refine ⟨rfl, fun j hj => ?_⟩
        rw [cpG_at, if_pos (by omega), Nat.add_sub_cancel_left]
      · rw [va_up_ne _ _ (by omega)]
        obtain ⟨a1, a2⟩ := i1 k (by omega)
        refine ⟨a1, fun j hj => ?_⟩
        have lk := hl k (by omega)
        rw [cpG_at, if_neg (by omega)]
        exact a2 j hj
    · rw [va_up_ne _ _ (by omega)]
      exact i2 q hq
    · rw [cpG_at, if_neg (by omega)]
      exact i3 q hq
theorem ktR_at (h6 : x.tableNames 0 ≤ 6) {N : Nat} (hl : ∀ r k, r < N → k < x.tableNames 0 → (x.ktV r k).2.1 ≤ 24) : ∀ n, n ≤ N → ∀ r k, r < n → k < x.tableNames 0 → (x.ktR n).1 (6 * r + k) = (x.ktV r k).2.1 ∧ ∀ j, j < (x.ktV r k).2.1 → (x.ktR n).2.1 ((6 * r + k) * 24 + j) = x.texts ((x.ktV r k).1 + j)
  | 0, _, r, k, hr, _ => absurd hr (Nat.not_lt_zero r)
  | n + 1, hn, r, k, hr, hk => by
    obtain ⟨a1, a2, a3⟩ := ktK_at (x := x) (r := n) (x.ktR n) (fun k hk => hl n k (by omega) hk) (x.tableNames 0) (Nat.le_refl _)
    show (x.ktK n (x.ktR n) (x.tableNames 0)).1 (6 * r + k) = _ ∧ ∀ j, j < (x.ktV r k).2.1 → (x.ktK n (x.ktR n) (x.tableNames 0)).2.1 ((6 * r + k) * 24 + j) = _
    by_cases e : r = n
    · subst e
      exact a1 k hk
    · obtain ⟨b1, b2⟩ := ktR_at h6 hl n (by omega) r k (by omega) hk
      refine ⟨by rw [a2 _ (by omega)]; exact b1, fun j hj => ?_⟩
      have lk := hl r k (by omega) hk
      rw [a3 _ (by omega)]
      exact b2 j hj
end KT
theorem getD_and {L : List Int32} (h : asc L) {j : Nat} (hj : j < L.length) : L.getD j 0 &&& 255 = L.getD j 0 := by
  rw [gD_el hj]
  obtain ⟨n, n1, n2⟩ := h _ (List.getElem_mem hj)
  rw [n2]
  exact asc_and n n1
theorem kp_shw {v : MS} {t : TB} {NL : Nat → List Int32} {RS SS : Nat → List LB} (ht : tabR v 0 t NL RS SS) (hx : txR v.texts v.textLengths v.seriesCount SS) (hg : ∀ q, q < v.seriesCount → serG (SS q)) : shwR v.kpS t NL RS := by
  obtain ⟨⟨n1, n2⟩, ⟨r1, r2, r3, r4⟩, s1, s2, s3⟩ := ht
  have val : ∀ r k, r < t.rc → k < t.nc → voR v.texts (valS (RS r) (NL k)) (v.ktV r k) ∧ serG (RS r) := fun r k hr hk => by
    obtain ⟨g1, -⟩ := s1 (by omega)
    obtain ⟨a1, a2⟩ := g1 r hr
    have G := hg _ a1
    have q := vo_val hx a1 G.2.1 G.1.1 (v.nameFroms (6 * 0 + k)) (v.nameLengths (6 * 0 + k))
    rw [n1.2 k hk, ← a2] at q
    rw [← a2] at G
    refine ⟨?_, G⟩
    unfold MS.ktV
    rw [show 256 * 0 + r = r by omega, show 6 * 0 + k = k by omega] at q
    exact q
  have tn : v.tableNames 0 = t.nc := n1.1
  have ln : ∀ r k, r < t.rc → k < v.tableNames 0 → (v.ktV r k).2.1 ≤ 24 := fun r k hr hk => by
    obtain ⟨q1, q2⟩ := val r k hr (by omega)
    rw [q1.1]
    exact (valS_a q2 (NL k)).2
  refine ⟨⟨tn, n2, r1, r2, r3.symm, by rw [r3]; exact r4⟩, fun r w hr hw => ?_, fun r k hr hk => ?_⟩
  · show shG v.isCell v.isShown v.windows (v.tableRows 0) (64 * r + w) = _ ∧ (_ → shG v.cells v.shown v.windows (v.tableRows 0) (64 * r + w) = _)
    rw [shG_at _ _ r4 _ r w (by omega) (by rw [← r3]; exact hw), shG_at _ _ r4 _ r w (by omega) (by rw [← r3]; exact hw)]
    exact (s3 r hr).1 w hw
  · obtain ⟨q1, q2⟩ := val r k hr hk
    obtain ⟨b1, b2⟩ := ktR_at (x := v) (by omega) ln (v.tableRows 0) (by omega) r k (by omega) (by omega)
    obtain ⟨c1, c2⟩ := valS_a q2 (NL k)
    refine ⟨?_, c2, fun j hj => ?_⟩
    · show (v.ktR (v.tableRows 0)).1 (6 * r + k) = _
      rw [b1]
      exact q1.1
    · show (v.ktR (v.tableRows 0)).2.1 ((6 * r + k) * 24 + j) = _
      rw [b2 j (by rw [q1.1]; exact hj), q1.2 j hj, getD_and c1 hj]
