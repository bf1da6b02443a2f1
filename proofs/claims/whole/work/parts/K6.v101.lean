/-! Points of a parcel at their places; its bits: the two ways. -/
def arS (se : Nat → Nat) (c : Nat → Bool) (w q : Nat) : Bool := c q && decide (se q = w)
def arL (se : Nat → Nat) (c : Nat → Bool) (w q : Nat) : Bool := c q && decide (se q < w)
/-- the place of point q: behind those of lower series, and those of its own that came before -/
def arP (se : Nat → Nat) (c : Nat → Bool) (N q : Nat) : Nat := cnt N (arL se c (se q)) + cnt q (arS se c (se q))
def arr (se : Nat → Nat) (ti va : Nat → Int64) (c : Nat → Bool) (N n : Nat) (o : Nat → Nat) (t v : Nat → Int64) : Prop := n = cnt N c ∧ ∀ q, q < N → c q = true → o (arP se c N q) = se q ∧ t (arP se c N q) = ti q ∧ v (arP se c N q) = va q
section AR
variable {se : Nat → Nat} {ti va : Nat → Int64} {c : Nat → Bool} {N n : Nat} {o : Nat → Nat} {t v : Nat → Int64}
theorem arS_t {w q : Nat} : arS se c w q = true ↔ c q = true ∧ se q = w := by
  unfold arS
  rw [Bool.and_eq_true, decide_eq_true_eq]
theorem arL_t {w q : Nat} : arL se c w q = true ↔ c q = true ∧ se q < w := by
  unfold arL
  rw [Bool.and_eq_true, decide_eq_true_eq]
theorem arL_0 : cnt N (arL se c 0) = 0 := cnt_0 (fun j _ => by
  unfold arL
  rw [decide_eq_false (Nat.not_lt_zero _), Bool.and_false])
theorem arL_s (w : Nat) : cnt N (arL se c (w + 1)) = cnt N (arL se c w) + cnt N (arS se c w) := cnt_add (fun j _ => by
  rw [arL_t, arL_t, arS_t]
  refine ⟨⟨fun h => ?_, fun h => ?_⟩, fun h => ?_⟩
  · by_cases e : se j = w
    · exact Or.inr ⟨h.1, e⟩
    · exact Or.inl ⟨h.1, by omega⟩
  · rcases h with h | h
    · exact ⟨h.1, by omega⟩
    · exact ⟨h.1, by omega⟩
  · have a := h.1.2
    have b := h.2.2
    omega)
theorem arL_all {w : Nat} (h : ∀ q, q < N → c q = true → se q < w) : cnt N (arL se c w) = cnt N c := cnt_ext (fun q hq => by
  cases e : c q with
  | false => unfold arL; rw [e]; rfl
  | true => unfold arL; rw [e, decide_eq_true (h q hq e)]; rfl)
theorem arr_at (h : arr se ti va c N n o t v) {w j : Nat} (hj : j < cnt N (arS se c w)) : ∃ q, q < N ∧ arS se c w q = true ∧ cnt q (arS se c w) = j ∧ o (cnt N (arL se c w) + j) = w ∧ t (cnt N (arL se c w) + j) = ti q ∧ v (cnt N (arL se c w) + j) = va q := by
  obtain ⟨q, h1, h2, h3⟩ := cnt_at hj
  obtain ⟨c1, c2⟩ := arS_t.mp h2
  obtain ⟨a1, a2, a3⟩ := h.2 q h1 c1
  unfold arP at a1 a2 a3
  rw [c2, h3] at a1 a2 a3
  exact ⟨q, h1, h2, h3, a1, a2, a3⟩
theorem arr_lt (h : arr se ti va c N n o t v) : ∀ {w i : Nat}, i < cnt N (arL se c w) → o i < w
  | 0, i, hi => by rw [arL_0] at hi; omega
  | w + 1, i, hi => by
    rw [arL_s] at hi
    by_cases e : i < cnt N (arL se c w)
    · have := arr_lt h e
      omega
    · obtain ⟨q, -, -, -, a, -⟩ := arr_at h (w := w) (j := i - cnt N (arL se c w)) (by omega)
      rw [show cnt N (arL se c w) + (i - cnt N (arL se c w)) = i by omega] at a
      omega
end AR
section BT
variable {x : MS} {o1 o2 : Int32} {sn : Bool} {c : Nat → Bool} {n : Nat} {o : Nat → Nat} {t v : Nat → Int64}
/-- j points of series w in: the reference's sums against the class's -/
def btI (x : MS) (o1 o2 : Int32) (sn : Bool) (o : Nat → Nat) (t v : Nat → Int64) (B w b q j : Nat) : Prop :=
  (j = 0 → x.bP o1 o2 sn w b q = (0, 0, 0, 0, (-1), 0, b)) ∧ (0 < j → ∃ (fb g1 : Nat) (sp : Int64) (fa : Int32) (fl : Nat), bcG o t v (B + j) = (g1, sp, fa, fl) ∧ (bcG o t v B).1 ≤ g1 ∧ x.bP o1 o2 sn w b q = (j, t (B + j - 1), sp, v (B + j - 1), fa, fb, b + 64 + (g1 - (bcG o t v B).1)) ∧ (fa = -1 ∨ fb = fl ∧ ¬ fa < 0) ∧ (j = 1 → sp = 0) ∧ cnt (B + j) (chB o) = cnt B (chB o) + 1)
theorem m1_neg : (-1 : Int32) < 0 := by decide
theorem bt_in (h : arr x.pointSeries x.pointTimes x.pointValues c x.points n o t v) (hs : ∀ w q, x.sel o1 o2 sn w q = arS x.pointSeries c w q) (w b : Nat) : ∀ {q : Nat}, q ≤ x.points → btI x o1 o2 sn o t v (cnt x.points (arL x.pointSeries c w)) w b q (cnt q (arS x.pointSeries c w))
  | 0, _ => ⟨fun _ => rfl, fun h => absurd h (Nat.not_lt_zero _)⟩
  | q + 1, hq => by
    have ih := bt_in h hs w b (q := q) (by omega)
    obtain ⟨B, hB⟩ : ∃ B, B = cnt x.points (arL x.pointSeries c w) := ⟨_, rfl⟩
    obtain ⟨j, hj⟩ : ∃ j, j = cnt q (arS x.pointSeries c w) := ⟨_, rfl⟩
    rw [← hB, ← hj] at ih
    rw [← hB]
    cases hc : arS x.pointSeries c w q with
    | false =>
      rw [cnt_f hc, ← hj]
      have hs0 : x.sel o1 o2 sn w q = false := (hs w q).trans hc
      refine ⟨fun e => bP_f (ih.1 e) hs0, fun e => ?_⟩
      obtain ⟨fb, g1, sp, fa, fl, a1, a2, a3, a4⟩ := ih.2 e
      exact ⟨fb, g1, sp, fa, fl, a1, a2, bP_f a3 hs0, a4⟩
    | true =>
      rw [cnt_t hc, ← hj]
      have hs1 : x.sel o1 o2 sn w q = true := (hs w q).trans hc
      obtain ⟨c1, c2⟩ := arS_t.mp hc
      obtain ⟨p1, p2, p3⟩ := h.2 q (by omega) c1
      unfold arP at p1 p2 p3
      rw [c2, ← hB, ← hj] at p1 p2 p3
      refine ⟨fun e => absurd e (Nat.succ_ne_zero _), fun _ => ?_⟩
      rcases Nat.eq_zero_or_pos j with e | e
      · subst e
        rw [Nat.add_zero] at p1 p2 p3
        have hnew : B = 0 ∨ ¬ o B = o (B - 1) := by
          rcases Nat.eq_zero_or_pos B with z | z
          · exact Or.inl z
          · have := arr_lt h (w := w) (i := B - 1) (by omega)
            exact Or.inr (by omega)
        obtain ⟨g0, s0, f0, l0, e0⟩ : ∃ g0 s0 f0 l0, bcG o t v B = (g0, s0, f0, l0) := ⟨_, _, _, _, rfl⟩
        have eb := bP_t (ih.1 rfl) hs1 (b3_0 rfl) (if_pos rfl)
        refine ⟨0, g0 + 104, 0, -1, l0, bc_a hnew e0, by rw [e0]; omega, ?_, Or.inl rfl, fun _ => rfl, ?_⟩
        · rw [eb, e0, show B + (0 + 1) - 1 = B by omega, p2, p3]
          show (0 + 1, x.pointTimes q, (0 : Int64), x.pointValues q, (-1 : Int32), 0, b + 168) = (0 + 1, x.pointTimes q, (0 : Int64), x.pointValues q, (-1 : Int32), 0, b + 64 + (g0 + 104 - g0))
          rw [show b + 64 + (g0 + 104 - g0) = b + 168 by omega]
        · show cnt (B + 1) (chB o) = _
          rw [cnt_t]
          unfold chB
          rcases hnew with z | z
          · rw [decide_eq_true z]; rfl
          · rw [decide_eq_false z]; simp
      · obtain ⟨fb, g1, sp, fa, fl, a1, a2, a3, a4, a5, a6⟩ := ih.2 e
        obtain ⟨q2, -, -, -, r1, -⟩ := arr_at h (w := w) (j := j - 1) (by have := cnt_lt (f := arS x.pointSeries c w) (n := x.points) (by omega) hc; omega)
        rw [← hB, show B + (j - 1) = B + j - 1 by omega] at r1
        have n0 : ¬ B + j = 0 := by omega
        have ho : o (B + j) = o (B + j - 1) := by rw [p1, r1]
        have ech : cnt (B + (j + 1)) (chB o) = cnt B (chB o) + 1 := by
          rw [show B + (j + 1) = B + j + 1 by omega, cnt_f (by unfold chB; rw [decide_eq_false n0, decide_eq_true ho]; rfl)]
          exact a6
        have ej : B + (j + 1) - 1 = B + j := by omega
        have et : (if j = 1 then x.pointTimes q - t (B + j - 1) else x.pointTimes q - t (B + j - 1) - sp) = t (B + j) - t (B + j - 1) - sp := by
          rw [p2]
          by_cases e1 : j = 1
          · rw [if_pos e1, a5 e1]; simp
          · rw [if_neg e1]
        have ev : x.pointValues q ^^^ v (B + j - 1) = v (B + j) ^^^ v (B + j - 1) := by rw [p3]
        have ep : (if j = 0 then 0 else x.pointTimes q - t (B + j - 1)) = t (B + j) - t (B + j - 1) := by rw [if_neg (by omega), p2]
        rw [ej, ech]
        by_cases hx : v (B + j) ^^^ v (B + j - 1) = 0
        · have e3 : b3 j sp fa fb (b + 64 + (g1 - (bcG o t v B).1)) (x.pointTimes q - t (B + j - 1)) (x.pointValues q ^^^ v (B + j - 1)) = (fa, fb, b + 64 + (g1 - (bcG o t v B).1) + tbN (t (B + j) - t (B + j - 1) - sp) + 1) := by rw [ev]; exact b3_z (by omega) hx et
          have eb := bP_t a3 hs1 e3 ep
          have ebc : bcG o t v (B + j + 1) = (g1 + tbN (t (B + j) - t (B + j - 1) - sp) + 1, t (B + j) - t (B + j - 1), fa, fl) := bc_z n0 ho hx a1
          refine ⟨fb, _, _, fa, fl, ebc, by omega, ?_, a4, fun z => by omega, rfl⟩
          rw [eb, ← p2, ← p3, show b + 64 + (g1 - (bcG o t v B).1) + tbN (t (B + j) - t (B + j - 1) - sp) + 1 = b + 64 + (g1 + tbN (t (B + j) - t (B + j - 1) - sp) + 1 - (bcG o t v B).1) by omega]
        · have hh := hi_ab hx
          have hl := lo_ct hx
          by_cases hcd : fa = -1 ∨ nI (abL (v (B + j) ^^^ v (B + j - 1))) < fa ∨ nI (ctzL (v (B + j) ^^^ v (B + j - 1))) < 64 - fa - nI fl
          · have hcd2 : fa < 0 ∨ nI (abL (v (B + j) ^^^ v (B + j - 1))) < fa ∨ nI (ctzL (v (B + j) ^^^ v (B + j - 1))) < 64 - fa - nI fb := by
              rcases a4 with z | ⟨z, z2⟩
              · exact Or.inl (by rw [z]; exact m1_neg)
              · rw [z]
                rcases hcd with y | y
                · exact Or.inl (by rw [y]; exact m1_neg)
                · exact Or.inr y
            have e3 : b3 j sp fa fb (b + 64 + (g1 - (bcG o t v B).1)) (x.pointTimes q - t (B + j - 1)) (x.pointValues q ^^^ v (B + j - 1)) = (nI (abL (v (B + j) ^^^ v (B + j - 1))), 64 - abL (v (B + j) ^^^ v (B + j - 1)) - ctzL (v (B + j) ^^^ v (B + j - 1)), b + 64 + (g1 - (bcG o t v B).1) + tbN (t (B + j) - t (B + j - 1) - sp) + (13 + (64 - abL (v (B + j) ^^^ v (B + j - 1)) - ctzL (v (B + j) ^^^ v (B + j - 1))))) := by rw [ev]; exact b3_n (by omega) hx et hh hl hcd2
            have eb := bP_t a3 hs1 e3 ep
            have ebc : bcG o t v (B + j + 1) = (g1 + tbN (t (B + j) - t (B + j - 1) - sp) + (13 + (64 - abL (v (B + j) ^^^ v (B + j - 1)) - ctzL (v (B + j) ^^^ v (B + j - 1)))), t (B + j) - t (B + j - 1), nI (abL (v (B + j) ^^^ v (B + j - 1))), 64 - abL (v (B + j) ^^^ v (B + j - 1)) - ctzL (v (B + j) ^^^ v (B + j - 1))) := bc_n n0 ho hx hcd a1
            refine ⟨_, _, _, _, _, ebc, by omega, ?_, Or.inr ⟨rfl, nI_pos (Nat.lt_of_le_of_lt (abL_le (v (B + j) ^^^ v (B + j - 1))) (by decide))⟩, fun z => by omega, rfl⟩
            rw [eb, ← p2, ← p3, show b + 64 + (g1 - (bcG o t v B).1) + tbN (t (B + j) - t (B + j - 1) - sp) + (13 + (64 - abL (v (B + j) ^^^ v (B + j - 1)) - ctzL (v (B + j) ^^^ v (B + j - 1)))) = b + 64 + (g1 + tbN (t (B + j) - t (B + j - 1) - sp) + (13 + (64 - abL (v (B + j) ^^^ v (B + j - 1)) - ctzL (v (B + j) ^^^ v (B + j - 1)))) - (bcG o t v B).1) by omega]
          · have k1 : ¬ fa = -1 := fun z => hcd (Or.inl z)
            obtain ⟨z, z2⟩ := a4.resolve_left k1
            have k2 : ¬ nI (abL (v (B + j) ^^^ v (B + j - 1))) < fa := fun y => hcd (Or.inr (Or.inl y))
            have k3 : ¬ nI (ctzL (v (B + j) ^^^ v (B + j - 1))) < 64 - fa - nI fl := fun y => hcd (Or.inr (Or.inr y))
            have e3 : b3 j sp fa fb (b + 64 + (g1 - (bcG o t v B).1)) (x.pointTimes q - t (B + j - 1)) (x.pointValues q ^^^ v (B + j - 1)) = (fa, fb, b + 64 + (g1 - (bcG o t v B).1) + tbN (t (B + j) - t (B + j - 1) - sp) + (2 + fb)) := by rw [ev]; exact b3_k (by omega) hx et hh hl z2 k2 (by rw [z]; exact k3)
            have eb := bP_t a3 hs1 e3 ep
            have ebc : bcG o t v (B + j + 1) = (g1 + tbN (t (B + j) - t (B + j - 1) - sp) + (2 + fl), t (B + j) - t (B + j - 1), fa, fl) := bc_k n0 ho hx k1 k2 k3 a1
            refine ⟨fb, _, _, fa, fl, ebc, by omega, ?_, Or.inr ⟨z, z2⟩, fun z => by omega, rfl⟩
            rw [eb, ← p2, ← p3, z, show b + 64 + (g1 - (bcG o t v B).1) + tbN (t (B + j) - t (B + j - 1) - sp) + (2 + fl) = b + 64 + (g1 + tbN (t (B + j) - t (B + j - 1) - sp) + (2 + fl) - (bcG o t v B).1) by omega]
theorem bt_w (h : arr x.pointSeries x.pointTimes x.pointValues c x.points n o t v) (hs : ∀ w q, x.sel o1 o2 sn w q = arS x.pointSeries c w q) : ∀ w, x.bA o1 o2 sn w = 64 * cnt (cnt x.points (arL x.pointSeries c w)) (chB o) + (bcG o t v (cnt x.points (arL x.pointSeries c w))).1
  | 0 => by rw [arL_0]; rfl
  | w + 1 => by
    have ih := bt_w h hs w
    have hi := bt_in h hs w (x.bA o1 o2 sn w) (Nat.le_refl x.points)
    rw [arL_s]
    show (x.bP o1 o2 sn w (x.bA o1 o2 sn w) x.points).2.2.2.2.2.2 = _
    rcases Nat.eq_zero_or_pos (cnt x.points (arS x.pointSeries c w)) with e | e
    · rw [hi.1 e, e, Nat.add_zero]
      exact ih
    · obtain ⟨fb, g1, sp, fa, fl, a1, a2, a3, -, -, a6⟩ := hi.2 e
      rw [a3, a6, a1]
      show x.bA o1 o2 sn w + 64 + (g1 - (bcG o t v (cnt x.points (arL x.pointSeries c w))).1) = 64 * (cnt (cnt x.points (arL x.pointSeries c w)) (chB o) + 1) + g1
      rw [ih]
      omega
/-- the bits of a parcel -/
theorem bt_all (h : arr x.pointSeries x.pointTimes x.pointValues c x.points n o t v) (hs : ∀ w q, x.sel o1 o2 sn w q = arS x.pointSeries c w q) {W : Nat} (hw : ∀ q, q < x.points → c q = true → x.pointSeries q < W) : x.bA o1 o2 sn W = (mkP n o t v).bi := by
  rw [bt_w h hs W, arL_all hw, ← h.1]
  rfl
end BT
