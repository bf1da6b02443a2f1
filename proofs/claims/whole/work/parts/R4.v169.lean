/-! The one row of the left table joined to the rows of the right. -/
section SP
variable {sg : Int32} {m : MS} {a b : Nat} {t u : TB} {NL NR : Nat → List Int32} {RS RU SS : Nat → List LB}
theorem jsRn_k (sg : Int32) (t u : TB) : ∀ r, (jsR sg t u r).wi = t.wi ∧ (jsR sg t u r).rc = t.rc ∧ (jsR sg t u r).nc = t.nc
  | 0 => ⟨rfl, rfl, rfl⟩
  | r + 1 => by
    obtain ⟨h1, h2, h3⟩ := jsRn_k sg t u r
    exact ⟨h1, h2, h3⟩
/-- rows of the class's right table: behind r they are as they were; before it each is joined -/
theorem jsR_row (h64 : u.wi ≤ 64) : ∀ r, (∀ q, r ≤ q → (jsR sg u t r).th q = u.th q ∧ ∀ w, w < u.wi → (jsR sg u t r).ce (q * u.wi + w) = u.ce (q * u.wi + w)) ∧ ∀ q, q < r → (jsR sg u t r).th q = (jrW sg (t.th 0 &&& u.th q) (fun w => t.ce (0 * t.wi + w)) (fun w => u.ce (q * u.wi + w)) u.ce (q * u.wi) u.wi).1 ∧ ∀ w, w < u.wi → (jsR sg u t r).ce (q * u.wi + w) = (jrW sg (t.th 0 &&& u.th q) (fun w => t.ce (0 * t.wi + w)) (fun w => u.ce (q * u.wi + w)) u.ce (q * u.wi) u.wi).2 (q * u.wi + w)
  | 0 => ⟨fun q _ => ⟨rfl, fun w _ => rfl⟩, fun q hq => absurd hq (Nat.not_lt_zero q)⟩
  | r + 1 => by
    obtain ⟨i1, i2⟩ := jsR_row h64 r
    obtain ⟨k1, -, -⟩ := jsRn_k sg u t r
    obtain ⟨Z, eZ⟩ : ∃ Z, Z = jsR sg u t r := ⟨_, rfl⟩
    have e : jsR sg u t (r + 1) = TB.jrr sg Z t 0 r r := by rw [eZ]; rfl
    rw [e]
    rw [← eZ] at i1 i2 k1
    obtain ⟨r1, r2⟩ := i1 r (Nat.le_refl r)
    -- the row's own cells as they were
    have cg : ∀ k, k ≤ u.wi → (jrW sg (t.th 0 &&& Z.th r) (fun w => t.ce (0 * t.wi + w)) (fun w => Z.ce (r * Z.wi + w)) Z.ce (r * Z.wi) k).1 = (jrW sg (t.th 0 &&& u.th r) (fun w => t.ce (0 * t.wi + w)) (fun w => u.ce (r * u.wi + w)) u.ce (r * u.wi) k).1 := by
      intro k
      induction k with
      | zero => intro _; rfl
      | succ k ih =>
        intro hk
        have ih := ih (by omega)
        have ek : Z.ce (r * Z.wi + k) = u.ce (r * u.wi + k) := by rw [k1]; exact r2 k (by omega)
        have es : ∀ (bo : Int64) (A B C : Nat → Int64) (p : Nat), (jrW sg bo A B C p (k + 1)).1 = if jnS sg bo (B k) k = true then (jrW sg bo A B C p k).1 ||| bitL k else (jrW sg bo A B C p k).1 := fun bo A B C p => by
          show (if jnS sg bo (B k) k = true then ((jrW sg bo A B C p k).1 ||| bitL k, va_up (jrW sg bo A B C p k).2 (p + k) (jnVl sg (A k) (B k))) else jrW sg bo A B C p k).1 = _
          split <;> rfl
        rw [es, es, ih, r1]
        show (if jnS sg (t.th 0 &&& u.th r) (Z.ce (r * Z.wi + k)) k = true then _ else _) = (if jnS sg (t.th 0 &&& u.th r) (u.ce (r * u.wi + k)) k = true then _ else _)
        rw [ek]
    have th : ∀ q, (TB.jrr sg Z t 0 r r).th q = if q = r then (jrW sg (t.th 0 &&& Z.th r) (fun w => t.ce (0 * t.wi + w)) (fun w => Z.ce (r * Z.wi + w)) Z.ce (r * Z.wi) Z.wi).1 else Z.th q := fun q => rfl
    have ce : (TB.jrr sg Z t 0 r r).ce = (jrW sg (t.th 0 &&& Z.th r) (fun w => t.ce (0 * t.wi + w)) (fun w => Z.ce (r * Z.wi + w)) Z.ce (r * Z.wi) Z.wi).2 := rfl
    obtain ⟨-, c2⟩ := jw_at (sg := sg) (both := t.th 0 &&& Z.th r) (L := fun w => t.ce (0 * t.wi + w)) (R := fun w => Z.ce (r * Z.wi + w)) (f := Z.ce) (b := r * Z.wi) (k := Z.wi) (by rw [k1]; exact h64)
    obtain ⟨-, c3⟩ := jw_at (sg := sg) (both := t.th 0 &&& u.th r) (L := fun w => t.ce (0 * t.wi + w)) (R := fun w => u.ce (r * u.wi + w)) (f := u.ce) (b := r * u.wi) (k := u.wi) h64
    have oth : ∀ q, ¬ q = r → ∀ w, w < u.wi → (TB.jrr sg Z t 0 r r).ce (q * u.wi + w) = Z.ce (q * u.wi + w) := fun q hq w hw => by
      rw [ce, c2, k1]
      refine if_neg (fun y => ?_)
      have := ix_ne (wi := u.wi) (r := q) (w := w) (r' := r) (w' := q * u.wi + w - r * u.wi) hw (by omega) (fun e => hq e.1)
      omega
    refine ⟨fun q hq => ?_, fun q hq => ?_⟩
    · rw [th, if_neg (by omega)]
      obtain ⟨x1, x2⟩ := i1 q (by omega)
      exact ⟨x1, fun w hw => (oth q (by omega) w hw).trans (x2 w hw)⟩
    · rw [th]
      by_cases e2 : q = r
      · subst e2
        rw [if_pos rfl]
        refine ⟨?_, fun w hw => ?_⟩
        · have := cg u.wi (Nat.le_refl _)
          rw [← k1] at this ⊢
          exact this
        · have ew : ∀ w, w < u.wi → Z.ce (q * u.wi + w) = u.ce (q * u.wi + w) := r2
          rw [ce, c2, c3, k1, r1, Nat.add_sub_cancel_left]
          show (if q * u.wi ≤ q * u.wi + w ∧ q * u.wi + w < q * u.wi + u.wi ∧ jnS sg (t.th 0 &&& u.th q) (Z.ce (q * u.wi + w)) w = true then jnVl sg (t.ce (0 * t.wi + w)) (Z.ce (q * u.wi + w)) else Z.ce (q * u.wi + w)) = (if q * u.wi ≤ q * u.wi + w ∧ q * u.wi + w < q * u.wi + u.wi ∧ jnS sg (t.th 0 &&& u.th q) (u.ce (q * u.wi + w)) w = true then jnVl sg (t.ce (0 * t.wi + w)) (u.ce (q * u.wi + w)) else u.ce (q * u.wi + w))
          rw [ew w hw]
      · rw [if_neg e2]
        obtain ⟨x1, x2⟩ := i2 q (by omega)
        exact ⟨x1, fun w hw => (oth q e2 w hw).trans (x2 w hw)⟩
/-- the reference's rows, from the last down -/
theorem sp_row (hab : ¬ a = b) {g : jT} {n wi : Nat} (h64 : wi ≤ 64) (hn : n ≤ 256) : ∀ j, j ≤ n → (∀ q, q < (a * 256 + (n - j)) * 64 ∨ (a * 256 + n) * 64 ≤ q → (spG sg g a b n wi j).1 q = g.1 q ∧ (spG sg g a b n wi j).2 q = g.2 q) ∧ ∀ r, n - j ≤ r → r < n → ∀ w, w < wi → (spG sg g a b n wi j).1 ((a * 256 + r) * 64 + w) = jnB sg (g.1 (cA a 0 + w)) (g.1 (cA b r + w)) (g.2 (cA b r + w)) ∧ (spG sg g a b n wi j).2 ((a * 256 + r) * 64 + w) = jnW sg (jnB sg (g.1 (cA a 0 + w)) (g.1 (cA b r + w)) (g.2 (cA b r + w))) (g.2 (cA a 0 + w)) (g.2 (cA b r + w))
  | 0, _ => ⟨fun q _ => ⟨rfl, rfl⟩, fun r h1 h2 => by omega⟩
  | j + 1, hj => by
    obtain ⟨i1, i2⟩ := sp_row hab h64 hn (g := g) j (by omega)
    obtain ⟨G, eG⟩ : ∃ G, G = spG sg g a b n wi j := ⟨_, rfl⟩
    have e : spG sg g a b n wi (j + 1) = jrG sg G (cA a (n - 1 - j)) (cA a 0) (cA b (n - 1 - j)) wi := by rw [eG]; rfl
    rw [e]
    rw [← eG] at i1 i2
    have hd : ∀ w w', w' < w → w < wi → ¬ cA a 0 + w = cA a (n - 1 - j) + w' ∧ ¬ cA b (n - 1 - j) + w = cA a (n - 1 - j) + w' := by
      intro w w' h1 h2
      unfold cA
      omega
    refine ⟨fun q hq => ?_, fun r h1 h2 w hw => ?_⟩
    · obtain ⟨o1, o2⟩ := jr_at (sg := sg) (g := G) hd q
      rw [if_neg (by unfold cA; omega)] at o1 o2
      obtain ⟨p1, p2⟩ := i1 q (by omega)
      exact ⟨o1.trans p1, o2.trans p2⟩
    · obtain ⟨o1, o2⟩ := jr_at (sg := sg) (g := G) hd ((a * 256 + r) * 64 + w)
      by_cases c : r = n - 1 - j
      · subst c
        rw [if_pos (by unfold cA; omega), show (a * 256 + (n - 1 - j)) * 64 + w - cA a (n - 1 - j) = w by unfold cA; omega] at o1 o2
        have z1 := i1 (cA a 0 + w) (by unfold cA; omega)
        have z2 := i1 (cA b (n - 1 - j) + w) (by unfold cA; omega)
        rw [z1.1, z2.1, z2.2] at o1
        rw [z1.1, z1.2, z2.1, z2.2] at o2
        exact ⟨o1, o2⟩
      · rw [if_neg (by unfold cA; omega)] at o1 o2
        obtain ⟨p1, p2⟩ := i2 r (by omega) h2 w hw
        exact ⟨o1.trans p1, o2.trans p2⟩
end SP
