/-! Tables joined, row by row. -/
section JT
variable {sg : Int32} {g : jT} {a b : Nat} {z : TB} {ra rb r : Nat} {thA thB : Int64} {L R : Nat → Int64}
/-- a row of table a becomes rows ra of a and rb of b joined -/
theorem jr_T (hs : isOp sg) (h64 : z.wi ≤ 64) (hab : ¬ a = b) (hl : r < 256 ∧ ra < 256 ∧ rb < 256) (hA : rwF g.1 g.2 ((a * 256 + ra) * 64) z.wi thA L) (hB : rwF g.1 g.2 ((b * 256 + rb) * 64) z.wi thB R) : (rwE (jrG sg g (cA a r) (cA a ra) (cA b rb) z.wi).1 (jrG sg g (cA a r) (cA a ra) (cA b rb) z.wi).2 a r (z.jr sg (thA &&& thB) L R r) r ∧ hiZ (z.jr sg (thA &&& thB) L R r) r) ∧ (∀ q, ¬ q = r → (rwE g.1 g.2 a q z q → rwE (jrG sg g (cA a r) (cA a ra) (cA b rb) z.wi).1 (jrG sg g (cA a r) (cA a ra) (cA b rb) z.wi).2 a q (z.jr sg (thA &&& thB) L R r) q) ∧ (hiZ z q → hiZ (z.jr sg (thA &&& thB) L R r) q)) ∧ (∀ q, (q < (a * 256 + r) * 64 ∨ (a * 256 + r) * 64 + 64 ≤ q) → (jrG sg g (cA a r) (cA a ra) (cA b rb) z.wi).1 q = g.1 q ∧ (jrG sg g (cA a r) (cA a ra) (cA b rb) z.wi).2 q = g.2 q) := by
  have hd : ∀ w w', w' < w → w < z.wi → ¬ cA a ra + w = cA a r + w' ∧ ¬ cA b rb + w = cA a r + w' := by
    intro w w' h1 h2
    unfold cA
    omega
  obtain ⟨e1, e2⟩ := jr_E hs (f := z.ce) (b := r * z.wi) h64 hd hA hB
  have out : ∀ q, (q < (a * 256 + r) * 64 ∨ (a * 256 + r) * 64 + 64 ≤ q) → (jrG sg g (cA a r) (cA a ra) (cA b rb) z.wi).1 q = g.1 q ∧ (jrG sg g (cA a r) (cA a ra) (cA b rb) z.wi).2 q = g.2 q := by
    intro q hq
    obtain ⟨o1, o2⟩ := jr_at (sg := sg) (g := g) hd q
    rw [if_neg (by unfold cA; omega)] at o1 o2
    exact ⟨o1, o2⟩
  have th : ∀ q, (z.jr sg (thA &&& thB) L R r).th q = if q = r then (jrW sg (thA &&& thB) L R z.ce (r * z.wi) z.wi).1 else z.th q := fun q => rfl
  have ce : (z.jr sg (thA &&& thB) L R r).ce = (jrW sg (thA &&& thB) L R z.ce (r * z.wi) z.wi).2 := rfl
  obtain ⟨-, c2⟩ := jw_at (sg := sg) (both := thA &&& thB) (L := L) (R := R) (f := z.ce) (b := r * z.wi) h64
  refine ⟨⟨fun w hw => ?_, fun w h1 h2 => ?_⟩, fun q hq => ⟨fun h w hw => ?_, fun h w h1 h2 => ?_⟩, out⟩
  · rw [th, if_pos rfl]
    exact e1 w hw
  · rw [th, if_pos rfl]
    exact e2 w h1 h2
  · have hw : w < z.wi := hw
    obtain ⟨h1, h2⟩ := h w hw
    obtain ⟨o1, o2⟩ := out ((a * 256 + q) * 64 + w) (by omega)
    rw [th, if_neg hq, ce, o1, o2, c2]
    have ne : ¬ (r * z.wi ≤ q * z.wi + w ∧ q * z.wi + w < r * z.wi + z.wi) := fun y => by
      have := ix_ne (wi := z.wi) (r := q) (w := w) (r' := r) (w' := q * z.wi + w - r * z.wi) hw (by omega) (fun e => hq e.1)
      omega
    refine ⟨h1, fun y => (h2 y).trans ?_⟩
    exact (if_neg (fun y => ne ⟨y.1, y.2.1⟩)).symm
  · rw [th, if_neg hq]
    exact h w h1 h2
theorem jr_k (sg : Int32) (z : TB) (both : Int64) (L R : Nat → Int64) (g : Nat) : (z.jr sg both L R g).wi = z.wi ∧ (z.jr sg both L R g).rc = z.rc ∧ (z.jr sg both L R g).nc = z.nc ∧ (z.jr sg both L R g).nm = z.nm ∧ (z.jr sg both L R g).rs = z.rs ∧ (z.jr sg both L R g).cN = z.cN ∧ (z.jr sg both L R g).cA = z.cA := ⟨rfl, rfl, rfl, rfl, rfl, rfl, rfl⟩
end JT
set_option maxRecDepth 100000 in
theorem ix_out {a r q : Nat} (hr : r < 256) (h : q < a * 256 * 64 ∨ a * 256 * 64 + 256 * 64 ≤ q) : q < (a * 256 + r) * 64 ∨ (a * 256 + r) * 64 + 64 ≤ q := by omega
section OB
variable {sg : Int32} {m : MS} {a b : Nat} {t u : TB} {NL NR : Nat → List Int32} {RS RU SS : Nat → List LB}
theorem jsLn_k (sg : Int32) (t u : TB) : ∀ r, (jsL sg t u r).wi = t.wi ∧ (jsL sg t u r).rc = t.rc ∧ (jsL sg t u r).nc = t.nc
  | 0 => ⟨rfl, rfl, rfl⟩
  | r + 1 => by
    obtain ⟨h1, h2, h3⟩ := jsLn_k sg t u r
    exact ⟨h1, h2, h3⟩
/-- the one row of the right table joined to the rows of the left -/
theorem ob_jsL (hs : isOp sg) (hab : ¬ a = b) (ht : tabR m a t NL RS SS) (hu : tabR m b u NR RU SS) (h1 : 0 < u.rc) : ∀ r, r ≤ t.rc → (∀ q, q < t.rc → rwE (obG sg (m.isCell, m.cells) a b m.windows r).1 (obG sg (m.isCell, m.cells) a b m.windows r).2 a q (jsL sg t u r) q ∧ hiZ (jsL sg t u r) q) ∧ (∀ q, (q < a * 256 * 64 ∨ a * 256 * 64 + 256 * 64 ≤ q) → (obG sg (m.isCell, m.cells) a b m.windows r).1 q = m.isCell q ∧ (obG sg (m.isCell, m.cells) a b m.windows r).2 q = m.cells q)
  | 0, _ => ⟨fun q hq => ht.2.2.2.2 q hq, fun q _ => ⟨rfl, rfl⟩⟩
  | r + 1, hr => by
    obtain ⟨i1, i2⟩ := ob_jsL hs hab ht hu h1 r (by omega)
    obtain ⟨k1, k2, k3⟩ := jsLn_k sg t u r
    have rc := ht.2.1.2.1
    have w1 : (jsL sg t u r).wi = m.windows := k1.trans ht.2.1.2.2.1
    have w2 : u.wi = m.windows := hu.2.1.2.2.1
    have A : rwF (obG sg (m.isCell, m.cells) a b m.windows r).1 (obG sg (m.isCell, m.cells) a b m.windows r).2 ((a * 256 + r) * 64) (jsL sg t u r).wi ((jsL sg t u r).th r) (fun w => (jsL sg t u r).ce (r * (jsL sg t u r).wi + w)) := (i1 r (by omega)).1
    have B : rwF (obG sg (m.isCell, m.cells) a b m.windows r).1 (obG sg (m.isCell, m.cells) a b m.windows r).2 ((b * 256 + 0) * 64) (jsL sg t u r).wi (u.th 0) (fun w => u.ce (0 * u.wi + w)) := fun w hw => by
      obtain ⟨o1, o2⟩ := i2 ((b * 256 + 0) * 64 + w) (by have := ht.2.1.2.2.2; omega)
      rw [o1, o2]
      exact (hu.2.2.2.2 0 h1).1 w (by rw [w2, ← w1]; exact hw)
    obtain ⟨j1, j2, j3⟩ := jr_T (z := jsL sg t u r) (r := r) hs (by rw [w1]; exact ht.2.1.2.2.2) hab ⟨by omega, by omega, by omega⟩ A B
    have eo : obG sg (m.isCell, m.cells) a b m.windows (r + 1) = jrG sg (obG sg (m.isCell, m.cells) a b m.windows r) (cA a r) (cA a r) (cA b 0) (jsL sg t u r).wi := by
      rw [w1]
      rfl
    rw [eo]
    refine ⟨fun q hq => ?_, fun q hq => ?_⟩
    · show rwE _ _ a q (TB.jrl sg (jsL sg t u r) u r 0 r) q ∧ hiZ (TB.jrl sg (jsL sg t u r) u r 0 r) q
      unfold TB.jrl
      by_cases e : q = r
      · rw [e]; exact j1
      · obtain ⟨x1, x2⟩ := j2 q e
        exact ⟨x1 (i1 q hq).1, x2 (i1 q hq).2⟩
    · obtain ⟨o1, o2⟩ := j3 q (ix_out (Nat.lt_of_lt_of_le hr rc) hq)
      obtain ⟨p1, p2⟩ := i2 q hq
      exact ⟨o1.trans p1, o2.trans p2⟩
theorem ob_tab (hs : isOp sg) (hab : ¬ a = b) (ht : tabR m a t NL RS SS) (hu : tabR m b u NR RU SS) : tabR (m.obS sg a b) a (if u.rc = 0 then TB.s_rc t 0 else jsL sg t u t.rc) NL RS SS := by
  have ur : m.tableRows b = u.rc := hu.2.1.1
  have tr : m.tableRows a = t.rc := ht.2.1.1
  by_cases c : u.rc = 0
  · rw [if_pos c]
    have et : (m.obS sg a b).tableRows a = 0 := by
      show va_up m.tableRows a (if 0 < m.tableRows b then m.tableRows a else 0) a = 0
      rw [va_up_self, ur, c]
      rfl
    refine ⟨ht.1, ⟨et, Nat.zero_le _, ht.2.1.2.2⟩, fun g => ⟨fun q hq => absurd hq (Nat.not_lt_zero q), fun x y _ hy => absurd hy (Nat.not_lt_zero y)⟩, fun _ => Nat.zero_le _, fun r hr => absurd hr (Nat.not_lt_zero r)⟩
  · rw [if_neg c]
    obtain ⟨j1, -⟩ := ob_jsL hs hab ht hu (by omega) t.rc (Nat.le_refl _)
    obtain ⟨k1, k2, k3⟩ := jsLn_k sg t u t.rc
    have et : (m.obS sg a b).tableRows a = t.rc := by
      show va_up m.tableRows a (if 0 < m.tableRows b then m.tableRows a else 0) a = t.rc
      rw [va_up_self, ur, if_pos (by omega), tr]
    have ei : (m.obS sg a b).isCell = (obG sg (m.isCell, m.cells) a b m.windows t.rc).1 := by
      show (if 0 < m.tableRows b then obG sg (m.isCell, m.cells) a b m.windows (m.tableRows a) else (m.isCell, m.cells)).1 = _
      rw [ur, if_pos (by omega), tr]
    have ec : (m.obS sg a b).cells = (obG sg (m.isCell, m.cells) a b m.windows t.rc).2 := by
      show (if 0 < m.tableRows b then obG sg (m.isCell, m.cells) a b m.windows (m.tableRows a) else (m.isCell, m.cells)).2 = _
      rw [ur, if_pos (by omega), tr]
    refine ⟨⟨by rw [k3]; exact ht.1.1, by rw [k3]; exact ht.1.2⟩, ⟨by rw [k2]; exact et, by rw [k2]; exact ht.2.1.2.1, k1.trans ht.2.1.2.2.1, ht.2.1.2.2.2⟩, fun g => ?_, fun g => ?_, fun r hr => ?_⟩
    · rw [k3] at g ⊢
      rw [k2]
      exact ht.2.2.1 g
    · rw [k3] at g
      rw [k2]
      exact ht.2.2.2.1 g
    · rw [k2] at hr
      rw [ei, ec]
      exact j1 r hr
end OB
