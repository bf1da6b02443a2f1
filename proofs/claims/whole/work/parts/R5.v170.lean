/-! Tables joined: the left without names; the same names. -/
section SP2
variable {sg : Int32} {m : MS} {a b : Nat} {t u : TB} {NL NR : Nat → List Int32} {RS RU SS : Nat → List LB}
theorem sp_tab (hs : isOp sg) (hab : a < b) (ht : tabR m a t NL RS SS) (hu : tabR m b u NR RU SS) : tabR (m.spS sg a b) a (if t.rc = 0 then TB.s_rc u 0 else jsR sg u t u.rc) NR RU SS := by
  obtain ⟨⟨a1, a2⟩, ⟨a3, a4, a5, a6⟩, -, -, a9⟩ := ht
  obtain ⟨⟨b1, b2⟩, ⟨b3, b4, b5, b6⟩, b7, b8, b9⟩ := hu
  have nm : nmRe (m.spS sg a b) a u.nc NR := by
    refine ⟨(va_up_self _ _ _).trans b1.1, fun i hi => ?_⟩
    show seg m.tape (mvG m.nameFroms (6 * a) (6 * b) 6 (6 * a + i)) (mvG m.nameFroms (6 * a) (6 * b) 6 (6 * a + i) + mvG m.nameLengths (6 * a) (6 * b) 6 (6 * a + i)) = NR i
    rw [mv_at (by omega) 6 (Nat.le_refl _), mv_at (by omega) 6 (Nat.le_refl _), if_pos (by omega), if_pos (by omega), Nat.add_sub_cancel_left]
    exact b1.2 i hi
  by_cases c : t.rc = 0
  · rw [if_pos c]
    have et : (m.spS sg a b).tableRows a = 0 := by
      show va_up m.tableRows a (if 0 < m.tableRows a then m.tableRows b else 0) a = 0
      rw [va_up_self, a3, c]
      rfl
    exact ⟨⟨nm, b2⟩, ⟨et, Nat.zero_le _, b5, b6⟩, fun g => ⟨fun q hq => absurd hq (Nat.not_lt_zero q), fun x y _ hy => absurd hy (Nat.not_lt_zero y)⟩, fun _ => Nat.zero_le _, fun r hr => absurd hr (Nat.not_lt_zero r)⟩
  · rw [if_neg c]
    obtain ⟨k1, k2, k3⟩ := jsRn_k sg u t u.rc
    have en : (if 0 < m.tableRows a then m.tableRows b else 0) = u.rc := by rw [a3, if_pos (by omega), b3]
    have et : (m.spS sg a b).tableRows a = u.rc := by
      show va_up m.tableRows a (if 0 < m.tableRows a then m.tableRows b else 0) a = u.rc
      rw [va_up_self, en]
    have er : (m.spS sg a b).rowSeries = mvG m.rowSeries (256 * a) (256 * b) u.rc := by
      show mvG m.rowSeries (256 * a) (256 * b) (if 0 < m.tableRows a then m.tableRows b else 0) = _
      rw [en]
    have ei : (m.spS sg a b).isCell = (spG sg (m.isCell, m.cells) a b u.rc u.wi u.rc).1 := by
      show (spG sg (m.isCell, m.cells) a b (if 0 < m.tableRows a then m.tableRows b else 0) m.windows (if 0 < m.tableRows a then m.tableRows b else 0)).1 = _
      rw [en, b5]
    have ec : (m.spS sg a b).cells = (spG sg (m.isCell, m.cells) a b u.rc u.wi u.rc).2 := by
      show (spG sg (m.isCell, m.cells) a b (if 0 < m.tableRows a then m.tableRows b else 0) m.windows (if 0 < m.tableRows a then m.tableRows b else 0)).2 = _
      rw [en, b5]
    have h64 : u.wi ≤ 64 := by rw [b5]; exact b6
    have tw : t.wi = u.wi := a5.trans b5.symm
    obtain ⟨-, J⟩ := jsR_row (sg := sg) (t := t) (u := u) h64 u.rc
    obtain ⟨-, P⟩ := sp_row (sg := sg) (a := a) (b := b) (g := (m.isCell, m.cells)) (n := u.rc) (wi := u.wi) (by omega) h64 b4 u.rc (Nat.le_refl _)
    refine ⟨⟨by rw [k3]; exact nm, by rw [k3]; exact b2⟩, ⟨by rw [k2]; exact et, by rw [k2]; exact b4, k1.trans b5, b6⟩, fun g => ?_, fun g => ?_, fun r hr => ?_⟩
    · rw [k3] at g ⊢
      rw [k2, er]
      obtain ⟨g1, g2⟩ := b7 g
      refine ⟨fun q hq => ?_, g2⟩
      rw [mv_at (n := u.rc) (by omega) u.rc (Nat.le_refl _), if_pos (by omega), Nat.add_sub_cancel_left]
      exact g1 q hq
    · rw [k3] at g
      rw [k2]
      exact b8 g
    · rw [k2] at hr
      rw [ei, ec]
      obtain ⟨j1, j2⟩ := J r hr
      obtain ⟨c1, c2⟩ := jw_at (sg := sg) (both := t.th 0 &&& u.th r) (L := fun w => t.ce (0 * t.wi + w)) (R := fun w => u.ce (r * u.wi + w)) (f := u.ce) (b := r * u.wi) (k := u.wi) h64
      refine ⟨fun w hw => ?_, fun w h1 h2 => ?_⟩
      · rw [k1] at hw
        rw [k1]
        obtain ⟨p1, p2⟩ := P r (by omega) hr w hw
        obtain ⟨x1, x2⟩ := (a9 0 (by omega)).1 w (by rw [tw]; exact hw)
        obtain ⟨y1, y2⟩ := (b9 r hr).1 w hw
        have x1' : m.isCell (cA a 0 + w) = hasB (t.th 0) w := x1
        have y1' : m.isCell (cA b r + w) = hasB (u.th r) w := y1
        obtain ⟨q1, q2⟩ := jn_e hs (ia := hasB (t.th 0) w) (ib := hasB (u.th r) w) (both := t.th 0 &&& u.th r) (u := t.ce (0 * t.wi + w)) (y := m.cells (cA b r + w)) (y' := u.ce (r * u.wi + w)) (w := w) (by omega) (hb_and (by omega)) y2
        have p1' : (spG sg (m.isCell, m.cells) a b u.rc u.wi u.rc).1 ((a * 256 + r) * 64 + w) = jnB sg (m.isCell (cA a 0 + w)) (m.isCell (cA b r + w)) (m.cells (cA b r + w)) := p1
        have p2' : (spG sg (m.isCell, m.cells) a b u.rc u.wi u.rc).2 ((a * 256 + r) * 64 + w) = jnW sg (jnB sg (m.isCell (cA a 0 + w)) (m.isCell (cA b r + w)) (m.cells (cA b r + w))) (m.cells (cA a 0 + w)) (m.cells (cA b r + w)) := p2
        rw [x1', y1'] at p1' p2'
        rw [p1', p2', j1, c1 w (by omega), decide_eq_true hw, Bool.true_and]
        refine ⟨q1, fun z => ?_⟩
        have z' : jnB sg (hasB (t.th 0) w) (hasB (u.th r) w) (m.cells (cA b r + w)) = true := q1.trans z
        have z2 := z'
        unfold jnB at z2
        rw [Bool.and_eq_true, Bool.and_eq_true] at z2
        have xa : m.cells (cA a 0 + w) = t.ce (0 * t.wi + w) := x2 z2.1
        have yb : m.cells (cA b r + w) = u.ce (r * u.wi + w) := y2 z2.2.1
        rw [z', j2 w hw, c2, Nat.add_sub_cancel_left, if_pos ⟨by omega, by omega, z⟩, xa]
        have := q2 z'
        rw [yb] at this ⊢
        exact this
      · rw [k1] at h1
        rw [j1, c1 w h2, decide_eq_false (by omega)]
        rfl
end SP2
