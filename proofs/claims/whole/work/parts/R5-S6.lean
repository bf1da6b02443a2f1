section
/-! Tables joined: the left without names; the same names. -/
section SP2
variable {sg : Int32} {m : MS} {a b : Nat} {t u : TB} {NL NR : Nat → List Int32} {RS RU SS : Nat → List LB}
theorem sp_tab (hs : isOp sg) (hab : a < b) (ht : tabR m a t NL RS SS) (hu : tabR m b u NR RU SS) : tabR (m.spS sg a b) a (if t.rc = 0 then TB.s_rc u 0 else jsR sg u t u.rc) NR RU SS := by
  obtain ⟨⟨a1, a2⟩, ⟨a3, a4, a5, a6⟩, -, -, a9⟩ := ht
  obtain ⟨⟨b1, b2⟩, ⟨b3, b4, b5, b6⟩, b7, b8, b9⟩ := hu
  have nm : nmRe (m.spS sg a b) a u.nc NR := by
    refine ⟨(va_up_self _ _ _).trans b1.1, fun i hi => ?_⟩
    show seg m.tape (mvG m.nameFroms (6 * a) (6 * b) 6 (6 * a + i)) (mvG m.nameFroms (6 * a) (6 * b) 6 (6 * a + i) + mvG m.nameLengths (6 * a) (6 * b) 6 (6 * a + i)) = NR i
    rw [mv_at (by omega) 6 (Nat.le_refl _), mv_at (by omega) 6 (Nat.le_refl _), if_pos (by omega), if_pos (by omega), Nat.add_sub_cancel_left]
    exact b1.2 i hi
  by_cases c : t.rc = 0
  · rw [if_pos c]
    have et : (m.spS sg a b).tableRows a = 0 := by
      show va_up m.tableRows a (if 0 < m.tableRows a then m.tableRows b else 0) a = 0
      rw [va_up_self, a3, c]
      rfl
    exact ⟨⟨nm, b2⟩, ⟨et, Nat.zero_le _, b5, b6⟩, fun g => ⟨fun q hq => absurd hq (Nat.not_lt_zero q), fun x y _ hy => absurd hy (Nat.not_lt_zero y)⟩, fun _ => Nat.zero_le _, fun r hr => absurd hr (Nat.not_lt_zero r)⟩
  · rw [if_neg c]
    obtain ⟨k1, k2, k3⟩ := jsRn_k sg u t u.rc
    have en : (if 0 < m.tableRows a then m.tableRows b else 0) = u.rc := by rw [a3, if_pos (by omega), b3]
    have et : (m.spS sg a b).tableRows a = u.rc := by
      show va_up m.tableRows a (if 0 < m.tableRows a then m.tableRows b else 0) a = u.rc
      rw [va_up_self, en]
    have er : (m.spS sg a b).rowSeries = mvG m.rowSeries (256 * a) (256 * b) u.rc := by
      show mvG m.rowSeries (256 * a) (256 * b) (if 0 < m.tableRows a then m.tableRows b else 0) = _
      rw [en]
    have ei : (m.spS sg a b).isCell = (spG sg (m.isCell, m.cells) a b u.rc u.wi u.rc).1 := by
      show (spG sg (m.isCell, m.cells) a b (if 0 < m.tableRows a then m.tableRows b else 0) m.windows (if 0 < m.tableRows a then m.tableRows b else 0)).1 = _
      rw [en, b5]
    have ec : (m.spS sg a b).cells = (spG sg (m.isCell, m.cells) a b u.rc u.wi u.rc).2 := by
      show (spG sg (m.isCell, m.cells) a b (if 0 < m.tableRows a then m.tableRows b else 0) m.windows (if 0 < m.tableRows a then m.tableRows b else 0)).2 = _
      rw [en, b5]
    have h64 : u.wi ≤ 64 := by rw [b5]; exact b6
    have tw : t.wi = u.wi := a5.trans b5.symm
    obtain ⟨-, J⟩ := jsR_row (sg := sg) (t := t) (u := u) h64 u.rc
    obtain ⟨-, P⟩ := sp_row (sg := sg) (a := a) (b := b) (g := (m.isCell, m.cells)) (n := u.rc) (wi := u.wi) (by omega) h64 b4 u.rc (Nat.le_refl _)
    refine ⟨⟨by rw [k3]; exact nm, by rw [k3]; exact b2⟩, ⟨by rw [k2]; exact et, by rw [k2]; exact b4, k1.trans b5, b6⟩, fun g => ?_, fun g => ?_, fun r hr => ?_⟩
    · rw [k3] at g ⊢
      rw [k2, er]
      obtain ⟨g1, g2⟩ := b7 g
      refine ⟨fun q hq => ?_, g2⟩
      rw [mv_at (n := u.rc) (by omega) u.rc (Nat.le_refl _), if_pos (by omega), Nat.add_sub_cancel_left]
      exact g1 q hq
    · rw [k3] at g
      rw [k2]
      exact b8 g
    · rw [k2] at hr
      rw [ei, ec]
      obtain ⟨j1, j2⟩ := J r hr
      obtain ⟨c1, c2⟩ := jw_at (sg := sg) (both := t.th 0 &&& u.th r) (L := fun w => t.ce (0 * t.wi + w)) (R := fun w => u.ce (r * u.wi + w)) (f := u.ce) (b := r * u.wi) (k := u.wi) h64
      refine ⟨fun w hw => ?_, fun w h1 h2 => ?_⟩
      · rw [k1] at hw
        rw [k1]
        obtain ⟨p1, p2⟩ := P r (by omega) hr w hw
        obtain ⟨x1, x2⟩ := (a9 0 (by omega)).1 w (by rw [tw]; exact hw)
        obtain ⟨y1, y2⟩ := (b9 r hr).1 w hw
        have x1' : m.isCell (cA a 0 + w) = hasB (t.th 0) w := x1
        have y1' : m.isCell (cA b r + w) = hasB (u.th r) w := y1
        obtain ⟨q1, q2⟩ := jn_e hs (ia := hasB (t.th 0) w) (ib := hasB (u.th r) w) (both := t.th 0 &&& u.th r) (u := t.ce (0 * t.wi + w)) (y := m.cells (cA b r + w)) (y' := u.ce (r * u.wi + w)) (w := w) (by omega) (hb_and (by omega)) y2
        have p1' : (spG sg (m.isCell, m.cells) a b u.rc u.wi u.rc).1 ((a * 256 + r) * 64 + w) = jnB sg (m.isCell (cA a 0 + w)) (m.isCell (cA b r + w)) (m.cells (cA b r + w)) := p1
        have p2' : (spG sg (m.isCell, m.cells) a b u.rc u.wi u.rc).2 ((a * 256 + r) * 64 + w) = jnW sg (jnB sg (m.isCell (cA a 0 + w)) (m.isCell (cA b r + w)) (m.cells (cA b r + w))) (m.cells (cA a 0 + w)) (m.cells (cA b r + w)) := p2
        rw [x1', y1'] at p1' p2'
        rw [p1', p2', j1, c1 w (by omega), decide_eq_true hw, Bool.true_and]
        refine ⟨q1, fun z => ?_⟩
        have z' : jnB sg (hasB (t.th 0) w) (hasB (u.th r) w) (m.cells (cA b r + w)) = true := q1.trans z
        have z2 := z'
        unfold jnB at z2
        rw [Bool.and_eq_true, Bool.and_eq_true] at z2
        have xa : m.cells (cA a 0 + w) = t.ce (0 * t.wi + w) := x2 z2.1
        have yb : m.cells (cA b r + w) = u.ce (r * u.wi + w) := y2 z2.2.1
        rw [z', j2 w hw, c2, Nat.add_sub_cancel_left, if_pos ⟨by omega, by omega, z⟩, xa]
        have := q2 z'
        rw [yb] at this ⊢
        exact this
      · rw [k1] at h1
        rw [j1, c1 w h2, decide_eq_false (by omega)]
        rfl
end SP2
end
section
/-! Tables of the same names joined. -/
theorem jmO_p {lt : Nat → Bool} {rc p : Nat} (hp : p ≤ rc) (h : ∀ q, q < rc → (lt q = true ↔ q < p)) : ∀ (d o : Nat), p - o = d → o ≤ p → jmO lt rc (rc - o) o = p
  | 0, o, hd, ho => by
    have e : o = p := by omega
    subst e
    by_cases c : o < rc
    · exact jmO_n (by
        cases q : lt o with
        | false => rfl
        | true => exact absurd ((h o c).mp q) (Nat.lt_irrefl o))
    · exact jmO_z (by omega)
  | d + 1, o, hd, ho => by
    rw [jmO_y (by omega) ((h o (by omega)).mpr (by omega))]
    exact jmO_p hp h d (o + 1) (by omega) (by omega)
theorem mv_rw {g : jT} {a q r n : Nat} {z : TB} (hq : ¬ q = n) : (rwE g.1 g.2 a q z q → rwE g.1 g.2 a q (z.mv r n) q) ∧ (hiZ z q → hiZ (z.mv r n) q) := by
  have th : (z.mv r n).th q = z.th q := va_up_ne _ _ hq
  refine ⟨fun h w hw => ?_, fun h w h1 h2 => ?_⟩
  · have hw : w < z.wi := hw
    have cc : (z.mv r n).ce (q * (z.mv r n).wi + w) = z.ce (q * z.wi + w) := (cp_row hw).trans (if_neg hq)
    rw [th, cc]
    exact h w hw
  · rw [th]
    exact h w h1 h2
section FO
variable {m : MS} {a b s : Nat} {NL : Nat → List Int32} {nc : Nat} {SS : Nat → List LB} {rs : Nat → Nat} {n : Nat} {RU : Nat → List LB}
/-- the reference looks for a row with these values -/
theorem fo_p (hn : nmRe m a nc NL) (hx : txR m.texts m.textLengths m.seriesCount SS) (hg : ∀ q, q < m.seriesCount → serG (SS q)) (hs : s < m.seriesCount) (hr : ∀ q, q < n → rs (256 * b + q) < m.seriesCount ∧ RU q = SS (rs (256 * b + q))) {p : Nat} (hp : p ≤ n) (h1 : ∀ q, q < p → ¬ eqK NL nc (RU q) (SS s)) (h2 : p < n → eqK NL nc (RU p) (SS s)) : ∀ (w o v : Nat), o ≤ p → n + 1 ≤ w + o → (m.fo a s b rs n w o v).1 = p
  | 0, o, v, g1, g2 => by
    show o = p
    omega
  | w + 1, o, v, g1, g2 => by
    by_cases c : n ≤ o
    · rw [fo_e c]
      show o = p
      omega
    · obtain ⟨r1, r2⟩ := hr o (by omega)
      have gO := hg _ r1
      have gS := hg s hs
      have e : ((MS.s_valueLength m v).cr a s (rs (256 * b + o))).1 = cmT NL nc (SS s) (SS (rs (256 * b + o))) := cr_eq (x := MS.s_valueLength m v) hn hx hs r1 gS gO
      have eq0 : cmT NL nc (SS s) (SS (rs (256 * b + o))) = 0 ↔ eqK NL nc (RU o) (SS s) := by
        rw [cmT_eq gS gO, r2]
        exact ⟨fun z i hi => (z i hi).symm, fun z i hi => (z i hi).symm⟩
      by_cases d : o = p
      · subst d
        rw [fo_y (Nat.succ_pos w) c (by rw [e]; exact eq0.mpr (h2 (by omega)))]
      · rw [fo_n (Nat.succ_pos w) c (by rw [e]; exact fun z => h1 o (by omega) (eq0.mp z))]
        exact fo_p hn hx hg hs hr hp h1 h2 w (o + 1) _ (by omega) (by omega)
end FO
section ME
variable {sg : Int32} {m : MS} {a b : Nat} {t u : TB} {NL : Nat → List Int32} {RS RU SS : Nat → List LB}
def meQ (sg : Int32) (m : MS) (a b : Nat) (t u : TB) (NL : Nat → List Int32) (RS RU : Nat → List LB) (r : Nat) (φ : Nat → Nat) (M : meT) (J : Nat × Nat × TB) : Prop :=
  (M.1 = J.1 ∧ jmK t r J.1 J.2.2) ∧ ((∀ q, q < J.1 → φ q < r ∧ J.2.2.rs q = t.rs (φ q)) ∧ (∀ x y, x < y → y < J.1 → φ x < φ y)) ∧ ((∀ q, q < J.1 → M.2.2.1 (256 * a + q) = m.rowSeries (256 * a + φ q)) ∧ ∀ q, (q < 256 * a ∨ 256 * a + J.1 ≤ q) → M.2.2.1 q = m.rowSeries q) ∧ (∀ q, (q < J.1 ∨ r ≤ q) → q < t.rc → rwE M.2.1.1 M.2.1.2 a q J.2.2 q ∧ hiZ J.2.2 q) ∧ (∀ q, (q < a * 256 * 64 ∨ a * 256 * 64 + 256 * 64 ≤ q) → M.2.1.1 q = m.isCell q ∧ M.2.1.2 q = m.cells q) ∧ J.2.1 ≤ u.rc ∧ ∀ q, q < J.2.1 → ∀ r', r ≤ r' → r' < t.rc → ltK NL t.nc (RU q) (RS r')
theorem me_jm (hs : isOp sg) (hab : a < b) (ht : tabR m a t NL RS SS) (hu : tabR m b u NL RU SS) (hn : u.nc = t.nc) (hnc : 0 < t.nc) (hx : txR m.texts m.textLengths m.seriesCount SS) (hg : ∀ q, q < m.seriesCount → serG (SS q)) : ∀ r, r ≤ t.rc → ∃ φ, meQ sg m a b t u NL RS RU r φ (m.meG sg a b r) (jmG sg NL t u RS RU r)
  | 0, _ => ⟨fun _ => 0, ⟨rfl, rfl, rfl, rfl, Nat.le_refl 0, rfl, rfl, rfl, fun _ _ => rfl⟩, ⟨fun q hq => absurd hq (Nat.not_lt_zero q), fun x y _ hy => absurd hy (Nat.not_lt_zero y)⟩, ⟨fun q hq => absurd hq (Nat.not_lt_zero q), fun _ _ => rfl⟩, fun q _ hq => ht.2.2.2.2 q hq, fun _ _ => ⟨rfl, rfl⟩, Nat.zero_le _, fun q hq => absurd hq (Nat.not_lt_zero q)⟩
  | r + 1, hr => by
    obtain ⟨φ, ih⟩ := me_jm hs hab ht hu hn hnc hx hg r (by omega)
    have eJ : jmG sg NL t u RS RU (r + 1) = jmS sg NL t.nc u RS RU r (jmG sg NL t u RS RU r).1 (jmG sg NL t u RS RU r).2.1 (jmG sg NL t u RS RU r).2.2 := rfl
    obtain ⟨⟨n, g, rs, v⟩, eM⟩ : ∃ M, m.meG sg a b r = M := ⟨_, rfl⟩
    obtain ⟨⟨n', o, z⟩, eG⟩ : ∃ J, jmG sg NL t u RS RU r = J := ⟨_, rfl⟩
    rw [eM, eG] at ih
    rw [eG] at eJ
    obtain ⟨⟨i1, i2⟩, ⟨i3, i4⟩, ⟨i5, i6⟩, i7, i8, i9, i10⟩ := ih
    have i1 : n = n' := i1
    subst i1
    have i2 : jmK t r n z := i2
    have i3r : ∀ q, q < n → z.rs q = t.rs (φ q) := fun q hq => (i3 q hq).2
    have i3 : ∀ q, q < n → φ q < r := fun q hq => (i3 q hq).1
    have i4 : ∀ x y, x < y → y < n → φ x < φ y := i4
    have i5 : ∀ q, q < n → rs (256 * a + q) = m.rowSeries (256 * a + φ q) := i5
    have i6 : ∀ q, (q < 256 * a ∨ 256 * a + n ≤ q) → rs q = m.rowSeries q := i6
    have i7 : ∀ q, (q < n ∨ r ≤ q) → q < t.rc → rwE g.1 g.2 a q z q ∧ hiZ z q := i7
    have i8 : ∀ q, (q < a * 256 * 64 ∨ a * 256 * 64 + 256 * 64 ≤ q) → g.1 q = m.isCell q ∧ g.2 q = m.cells q := i8
    have i9 : o ≤ u.rc := i9
    have i10 : ∀ q, q < o → ∀ r', r ≤ r' → r' < t.rc → ltK NL t.nc (RU q) (RS r') := i10
    have eJ : jmG sg NL t u RS RU (r + 1) = jmS sg NL t.nc u RS RU r n o z := eJ
    obtain ⟨z1, z2, z3, z4, z5, z6, z7, z8⟩ := i2
    obtain ⟨ta, tsrt⟩ := ht.2.2.1 hnc
    obtain ⟨ua, usrt⟩ := hu.2.2.1 (by rw [hn]; exact hnc)
    rw [hn] at usrt
    have t256 := ht.2.1.2.1
    have u256 := hu.2.1.2.1
    have ub : m.tableRows b = u.rc := hu.2.1.1
    obtain ⟨s1, s2⟩ := ta r (by omega)
    have es : rs (256 * a + r) = m.rowSeries (256 * a + r) := i6 _ (Or.inr (by omega))
    obtain ⟨s, eS⟩ : ∃ s, s = m.rowSeries (256 * a + r) := ⟨_, rfl⟩
    rw [← eS] at s1 s2 es
    have gRU : ∀ q, q < u.rc → serG (RU q) := fun q hq => by rw [(ua q hq).2]; exact hg _ (ua q hq).1
    have gS : serG (RS r) := by rw [s2]; exact hg s s1
    obtain ⟨p1, p2⟩ := pl_thr usrt gRU gS u256
    obtain ⟨p, ep⟩ : ∃ p, p = plT NL t.nc u.rc RU (RS r) := ⟨_, rfl⟩
    rw [← ep] at p1 p2
    have op : o ≤ p := by
      by_cases c : o ≤ p
      · exact c
      · have := (p2 p (by omega)).mp (i10 p (by omega) r (Nat.le_refl r) (by omega))
        omega
    have eq : jmQ NL t.nc u RU (RS r) o = p := jmO_p p1 (fun q hq => (ltT_K gRU gS hq).trans (p2 q hq)) _ o rfl op
    have nx : ∀ q, q < p → ∀ r', r + 1 ≤ r' → r' < t.rc → ltK NL t.nc (RU q) (RS r') := fun q hq r' h1 h2 => ltK_tr ((p2 q (by omega)).mpr hq) (tsrt r r' (by omega) h2)
    have hrb : ∀ q, q < m.tableRows b → rs (256 * b + q) < m.seriesCount ∧ RU q = SS (rs (256 * b + q)) := fun q hq => by
      rw [ub] at hq
      rw [i6 _ (Or.inr (by omega))]
      exact ua q hq
    have hlow : ∀ q, q < p → ¬ eqK NL t.nc (RU q) (SS s) := fun q hq e => by
      have := (p2 q (by omega)).mpr hq
      rw [s2] at this
      exact ltK_irr (ltK_e2 (fun i hi => (e i hi).symm) this)
    by_cases c : p < u.rc ∧ cmT NL t.nc (RU p) (RS r) = 0
    · have ek : eqK NL t.nc (RU p) (SS s) := by
        have := (cmT_eq (gRU p c.1) gS).mp c.2
        rw [s2] at this
        exact this
      have ef := fo_p (hn := ht.1.1) hx hg s1 hrb (p := p) (by rw [ub]; exact p1) hlow (fun _ => ek) (m.tableRows b + 1) 0 v (Nat.zero_le _) (by omega)
      obtain ⟨v2, ef2⟩ : ∃ v2, m.fo a (rs (256 * a + r)) b rs (m.tableRows b) (m.tableRows b + 1) 0 v = (p, v2) := ⟨_, by rw [es]; exact Prod.ext ef rfl⟩
      rw [me_s eM ef2, eJ, jmS_y eq c.1 c.2]
      have em2 : m.me2 sg a b r n g rs p v2 = (n + 1, jrG sg g (cA a n) (cA a r) (cA b p) m.windows, va_up rs (256 * a + n) (rs (256 * a + r)), v2) := if_neg (by rw [ub]; omega)
      have wz : (z.mv r n).wi = m.windows := z1.trans ht.2.1.2.2.1
      rw [em2, ← wz]
      have A : rwF g.1 g.2 ((a * 256 + r) * 64) (z.mv r n).wi ((z.mv r n).th n) (fun w => (z.mv r n).ce (n * (z.mv r n).wi + w)) := fun w hw => by
        have hw : w < z.wi := hw
        have e1 : (z.mv r n).th n = z.th r := va_up_self _ _ _
        have e2 : (z.mv r n).ce (n * (z.mv r n).wi + w) = z.ce (r * z.wi + w) := (cp_row hw).trans (if_pos rfl)
        rw [e1]
        show _ ∧ (_ → _ = (z.mv r n).ce (n * (z.mv r n).wi + w))
        rw [e2]
        exact (i7 r (Or.inr (Nat.le_refl r)) (by omega)).1 w hw
      have B : rwF g.1 g.2 ((b * 256 + p) * 64) (z.mv r n).wi (u.th p) (fun w => u.ce (p * u.wi + w)) := fun w hw => by
        rw [wz] at hw
        have w64 := ht.2.1.2.2.2
        obtain ⟨o1, o2⟩ := i8 ((b * 256 + p) * 64 + w) (by omega)
        rw [o1, o2]
        exact (hu.2.2.2.2 p c.1).1 w (by rw [hu.2.1.2.2.1]; exact hw)
      obtain ⟨j1, j2, j3⟩ := jr_T (z := z.mv r n) (r := n) hs (by rw [wz]; exact ht.2.1.2.2.2) (show ¬ a = b by omega) ⟨by omega, by omega, by omega⟩ A B
      refine ⟨va_up φ n r, ⟨rfl, jmK_y ⟨z1, z2, z3, z4, z5, z6, z7, z8⟩⟩, ⟨fun q hq => ?_, fun x y hxy hy => ?_⟩, ⟨fun q hq => ?_, fun q hq => ?_⟩, fun q hq hl => ?_, fun q hq => ?_, by show p ≤ u.rc; exact p1, nx⟩
      · have hq : q < n + 1 := hq
        show va_up φ n r q < r + 1 ∧ va_up z.rs n (z.rs r) q = t.rs (va_up φ n r q)
        by_cases e : q = n
        · rw [e, va_up_self, va_up_self]
          exact ⟨by omega, z8 r (Nat.le_refl r)⟩
        · rw [va_up_ne _ _ e, va_up_ne _ _ e]
          have := i3 q (by omega)
          exact ⟨by omega, i3r q (by omega)⟩
      · have hy : y < n + 1 := hy
        rw [va_up_ne _ _ (show ¬ x = n by omega)]
        by_cases e : y = n
        · rw [e, va_up_self]; exact i3 x (by omega)
        · rw [va_up_ne _ _ e]; exact i4 x y hxy (by omega)
      · have hq : q < n + 1 := hq
        show va_up rs (256 * a + n) (rs (256 * a + r)) (256 * a + q) = m.rowSeries (256 * a + va_up φ n r q)
        by_cases e : q = n
        · rw [e, va_up_self, va_up_self, es, eS]
        · rw [va_up_ne _ _ e, va_up_ne _ _ (by omega)]; exact i5 q (by omega)
      · have hq : q < 256 * a ∨ 256 * a + (n + 1) ≤ q := hq
        show va_up rs (256 * a + n) (rs (256 * a + r)) q = _
        rw [va_up_ne _ _ (by omega)]
        exact i6 q (by omega)
      · have hq : q < n + 1 ∨ r + 1 ≤ q := hq
        show rwE (jrG sg g (cA a n) (cA a r) (cA b p) (z.mv r n).wi).1 (jrG sg g (cA a n) (cA a r) (cA b p) (z.mv r n).wi).2 a q (TB.jrl sg (z.mv r n) u n p n) q ∧ hiZ (TB.jrl sg (z.mv r n) u n p n) q
        unfold TB.jrl
        by_cases e : q = n
        · rw [e]; exact j1
        · obtain ⟨x1, x2⟩ := j2 q e
          obtain ⟨y1, y2⟩ := i7 q (by omega) hl
          obtain ⟨m1, m2⟩ := mv_rw (g := g) (a := a) (q := q) (r := r) (n := n) (z := z) e
          exact ⟨x1 (m1 y1), x2 (m2 y2)⟩
      · obtain ⟨o1, o2⟩ := j3 q (ix_out (Nat.lt_of_le_of_lt z4 (Nat.lt_of_lt_of_le hr t256)) hq)
        obtain ⟨p1, p2⟩ := i8 q hq
        exact ⟨o1.trans p1, o2.trans p2⟩
    · have hup : ∀ q, q < u.rc → ¬ eqK NL t.nc (RU q) (SS s) := fun q hq e => by
        have e' : eqK NL t.nc (RU q) (RS r) := by rw [s2]; exact e
        have := (pl_row usrt gRU gS u256 hq e').1
        rw [← ep] at this
        exact c ⟨by omega, by rw [this]; exact (cmT_eq (gRU q hq) gS).mpr e'⟩
      have ef := fo_p (hn := ht.1.1) hx hg s1 hrb (p := m.tableRows b) (Nat.le_refl _) (fun q hq => hup q (by rw [← ub]; exact hq)) (fun z => absurd z (Nat.lt_irrefl _)) (m.tableRows b + 1) 0 v (Nat.zero_le _) (by omega)
      obtain ⟨v2, ef2⟩ : ∃ v2, m.fo a (rs (256 * a + r)) b rs (m.tableRows b) (m.tableRows b + 1) 0 v = (m.tableRows b, v2) := ⟨_, by rw [es]; exact Prod.ext ef rfl⟩
      have ejs : jmS sg NL t.nc u RS RU r n o z = (n, p, z) := by
        unfold jmS
        rw [eq, if_neg c]
      rw [me_s eM ef2, eJ, ejs, show m.me2 sg a b r n g rs (m.tableRows b) v2 = (n, g, rs, v2) from if_pos rfl]
      refine ⟨φ, ⟨rfl, jmK_n ⟨z1, z2, z3, z4, z5, z6, z7, z8⟩⟩, ⟨fun q hq => ⟨by have := i3 q hq; omega, i3r q hq⟩, i4⟩, ⟨i5, i6⟩, fun q hq hl => i7 q (hq.imp id (fun y => by omega)) hl, i8, p1, nx⟩
theorem me_tab (hs : isOp sg) (hab : a < b) (ht : tabR m a t NL RS SS) (hu : tabR m b u NL RU SS) (hn : u.nc = t.nc) (hnc : 0 < t.nc) (hx : txR m.texts m.textLengths m.seriesCount SS) (hg : ∀ q, q < m.seriesCount → serG (SS q)) : ∃ φ : Nat → Nat, tabR (m.meS sg a b) a (TB.s_rc (jmG sg NL t u RS RU t.rc).2.2 (jmG sg NL t u RS RU t.rc).1) NL (fun q => RS (φ q)) SS ∧ (∀ q, q < (jmG sg NL t u RS RU t.rc).1 → φ q < t.rc ∧ (jmG sg NL t u RS RU t.rc).2.2.rs q = t.rs (φ q)) ∧ jmK t t.rc (jmG sg NL t u RS RU t.rc).1 (jmG sg NL t u RS RU t.rc).2.2 := by
  obtain ⟨φ, ⟨i1, z1, z2, z3, z4, z5, z6, z7, z8⟩, ⟨i3, i4⟩, ⟨i5, i6⟩, i7, i8, -, -⟩ := me_jm hs hab ht hu hn hnc hx hg t.rc (Nat.le_refl _)
  have i3b := i3
  have i3 : ∀ q, q < (jmG sg NL t u RS RU t.rc).1 → φ q < t.rc := fun q hq => (i3b q hq).1
  have ra : m.tableRows a = t.rc := ht.2.1.1
  have et : (m.meS sg a b).tableRows a = (jmG sg NL t u RS RU t.rc).1 := by
    show va_up m.tableRows a (m.meG sg a b (m.tableRows a)).1 a = _
    rw [va_up_self, ra]
    exact i1
  have er : (m.meS sg a b).rowSeries = (m.meG sg a b t.rc).2.2.1 := by
    show (m.meG sg a b (m.tableRows a)).2.2.1 = _
    rw [ra]
  have ei : (m.meS sg a b).isCell = (m.meG sg a b t.rc).2.1.1 := by
    show (m.meG sg a b (m.tableRows a)).2.1.1 = _
    rw [ra]
  have ec : (m.meS sg a b).cells = (m.meG sg a b t.rc).2.1.2 := by
    show (m.meG sg a b (m.tableRows a)).2.1.2 = _
    rw [ra]
  have t256 := ht.2.1.2.1
  refine ⟨φ, ⟨⟨by show nmRe m a (jmG sg NL t u RS RU t.rc).2.2.nc NL; rw [z6]; exact ht.1.1, by show (jmG sg NL t u RS RU t.rc).2.2.nc ≤ 6; rw [z6]; exact ht.1.2⟩, ⟨et, by show (jmG sg NL t u RS RU t.rc).1 ≤ 256; omega, z1.trans ht.2.1.2.2.1, ht.2.1.2.2.2⟩, fun _ => ?_, fun g => ?_, fun r hr => ?_⟩, i3b, z1, z2, z3, z4, z5, z6, z7, z8⟩
  · show (∀ q, q < (jmG sg NL t u RS RU t.rc).1 → (m.meS sg a b).rowSeries (256 * a + q) < m.seriesCount ∧ RS (φ q) = SS ((m.meS sg a b).rowSeries (256 * a + q))) ∧ srtR NL (jmG sg NL t u RS RU t.rc).2.2.nc (jmG sg NL t u RS RU t.rc).1 (fun q => RS (φ q))
    rw [z6, er]
    obtain ⟨g1, g2⟩ := ht.2.2.1 hnc
    refine ⟨fun q hq => ?_, fun x y hxy hy => g2 _ _ (i4 x y hxy hy) (i3 y hy)⟩
    rw [i5 q hq]
    exact g1 _ (i3 q hq)
  · have g : (jmG sg NL t u RS RU t.rc).2.2.nc = 0 := g
    rw [z6] at g
    omega
  · rw [ei, ec]
    exact i7 r (Or.inl hr) (by have hr : r < (jmG sg NL t u RS RU t.rc).1 := hr; omega)
end ME
end
section
/-! Numbers and turns; two tables without names; what other tables keep. -/
theorem filG_at {α : Type} (f : Nat → α) (b : Nat) (v : α) : ∀ k q, filG f b v k q = if b ≤ q ∧ q < b + k then v else f q
  | 0, q => by rw [if_neg (by omega)]; rfl
  | k + 1, q => by
    show (if q = b + k then v else filG f b v k q) = _
    by_cases e : q = b + k
    · rw [if_pos e, if_pos (by omega)]
    · rw [if_neg e, filG_at f b v k q]
      exact if_cg (by omega) rfl rfl
theorem ngW_at (f : Nat → Int64) (b : Nat) : ∀ k q, ngW f b k q = if b ≤ q ∧ q < b + k then -(f q) else f q
  | 0, q => by rw [if_neg (by omega)]; rfl
  | k + 1, q => by
    show (if q = b + k then -(ngW f b k (b + k)) else ngW f b k q) = _
    by_cases e : q = b + k
    · rw [if_pos e, ngW_at f b k (b + k), if_neg (by omega), if_pos (by omega), e]
    · rw [if_neg e, ngW_at f b k q]
      exact if_cg (by omega) rfl rfl
theorem ngR_at (f : Nat → Int64) {t n : Nat} (hn : n ≤ 64) : ∀ r, (∀ q w, q < r → w < n → ngR f t n r ((t * 256 + q) * 64 + w) = -(f ((t * 256 + q) * 64 + w))) ∧ ∀ q, (q < t * 256 * 64 ∨ (t * 256 + r) * 64 ≤ q) → ngR f t n r q = f q
  | 0 => ⟨fun q w hq => absurd hq (Nat.not_lt_zero q), fun q _ => rfl⟩
  | r + 1 => by
    obtain ⟨i1, i2⟩ := ngR_at f (t := t) hn r
    have e : ngR f t n (r + 1) = ngW (ngR f t n r) (cA t r) n := rfl
    rw [e]
    refine ⟨fun q w hq hw => ?_, fun q hq => ?_⟩
    · rw [ngW_at]
      by_cases c : q = r
      · subst c
        rw [if_pos (by unfold cA; omega), i2 _ (Or.inr (by omega))]
      · rw [if_neg (by unfold cA; omega), i1 q w (by omega) hw]
    · rw [ngW_at, if_neg (by unfold cA; omega), i2 q (by omega)]
theorem tnG_in (f : Nat → Int64) : ∀ {i q : Nat}, q < i → tnG f i q = -(f q)
  | i + 1, q, h => by
    show va_up (tnG f i) i (-(f i)) q = _
    by_cases e : q = i
    · rw [e, va_up_self]
    · rw [va_up_ne _ _ e, tnG_in f (by omega)]
theorem mk_at {t : TB} {v : Int64} (h64 : t.wi ≤ 64) : ∀ k, k ≤ t.wi → (∀ w, w < 64 → hasB ((mkG t v k).th 0) w = (hasB (t.th 0) w || decide (w < k))) ∧ ∀ w, w < k → (mkG t v k).ce (0 * t.wi + w) = v
  | 0, _ => ⟨fun w _ => by rw [decide_eq_false (Nat.not_lt_zero w), Bool.or_false]; rfl, fun w hw => absurd hw (Nat.not_lt_zero w)⟩
  | k + 1, hk => by
    obtain ⟨i1, i2⟩ := mk_at (v := v) h64 k (by omega)
    obtain ⟨k1, -⟩ := mkG_k t v k
    refine ⟨fun w hw => ?_, fun w hw => ?_⟩
    · show hasB (va_up (mkG t v k).th 0 ((mkG t v k).th 0 ||| bitL k) 0) w = _
      rw [va_up_self, hb_or (by omega) hw, i1 w hw, Bool.or_assoc]
      congr 1
      by_cases c : w < k
      · rw [decide_eq_true c, decide_eq_true (show w < k + 1 by omega)]; rfl
      · by_cases d : k = w
        · rw [decide_eq_true d, Bool.or_true, decide_eq_true (by omega)]
        · rw [decide_eq_false c, decide_eq_false d, decide_eq_false (by omega)]; rfl
    · show va_up (mkG t v k).ce (0 * (mkG t v k).wi + k) v (0 * t.wi + w) = v
      rw [k1]
      by_cases c : w = k
      · rw [c, va_up_self]
      · rw [va_up_ne _ _ (by omega)]
        exact i2 w (by omega)
theorem num_nc (t : TB) (v : Int64) (n : Nat) : (t.num v n).nc = 0 ∧ (t.num v n).rc = 1 ∧ (t.num v n).wi = n := by
  have : ∀ k, (mkG (TB.cl (TB.s_rc (TB.s_wi (TB.s_nc t 0) n) 1)) v k).nc = 0 := fun k => by
    induction k with
    | zero => rfl
    | succ k ih => exact ih
  obtain ⟨k1, k2, -⟩ := mkG_k (TB.cl (TB.s_rc (TB.s_wi (TB.s_nc t 0) n) 1)) v n
  exact ⟨this n, k2, k1⟩
section NB
variable {m : MS} {tb : Nat} {t u : TB} {NL NR : Nat → List Int32} {RS RU SS : Nat → List LB}
/-- a number -/
theorem nb_tab (h64 : m.windows ≤ 64) (t : TB) (NL : Nat → List Int32) (RS SS : Nat → List LB) : tabR m.nbS m.pile (t.num m.amount m.windows) NL RS SS := by
  obtain ⟨n1, n2, n3⟩ := num_nc t m.amount m.windows
  obtain ⟨a1, a2⟩ := mk_at (t := TB.cl (TB.s_rc (TB.s_wi (TB.s_nc t 0) m.windows) 1)) (v := m.amount) h64 m.windows (Nat.le_refl _)
  have z0 : (TB.cl (TB.s_rc (TB.s_wi (TB.s_nc t 0) m.windows) 1)).th 0 = 0 := filG_z _ _ (show 0 < 1 from Nat.one_pos)
  refine ⟨⟨⟨by rw [n1]; exact va_up_self _ _ _, fun i hi => by rw [n1] at hi; exact absurd hi (Nat.not_lt_zero i)⟩, by omega⟩, ⟨by rw [n2]; exact va_up_self _ _ _, by omega, n3, h64⟩, fun g => by omega, fun _ => by omega, fun r hr => ?_⟩
  rw [n2] at hr
  have e : r = 0 := by omega
  subst e
  refine ⟨fun w hw => ?_, fun w h1 h2 => ?_⟩
  · rw [n3] at hw
    rw [n3]
    show filG m.isCell (cA m.pile 0) true m.windows ((m.pile * 256 + 0) * 64 + w) = hasB ((mkG _ m.amount m.windows).th 0) w ∧ (_ → filG m.cells (cA m.pile 0) m.amount m.windows ((m.pile * 256 + 0) * 64 + w) = (mkG _ m.amount m.windows).ce (0 * m.windows + w))
    rw [filG_at, filG_at, if_pos (by unfold cA; omega), if_pos (by unfold cA; omega), a1 w (by omega), decide_eq_true hw, Bool.or_true]
    exact ⟨rfl, fun _ => (a2 w hw).symm⟩
  · rw [n3] at h1
    show hasB ((mkG _ m.amount m.windows).th 0) w = false
    rw [a1 w h2, z0, hb_0 h2, decide_eq_false (by omega)]
    rfl
/-- turned -/
theorem ng_tab (h : tabR m (m.pile - 1) t NL RS SS) : tabR m.ngS (m.pile - 1) (TB.s_ce t (tnG t.ce (t.rc * t.wi))) NL RS SS := by
  obtain ⟨h1, ⟨h2, h3, h4, h5⟩, h6, h7, h8⟩ := h
  obtain ⟨g1, -⟩ := ngR_at m.cells (t := m.pile - 1) h5 t.rc
  refine ⟨h1, ⟨h2, h3, h4, h5⟩, h6, h7, fun r hr => ?_⟩
  have hr : r < t.rc := hr
  obtain ⟨r1, r2⟩ := h8 r hr
  refine ⟨fun w hw => ?_, r2⟩
  have hw : w < t.wi := hw
  obtain ⟨c1, c2⟩ := r1 w hw
  refine ⟨c1, fun z => ?_⟩
  show ngR m.cells (m.pile - 1) m.windows (m.tableRows (m.pile - 1)) (((m.pile - 1) * 256 + r) * 64 + w) = tnG t.ce (t.rc * t.wi) (r * t.wi + w)
  have lt : r * t.wi + w < t.rc * t.wi := by
    have : (r + 1) * t.wi ≤ t.rc * t.wi := Nat.mul_le_mul_right _ hr
    rw [Nat.succ_mul] at this
    omega
  rw [h2, g1 r w hr (by rw [← h4]; exact hw), tnG_in t.ce lt, c2 z]
/-- two tables without names -/
theorem j0_tab {sg : Int32} {a b : Nat} (hs : isOp sg) (hab : a < b) (ht : tabR m a t NL RS SS) (hu : tabR m b u NR RU SS) (hn : t.nc = 0) (hn2 : u.nc = 0) : tabR (m.meS sg a b) a (if t.rc = 1 ∧ u.rc = 1 then TB.s_rc (TB.jrl sg (t.mv 0 0) u 0 0 0) 1 else TB.s_rc t 0) NL RS SS := by
  have ra : m.tableRows a = t.rc := ht.2.1.1
  have rb : m.tableRows b = u.rc := hu.2.1.1
  have tn : m.tableNames a = 0 := ht.1.1.1.trans hn
  have t1 := ht.2.2.2.1 hn
  have u1 := hu.2.2.2.1 hn2
  have w64 := ht.2.1.2.2.2
  have z0 : tabR (m.meS sg a b) a (TB.s_rc t 0) NL RS SS ∨ (m.meG sg a b t.rc).1 ≠ 0 := by
    by_cases c : (m.meG sg a b t.rc).1 = 0
    · refine Or.inl ⟨ht.1, ⟨?_, Nat.zero_le _, ht.2.1.2.2⟩, fun g => ⟨fun q hq => absurd hq (Nat.not_lt_zero q), fun x y _ hy => absurd hy (Nat.not_lt_zero y)⟩, fun _ => Nat.zero_le _, fun r hr => absurd hr (Nat.not_lt_zero r)⟩
      show va_up m.tableRows a (m.meG sg a b (m.tableRows a)).1 a = 0
      rw [va_up_self, ra]
      exact c
    · exact Or.inr c
  have m0 : m.meG sg a b 0 = (0, (m.isCell, m.cells), m.rowSeries, m.valueLength) := rfl
  by_cases c : t.rc = 1 ∧ u.rc = 1
  · rw [if_pos c]
    have cr0 : ((MS.s_valueLength m m.valueLength).cr a (m.rowSeries (256 * a + 0)) (m.rowSeries (256 * b + 0))).1 = 0 := by
      show (crG _ _ (m.tableNames a) 0 m.valueLength).1 = 0
      rw [tn]
      rfl
    obtain ⟨v2, ef⟩ : ∃ v2, m.fo a (m.rowSeries (256 * a + 0)) b m.rowSeries (m.tableRows b) (m.tableRows b + 1) 0 m.valueLength = (0, v2) := ⟨_, fo_y (Nat.succ_pos _) (by rw [rb]; omega) cr0⟩
    have e1 := me_s m0 ef
    rw [show m.me2 sg a b 0 0 (m.isCell, m.cells) m.rowSeries 0 v2 = (0 + 1, jrG sg (m.isCell, m.cells) (cA a 0) (cA a 0) (cA b 0) m.windows, va_up m.rowSeries (256 * a + 0) (m.rowSeries (256 * a + 0)), v2) from if_neg (by rw [rb]; omega)] at e1
    have e1 : m.meG sg a b 1 = (1, jrG sg (m.isCell, m.cells) (cA a 0) (cA a 0) (cA b 0) m.windows, va_up m.rowSeries (256 * a + 0) (m.rowSeries (256 * a + 0)), v2) := e1
    have wz : (t.mv 0 0).wi = m.windows := ht.2.1.2.2.1
    have A : rwF (m.isCell, m.cells).1 (m.isCell, m.cells).2 ((a * 256 + 0) * 64) (t.mv 0 0).wi ((t.mv 0 0).th 0) (fun w => (t.mv 0 0).ce (0 * (t.mv 0 0).wi + w)) := fun w hw => by
      have hw : w < t.wi := hw
      have x1 : (t.mv 0 0).th 0 = t.th 0 := by
        show va_up t.th 0 (t.th 0) 0 = t.th 0
        exact va_up_self t.th 0 (t.th 0)
      have x2 : (t.mv 0 0).ce (0 * (t.mv 0 0).wi + w) = t.ce (0 * t.wi + w) := (cp_row hw).trans (if_pos rfl)
      rw [x1]
      show _ ∧ (_ → _ = (t.mv 0 0).ce (0 * (t.mv 0 0).wi + w))
      rw [x2]
      exact (ht.2.2.2.2 0 (by omega)).1 w hw
    have B : rwF (m.isCell, m.cells).1 (m.isCell, m.cells).2 ((b * 256 + 0) * 64) (t.mv 0 0).wi (u.th 0) (fun w => u.ce (0 * u.wi + w)) := fun w hw => (hu.2.2.2.2 0 (by omega)).1 w (by rw [hu.2.1.2.2.1, ← wz]; exact hw)
    obtain ⟨j1, -, -⟩ := jr_T (g := (m.isCell, m.cells)) (z := t.mv 0 0) (r := 0) hs (by rw [wz]; exact w64) (show ¬ a = b by omega) ⟨by omega, by omega, by omega⟩ A B
    refine ⟨ht.1, ⟨?_, by show 1 ≤ 256; omega, ht.2.1.2.2⟩, fun g => by have g : 0 < t.nc := g; omega, fun _ => Nat.le_refl 1, fun r hr => ?_⟩
    · show va_up m.tableRows a (m.meG sg a b (m.tableRows a)).1 a = 1
      rw [va_up_self, ra, c.1, e1]
    · have hr : r < 1 := hr
      have e : r = 0 := by omega
      subst e
      have ei : (m.meS sg a b).isCell = (jrG sg (m.isCell, m.cells) (cA a 0) (cA a 0) (cA b 0) m.windows).1 := by
        show (m.meG sg a b (m.tableRows a)).2.1.1 = _
        rw [ra, c.1, e1]
      have ec : (m.meS sg a b).cells = (jrG sg (m.isCell, m.cells) (cA a 0) (cA a 0) (cA b 0) m.windows).2 := by
        show (m.meG sg a b (m.tableRows a)).2.1.2 = _
        rw [ra, c.1, e1]
      rw [ei, ec, ← wz]
      exact j1
  · rw [if_neg c]
    refine z0.resolve_right (fun z => z ?_)
    by_cases d : t.rc = 0
    · rw [d]
      rfl
    · have d1 : t.rc = 1 := by omega
      have d2 : u.rc = 0 := by omega
      have ef : m.fo a (m.rowSeries (256 * a + 0)) b m.rowSeries (m.tableRows b) (m.tableRows b + 1) 0 m.valueLength = (0, m.valueLength) := fo_e (by rw [rb, d2]; exact Nat.le_refl 0)
      have e1 := me_s m0 ef
      rw [show m.me2 sg a b 0 0 (m.isCell, m.cells) m.rowSeries 0 m.valueLength = (0, (m.isCell, m.cells), m.rowSeries, m.valueLength) from if_pos (by rw [rb, d2])] at e1
      rw [d1]
      show (m.meG sg a b (0 + 1)).1 = 0
      rw [e1]
end NB
end
section
/-! What the other tables keep. -/
def tabO (m m' : MS) (a : Nat) : Prop := (m'.tape = m.tape ∧ m'.windows = m.windows ∧ m'.seriesCount = m.seriesCount) ∧ (∀ q, ¬ q = a → m'.tableNames q = m.tableNames q ∧ m'.tableRows q = m.tableRows q) ∧ (∀ q, (q < 6 * a ∨ 6 * a + 6 ≤ q) → m'.nameFroms q = m.nameFroms q ∧ m'.nameLengths q = m.nameLengths q) ∧ (∀ q, (q < 256 * a ∨ 256 * a + 256 ≤ q) → m'.rowSeries q = m.rowSeries q) ∧ ∀ q, (q < a * 256 * 64 ∨ a * 256 * 64 + 256 * 64 ≤ q) → m'.isCell q = m.isCell q ∧ m'.cells q = m.cells q
section TO
variable {m m' m'' : MS} {a tb : Nat} {t : TB} {NL : Nat → List Int32} {RS SS : Nat → List LB}
theorem tab_o (h : tabO m m' a) (hne : ¬ tb = a) (ht : tabR m tb t NL RS SS) : tabR m' tb t NL RS SS := by
  obtain ⟨⟨o1, o2, o3⟩, o4, o5, o6, o7⟩ := h
  obtain ⟨⟨h1, h2⟩, ⟨h3, h4, h5, h6⟩, h7, h8, h9⟩ := ht
  refine ⟨⟨⟨(o4 tb hne).1.trans h1.1, fun i hi => ?_⟩, h2⟩, ⟨(o4 tb hne).2.trans h3, h4, by rw [o2]; exact h5, by rw [o2]; exact h6⟩, fun g => ?_, h8, fun r hr => ?_⟩
  · obtain ⟨p1, p2⟩ := o5 (6 * tb + i) (by omega)
    rw [o1, p1, p2]
    exact h1.2 i hi
  · obtain ⟨g1, g2⟩ := h7 g
    refine ⟨fun q hq => ?_, g2⟩
    rw [o6 _ (by omega), o3]
    exact g1 q hq
  · obtain ⟨r1, r2⟩ := h9 r hr
    refine ⟨fun w hw => ?_, r2⟩
    obtain ⟨c1, c2⟩ := o7 ((tb * 256 + r) * 64 + w) (by rw [h5] at hw; omega)
    rw [c1, c2]
    exact r1 w hw
theorem tabO_t (h1 : tabO m m' a) (h2 : tabO m' m'' a) : tabO m m'' a := by
  obtain ⟨⟨a1, a2, a3⟩, a4, a5, a6, a7⟩ := h1
  obtain ⟨⟨b1, b2, b3⟩, b4, b5, b6, b7⟩ := h2
  exact ⟨⟨b1.trans a1, b2.trans a2, b3.trans a3⟩, fun q hq => ⟨(b4 q hq).1.trans (a4 q hq).1, (b4 q hq).2.trans (a4 q hq).2⟩, fun q hq => ⟨(b5 q hq).1.trans (a5 q hq).1, (b5 q hq).2.trans (a5 q hq).2⟩, fun q hq => (b6 q hq).trans (a6 q hq), fun q hq => ⟨(b7 q hq).1.trans (a7 q hq).1, (b7 q hq).2.trans (a7 q hq).2⟩⟩
theorem nb_O (h64 : m.windows ≤ 64) : tabO m m.nbS m.pile := by
  refine ⟨⟨rfl, rfl, rfl⟩, fun q hq => ⟨va_up_ne _ _ hq, va_up_ne _ _ hq⟩, fun q _ => ⟨rfl, rfl⟩, fun q hq => va_up_ne _ _ (by omega), fun q hq => ?_⟩
  show filG m.isCell (cA m.pile 0) true m.windows q = _ ∧ filG m.cells (cA m.pile 0) m.amount m.windows q = _
  rw [filG_at, filG_at, if_neg (by unfold cA; omega), if_neg (by unfold cA; omega)]
  exact ⟨rfl, rfl⟩
set_option maxRecDepth 100000 in
theorem ng_O (h64 : m.windows ≤ 64) (hr : m.tableRows (m.pile - 1) ≤ 256) : tabO m m.ngS (m.pile - 1) := by
  refine ⟨⟨rfl, rfl, rfl⟩, fun q hq => ⟨rfl, rfl⟩, fun q _ => ⟨rfl, rfl⟩, fun q hq => rfl, fun q hq => ⟨rfl, ?_⟩⟩
  exact (ngR_at m.cells (t := m.pile - 1) h64 (m.tableRows (m.pile - 1))).2 q (by omega)
theorem sw_out {ic : Nat → Bool} {ce : Nat → Int64} {rs : Nat → Nat} {n : Nat} (h64 : n ≤ 64) : ∀ r, r ≤ 256 → (∀ q, (q < a * 256 * 64 ∨ a * 256 * 64 + 256 * 64 ≤ q) → (swG ic ce rs a n r).2.1 q = ic q ∧ (swG ic ce rs a n r).2.2.1 q = ce q) ∧ (swG ic ce rs a n r).1 ≤ r
  | 0, _ => ⟨fun q _ => ⟨rfl, rfl⟩, Nat.le_refl 0⟩
  | r + 1, hr => by
    obtain ⟨i1, i2⟩ := sw_out h64 (ic := ic) (ce := ce) (rs := rs) r (by omega)
    obtain ⟨⟨k, j2, c2, r2⟩, eS⟩ : ∃ S, swG ic ce rs a n r = S := ⟨_, rfl⟩
    rw [eS] at i1 i2
    have i2 : k ≤ r := i2
    have i1 : ∀ q, (q < a * 256 * 64 ∨ a * 256 * 64 + 256 * 64 ≤ q) → j2 q = ic q ∧ c2 q = ce q := i1
    cases c : anyB n (fun w => j2 (cA a r + w)) with
    | false =>
      rw [swG_f eS c]
      exact ⟨i1, by show k ≤ r + 1; omega⟩
    | true =>
      rw [swG_t eS c]
      refine ⟨fun q hq => ?_, by show k + 1 ≤ r + 1; omega⟩
      show mvG j2 (cA a k) (cA a r) n q = ic q ∧ mvG c2 (cA a k) (cA a r) n q = ce q
      by_cases e : k = r
      · subst e
        rw [mv_same, mv_same]
        exact i1 q hq
      · rw [mv_at (n := n) (by unfold cA; omega) n (Nat.le_refl _), mv_at (n := n) (by unfold cA; omega) n (Nat.le_refl _), if_neg (by unfold cA; omega), if_neg (by unfold cA; omega)]
        exact i1 q hq
theorem sw_O (h64 : m.windows ≤ 64) (hr : m.tableRows a ≤ 256) : tabO m (m.swS a) a := by
  obtain ⟨o1, o2⟩ := sw_out (a := a) (ic := m.isCell) (ce := m.cells) (rs := m.rowSeries) h64 (m.tableRows a) hr
  obtain ⟨-, s2, -⟩ := sw_rs (ic := m.isCell) (ce := m.cells) (rs := m.rowSeries) (t := a) (w := m.windows) (m.tableRows a)
  exact ⟨⟨rfl, rfl, rfl⟩, fun q hq => ⟨rfl, va_up_ne _ _ hq⟩, fun q _ => ⟨rfl, rfl⟩, fun q hq => s2 q (by omega), fun q hq => o1 q hq⟩
end TO
end
section
/-! A function's table: both sides. -/
section RK
variable {z : MS} {X : VS} {PS : Nat → PT} {dn : Nat → Nat} {SS : Nat → List LB}
/-- what points met keep of a table -/
def mmK2 (x : VS) (t : TB) (M : MM) : Prop := M.1.wi = t.wi ∧ M.1.rc = t.rc ∧ M.1.nc = t.nc ∧ M.1.nm = t.nm ∧ ∀ r, r < t.rc → hiZ M.1 r
theorem pt_hi {t : TB} {r w n : Nat} {u : Int64} (hw : w < t.wi) (h64 : t.wi ≤ 64) (h : ∀ r, r < n → hiZ t r) : ∀ q, q < n → hiZ (t.pt r w u) q := by
  intro q hq i h1 h2
  have h1 : t.wi ≤ i := h1
  show hasB (va_up t.th r (t.th r ||| bitL w) q) i = false
  by_cases e : q = r
  · rw [e, va_up_self, hb_or (by omega) h2, h r (by omega) i h1 h2, decide_eq_false (by omega)]
    rfl
  · rw [va_up_ne _ _ e]
    exact h q hq i h1 h2
theorem mm1q_k {fn : Int32} {x : VS} {t : TB} {M : MM} {o : Nat} {tm v : Int64} (hwi : t.wi = x.awi) (h64 : x.awi ≤ 64) (hk : wOk x.afr x.awd x.awi tm) (h : mmK2 x t M) : mmK2 x t (mm1 fn x M o tm v) := by
  obtain ⟨h1, h2, h3, h5, h4⟩ := h
  show (mqY fn M.1 (x.pb M) o tm v).wi = t.wi ∧ (mqY fn M.1 (x.pb M) o tm v).rc = t.rc ∧ (mqY fn M.1 (x.pb M) o tm v).nc = t.nc ∧ (mqY fn M.1 (x.pb M) o tm v).nm = t.nm ∧ ∀ r, r < t.rc → hiZ (mqY fn M.1 (x.pb M) o tm v) r
  unfold mqY
  have e0 : woA (x.pb M).afr (x.pb M).awd (x.pb M).awi tm = woA x.afr x.awd x.awi tm := rfl
  rw [e0]
  split
  · exact ⟨h1, h2, h3, h5, h4⟩
  · rename_i c
    obtain ⟨w, hw, ew⟩ := hk.resolve_left c
    have ei : i2n (woA x.afr x.awd x.awi tm) = w := by rw [ew, i2n_of (by omega)]
    rw [ei]
    have hp : ∀ (r : Nat) (u : Int64), (M.1.pt r w u).wi = t.wi ∧ (M.1.pt r w u).rc = t.rc ∧ (M.1.pt r w u).nc = t.nc ∧ (M.1.pt r w u).nm = t.nm ∧ ∀ q, q < t.rc → hiZ (M.1.pt r w u) q := fun r u => ⟨h1, h2, h3, h5, pt_hi (by rw [h1, hwi]; exact hw) (by rw [h1, hwi]; exact h64) h4⟩
    unfold mtT
    split
    · unfold gwT
      split
      · exact hp _ _
      · exact ⟨h1, h2, h3, h5, h4⟩
    · split
      · split
        · exact hp _ _
        · exact ⟨h1, h2, h3, h5, h4⟩
      · exact hp _ _
theorem mmA_2 {fn : Int32} {x : VS} {t : TB} (hwi : t.wi = x.awi) (h64 : x.awi ≤ 64) (hk : ∀ k, k < x.npc → ∀ i, i < (PS k).n → wOk x.afr x.awd x.awi ((PS k).t i)) (hk2 : ∀ i, i < x.hsize → wOk x.afr x.awd x.awi (x.hT i)) (h0 : ∀ r, r < t.rc → hiZ t r) : mmK2 x t (mmA fn x PS t) := by
  have s0 : mmK2 x t (x.m0 t) := ⟨rfl, rfl, rfl, rfl, h0⟩
  have sP : ∀ k, k < x.npc → ∀ M, mmK2 x t M → ∀ i, i ≤ (PS k).n → mmK2 x t (mmP fn x (PS k) M i) := fun k hkn M hM i => by
    induction i with
    | zero => exact fun _ => hM
    | succ i ih =>
      intro hi
      unfold mmP
      split
      · exact mm1q_k hwi h64 (hk k hkn i (by omega)) (ih (by omega))
      · exact ih (by omega)
  have sK : ∀ k, k ≤ x.npc → mmK2 x t (mmK fn x PS (x.m0 t) k) := fun k => by
    induction k with
    | zero => exact fun _ => s0
    | succ k ih => exact fun hkn => sP k (by omega) _ (ih (by omega)) _ (Nat.le_refl _)
  have sH : ∀ i, i ≤ x.hsize → mmK2 x t (mmH fn x (mmK fn x PS (x.m0 t) x.npc) i) := fun i => by
    induction i with
    | zero => exact fun _ => sK x.npc (Nat.le_refl _)
    | succ i ih =>
      intro hi
      unfold mmH
      split
      · exact mm1q_k hwi h64 (hk2 i (by omega)) (ih (by omega))
      · exact ih (by omega)
  exact sH x.hsize (Nat.le_refl _)
theorem pkG_wi {NL : Nat → List Int32} {n : Nat} {KD : Nat → Int32} {MN MT : Nat → List Int32} {kn : Nat → Option Nat} {g : PKS} : ∀ i, (pkG NL n KD MN MT SS kn g i).1.wi = g.1.wi
  | 0 => rfl
  | i + 1 => by
    have ih := pkG_wi (NL := NL) (n := n) (KD := KD) (MN := MN) (MT := MT) (kn := kn) (g := g) i
    unfold pkG
    split
    · show (adT NL (pkG NL n KD MN MT SS kn g i).1 (pkG NL n KD MN MT SS kn g i).2.1 (SS i) ((kn i).getD 0)).wi = g.1.wi
      unfold adT
      split
      · exact ih
      · exact ih
    · exact ih
theorem clTz_k (t : TB) (q : Nat) : (clT t q).wi = t.wi ∧ (clT t q).rc = t.rc ∧ (clT t q).nc = t.nc ∧ (∀ r, r < t.rc → (clT t q).th r = 0) ∧ ∀ i, i < t.rc * t.wi → (clT t q).ce i = 0 := by
  unfold clT
  split
  · exact ⟨rfl, rfl, rfl, fun r hr => filG_z _ _ hr, fun i hi => filG_z _ _ hi⟩
  · exact ⟨rfl, rfl, rfl, fun r hr => filG_z _ _ hr, fun i hi => filG_z _ _ hi⟩
end RK
end
section
/-! A function's table: made by both sides. -/
section RT
variable {z : MS} {X : VS} {PS : Nat → PT} {dn : Nat → Nat} {SS RS1 : Nat → List LB} {NL : Nat → List Int32} {nc nm wh p q0 : Nat} {KD : Nat → Int32} {MN MT : Nat → List Int32} {kn : Nat → Option Nat} {g0 : PKS} {T1 : TB} {ar1 : Nat → Int32} {hb1 : Nat → Bool}
theorem rk_tab (hn : nmRe z z.pile nc NL) (hnc : nc ≤ 6) (hx : txR z.texts z.textLengths z.seriesCount SS) (hg : ∀ q, q < z.seriesCount → serG (SS q)) (h256 : z.seriesCount ≤ 256) (hm : ∀ s, s < z.seriesCount → ∀ v, ((MS.s_valueLength z v).mt s p).1 = pkT nm KD MN MT SS s) (h0 : g0.1.rc = 0 ∧ g0.1.nc = nc ∧ g0.1.wi = z.windows) (hwh : wh < 7) (hk : wiK z) (hp : ptR z X PS dn) (hX : X.afr = z.windowsFrom ∧ X.awd = z.width ∧ X.awi = z.windows) (e1 : pkG NL nm KD MN MT SS kn g0 z.seriesCount = (T1, RS1, ar1, hb1)) (e2 : X.aro = pkR NL SS T1.nc T1.rc RS1 ar1 z.seriesCount) (e3 : X.ahb = hb1) : ∃ φ : Nat → Nat, tabR (z.rkS wh p) z.pile ((mmA (nI wh) X PS (clT T1 q0)).1.de) NL (fun q => RS1 (φ q)) SS ∧ ∀ a, a < (mmA (nI wh) X PS (clT T1 q0)).1.de.rc → φ a < (mmA (nI wh) X PS (clT T1 q0)).1.rc ∧ (mmA (nI wh) X PS (clT T1 q0)).1.de.rs a = (mmA (nI wh) X PS (clT T1 q0)).1.rs (φ a) := by
  have Q := gr_Q (p := p) (kn := kn) hn hx hg h256 hm ⟨h0.1, h0.2.1⟩ z.seriesCount (Nat.le_refl _)
  have w1 := pkG_wi (SS := SS) (NL := NL) (n := nm) (KD := KD) (MN := MN) (MT := MT) (kn := kn) (g := g0) z.seriesCount
  rw [e1] at Q w1
  have w1 : T1.wi = z.windows := w1.trans h0.2.2
  obtain ⟨⟨n, rs, ro, hb, v⟩, eG⟩ : ∃ G : grT, z.grG z.pile p z.seriesCount = G := ⟨_, rfl⟩
  rw [eG] at Q
  obtain ⟨⟨r1, r2, r3⟩, r4, r5, r6, r7⟩ := Q
  have r1 : T1.rc = n := r1
  have r2 : T1.nc = nc := r2
  have r3 : n ≤ z.seriesCount := r3
  have r4 : ∀ q, q < n → rs (256 * z.pile + q) < z.seriesCount ∧ RS1 q = SS (rs (256 * z.pile + q)) := r4
  have r5 : srtR NL nc n RS1 := r5
  have r6 : ∀ s, s < z.seriesCount → (pkT nm KD MN MT SS s = false → ro s = -1 ∧ ar1 s = -1) ∧ (pkT nm KD MN MT SS s = true → ∃ r, r < n ∧ ro s = nI r ∧ eqK NL nc (RS1 r) (SS s) ∧ ar1 s = 0) := r6
  have r7 : ∀ s, s < z.seriesCount → hb s = false ∧ hb1 s = false := r7
  have gRS : ∀ q, q < n → serG (RS1 q) := fun q hq => by
    rw [(r4 q hq).2]
    exact hg _ (r4 q hq).1
  obtain ⟨y, ey⟩ : ∃ y, y = z.grS z.pile p := ⟨_, rfl⟩
  have yro : y.rowOf = ro := by
    rw [ey]
    show (z.grG z.pile p z.seriesCount).2.2.1 = ro
    rw [eG]
  have yhb : y.hasBefore = hb := by
    rw [ey]
    show (z.grG z.pile p z.seriesCount).2.2.2.1 = hb
    rw [eG]
  have yrs : y.rowSeries = rs := by
    rw [ey]
    show (z.grG z.pile p z.seriesCount).2.1 = rs
    rw [eG]
  have ytr : y.tableRows = va_up z.tableRows z.pile n := by
    rw [ey]
    show va_up z.tableRows z.pile (z.grG z.pile p z.seriesCount).1 = _
    rw [eG]
  have yic : y.isCell = filG z.isCell (z.pile * 256 * 64) false (n * 64) := by
    rw [ey]
    show filG z.isCell (z.pile * 256 * 64) false ((z.grG z.pile p z.seriesCount).1 * 64) = _
    rw [eG]
  have yce : y.cells = filG z.cells (z.pile * 256 * 64) 0 (n * 64) := by
    rw [ey]
    show filG z.cells (z.pile * 256 * 64) 0 ((z.grG z.pile p z.seriesCount).1 * 64) = _
    rw [eG]
  have yk : y.seriesCount = z.seriesCount ∧ y.windows = z.windows ∧ y.windowsFrom = z.windowsFrom ∧ y.width = z.width := by
    rw [ey]
    exact ⟨rfl, rfl, rfl, rfl⟩
  have yp : ptR y X PS dn := by
    rw [ey]
    exact hp
  have ykk : wiK y := by
    rw [ey]
    exact hk
  have aro : ∀ s, s < z.seriesCount → X.aro s = ro s := fun s hs => by
    rw [e2, pkR_at, r1, r2]
    obtain ⟨q1, q2⟩ := r6 s hs
    cases c : pkT nm KD MN MT SS s with
    | false =>
      obtain ⟨a1, a2⟩ := q1 c
      rw [if_neg (fun h => h.2 a2), a2, a1]
    | true =>
      obtain ⟨r, a1, a2, a3, a4⟩ := q2 c
      rw [if_pos ⟨hs, by rw [a4]; decide⟩, a2]
      exact (pl_row r5 gRS (hg s hs) (by omega) a1 a3).2
  have hro : ∀ s, s < y.seriesCount → y.rowOf s = -1 ∨ ∃ r, r < 256 ∧ y.rowOf s = nI r := fun s hs => by
    rw [yk.1] at hs
    rw [yro]
    obtain ⟨q1, q2⟩ := r6 s hs
    cases c : pkT nm KD MN MT SS s with
    | false => exact Or.inl (q1 c).1
    | true =>
      obtain ⟨r, a1, a2, -, -⟩ := q2 c
      exact Or.inr ⟨r, by omega, a2⟩
  have awr : awR y X := ⟨by rw [hX.1, yk.2.2.1], by rw [hX.2.1, yk.2.2.2], by rw [hX.2.2, yk.2.1], fun s hs => by rw [yk.1] at hs; rw [yro]; exact aro s hs⟩
  obtain ⟨c1, c2, c3, c4, c5⟩ := clTz_k T1 q0
  have cw : (clT T1 q0).wi = X.awi := c1.trans (w1.trans hX.2.2.symm)
  have h64 : z.windows ≤ 64 := hk.1
  have hi0 : ∀ r, r < (clT T1 q0).rc → hiZ (clT T1 q0) r := fun r hr w _ hw => by
    rw [c2] at hr
    rw [c4 r hr]
    exact hb_0 hw
  have tmB : ∀ q, q < z.points → z.pointTimes q ≤ 1099511627775 := fun q hq => Int64.not_lt.mp (hp.2.2.2.2.2 q hq).2
  have wk : ∀ tm : Int64, tm ≤ 1099511627775 → wOk X.afr X.awd X.awi tm := fun tm htm => by
    rw [hX.1, hX.2.2]
    exact wOk_of h64 hk.2.2.1 htm
  have K2 : mmK2 X (clT T1 q0) (mmA (nI wh) X PS (clT T1 q0)) := mmA_2 cw (by rw [hX.2.2]; exact h64) (fun k hkn i hi => wk _ (by
    obtain ⟨q, q1, q2, q3, q4⟩ := arr_ix (hp.1.2.2.2 k hkn).1 (W := z.seriesCount) (fun q hq hc => in_se hp hkn hq hc) hi
    rw [q4]
    exact tmB q q1)) (fun i hi => wk _ (by
    obtain ⟨l1, l2⟩ := hp.1.1
    rw [l1] at hi
    obtain ⟨q, q1, q2, q3⟩ := cnt_at hi
    have := (l2 q q1 q2).2.1
    rw [q3] at this
    rw [this]
    exact tmB q q1)) hi0
  obtain ⟨k1, k2, k3, -, k4⟩ := K2
  obtain ⟨T3, eT⟩ : ∃ T3, T3 = (mmA (nI wh) X PS (clT T1 q0)).1 := ⟨_, rfl⟩
  have met : ∀ r w, r < n → w < z.windows → csE (nI wh) ((mmA (nI wh) X PS (clT T1 q0)).1.cs (mmA (nI wh) X PS (clT T1 q0)).2.2.2.1 (mmA (nI wh) X PS (clT T1 q0)).2.2.2.2 r w) (rkC (y.rkG z.pile wh y.points) z.pile r w) := fun r w hr hw => by
    refine met_eq hwh yp awr ykk (by rw [yk.2.1]; exact hw) hro cw ?_ (fun s hs => ?_)
    · have b1 : y.isCell ((z.pile * 256 + r) * 64 + w) = false := by
        rw [yic, filG_at, if_pos (by omega)]
      have b2 : y.cells ((z.pile * 256 + r) * 64 + w) = 0 := by
        rw [yce, filG_at, if_pos (by omega)]
      have b3 : hasB ((clT T1 q0).th r) w = false := by rw [c4 r (by omega)]; exact hb_0 (by omega)
      have b4 : (clT T1 q0).ce (r * (clT T1 q0).wi + w) = 0 := c5 _ (by
        rw [c1, r1]
        have : (r + 1) * T1.wi ≤ n * T1.wi := Nat.mul_le_mul_right _ hr
        rw [Nat.succ_mul] at this
        rw [← w1] at hw
        omega)
      refine ⟨b3.trans b1.symm, b4.trans b2.symm, fun _ g => ?_⟩
      have g : hasB ((clT T1 q0).th r) w = true := g
      rw [b3] at g
      cases g
    · rw [yk.1] at hs
      rw [e3, yhb]
      exact ⟨(r7 s hs).2, (r7 s hs).1⟩
  rw [← eT] at k1 k2 k3 k4 met
  obtain ⟨W, eW⟩ : ∃ W, W = MS.s_pile (MS.pt y (y.rkG z.pile wh y.points)) (y.pile + 1) := ⟨_, rfl⟩
  have ers : z.rkS wh p = W.swS z.pile := by
    rw [eW, ey]
    rfl
  have tw : T3.wi = z.windows := k1.trans (c1.trans w1)
  have tr : T3.rc = n := k2.trans (c2.trans r1)
  have tn : T3.nc = nc := k3.trans (c3.trans r2)
  have Wn : nmRe W z.pile nc NL := by
    rw [eW, ey]
    exact hn
  have Wt : W.tableRows z.pile = n := by
    rw [eW]
    show y.tableRows z.pile = n
    rw [ytr, va_up_self]
  have Ww : W.windows = z.windows ∧ W.seriesCount = z.seriesCount ∧ W.rowSeries = rs := by
    rw [eW]
    exact ⟨yk.2.1, yk.1, yrs⟩
  have tab : tabR W z.pile T3 NL RS1 SS := by
    refine ⟨⟨by rw [tn]; exact Wn, by rw [tn]; exact hnc⟩, ⟨by rw [tr]; exact Wt, by rw [tr]; omega, by rw [tw, Ww.1], by rw [Ww.1]; exact h64⟩, fun _ => ?_, fun g => ?_, fun r hr => ⟨fun w hw => ?_, ?_⟩⟩
    · rw [tn, tr, Ww.2.1, Ww.2.2]
      exact ⟨r4, r5⟩
    · rw [tn] at g
      rw [tr]
      by_cases c : n ≤ 1
      · exact c
      · obtain ⟨k, kk, -⟩ := r5 0 1 (by omega) (by omega)
        omega
    · rw [tr] at hr
      rw [tw] at hw
      obtain ⟨d1, d2, -⟩ := met r w hr hw
      rw [eW]
      exact ⟨d1.symm, fun _ => d2.symm⟩
    · rw [tr] at hr
      exact k4 r (by rw [c2, r1]; exact hr)
  obtain ⟨φ, h1, h2⟩ := sw_tab tab
  rw [ers, ← eT]
  exact ⟨φ, h1, h2⟩
end RT
end
section
/-! A sign between two tables: both sides. -/
section OP
variable {sg : Int32} {m : MS} {a b tb : Nat} {t u : TB} {NL NR : Nat → List Int32} {RS RU SS : Nat → List LB}
theorem ltK_nl {nc : Nat} {S1 S2 : List LB} (h : ∀ k, k < nc → NL k = NR k) (g : ltK NR nc S1 S2) : ltK NL nc S1 S2 := by
  obtain ⟨k, k1, k2, k3⟩ := g
  refine ⟨k, k1, fun i hi => ?_, ?_⟩
  · rw [h i (by omega)]
    exact k2 i hi
  · rw [h k k1]
    exact k3
theorem tabR_nl (h : ∀ k, k < t.nc → NL k = NR k) (ht : tabR m tb t NR RS SS) : tabR m tb t NL RS SS := by
  obtain ⟨⟨⟨h0, h1⟩, h2⟩, h3, h4, h5, h6⟩ := ht
  refine ⟨⟨⟨h0, fun i hi => by rw [h i hi]; exact h1 i hi⟩, h2⟩, h3, fun g => ?_, h5, h6⟩
  obtain ⟨g1, g2⟩ := h4 g
  exact ⟨g1, fun x y hxy hy => ltK_nl h (g2 x y hxy hy)⟩
theorem tabR_rs {RS' : Nat → List LB} (h : 0 < t.nc → ∀ q, q < t.rc → RS' q = RS q) (ht : tabR m tb t NL RS SS) : tabR m tb t NL RS' SS := by
  obtain ⟨h1, h3, h4, h5, h6⟩ := ht
  refine ⟨h1, h3, fun g => ?_, h5, h6⟩
  obtain ⟨g1, g2⟩ := h4 g
  refine ⟨fun q hq => ⟨(g1 q hq).1, (h g q hq).trans (g1 q hq).2⟩, fun x y hxy hy => ?_⟩
  rw [h g x (by omega), h g y hy]
  exact g2 x y hxy hy
section TK
variable {dA : Nat → ClassId} {pl : va_W} {wi : Nat} {z : TB}
/-- a table whose names and sizes stay, whose rows are some of its rows -/
theorem tbK_c {RS' : Nat → List LB} (h : tbK dA pl wi t NL RS) (e1 : z.nm = t.nm) (e2 : z.nc = t.nc) (e3 : z.wi = t.wi) (e4 : z.cN = t.cN) (e5 : z.rc ≤ t.rc) (e6 : rsAll dA pl z.rs) (e7 : 0 < t.nc → ∀ q, q < z.rc → ∃ p, p < t.rc ∧ z.rs q = t.rs p ∧ RS' q = RS p) : tbK dA pl wi z NL RS' := by
  obtain ⟨h1, h2, h3, h4, h5, h6, h7, h8, h9⟩ := h
  refine ⟨by rw [e1, e2]; exact h1, by rw [e2]; exact h2, fun g => ?_, e6, by omega, e3.trans h6, ?_, by rw [e4]; exact h8, fun g => by have := h9 (e2.symm.trans g); omega⟩
  · intro q hq
    obtain ⟨p, p1, p2, p3⟩ := e7 (by omega) q hq
    rw [p2, p3]
    exact h3 (by omega) p p1
  · rw [e3, e4]
    exact Nat.le_trans (Nat.mul_le_mul_right _ e5) h7
theorem rsAll_de (h : rsAll dA pl t.rs) : ∀ r, rsAll dA pl (deG t r).2.rs
  | 0 => h
  | r + 1 => by
    have ih := rsAll_de h r
    unfold deG
    split
    · exact ih
    · exact rsAll_mv ih
theorem tbK_de {φ : Nat → Nat} (h : tbK dA pl wi t NL RS) (hp : ∀ a, a < t.de.rc → φ a < t.rc ∧ t.de.rs a = t.rs (φ a)) : tbK dA pl wi t.de NL (fun q => RS (φ q)) := by
  obtain ⟨k1, k2, k3, k4, k5, k6, k7⟩ := deG_k t t.rc
  exact tbK_c h k5 k6 k1 k3 k4 (rsAll_de h.2.2.2.1 t.rc) (fun _ q hq => ⟨φ q, (hp q hq).1, (hp q hq).2, rfl⟩)
theorem tbK_0 (h : tbK dA pl wi t NL RS) : tbK dA pl wi (TB.s_rc t 0) NL RS := tbK_c h rfl rfl rfl rfl (Nat.zero_le _) h.2.2.2.1 (fun _ q hq => absurd hq (Nat.not_lt_zero q))
theorem jsL_a (sg : Int32) (t u : TB) : ∀ r, (jsL sg t u r).nm = t.nm ∧ (jsL sg t u r).nc = t.nc ∧ (jsL sg t u r).wi = t.wi ∧ (jsL sg t u r).cN = t.cN ∧ (jsL sg t u r).rc = t.rc ∧ (jsL sg t u r).rs = t.rs
  | 0 => ⟨rfl, rfl, rfl, rfl, rfl, rfl⟩
  | r + 1 => jsL_a sg t u r
theorem jsR_a (sg : Int32) (t u : TB) : ∀ r, (jsR sg t u r).nm = t.nm ∧ (jsR sg t u r).nc = t.nc ∧ (jsR sg t u r).wi = t.wi ∧ (jsR sg t u r).cN = t.cN ∧ (jsR sg t u r).rc = t.rc ∧ (jsR sg t u r).rs = t.rs
  | 0 => ⟨rfl, rfl, rfl, rfl, rfl, rfl⟩
  | r + 1 => jsR_a sg t u r
theorem tbK_s (h : tbK dA pl wi t NL RS) (e : z.nm = t.nm ∧ z.nc = t.nc ∧ z.wi = t.wi ∧ z.cN = t.cN ∧ z.rc = t.rc ∧ z.rs = t.rs) : tbK dA pl wi z NL RS := by
  obtain ⟨e1, e2, e3, e4, e5, e6⟩ := e
  exact tbK_c h e1 e2 e3 e4 (by omega) (by rw [e6]; exact h.2.2.2.1) (fun _ q hq => ⟨q, by omega, by rw [e6], rfl⟩)
theorem rsAll_jm {sg : Int32} (h : rsAll dA pl t.rs) : ∀ r, rsAll dA pl (jmG sg NL t u RS RU r).2.2.rs
  | 0 => h
  | r + 1 => by
    have ih := rsAll_jm (sg := sg) h r
    show rsAll dA pl (jmS sg NL t.nc u RS RU r (jmG sg NL t u RS RU r).1 (jmG sg NL t u RS RU r).2.1 (jmG sg NL t u RS RU r).2.2).2.2.rs
    unfold jmS
    split
    · exact rsAll_mv ih
    · exact ih
end TK
theorem sm_nam (h1 : nmRe m a t.nc NL) (h2 : nmRe m b u.nc NR) : m.smN a b = namB NL NR t.nc u.nc := by
  unfold MS.smN namB
  rw [h1.1, h2.1]
  by_cases c : t.nc = u.nc
  · rw [decide_eq_true c, Bool.true_and, Bool.true_and]
    refine allB_ext (fun k hk => ?_)
    have e : (m.nmE a b k = true) ↔ (nsB NL NR k = true) := by
      unfold nsB
      rw [sameW_i, ← h1.2 k hk, ← h2.2 k (by omega)]
      unfold MS.nmE MS.nmL
      rw [Bool.and_eq_true, decide_eq_true_eq, allB_iff, seg_ii, Nat.add_sub_cancel_left, Nat.add_sub_cancel_left]
      constructor
      · rintro ⟨x1, x2⟩
        exact ⟨x1, fun i hi => of_decide_eq_true (x2 i hi)⟩
      · rintro ⟨x1, x2⟩
        exact ⟨x1, fun i hi => decide_eq_true (x2 i hi)⟩
    cases x : nsB NL NR k with
    | true => exact e.mpr x
    | false =>
      cases y : m.nmE a b k with
      | false => rfl
      | true => rw [e.mp y] at x; cases x
  · rw [decide_eq_false c]
    rfl
theorem nam_e (h : namB NL NR t.nc u.nc = true) : t.nc = u.nc ∧ ∀ k, k < t.nc → NL k = NR k := by
  unfold namB at h
  rw [Bool.and_eq_true, decide_eq_true_eq, allB_iff] at h
  exact ⟨h.1, fun k hk => sameW_i.mp (h.2 k hk)⟩
theorem tab_pile (h : tabR m tb t NL RS SS) (n : Nat) : tabR (MS.s_pile m n) tb t NL RS SS := h
/-- do they go together -/
theorem opB_jn (hp : a = m.pile - 2 ∧ b = m.pile - 1) (h1 : nmRe m a t.nc NL) (h2 : nmRe m b u.nc NR) : m.opB = !decide (jnC NL NR t u = 3) := by
  unfold MS.opB jnC
  rw [← hp.1, ← hp.2, sm_nam h1 h2, h1.1, h2.1]
  cases namB NL NR t.nc u.nc with
  | true => rfl
  | false =>
    by_cases c : u.nc = 0
    · rw [decide_eq_true c, if_neg (by decide), if_pos c]
      rfl
    · rw [decide_eq_false c, if_neg (by decide), if_neg c]
      by_cases d : t.nc = 0
      · rw [decide_eq_true d, if_pos d]
        rfl
      · rw [decide_eq_false d, if_neg d]
        rfl
theorem op_T {dA : Nat → ClassId} {pl : va_W} {wi : Nat} (hs : isOp sg) {q : Nat} (hp : a = m.pile - 2 ∧ b = m.pile - 1) (h2 : 2 ≤ m.pile) (ht : tabR m a t NL RS SS) (hu : tabR m b u NR RU SS) (kt : tbK dA pl wi t NL RS) (ku : tbK dA pl wi u NR RU) (hx : txR m.texts m.textLengths m.seriesCount SS) (hg : ∀ q, q < m.seriesCount → serG (SS q)) (hj : ¬ jnC NL NR t u = 3) : m.opB = true ∧ ∃ NL' RS', tabR (m.opS sg q) a (jnT sg NL RS RU t u (jnC NL NR t u)) NL' RS' SS ∧ tbK dA pl wi (jnT sg NL RS RU t u (jnC NL NR t u)) NL' RS' := by
  have ob : m.opB = true := by rw [opB_jn hp ht.1.1 hu.1.1, decide_eq_false hj]; rfl
  refine ⟨ob, ?_⟩
  rw [op_v ob, ← hp.1]
  have hab : a < b := by omega
  have key : ∃ NL' RS' T, tabR (m.opM sg) a T NL' RS' SS ∧ jnT sg NL RS RU t u (jnC NL NR t u) = T.de ∧ tbK dA pl wi T NL' RS' := by
    unfold MS.opM
    rw [← hp.1, ← hp.2, sm_nam ht.1.1 hu.1.1, hu.1.1.1]
    cases c : namB NL NR t.nc u.nc with
    | true =>
      have ec : jnC NL NR t u = 0 := if_pos c
      rw [ec, if_pos rfl]
      obtain ⟨e1, e2⟩ := nam_e c
      by_cases z : t.nc = 0
      · refine ⟨NL, RS, _, j0_tab hs hab ht hu z (by omega), ?_, ?_⟩
        · show (if t.nc = 0 then TB.j0 sg t u else TB.jm sg NL t u RS RU) = _
          rw [if_pos z]
          unfold TB.j0
          split <;> rfl
        · split
          · rename_i c1
            exact tbK_c kt rfl rfl rfl rfl (by show 1 ≤ t.rc; omega) (rsAll_mv (r := 0) (n := 0) kt.2.2.2.1) (fun g => by omega)
          · exact tbK_0 kt
      · have hu' : tabR m b u NL RU SS := tabR_nl (fun k hk => e2 k (by omega)) hu
        obtain ⟨φ, h, h3, z1, z2, z3, z4, z5, z6, z7, z8⟩ := me_tab hs hab ht hu' e1.symm (by omega) hx hg
        refine ⟨NL, _, _, h, ?_, ?_⟩
        · show (if t.nc = 0 then TB.j0 sg t u else TB.jm sg NL t u RS RU) = _
          rw [if_neg z]
          rfl
        · exact tbK_c kt z5 z6 z1 z3 z4 (rsAll_jm kt.2.2.2.1 t.rc) (fun _ q hq => ⟨φ q, (h3 q hq).1, (h3 q hq).2, rfl⟩)
    | false =>
      rw [if_neg (by decide)]
      by_cases c2 : u.nc = 0
      · have ec : jnC NL NR t u = 1 := by unfold jnC; rw [c, if_neg (by decide), if_pos c2]
        rw [ec, if_pos c2]
        refine ⟨NL, RS, _, ob_tab hs (by omega) ht hu, ?_, ?_⟩
        · show (if u.rc = 0 then TB.de (TB.s_rc t 0) else (jsL sg t u t.rc).de) = _
          split <;> rfl
        · split
          · exact tbK_0 kt
          · exact tbK_s kt (jsL_a sg t u t.rc)
      · have d : t.nc = 0 := by
          by_cases d : t.nc = 0
          · exact d
          · refine absurd ?_ hj
            unfold jnC
            rw [c, if_neg (by decide), if_neg c2, if_neg d]
        have ec : jnC NL NR t u = 2 := by unfold jnC; rw [c, if_neg (by decide), if_neg c2, if_pos d]
        rw [ec, if_neg c2]
        refine ⟨NR, RU, _, sp_tab hs hab ht hu, ?_, ?_⟩
        · show (if t.rc = 0 then TB.de (TB.s_rc u 0) else (jsR sg u t u.rc).de) = _
          split <;> rfl
        · split
          · exact tbK_0 ku
          · exact tbK_s ku (jsR_a sg u t u.rc)
  obtain ⟨NL', RS', T, h, e, k⟩ := key
  obtain ⟨φ, h3, h4⟩ := sw_tab (tab_pile h ((m.opM sg).pile - 1))
  rw [e]
  exact ⟨NL', _, h3, tbK_de k h4⟩
end OP
end
section
/-! What the other tables keep, of every step. -/
section OU
variable {sg : Int32} {g : jT} {m : MS} {a b : Nat}
theorem jrG_out {tw ta tb : Nat} : ∀ n q, (q < tw ∨ tw + n ≤ q) → (jrG sg g tw ta tb n).1 q = g.1 q ∧ (jrG sg g tw ta tb n).2 q = g.2 q
  | 0, q, _ => ⟨rfl, rfl⟩
  | n + 1, q, h => by
    obtain ⟨i1, i2⟩ := jrG_out (tw := tw) (ta := ta) (tb := tb) n q (by omega)
    show va_up _ (tw + n) _ q = _ ∧ va_up _ (tw + n) _ q = _
    rw [va_up_ne _ _ (by omega), va_up_ne _ _ (by omega)]
    exact ⟨i1, i2⟩
set_option maxRecDepth 100000 in
theorem jrA_out {ta tb r w q : Nat} (hr : r < 256) (hw : w ≤ 64) (h : q < a * 256 * 64 ∨ a * 256 * 64 + 256 * 64 ≤ q) : (jrG sg g (cA a r) ta tb w).1 q = g.1 q ∧ (jrG sg g (cA a r) ta tb w).2 q = g.2 q := by
  have := ix_out hr h
  exact jrG_out w q (by unfold cA; omega)
theorem obG_out {w q : Nat} (hw : w ≤ 64) (h : q < a * 256 * 64 ∨ a * 256 * 64 + 256 * 64 ≤ q) : ∀ r, r ≤ 256 → (obG sg g a b w r).1 q = g.1 q ∧ (obG sg g a b w r).2 q = g.2 q
  | 0, _ => ⟨rfl, rfl⟩
  | r + 1, hr => by
    obtain ⟨i1, i2⟩ := obG_out hw h r (by omega)
    obtain ⟨j1, j2⟩ := jrA_out (sg := sg) (g := obG sg g a b w r) (a := a) (ta := cA a r) (tb := cA b 0) (r := r) (by omega) hw h
    exact ⟨j1.trans i1, j2.trans i2⟩
theorem ob_O (h64 : m.windows ≤ 64) (hr : m.tableRows a ≤ 256) : tabO m (m.obS sg a b) a := by
  refine ⟨⟨rfl, rfl, rfl⟩, fun q hq => ⟨rfl, va_up_ne _ _ hq⟩, fun q _ => ⟨rfl, rfl⟩, fun q hq => rfl, fun q hq => ?_⟩
  show (if 0 < m.tableRows b then obG sg (m.isCell, m.cells) a b m.windows (m.tableRows a) else (m.isCell, m.cells)).1 q = _ ∧ (if 0 < m.tableRows b then obG sg (m.isCell, m.cells) a b m.windows (m.tableRows a) else (m.isCell, m.cells)).2 q = _
  split
  · exact obG_out h64 hq _ hr
  · exact ⟨rfl, rfl⟩
set_option maxRecDepth 100000 in
theorem sp_O (hab : a < b) (h64 : m.windows ≤ 64) (hr : m.tableRows b ≤ 256) : tabO m (m.spS sg a b) a := by
  obtain ⟨n, en⟩ : ∃ n, n = if 0 < m.tableRows a then m.tableRows b else 0 := ⟨_, rfl⟩
  have hn : n ≤ 256 := by rw [en]; split <;> omega
  refine ⟨⟨rfl, rfl, rfl⟩, fun q hq => ⟨va_up_ne _ _ hq, va_up_ne _ _ hq⟩, fun q hq => ?_, fun q hq => ?_, fun q hq => ?_⟩
  · show mvG m.nameFroms (6 * a) (6 * b) 6 q = _ ∧ mvG m.nameLengths (6 * a) (6 * b) 6 q = _
    rw [mv_at (n := 6) (by omega) 6 (Nat.le_refl _), mv_at (n := 6) (by omega) 6 (Nat.le_refl _), if_neg (by omega), if_neg (by omega)]
    exact ⟨rfl, rfl⟩
  · show mvG m.rowSeries (256 * a) (256 * b) (if 0 < m.tableRows a then m.tableRows b else 0) q = _
    rw [← en, mv_at (n := n) (by omega) n (Nat.le_refl _), if_neg (by omega)]
  · show (spG sg (m.isCell, m.cells) a b (if 0 < m.tableRows a then m.tableRows b else 0) m.windows (if 0 < m.tableRows a then m.tableRows b else 0)).1 q = _ ∧ (spG sg (m.isCell, m.cells) a b (if 0 < m.tableRows a then m.tableRows b else 0) m.windows (if 0 < m.tableRows a then m.tableRows b else 0)).2 q = _
    rw [← en]
    exact (sp_row (sg := sg) (g := (m.isCell, m.cells)) (show ¬ a = b by omega) h64 hn n (Nat.le_refl _)).1 q (by omega)
theorem me_out {q : Nat} (h64 : m.windows ≤ 64) (h : q < a * 256 * 64 ∨ a * 256 * 64 + 256 * 64 ≤ q) : ∀ r, r ≤ 256 → (m.meG sg a b r).2.1.1 q = m.isCell q ∧ (m.meG sg a b r).2.1.2 q = m.cells q
  | 0, _ => ⟨rfl, rfl⟩
  | r + 1, hr => by
    obtain ⟨i1, i2⟩ := me_out h64 h r (by omega)
    obtain ⟨⟨n, g, rs, v⟩, eM⟩ : ∃ M, m.meG sg a b r = M := ⟨_, rfl⟩
    have hn := me_le eM
    rw [eM] at i1 i2
    obtain ⟨⟨o, v2⟩, eF⟩ : ∃ F, m.fo a (rs (256 * a + r)) b rs (m.tableRows b) (m.tableRows b + 1) 0 v = F := ⟨_, rfl⟩
    rw [me_s eM eF]
    unfold MS.me2
    split
    · exact ⟨i1, i2⟩
    · obtain ⟨j1, j2⟩ := jrA_out (sg := sg) (g := g) (a := a) (ta := cA a r) (tb := cA b o) (r := n) (by omega) h64 h
      exact ⟨j1.trans i1, j2.trans i2⟩
theorem me_O (h64 : m.windows ≤ 64) (hr : m.tableRows a ≤ 256) : tabO m (m.meS sg a b) a := by
  obtain ⟨r1, r2, -⟩ := me_rs (x := m) (sg := sg) (a := a) (b := b) (m.tableRows a)
  exact ⟨⟨rfl, rfl, rfl⟩, fun q hq => ⟨rfl, va_up_ne _ _ hq⟩, fun q _ => ⟨rfl, rfl⟩, fun q hq => r2 q (by omega), fun q hq => me_out h64 hq _ hr⟩
theorem opM_O (hp : a = m.pile - 2 ∧ b = m.pile - 1) (hab : a < b) (h64 : m.windows ≤ 64) (hr : m.tableRows a ≤ 256) (hr2 : m.tableRows b ≤ 256) : tabO m (m.opM sg) a ∧ (m.opM sg).tableRows a ≤ 256 := by
  unfold MS.opM
  rw [← hp.1, ← hp.2]
  split
  · refine ⟨me_O h64 hr, ?_⟩
    show va_up m.tableRows a _ a ≤ 256
    rw [va_up_self]
    have := me_le' (x := m) (sg := sg) (a := a) (b := b) (m.tableRows a)
    omega
  · split
    · refine ⟨ob_O h64 hr, ?_⟩
      show va_up m.tableRows a _ a ≤ 256
      rw [va_up_self]
      split <;> omega
    · refine ⟨sp_O hab h64 hr2, ?_⟩
      show va_up m.tableRows a _ a ≤ 256
      rw [va_up_self]
      split <;> omega
theorem op_O {q : Nat} (hp : a = m.pile - 2 ∧ b = m.pile - 1) (hab : a < b) (h64 : m.windows ≤ 64) (hr : m.tableRows a ≤ 256) (hr2 : m.tableRows b ≤ 256) (ho : m.opB = true) : tabO m (m.opS sg q) a := by
  obtain ⟨o1, o2⟩ := opM_O (sg := sg) hp hab h64 hr hr2
  rw [op_v ho, ← hp.1]
  have o3 : tabO m (MS.s_pile (m.opM sg) ((m.opM sg).pile - 1)) a := o1
  refine tabO_t o3 (sw_O ?_ o2)
  show (m.opM sg).windows ≤ 64
  rw [o1.1.2.1]
  exact h64
theorem ga_out {x : MS} {t wh q r w k : Nat} (h : ¬ k = (t * 256 + r) * 64 + w) : (x.ga t wh q r w).1 k = x.isCell k ∧ (x.ga t wh q r w).2.1 k = x.cells k := by
  unfold MS.ga
  (repeat' split) <;> first | exact ⟨va_up_ne _ _ h, va_up_ne _ _ h⟩ | exact ⟨va_up_ne _ _ h, rfl⟩ | exact ⟨rfl, rfl⟩
set_option maxRecDepth 100000 in
theorem rkG_out {x : MS} {t wh k : Nat} (hk : wiK x) (hro : ∀ s, s < x.seriesCount → x.rowOf s = -1 ∨ ∃ r, r < 256 ∧ x.rowOf s = nI r) (h : k < t * 256 * 64 ∨ t * 256 * 64 + 256 * 64 ≤ k) : ∀ q, (x.rkG t wh q).1 k = x.isCell k ∧ (x.rkG t wh q).2.1 k = x.cells k
  | 0 => ⟨rfl, rfl⟩
  | q + 1 => by
    obtain ⟨i1, i2⟩ := rkG_out (t := t) (wh := wh) hk hro h q
    obtain ⟨G, eG⟩ : ∃ G, x.rkG t wh q = G := ⟨_, rfl⟩
    rw [eG] at i1 i2
    by_cases c : x.seen q = false ∨ x.seriesCount ≤ x.pointSeries q
    · rw [rk_n eG c]
      exact ⟨i1, i2⟩
    · have sn : x.seen q = true := by
        cases d : x.seen q with
        | true => rfl
        | false => exact absurd (Or.inl d) c
      have hs : ¬ x.seriesCount ≤ x.pointSeries q := fun z => c (Or.inr z)
      obtain ⟨A, eA⟩ : ∃ A, x.rkA t wh q G = A := ⟨_, rfl⟩
      rw [rk_y eG sn hs eA]
      show A.1 k = _ ∧ A.2.1 k = _
      cases iw : x.inW q with
      | false =>
        have ea : A = (G.1, G.2.1, G.2.2.1, G.2.2.2.1) := eA.symm.trans (if_neg (by rw [iw]; decide))
        rw [ea]
        exact ⟨i1, i2⟩
      | true =>
        have ea : A = (x.pt G).ga t wh q (i2n (x.rowOf (x.pointSeries q))) (wN (x.pointTimes q - x.windowsFrom) x.width) := eA.symm.trans (if_pos iw)
        unfold MS.inW at iw
        rw [Bool.and_eq_true, Bool.and_eq_true, Bool.not_eq_true', Bool.not_eq_true', Bool.not_eq_true', decide_eq_false_iff_not, decide_eq_false_iff_not, decide_eq_false_iff_not] at iw
        obtain ⟨w1, w2, w3⟩ := iw
        have lt := wN_lt (Int64.not_lt.mp w2) hk.2.1 hk.1 (Int64.not_le.mp w3)
        have hr : i2n (x.rowOf (x.pointSeries q)) < 256 := by
          rcases hro (x.pointSeries q) (Nat.not_le.mp hs) with e | ⟨r, hr, e⟩
          · rw [e] at w1
            exact absurd (by decide) w1
          · rw [e, i2n_of (by omega)]
            exact hr
        have h6 := hk.1
        have := ix_out hr h
        obtain ⟨j1, j2⟩ := ga_out (x := x.pt G) (wh := wh) (q := q) (show ¬ k = (t * 256 + i2n (x.rowOf (x.pointSeries q))) * 64 + wN (x.pointTimes q - x.windowsFrom) x.width by omega)
        rw [ea]
        exact ⟨j1.trans i1, j2.trans i2⟩
set_option maxRecDepth 100000 in
theorem rk_O {z : MS} {wh p : Nat} (hk : wiK z) (h256 : z.seriesCount ≤ 256) : tabO z (z.rkS wh p) z.pile := by
  obtain ⟨g1, g2⟩ := gr_rs (x := z) (t := z.pile) (p := p) z.seriesCount h256
  have gl := gr_le' (x := z) (t := z.pile) (p := p) z.seriesCount
  have gro := gr_ro (x := z) (t := z.pile) (p := p) z.seriesCount h256
  obtain ⟨y, ey⟩ : ∃ y, y = z.grS z.pile p := ⟨_, rfl⟩
  have o1 : tabO z y z.pile := by
    rw [ey]
    refine ⟨⟨rfl, rfl, rfl⟩, fun q hq => ⟨rfl, va_up_ne _ _ hq⟩, fun q _ => ⟨rfl, rfl⟩, fun q hq => g1 q hq, fun q hq => ?_⟩
    show filG z.isCell (z.pile * 256 * 64) false ((z.grG z.pile p z.seriesCount).1 * 64) q = _ ∧ filG z.cells (z.pile * 256 * 64) 0 ((z.grG z.pile p z.seriesCount).1 * 64) q = _
    rw [filG_at, filG_at, if_neg (by omega), if_neg (by omega)]
    exact ⟨rfl, rfl⟩
  have yk : wiK y := by rw [ey]; exact hk
  have ytr : y.tableRows z.pile ≤ 256 := by
    rw [ey]
    show va_up z.tableRows z.pile (z.grG z.pile p z.seriesCount).1 z.pile ≤ 256
    rw [va_up_self]
    omega
  have yro : ∀ s, s < y.seriesCount → y.rowOf s = -1 ∨ ∃ r, r < 256 ∧ y.rowOf s = nI r := by
    rw [ey]
    intro s hs
    rcases gro s hs with e | ⟨r, hr, e⟩
    · exact Or.inl e
    · exact Or.inr ⟨r, by omega, e⟩
  have ers : z.rkS wh p = (MS.s_pile (MS.pt y (y.rkG z.pile wh y.points)) (y.pile + 1)).swS z.pile := by
    rw [ey]
    rfl
  rw [ers]
  have o2 : tabO y (MS.s_pile (MS.pt y (y.rkG z.pile wh y.points)) (y.pile + 1)) z.pile := ⟨⟨rfl, rfl, rfl⟩, fun q hq => ⟨rfl, rfl⟩, fun q _ => ⟨rfl, rfl⟩, fun q hq => rfl, fun q hq => rkG_out yk yro hq y.points⟩
  exact tabO_t o1 (tabO_t o2 (sw_O yk.1 ytr))
end OU
end
section
/-! What a cell of the world is, is told once; a run of the steps. -/
theorem gD_el {α : Type} {l : List α} {i : Nat} {d : α} (h : i < l.length) : l.getD i d = l[i] := by
  rw [List.getD_eq_getElem?_getD, List.getElem?_eq_getElem h]
  rfl
section UN
variable {dA : Nat → ClassId} {ws : va_W} {a : Nat}
theorem isWo_u {L L' : List Int32} (hp : plF ws) (h1 : isWo dA ws a L) (h2 : isWo dA ws a L') : L = L' := by
  obtain ⟨b, f, p1, p2, -, p4⟩ := h1
  obtain ⟨b', f', q1, q2, -, q4⟩ := h2
  have e1 := hp a _ _ p1 q1
  have e1 : b = b' := by
    cases e1
    rfl
  subst e1
  have e2 := Sum.inl.inj (hp b _ _ p2 q2)
  have e3 : L.length = L'.length := congrArg (fun z => z.2.1) e2
  have e4 : f = f' := Sum.inl.inj (congrArg (fun z => z.2.2) e2)
  refine List.ext_getElem e3 (fun i h1 h2 => ?_)
  have a1 := p4 i h1
  have a2 := q4 i h2
  rw [← e4, a1, gD_el h1, gD_el h2] at a2
  exact a2
theorem isSer_u {S S' : List LB} (hp : plF ws) (h1 : isSer dA ws a S) (h2 : isSer dA ws a S') : S = S' := by
  obtain ⟨na, va, no, tx, fn, fv, p1, p2, p3, -, -, p6⟩ := h1
  obtain ⟨na', va', no', tx', fn', fv', q1, q2, q3, -, -, q6⟩ := h2
  have e1 := hp a _ _ p1 q1
  have e9 : na = na' ∧ va = va' := by
    cases e1
    exact ⟨rfl, rfl⟩
  obtain ⟨e7, e8⟩ := e9
  subst e7
  subst e8
  have e2 := Sum.inl.inj (hp na _ _ p2 q2)
  have e3 := Sum.inl.inj (hp va _ _ p3 q3)
  have el : S.length = S'.length := congrArg (fun z => z.2.1) e2
  have e4 : fn = fn' := Sum.inr.inj (Sum.inr.inj (Sum.inr.inj (Sum.inr.inj (congrArg (fun z => z.2.2) e2))))
  have e5 : fv = fv' := Sum.inr.inj (Sum.inr.inj (Sum.inr.inj (Sum.inr.inj (congrArg (fun z => z.2.2) e3))))
  refine List.ext_getElem el (fun i h1 h2 => ?_)
  obtain ⟨p, q, g1, w1, g2, w2⟩ := p6 i h1
  obtain ⟨p', q', g3, w3, g4, w4⟩ := q6 i h2
  rw [← e4, g1] at g3
  rw [← e5, g2] at g4
  have u1 := Option.some.inj g3
  have u2 := Option.some.inj g4
  rw [← u1] at w3
  rw [← u2] at w4
  have x1 := isWo_u hp w1 w3
  have x2 := isWo_u hp w2 w4
  have y1 : lab S i = S[i] := gD_el h1
  have y2 : lab S' i = S'[i] := gD_el h2
  rw [← y1, ← y2]
  exact Prod.ext x1 x2
theorem nmOk_u {nm : Nat → Option Nat} {n : Nat} {NL NL' : Nat → List Int32} (hp : plF ws) (h1 : nmOk dA ws nm n NL) (h2 : nmOk dA ws nm n NL') : ∀ k, k < n → NL' k = NL k := fun k hk => by
  obtain ⟨p, e1, w1, -⟩ := h1 k hk
  obtain ⟨p', e2, w2, -⟩ := h2 k hk
  rw [e1] at e2
  rw [← Option.some.inj e2] at w2
  exact (isWo_u hp w1 w2).symm
theorem rsOk_u {rs : Nat → Option Nat} {n : Nat} {RS RS' : Nat → List LB} (hp : plF ws) (h1 : rsOk dA ws rs n RS) (h2 : rsOk dA ws rs n RS') : ∀ k, k < n → RS' k = RS k := fun k hk => by
  obtain ⟨p, e1, w1, -⟩ := h1 k hk
  obtain ⟨p', e2, w2, -⟩ := h2 k hk
  rw [e1] at e2
  rw [← Option.some.inj e2] at w2
  exact (isSer_u hp w1 w2).symm
theorem tbK_u {wi wi' : Nat} {t : TB} {NL NL' : Nat → List Int32} {RS RS' : Nat → List LB} (hp : plF ws) (h1 : tbK dA ws wi t NL RS) (h2 : tbK dA ws wi' t NL' RS') : (∀ k, k < t.nc → NL' k = NL k) ∧ (0 < t.nc → ∀ q, q < t.rc → RS' q = RS q) :=
  ⟨nmOk_u hp h1.1 h2.1, fun g => rsOk_u hp (h1.2.2.1 g) (h2.2.2.1 g)⟩
theorem tab_u {m : MS} {tb wi wi' : Nat} {t : TB} {NL NL' : Nat → List Int32} {RS RS' SS : Nat → List LB} (hp : plF ws) (h1 : tbK dA ws wi t NL RS) (h2 : tbK dA ws wi' t NL' RS') (ht : tabR m tb t NL RS SS) : tabR m tb t NL' RS' SS := by
  obtain ⟨u1, u2⟩ := tbK_u hp h1 h2
  exact tabR_rs u2 (tabR_nl u1 ht)
end UN
section WL
variable {dA : Nat → ClassId} {ad : Nat → Nat} {r : va_W} {la : Nat → Nat} {PS : Nat → PT} {SS : Nat → List LB} {nw : Nat} {L X : List SP1} {a0 : SKT} {s d : SP1}
theorem gtD_l {i : Nat} (h : i < L.length) : (L ++ X).getD i d = L.getD i d := by
  rw [List.getD_eq_getElem?_getD, List.getD_eq_getElem?_getD, List.getElem?_append_left h]
theorem gtD_e : (L ++ s :: X).getD L.length d = s := by
  rw [List.getD_eq_getElem?_getD, List.getElem?_append_right (Nat.le_refl _), Nat.sub_self]
  rfl
theorem wkR_app : ∀ {i : Nat} {a : SKT}, i ≤ L.length → (wkR dA ad r la PS SS nw (L ++ X) a0 i a ↔ wkR dA ad r la PS SS nw L a0 i a)
  | 0, a, _ => Iff.rfl
  | i + 1, a, hi => by
    constructor
    · rintro ⟨b, h1, h2⟩
      rw [gtD_l (by omega)] at h2
      exact ⟨b, (wkR_app (by omega)).mp h1, h2⟩
    · rintro ⟨b, h1, h2⟩
      refine ⟨b, (wkR_app (by omega)).mpr h1, ?_⟩
      rw [gtD_l (by omega)]
      exact h2
theorem wkR_s {a : SKT} (h : wkR dA ad r la PS SS nw (L ++ [s]) a0 (L ++ [s]).length a) : ∃ b, wkR dA ad r la PS SS nw L a0 L.length b ∧ wkS dA ad r la PS SS nw s b a := by
  rw [List.length_append] at h
  obtain ⟨b, h1, h2⟩ := (show wkR dA ad r la PS SS nw (L ++ [s]) a0 (L.length + 1) a from h)
  rw [gtD_e] at h2
  exact ⟨b, (wkR_app (Nat.le_refl _)).mp h1, h2⟩
end WL
section SU
theorem sum_up (f : Nat → Nat) (k v : Nat) : ∀ n, k < n → sumN n (va_up f k v) + f k = sumN n f + v
  | 0, h => absurd h (Nat.not_lt_zero k)
  | n + 1, h => by
    show sumN n (va_up f k v) + va_up f k v n + f k = sumN n f + f n + v
    by_cases e : k = n
    · subst e
      rw [va_up_self, sumN_ext (g := f) (fun i hi => va_up_ne _ _ (Nat.ne_of_lt hi))]
      omega
    · have := sum_up f k v n (by omega)
      rw [va_up_ne _ _ (fun z => e z.symm)]
      omega
end SU
end
section
/-! What the steps use: how many tables, how large. -/
/-- depth, tables, the list's room, each table's room, the best points' room -/
abbrev SHT : Type := Nat × Nat × Nat × (Nat → Nat) × Nat
def shp (a : SKT) : SHT := (a.1.adep, a.2.1.sz, a.2.1.eN, (fun tb => if tb < a.2.1.sz then (a.2.2.2 tb).cN else 0), a.1.bN)
def shOk (σ : SHT) : Prop := σ.1 ≤ σ.2.1 ∧ σ.2.1 ≤ 20 ∧ σ.2.2.1 ≤ 40 ∧ (∀ tb, tb < σ.2.1 → 64 ≤ σ.2.2.2.1 tb ∧ σ.2.2.2.1 tb ≤ 32768) ∧ σ.2.2.2.2 ≤ 32768
def shQ (σ : SHT) : Nat := 700 * σ.2.1 + 2 * sumN σ.2.1 σ.2.2.2.1 + 4 * σ.2.2.2.2
def puS (σ : SHT) : Nat := if σ.1 < σ.2.1 then 0 else 589 + (if σ.2.1 < σ.2.2.1 then 0 else σ.2.2.1 + max 1 (σ.2.2.1 / 2))
def shPu (σ : SHT) : SHT := if σ.1 < σ.2.1 then (σ.1 + 1, σ.2) else (σ.1 + 1, σ.2.1 + 1, (if σ.2.1 < σ.2.2.1 then σ.2.2.1 else σ.2.2.1 + max 1 (σ.2.2.1 / 2)), va_up σ.2.2.2.1 σ.2.1 64, σ.2.2.2.2)
def gwN (R c : Nat) : Nat := if R ≤ c then c else max R (2 * c)
def shFn (R : Nat) (σ : SHT) : SHT := ((shPu σ).1, (shPu σ).2.1, (shPu σ).2.2.1, va_up (shPu σ).2.2.2.1 σ.1 (gwN R ((shPu σ).2.2.2.1 σ.1)), gwN R (shPu σ).2.2.2.2)
def fnS (R : Nat) (σ : SHT) : Nat := puS σ + ((if R ≤ (shPu σ).2.2.2.1 σ.1 then 0 else max R (2 * (shPu σ).2.2.2.1 σ.1)) + (if R ≤ (shPu σ).2.2.2.2 then 0 else 2 * max R (2 * (shPu σ).2.2.2.2)))
def shJn (k : Nat) (σ : SHT) : SHT := (σ.1 - 1, σ.2.1, σ.2.2.1, (if k = 2 then va_up (va_up σ.2.2.2.1 (σ.1 - 2) (σ.2.2.2.1 (σ.1 - 1))) (σ.1 - 1) (σ.2.2.2.1 (σ.1 - 2)) else σ.2.2.2.1), σ.2.2.2.2)
section SH
variable {σ : SHT} {R k : Nat}
theorem shPu_ok (h : shOk σ) (h20 : σ.1 < 20) : shOk (shPu σ) ∧ σ.1 < (shPu σ).2.1 ∧ (shPu σ).1 = σ.1 + 1 ∧ puS σ + shQ σ ≤ shQ (shPu σ) := by
  obtain ⟨h1, h2, h3, h4, h5⟩ := h
  unfold shPu puS
  by_cases c : σ.1 < σ.2.1
  · rw [if_pos c, if_pos c]
    exact ⟨⟨by show σ.1 + 1 ≤ σ.2.1; omega, h2, h3, h4, h5⟩, c, rfl, by show 0 + shQ σ ≤ shQ σ; omega⟩
  · rw [if_neg c, if_neg c]
    have es : sumN (σ.2.1 + 1) (va_up σ.2.2.2.1 σ.2.1 64) = sumN σ.2.1 σ.2.2.2.1 + va_up σ.2.2.2.1 σ.2.1 64 σ.2.1 := sumN_s (fun r hr => va_up_ne _ _ (Nat.ne_of_lt hr))
    rw [va_up_self] at es
    refine ⟨⟨by show σ.1 + 1 ≤ σ.2.1 + 1; omega, by show σ.2.1 + 1 ≤ 20; omega, ?_, fun tb ht => ?_, h5⟩, by show σ.1 < σ.2.1 + 1; omega, rfl, ?_⟩
    · show (if σ.2.1 < σ.2.2.1 then σ.2.2.1 else σ.2.2.1 + max 1 (σ.2.2.1 / 2)) ≤ 40
      split <;> omega
    · have ht : tb < σ.2.1 + 1 := ht
      show 64 ≤ va_up σ.2.2.2.1 σ.2.1 64 tb ∧ va_up σ.2.2.2.1 σ.2.1 64 tb ≤ 32768
      by_cases e : tb = σ.2.1
      · rw [e, va_up_self]; omega
      · rw [va_up_ne _ _ e]
        exact h4 tb (by omega)
    · show 589 + (if σ.2.1 < σ.2.2.1 then 0 else σ.2.2.1 + max 1 (σ.2.2.1 / 2)) + (700 * σ.2.1 + 2 * sumN σ.2.1 σ.2.2.2.1 + 4 * σ.2.2.2.2) ≤ 700 * (σ.2.1 + 1) + 2 * sumN (σ.2.1 + 1) (va_up σ.2.2.2.1 σ.2.1 64) + 4 * σ.2.2.2.2
      rw [es]
      split <;> omega
theorem gwN_b {c : Nat} (h1 : c ≤ 32768) (h2 : R ≤ 16384) : c ≤ gwN R c ∧ gwN R c ≤ 32768 := by
  unfold gwN
  split <;> omega
theorem shFn_ok (h : shOk σ) (h20 : σ.1 < 20) (hR : R ≤ 16384) : shOk (shFn R σ) ∧ fnS R σ + shQ σ ≤ shQ (shFn R σ) ∧ (shFn R σ).1 = σ.1 + 1 := by
  obtain ⟨⟨h1, h2, h3, h4, h5⟩, q1, q2, q3⟩ := shPu_ok h h20
  unfold shFn fnS
  obtain ⟨τ, et⟩ : ∃ τ, τ = shPu σ := ⟨_, rfl⟩
  rw [← et] at h1 h2 h3 h4 h5 q1 q2 q3 ⊢
  have su := sum_up τ.2.2.2.1 σ.1 (gwN R (τ.2.2.2.1 σ.1)) τ.2.1 q1
  refine ⟨⟨h1, h2, h3, fun tb ht => ?_, (gwN_b h5 hR).2⟩, ?_, q2⟩
  · show 64 ≤ va_up τ.2.2.2.1 σ.1 _ tb ∧ va_up τ.2.2.2.1 σ.1 _ tb ≤ 32768
    by_cases e : tb = σ.1
    · rw [e, va_up_self]
      have := gwN_b (R := R) (h4 σ.1 q1).2 hR
      have := (h4 σ.1 q1).1
      omega
    · rw [va_up_ne _ _ e]
      exact h4 tb ht
  · show puS σ + ((if R ≤ τ.2.2.2.1 σ.1 then 0 else max R (2 * τ.2.2.2.1 σ.1)) + (if R ≤ τ.2.2.2.2 then 0 else 2 * max R (2 * τ.2.2.2.2))) + shQ σ ≤ 700 * τ.2.1 + 2 * sumN τ.2.1 (va_up τ.2.2.2.1 σ.1 (gwN R (τ.2.2.2.1 σ.1))) + 4 * gwN R τ.2.2.2.2
    have q3 : puS σ + shQ σ ≤ 700 * τ.2.1 + 2 * sumN τ.2.1 τ.2.2.2.1 + 4 * τ.2.2.2.2 := q3
    have g1 : (if R ≤ τ.2.2.2.1 σ.1 then 0 else max R (2 * τ.2.2.2.1 σ.1)) + 2 * τ.2.2.2.1 σ.1 ≤ 2 * gwN R (τ.2.2.2.1 σ.1) := by
      unfold gwN
      split <;> omega
    have g2 : (if R ≤ τ.2.2.2.2 then 0 else 2 * max R (2 * τ.2.2.2.2)) + 4 * τ.2.2.2.2 ≤ 4 * gwN R τ.2.2.2.2 := by
      unfold gwN
      split <;> omega
    omega
theorem shJn_ok (h : shOk σ) (h2 : 2 ≤ σ.1) : shOk (shJn k σ) ∧ shQ (shJn k σ) = shQ σ ∧ (shJn k σ).1 = σ.1 - 1 := by
  obtain ⟨h1, h2', h3, h4, h5⟩ := h
  unfold shJn
  refine ⟨⟨by show σ.1 - 1 ≤ σ.2.1; omega, h2', h3, fun tb ht => ?_, h5⟩, ?_, rfl⟩
  · have ht : tb < σ.2.1 := ht
    show 64 ≤ (if k = 2 then va_up (va_up σ.2.2.2.1 (σ.1 - 2) (σ.2.2.2.1 (σ.1 - 1))) (σ.1 - 1) (σ.2.2.2.1 (σ.1 - 2)) else σ.2.2.2.1) tb ∧ (if k = 2 then va_up (va_up σ.2.2.2.1 (σ.1 - 2) (σ.2.2.2.1 (σ.1 - 1))) (σ.1 - 1) (σ.2.2.2.1 (σ.1 - 2)) else σ.2.2.2.1) tb ≤ 32768
    split
    · by_cases e : tb = σ.1 - 1
      · rw [e, va_up_self]
        exact h4 _ (by omega)
      · rw [va_up_ne _ _ e]
        by_cases e2 : tb = σ.1 - 2
        · rw [e2, va_up_self]
          exact h4 _ (by omega)
        · rw [va_up_ne _ _ e2]
          exact h4 tb ht
    · exact h4 tb ht
  · show 700 * σ.2.1 + 2 * sumN σ.2.1 (if k = 2 then va_up (va_up σ.2.2.2.1 (σ.1 - 2) (σ.2.2.2.1 (σ.1 - 1))) (σ.1 - 1) (σ.2.2.2.1 (σ.1 - 2)) else σ.2.2.2.1) + 4 * σ.2.2.2.2 = 700 * σ.2.1 + 2 * sumN σ.2.1 σ.2.2.2.1 + 4 * σ.2.2.2.2
    split
    · have s1 := sum_up (va_up σ.2.2.2.1 (σ.1 - 2) (σ.2.2.2.1 (σ.1 - 1))) (σ.1 - 1) (σ.2.2.2.1 (σ.1 - 2)) σ.2.1 (by omega)
      have s2 := sum_up σ.2.2.2.1 (σ.1 - 2) (σ.2.2.2.1 (σ.1 - 1)) σ.2.1 (by omega)
      rw [va_up_ne _ _ (show ¬ σ.1 - 1 = σ.1 - 2 by omega)] at s1
      omega
    · rfl
end SH
section SW2
variable {dA : Nat → ClassId} {ad : Nat → Nat} {r : va_W} {la : Nat → Nat} {a m b : SKT}
theorem shp_ps (h : psQ dA ad r la a m) : shp m = shPu (shp a) := by
  obtain ⟨h1, -, h3⟩ := h
  have ea : m.1.adep = a.1.adep + 1 := by
    have := congrArg VS.adep h1
    exact this
  have eb : m.1.bN = a.1.bN := by
    have := congrArg VS.bN h1
    exact this
  rcases h3 with ⟨c, c1, -, c3⟩ | ⟨c, c1, c2, c3, q, c4⟩
  · unfold shPu
    rw [if_pos (show (shp a).1 < (shp a).2.1 from c)]
    unfold shp
    rw [ea, eb, c1, c3]
  · have lt : ¬ (shp a).1 < (shp a).2.1 := by show ¬ a.1.adep < a.2.1.sz; omega
    unfold shPu
    rw [if_neg lt]
    unfold shp
    rw [ea, eb, c1, c2]
    have ef : (fun tb => if tb < a.2.1.sz + 1 then (m.2.2.2 tb).cN else 0) = va_up (fun tb => if tb < a.2.1.sz then (a.2.2.2 tb).cN else 0) a.2.1.sz 64 := by
      funext tb
      by_cases e : tb = a.2.1.sz
      · rw [e, va_up_self, if_pos (by omega), c4]
        rfl
      · rw [va_up_ne _ _ e, (c3 tb e).2]
        exact if_cg (by omega) rfl rfl
    rw [ef]
    rfl
theorem va_up_id {f : Nat → Nat} {k v : Nat} (h : v = f k) : va_up f k v = f := by
  funext q
  by_cases e : q = k
  · rw [e, va_up_self, h]
  · rw [va_up_ne _ _ e]
theorem shp_U {x : VS} {d : Nat} {t : TB} (h : skU dA ad r la m x d t b) (hd : d < m.2.1.sz) : shp b = (x.adep, (shp m).2.1, (shp m).2.2.1, va_up (shp m).2.2.2.1 d t.cN, x.bN) := by
  obtain ⟨h1, h2, -, h4, -⟩ := h
  have ea : b.1.adep = x.adep := by
    have := congrArg VS.adep h1
    exact this
  have eb : b.1.bN = x.bN := by
    have := congrArg VS.bN h1
    exact this
  unfold shp
  rw [ea, eb, h2, h4]
  have ef : (fun tb => if tb < m.2.1.sz then (va_up m.2.2.2 d t tb).cN else 0) = va_up (fun tb => if tb < m.2.1.sz then (m.2.2.2 tb).cN else 0) d t.cN := by
    funext tb
    by_cases e : tb = d
    · rw [e, va_up_self, va_up_self, if_pos hd]
    · rw [va_up_ne _ _ e, va_up_ne _ _ e]
  rw [ef]
theorem de_cN (t : TB) : t.de.cN = t.cN := (deG_k t t.rc).2.2.1
theorem jmG_cN {sg : Int32} {NL : Nat → List Int32} {t u : TB} {RS RU : Nat → List LB} : ∀ r, (jmG sg NL t u RS RU r).2.2.cN = t.cN
  | 0 => rfl
  | r + 1 => by
    have ih := jmG_cN (sg := sg) (NL := NL) (t := t) (u := u) (RS := RS) (RU := RU) r
    show (jmS sg NL t.nc u RS RU r (jmG sg NL t u RS RU r).1 (jmG sg NL t u RS RU r).2.1 (jmG sg NL t u RS RU r).2.2).2.2.cN = t.cN
    unfold jmS
    split
    · exact ih
    · exact ih
theorem jnT_cN {sg : Int32} {NL : Nat → List Int32} {t u : TB} {RS RU : Nat → List LB} {k : Nat} (hk : k ≤ 2) : (jnT sg NL RS RU t u k).cN = if k = 2 then u.cN else t.cN := by
  unfold jnT
  by_cases c0 : k = 0
  · rw [if_pos c0, if_neg (show ¬ k = 2 by omega)]
    split
    · unfold TB.j0
      split
      · exact de_cN _
      · exact de_cN _
    · unfold TB.jm
      rw [de_cN]
      exact jmG_cN t.rc
  · rw [if_neg c0]
    by_cases c1 : k = 1
    · rw [if_pos c1, if_neg (show ¬ k = 2 by omega)]
      split
      · exact de_cN _
      · rw [de_cN]
        exact (jsL_a sg t u t.rc).2.2.2.1
    · rw [if_neg c1, if_pos (show k = 2 by omega)]
      split
      · exact de_cN _
      · rw [de_cN]
        exact (jsR_a sg u t u.rc).2.2.2.1
theorem shp_J {sg : Int32} {NL NR : Nat → List Int32} {RS RU : Nat → List LB} (h : jnZ dA ad r la sg NL NR RS RU a.1 a.2.1 a.2.2.1 a.2.2.2 b.1 b.2.1 b.2.2.1 b.2.2.2) (h2 : 2 ≤ a.1.adep) (hs : a.1.adep ≤ a.2.1.sz) (h3 : ¬ jnC NL NR (a.2.2.2 (a.1.adep - 2)) (a.2.2.2 (a.1.adep - 1)) = 3) : shp b = shJn (jnC NL NR (a.2.2.2 (a.1.adep - 2)) (a.2.2.2 (a.1.adep - 1))) (shp a) := by
  obtain ⟨j1, -, j3, j4, j5, j6, -⟩ := h
  have ea : b.1.adep = a.1.adep - 1 := by
    have := congrArg VS.adep j1
    exact this
  have eb : b.1.bN = a.1.bN := by
    have := congrArg VS.bN j1
    exact this
  obtain ⟨k, ek⟩ : ∃ k, k = jnC NL NR (a.2.2.2 (a.1.adep - 2)) (a.2.2.2 (a.1.adep - 1)) := ⟨_, rfl⟩
  have k3 : k ≤ 3 := by
    rw [ek]
    unfold jnC
    repeat' split
    all_goals omega
  rw [← ek] at j5 j6 h3 ⊢
  unfold shJn shp
  rw [ea, eb, j3, j4]
  by_cases c : k = 2
  · rw [if_pos c, (j6 c).2]
    have ef : (fun tb => if tb < a.2.1.sz then (va_up (va_up a.2.2.2 (a.1.adep - 2) (jnT sg NL RS RU (a.2.2.2 (a.1.adep - 2)) (a.2.2.2 (a.1.adep - 1)) k)) (a.1.adep - 1) (a.2.2.2 (a.1.adep - 2)) tb).cN else 0) = va_up (va_up (fun tb => if tb < a.2.1.sz then (a.2.2.2 tb).cN else 0) (a.1.adep - 2) (if a.1.adep - 1 < a.2.1.sz then (a.2.2.2 (a.1.adep - 1)).cN else 0)) (a.1.adep - 1) (if a.1.adep - 2 < a.2.1.sz then (a.2.2.2 (a.1.adep - 2)).cN else 0) := by
      funext tb
      rw [if_pos (show a.1.adep - 1 < a.2.1.sz by omega), if_pos (show a.1.adep - 2 < a.2.1.sz by omega)]
      by_cases e : tb = a.1.adep - 1
      · rw [e, va_up_self, va_up_self, if_pos (by omega)]
      · rw [va_up_ne _ _ e, va_up_ne _ _ e]
        by_cases e2 : tb = a.1.adep - 2
        · rw [e2, va_up_self, va_up_self, if_pos (by omega), jnT_cN (by omega), if_pos c]
        · rw [va_up_ne _ _ e2, va_up_ne _ _ e2]
    rw [ef]
  · rw [if_neg c, (j5 (by omega)).2]
    have ef : (fun tb => if tb < a.2.1.sz then (va_up a.2.2.2 (a.1.adep - 2) (jnT sg NL RS RU (a.2.2.2 (a.1.adep - 2)) (a.2.2.2 (a.1.adep - 1)) k) tb).cN else 0) = (fun tb => if tb < a.2.1.sz then (a.2.2.2 tb).cN else 0) := by
      funext tb
      by_cases e : tb = a.1.adep - 2
      · rw [e, va_up_self, jnT_cN (by omega), if_neg c]
      · rw [va_up_ne _ _ e]
    rw [ef]
end SW2
end
section
/-! A function's table: what the class's picking leaves. -/
section PG
variable {dA : Nat → ClassId} {pl : va_W} {SS : Nat → List LB} {kn kn' : Nat → Option Nat} {n nm : Nat} {NL : Nat → List Int32} {KD : Nat → Int32} {MN MT : Nat → List Int32} {g g' : PKS}
theorem pkG_a (hkn : knOk dA kn n pl SS) (h0 : g.1.rc = 0) : ∀ i, i ≤ n → rsOk dA pl (pkG NL nm KD MN MT SS kn g i).1.rs (pkG NL nm KD MN MT SS kn g i).1.rc (pkG NL nm KD MN MT SS kn g i).2.1 ∧ (pkG NL nm KD MN MT SS kn g i).1.rc ≤ 256 ∧ (pkG NL nm KD MN MT SS kn g i).1.nc = g.1.nc ∧ (pkG NL nm KD MN MT SS kn g i).1.nm = g.1.nm ∧ (pkG NL nm KD MN MT SS kn g i).1.wi = g.1.wi ∧ (pkG NL nm KD MN MT SS kn g i).1.cN = g.1.cN
  | 0, _ => ⟨fun q hq => by
      have hq : q < g.1.rc := hq
      omega, by show g.1.rc ≤ 256; omega, rfl, rfl, rfl, rfl⟩
  | i + 1, hi => by
    obtain ⟨i1, i2, i3, i4, i5, i6⟩ := pkG_a hkn h0 i (by omega)
    obtain ⟨a, k1, k2, k3⟩ := hkn i (by omega)
    unfold pkG
    split
    · obtain ⟨r1, r2, r3, r4, r5, r6, -⟩ := rsOk_ad (NL := NL) (a := (kn i).getD 0) i1 (by rw [k1]; exact k2) k3 i2
      exact ⟨r1, r2, r3.trans i3, r4.trans i4, r5.trans i5, r6.trans i6⟩
    · exact ⟨i1, i2, i3, i4, i5, i6⟩
theorem adT_rc {t : TB} {RS : Nat → List LB} {S : List LB} {a : Nat} : (adT NL t RS S a).rc = (if t.rc = 256 ∨ (plT NL t.nc t.rc RS S < t.rc ∧ cmT NL t.nc (RS (plT NL t.nc t.rc RS S)) S = 0) then t.rc else t.rc + 1) ∧ (adT NL t RS S a).nc = t.nc := by
  unfold adT
  split
  · exact ⟨rfl, rfl⟩
  · exact ⟨rfl, rfl⟩
theorem pkG_sh (h1 : g.1.rc = g'.1.rc) (h2 : g.1.nc = g'.1.nc) (h3 : g.2.1 = g'.2.1) : ∀ i, (pkG NL nm KD MN MT SS kn g i).1.rc = (pkG NL nm KD MN MT SS kn' g' i).1.rc ∧ (pkG NL nm KD MN MT SS kn g i).1.nc = (pkG NL nm KD MN MT SS kn' g' i).1.nc ∧ (pkG NL nm KD MN MT SS kn g i).2.1 = (pkG NL nm KD MN MT SS kn' g' i).2.1
  | 0 => ⟨h1, h2, h3⟩
  | i + 1 => by
    obtain ⟨i1, i2, i3⟩ := pkG_sh h1 h2 h3 i
    unfold pkG
    generalize pkG NL nm KD MN MT SS kn g i = A at i1 i2 i3
    generalize pkG NL nm KD MN MT SS kn' g' i = B at i1 i2 i3
    split
    · show (adT NL A.1 A.2.1 (SS i) ((kn i).getD 0)).rc = (adT NL B.1 B.2.1 (SS i) ((kn' i).getD 0)).rc ∧ (adT NL A.1 A.2.1 (SS i) ((kn i).getD 0)).nc = (adT NL B.1 B.2.1 (SS i) ((kn' i).getD 0)).nc ∧ adRS NL A.1 A.2.1 (SS i) = adRS NL B.1 B.2.1 (SS i)
      unfold adRS
      rw [adT_rc.1, adT_rc.1, adT_rc.2, adT_rc.2, i1, i2, i3]
      exact ⟨rfl, rfl, rfl⟩
    · exact ⟨i1, i2, i3⟩
end PG
/-- how many rows a function's table has before empty ones are dropped -/
def rwN (s : SP1) (SS : Nat → List LB) (n : Nat) : Nat := (pkG s.2.2.2.2.1 s.2.2.2.2.2.1 s.2.2.2.2.2.2.1 s.2.2.2.2.2.2.2.1 s.2.2.2.2.2.2.2.2 SS (fun _ => none) (TB.s_nc (tb0 0) s.2.2.2.1, fun _ => [], fun _ => 0, fun _ => false) n).1.rc
section MB
variable {fn : Int32} {x : VS} {PS : Nat → PT} {t : TB}
theorem mm1_bo {M : MM} {o : Nat} {tm v : Int64} (h : ∀ k, M.2.2.2.2 k < 256) (ho : o < 256) : ∀ k, (mm1 fn x M o tm v).2.2.2.2 k < 256 := mqO_l (x := x.pb M) h ho
theorem mmA_bo (h : ∀ k, x.bO k < 256) (h1 : ∀ k, k < x.npc → ∀ i, i < (PS k).n → (PS k).o i < 256) (h2 : ∀ i, i < x.hsize → x.hO i < 256) : ∀ k, (mmA fn x PS t).2.2.2.2 k < 256 := by
  have sP : ∀ k, k < x.npc → ∀ M : MM, (∀ q, M.2.2.2.2 q < 256) → ∀ i, i ≤ (PS k).n → ∀ q, (mmP fn x (PS k) M i).2.2.2.2 q < 256 := fun k hkn M hM i => by
    induction i with
    | zero => exact fun _ => hM
    | succ i ih =>
      intro hi
      unfold mmP
      split
      · exact mm1_bo (ih (by omega)) (h1 k hkn i (by omega))
      · exact ih (by omega)
  have sK : ∀ k, k ≤ x.npc → ∀ q, (mmK fn x PS (x.m0 t) k).2.2.2.2 q < 256 := fun k => by
    induction k with
    | zero => exact fun _ => h
    | succ k ih => exact fun hkn => sP k (by omega) _ (ih (by omega)) _ (Nat.le_refl _)
  have sH : ∀ i, i ≤ x.hsize → ∀ q, (mmH fn x (mmK fn x PS (x.m0 t) x.npc) i).2.2.2.2 q < 256 := fun i => by
    induction i with
    | zero => exact fun _ => sK x.npc (Nat.le_refl _)
    | succ i ih =>
      intro hi
      unfold mmH
      split
      · exact mm1_bo (ih (by omega)) (h2 i (by omega))
      · exact ih (by omega)
  exact sH x.hsize (Nat.le_refl _)
end MB
theorem clT_n (t : TB) (q : Nat) : (clT t q).cN = gwN (t.rc * t.wi) t.cN := by
  unfold clT gwN
  split <;> rfl
section PT2
variable {dA : Nat → ClassId} {z : MS} {x : VS} {PS : Nat → PT} {dn : Nat → Nat} {SS : Nat → List LB} {NL : Nat → List Int32} {nn nm wh p : Nat} {KD : Nat → Int32} {MN MT : Nat → List Int32} {t : TB} {nu : Int64} {v9 : PKT}
theorem pk_own (hp : ptR z x PS dn) (h256 : ∀ q, q < z.points → z.pointSeries q < 256) : (∀ k, k < x.npc → ∀ i, i < (PS k).n → (PS k).o i < 256) ∧ ∀ i, i < x.hsize → x.hO i < 256 := by
  refine ⟨fun k hkn i hi => ?_, fun i hi => ?_⟩
  · obtain ⟨q, q1, q2, q3, q4⟩ := arr_ix (hp.1.2.2.2 k hkn).1 (W := z.seriesCount) (fun q hq hc => in_se hp hkn hq hc) hi
    rw [q3]
    exact h256 q q1
  · obtain ⟨l1, l2⟩ := hp.1.1
    rw [l1] at hi
    obtain ⟨q, q1, q2, q3⟩ := cnt_at hi
    have := (l2 q q1 q2).1
    rw [q3] at this
    rw [this]
    exact h256 q q1
theorem pk_T (h : pkF dA t x nu nn NL nm KD MN MT SS PS v9) (hn : nmRe z z.pile nn NL) (hnn : nn ≤ 6) (hx : txR z.texts z.textLengths z.seriesCount SS) (hg : ∀ q, q < z.seriesCount → serG (SS q)) (h256 : z.seriesCount ≤ 256) (hps : ∀ q, q < z.points → z.pointSeries q < 256) (hm : ∀ s, s < z.seriesCount → ∀ v, ((MS.s_valueLength z v).mt s p).1 = pkT nm KD MN MT SS s) (hnu : nu.toInt32 = nI wh) (hwh : wh < 7) (hk : wiK z) (hp : ptR z x PS dn) (hX : x.afr = z.windowsFrom ∧ x.awd = z.width ∧ x.awi = z.windows) (hns : x.nser = z.seriesCount) (hkn : knOk dA x.kn x.nser x.pl SS) (hc : t.cN ≤ 32768) (hb : x.bN ≤ 32768) (hbo : ∀ k, x.bO k < 256) {R : Nat} (hR : R = (pkG NL nm KD MN MT SS x.kn (TB.s_rc (TB.s_wi (TB.s_nc t nn) x.awi) 0, fun _ => [], x.aro, x.ahb) x.nser).1.rc) :
    R ≤ 256 ∧ (∃ RS', tabR (z.rkS wh p) z.pile v9.1 NL RS' SS ∧ tbK dA x.pl z.windows v9.1 NL RS') ∧ v9.1.cN = gwN (R * z.windows) t.cN ∧ v9.2.2.2.2.2.1 = gwN (R * z.windows) x.bN ∧ ∀ k, v9.2.2.2.2.2.2.2.1 k < 256 := by
  obtain ⟨Tf, aro1, ahb1, abf1, bA1, bN1, bT1, bO1, nm1, T1, RS1, ar1, hb1, T2, bT0, bO0, T3⟩ := v9
  obtain ⟨f1, f2, f3, ⟨q0, f4⟩, f5, f6, f7, f8⟩ := h
  have f1 : nmOk dA x.pl nm1 nn NL := f1
  have f2 : (T1, RS1, ar1, hb1) = pkG NL nm KD MN MT SS x.kn (TB.s_rc (TB.s_wi (TB.s_nc (TB.s_nm t nm1) nn) x.awi) 0, fun _ => [], x.aro, x.ahb) x.nser := f2
  have f3 : aro1 = pkR NL SS T1.nc T1.rc RS1 ar1 x.nser := f3
  have f4 : T2 = clT T1 q0 := f4
  have f5 : beR (VS.s_ahb (VS.s_aro x aro1) hb1) (T2.rc * x.awi) (bA1, bN1, bT0, bO0) := f5
  obtain ⟨X, eX⟩ : ∃ X, X = VS.s_bO (VS.s_bT (VS.s_bN (VS.s_bA (VS.s_ahb (VS.s_aro x aro1) hb1) bA1) bN1) bT0) bO0 := ⟨_, rfl⟩
  have f6 : (T3, ahb1, abf1, bT1, bO1) = mmA nu.toInt32 X PS T2 := by rw [eX]; exact f6
  have f7 : Tf = T3.de := f7
  have f8 : rsAll dA x.pl T3.rs := f8
  obtain ⟨g1, g2, g3, g4, g5, g6⟩ := pkG_a (NL := NL) (nm := nm) (KD := KD) (MN := MN) (MT := MT) (g := (TB.s_rc (TB.s_wi (TB.s_nc (TB.s_nm t nm1) nn) x.awi) 0, fun _ => [], x.aro, x.ahb)) hkn rfl x.nser (Nat.le_refl _)
  obtain ⟨s1, -, -⟩ := pkG_sh (NL := NL) (nm := nm) (KD := KD) (MN := MN) (MT := MT) (SS := SS) (kn := x.kn) (kn' := x.kn) (g := (TB.s_rc (TB.s_wi (TB.s_nc (TB.s_nm t nm1) nn) x.awi) 0, fun _ => [], x.aro, x.ahb)) (g' := (TB.s_rc (TB.s_wi (TB.s_nc t nn) x.awi) 0, fun _ => [], x.aro, x.ahb)) rfl rfl rfl x.nser
  rw [← hR] at s1
  rw [← f2] at g1 g2 g3 g4 g5 g6 s1
  have g1 : rsOk dA x.pl T1.rs T1.rc RS1 := g1
  have g2 : T1.rc ≤ 256 := g2
  have g3 : T1.nc = nn := g3
  have g4 : T1.nm = nm1 := g4
  have g5 : T1.wi = x.awi := g5
  have g6 : T1.cN = t.cN := g6
  have s1 : T1.rc = R := s1
  obtain ⟨c1, c2, c3, c4, c5, c6⟩ := clT_k T1 q0
  rw [← f4] at c1 c2 c3 c4 c5 c6
  have h64 : z.windows ≤ 64 := hk.1
  have rw16 : R * z.windows ≤ 16384 := rw_le (by omega) h64
  have cn2 : T2.cN = gwN (R * z.windows) t.cN := by rw [f4, clT_n, s1, g5, hX.2.2, g6]
  have T3e : T3 = (mmA nu.toInt32 X PS T2).1 := congrArg (fun w => w.1) f6
  have bOe : bO1 = (mmA nu.toInt32 X PS T2).2.2.2.2 := congrArg (fun w => w.2.2.2.2) f6
  obtain ⟨m1, m2, m3, m4⟩ := mmA_k nu.toInt32 X PS T2
  rw [← T3e] at m1 m2 m3 m4
  obtain ⟨o1, o2⟩ := pk_own hp hps
  have pX : ptR z X PS dn := by rw [eX]; exact hp
  obtain ⟨φ, r1, r2⟩ := rk_tab (q0 := q0) (T1 := T1) (RS1 := RS1) (ar1 := ar1) (hb1 := hb1) (kn := x.kn) (X := X) (PS := PS) (dn := dn) hn hnn hx hg h256 hm (g0 := (TB.s_rc (TB.s_wi (TB.s_nc (TB.s_nm t nm1) nn) x.awi) 0, fun _ => [], x.aro, x.ahb)) ⟨rfl, rfl, hX.2.2⟩ hwh hk pX (by rw [eX]; exact hX) (by rw [← hns]; exact f2.symm) (by rw [eX, ← hns]; exact f3) (by rw [eX])
  rw [← f4, ← hnu, ← T3e, ← f7] at r1 r2
  obtain ⟨d1, d2, d3, d4, d5, d6, d7⟩ := deG_k T3 T3.rc
  have X2 : X.afr = x.afr ∧ X.awi = x.awi ∧ X.bO = bO0 ∧ X.npc = x.npc ∧ X.hsize = x.hsize ∧ X.hO = x.hO ∧ X.awd = x.awd ∧ X.hT = x.hT := by rw [eX]; exact ⟨rfl, rfl, rfl, rfl, rfl, rfl, rfl, rfl⟩
  have tmB : ∀ q, q < z.points → z.pointTimes q ≤ 1099511627775 := fun q hq => Int64.not_lt.mp (hp.2.2.2.2.2 q hq).2
  have wk : ∀ tm : Int64, tm ≤ 1099511627775 → wOk X.afr X.awd X.awi tm := fun tm htm => by
    rw [X2.1, X2.2.1, hX.1, hX.2.2]
    exact wOk_of h64 hk.2.2.1 htm
  obtain ⟨k1, k2, k3, k4, -⟩ := mmA_2 (fn := nu.toInt32) (x := X) (PS := PS) (t := T2) (by rw [c1, g5, X2.2.1]) (by rw [X2.2.1, hX.2.2]; exact h64) (fun k hkn i hi => wk _ (by
    rw [X2.2.2.2.1] at hkn
    obtain ⟨q, q1, q2, q3, q4⟩ := arr_ix (hp.1.2.2.2 k hkn).1 (W := z.seriesCount) (fun q hq hc => in_se hp hkn hq hc) hi
    rw [q4]
    exact tmB q q1)) (fun i hi => wk _ (by
    rw [X2.2.2.2.2.1] at hi
    rw [X2.2.2.2.2.2.2.2]
    obtain ⟨l1, l2⟩ := hp.1.1
    rw [l1] at hi
    obtain ⟨q, q1, q2, q3⟩ := cnt_at hi
    have := (l2 q q1 q2).2.1
    rw [q3] at this
    rw [this]
    exact tmB q q1)) (fun r hr w _ hw => by
    have := (clTz_k T1 q0).2.2.2.1
    rw [← f4] at this
    rw [this r (by omega)]
    exact hb_0 hw)
  rw [← T3e] at k1 k2 k3 k4
  have en : Tf.nm = nm1 := by rw [f7]; exact d5.trans (k4.trans (c4.trans g4))
  have ec : Tf.nc = nn := by rw [f7]; exact d6.trans (k3.trans (c5.trans g3))
  have ew : Tf.wi = z.windows := by rw [f7]; exact d1.trans (k1.trans (c1.trans (g5.trans hX.2.2)))
  have eN : Tf.cN = gwN (R * z.windows) t.cN := by rw [f7]; exact d3.trans (m3.trans cn2)
  have erc : Tf.rc ≤ R := by
    rw [f7]
    show (deG T3 T3.rc).1 ≤ R
    omega
  have gb := gwN_b (R := R * z.windows) hc rw16
  refine ⟨by omega, ⟨fun q => RS1 (φ q), r1, ?_⟩, eN, ?_, ?_⟩
  · show tbK dA x.pl z.windows Tf NL (fun q => RS1 (φ q))
    refine ⟨by rw [en, ec]; exact f1, by omega, fun _ => ?_, ?_, by omega, ew, ?_, by rw [eN]; omega, r1.2.2.2.1⟩
    · intro q hq
      obtain ⟨p1, p2⟩ := r2 q hq
      obtain ⟨a, a1, a2⟩ := g1 (φ q) (by omega)
      exact ⟨a, by rw [p2, m4, c3]; exact a1, a2⟩
    · rw [f7]
      exact rsAll_de f8 T3.rc
    · rw [ew, eN]
      have : Tf.rc * z.windows ≤ R * z.windows := Nat.mul_le_mul_right _ erc
      unfold gwN
      split <;> omega
  · show bN1 = _
    have e : T2.rc * x.awi = R * z.windows := by rw [c2, s1, hX.2.2]
    rw [e] at f5
    unfold gwN
    rcases f5 with ⟨b1, b2⟩ | ⟨b1, b2, -, -⟩
    · have b2 : (bA1, bN1, bT0, bO0) = (x.bA, x.bN, x.bT, x.bO) := b2
      rw [if_pos (show R * z.windows ≤ x.bN from b1)]
      exact congrArg (fun w => w.2.1) b2
    · rw [if_neg (show ¬ R * z.windows ≤ x.bN from Nat.not_le.mpr b1)]
      exact b2
  · show ∀ k, bO1 k < 256
    rw [bOe]
    have b0 : ∀ k, bO0 k < 256 := by
      rcases f5 with ⟨b1, b2⟩ | ⟨b1, -, -, b3⟩
      · have b2 : (bA1, bN1, bT0, bO0) = (x.bA, x.bN, x.bT, x.bO) := b2
        have e : bO0 = x.bO := congrArg (fun w => w.2.2.2) b2
        rw [e]
        exact hbo
      · have b3 : bO0 = fun _ => 0 := b3
        rw [b3]
        exact fun _ => (show (0 : Nat) < 256 by decide)
    exact mmA_bo (by rw [X2.2.2.1]; exact b0) (by rw [X2.2.2.2.1]; exact o1) (by rw [X2.2.2.2.2.1, X2.2.2.2.2.2.1]; exact o2)
end PT2
end
section
/-! The steps done, both sides: the invariant. -/
section JW
variable (dA : Nat → ClassId) (ad : Nat → Nat) (r : va_W) (la : Nat → Nat) (PS : Nat → PT) (SS : Nat → List LB) (nw : Nat) (I : SKT → Prop) (σ0 : SHT) (dn : Nat → Nat)
/-- what no step changes -/
def basR (y : MS) : Prop := (y.windows = nw ∧ wiK y ∧ y.seriesCount ≤ 256 ∧ byteF y.tape) ∧ (txR y.texts y.textLengths y.seriesCount SS ∧ ∀ q, q < y.seriesCount → serG (SS q)) ∧ ∀ a0, I a0 → ptR y a0.1 PS dn ∧ a0.1.nser = y.seriesCount ∧ a0.1.awi = nw ∧ a0.1.afr = y.windowsFrom ∧ a0.1.awd = y.width
/-- the tables below the depth -/
def stR (y : MS) (a : SKT) : Prop := a.1.adep = y.pile ∧ (∀ tb, tb < y.pile → ∃ NL RS, tabR y tb (a.2.2.2 tb) NL RS SS ∧ tbK dA a.1.pl nw (a.2.2.2 tb) NL RS) ∧ (∀ tb, tb < a.2.1.sz → rsAll dA a.1.pl (a.2.2.2 tb).rs) ∧ ∀ k, a.1.bO k < 256
/-- every step of L could be done, and what they used -/
def jOk (L : List SP1) (σ : SHT) (cC cS : Nat → Nat) : Prop := (∀ i, i < L.length → ∀ a0, I a0 → ∀ a, wkR dA ad r la PS SS nw L a0 i a → wkO dA ad r la SS (L.getD i (spO 0 0 0)) (cC i) (cC (i + 1)) (cS i) (cS (i + 1)) a) ∧ (∀ i, i ≤ L.length → cC i ≤ cC L.length ∧ cS i ≤ cS L.length) ∧ cC L.length ≤ 9 * L.length ∧ cS L.length + shQ σ0 ≤ shQ σ
def Jw (L : List SP1) (y : MS) : Prop := y.works = true → basR PS SS nw I dn y ∧ ∃ (σ : SHT) (cC cS : Nat → Nat), jOk dA ad r la PS SS nw I σ0 L σ cC cS ∧ shOk σ ∧ σ.1 = y.pile ∧ ∀ a0, I a0 → ∀ a, wkR dA ad r la PS SS nw L a0 L.length a → shp a = σ ∧ stR dA SS nw y a
def Jx (L : List SP1) (s : SP1) (v : MS) : Prop := ∃ (σ : SHT) (cC cS : Nat → Nat), jOk dA ad r la PS SS nw I σ0 L σ cC cS ∧ shOk σ ∧ (∀ a0, I a0 → ∀ a, wkR dA ad r la PS SS nw L a0 L.length a → shp a = σ ∧ wkX dA s a ∧ (∀ tb, tb < a.2.1.sz → rsAll dA a.1.pl (a.2.2.2 tb).rs) ∧ ∀ k, a.1.bO k < 256) ∧ v.faultCode = 5 ∧ v.faultPlace = nI s.2.1
end JW
section JS
variable {dA : Nat → ClassId} {ad : Nat → Nat} {r : va_W} {la : Nat → Nat} {PS : Nat → PT} {SS : Nat → List LB} {nw : Nat} {I : SKT → Prop} {σ0 : SHT} {a m b : SKT} {dn : Nat → Nat} {y y1 : MS} {σ σ1 : SHT} {L : List SP1} {s : SP1} {cC cS : Nat → Nat}
theorem J_step {c1 s1 : Nat} (h0 : ∀ a0, I a0 → skQ dA ad r la a0) (hj : jOk dA ad r la PS SS nw I σ0 L σ cC cS) (hr : ∀ a0, I a0 → ∀ a, wkR dA ad r la PS SS nw L a0 L.length a → shp a = σ ∧ stR dA SS nw y a) (h1 : ∀ a0, I a0 → ∀ a, shp a = σ → stR dA SS nw y a → skQ dA ad r la a → a0.1.ak a.1 → ∀ c0 s0, wkO dA ad r la SS s c0 (c0 + c1) s0 (s0 + s1) a) (hc : c1 ≤ 9) (hq : s1 + shQ σ ≤ shQ σ1) (h2 : ∀ a0, I a0 → ∀ a b, shp a = σ → stR dA SS nw y a → skQ dA ad r la a → a0.1.ak a.1 → wkS dA ad r la PS SS nw s a b → shp b = σ1 ∧ stR dA SS nw y1 b) : ∃ cC' cS', jOk dA ad r la PS SS nw I σ0 (L ++ [s]) σ1 cC' cS' ∧ ∀ a0, I a0 → ∀ b, wkR dA ad r la PS SS nw (L ++ [s]) a0 (L ++ [s]).length b → shp b = σ1 ∧ stR dA SS nw y1 b := by
  obtain ⟨j1, j2, j3, j4⟩ := hj
  have el : (L ++ [s]).length = L.length + 1 := by rw [List.length_append]; rfl
  refine ⟨fun i => if i ≤ L.length then cC i else cC L.length + c1, fun i => if i ≤ L.length then cS i else cS L.length + s1, ⟨fun i hi a0 i0 a ha => ?_, fun i hi => ?_, ?_, ?_⟩, fun a0 i0 b hb => ?_⟩
  · rw [el] at hi
    have ha2 := (wkR_app (show i ≤ L.length by omega)).mp ha
    by_cases c : i < L.length
    · rw [gtD_l c]
      dsimp only
      rw [if_pos (show i ≤ L.length by omega), if_pos (show i + 1 ≤ L.length by omega), if_pos (show i ≤ L.length by omega), if_pos (show i + 1 ≤ L.length by omega)]
      exact j1 i c a0 i0 a ha2
    · have e : i = L.length := by omega
      subst e
      rw [gtD_e]
      dsimp only
      rw [if_pos (Nat.le_refl _), if_neg (by omega), if_pos (Nat.le_refl _), if_neg (by omega)]
      obtain ⟨r1, r2⟩ := hr a0 i0 a ha2
      have w := wk_k (h0 a0 i0) ha2
      exact h1 a0 i0 a r1 r2 w.2 w.1 _ _
  · rw [el] at hi ⊢
    dsimp only
    rw [if_neg (show ¬ L.length + 1 ≤ L.length by omega), if_neg (show ¬ L.length + 1 ≤ L.length by omega)]
    by_cases c : i ≤ L.length
    · rw [if_pos c, if_pos c]
      have := j2 i c
      omega
    · rw [if_neg c, if_neg c]
      omega
  · rw [el]
    dsimp only
    rw [if_neg (show ¬ L.length + 1 ≤ L.length by omega)]
    omega
  · rw [el]
    dsimp only
    rw [if_neg (show ¬ L.length + 1 ≤ L.length by omega)]
    omega
  · obtain ⟨a, a1, a2⟩ := wkR_s hb
    obtain ⟨r1, r2⟩ := hr a0 i0 a a1
    have w := wk_k (h0 a0 i0) a1
    exact h2 a0 i0 a b r1 r2 w.2 w.1 a2
/-- a table pushed -/
theorem ps_st (h : psQ dA ad r la a m) (hs : stR dA SS nw y a) (ha : a.1.adep ≤ a.2.1.sz) : m.1.adep = y.pile + 1 ∧ y.pile < m.2.1.sz ∧ (∀ tb, tb < y.pile → m.2.2.2 tb = a.2.2.2 tb) ∧ (∀ tb, tb < m.2.1.sz → rsAll dA a.1.pl (m.2.2.2 tb).rs) ∧ m.1.pl = a.1.pl ∧ m.1.bO = a.1.bO ∧ m.1.bN = a.1.bN := by
  obtain ⟨h1, -, h3⟩ := h
  obtain ⟨s1, s2, s3, s4⟩ := hs
  have ea : m.1.adep = a.1.adep + 1 := by
    have := congrArg VS.adep h1
    exact this
  have ep : m.1.pl = a.1.pl := by
    have := congrArg VS.pl h1
    exact this
  have eo : m.1.bO = a.1.bO := by
    have := congrArg VS.bO h1
    exact this
  have en : m.1.bN = a.1.bN := by
    have := congrArg VS.bN h1
    exact this
  rcases h3 with ⟨c, c1, -, c3⟩ | ⟨c, c1, c2, c3, q, c4⟩
  · rw [c1, c3]
    exact ⟨by omega, by omega, fun _ _ => rfl, s3, ep, eo, en⟩
  · rw [c1]
    refine ⟨by omega, by omega, fun tb ht => (c3 tb (by omega)).2, fun tb ht => ?_, ep, eo, en⟩
    by_cases e : tb = a.2.1.sz
    · rw [e, c4]
      intro q' a' hq
      cases hq
    · rw [(c3 tb e).2]
      exact s3 tb (by omega)
theorem shp_c {d : Nat} (h : d < a.2.1.sz) : (shp a).2.2.2.1 d = (a.2.2.2 d).cN := if_pos h
end JS
end
