/-! Tables of the same names joined. -/
theorem jmO_p {lt : Nat → Bool} {rc p : Nat} (hp : p ≤ rc) (h : ∀ q, q < rc → (lt q = true ↔ q < p)) : ∀ (d o : Nat), p - o = d → o ≤ p → jmO lt rc (rc - o) o = p
  | 0, o, hd, ho => by
    have e : o = p := by omega
    subst e
    by_cases c : o < rc
    · exact jmO_n (by
        cases q : lt o with
        | false => rfl
        | true => exact absurd ((h o c).mp q) (Nat.lt_irrefl o))
    · exact jmO_z (by omega)
  | d + 1, o, hd, ho => by
    rw [jmO_y (by omega) ((h o (by omega)).mpr (by omega))]
    exact jmO_p hp h d (o + 1) (by omega) (by omega)
theorem mv_rw {g : jT} {a q r n : Nat} {z : TB} (hq : ¬ q = n) : (rwE g.1 g.2 a q z q → rwE g.1 g.2 a q (z.mv r n) q) ∧ (hiZ z q → hiZ (z.mv r n) q) := by
  have th : (z.mv r n).th q = z.th q := va_up_ne _ _ hq
  refine ⟨fun h w hw => ?_, fun h w h1 h2 => ?_⟩
  · have hw : w < z.wi := hw
    have cc : (z.mv r n).ce (q * (z.mv r n).wi + w) = z.ce (q * z.wi + w) := (cp_row hw).trans (if_neg hq)
    rw [th, cc]
    exact h w hw
  · rw [th]
    exact h w h1 h2
section FO
variable {m : MS} {a b s : Nat} {NL : Nat → List Int32} {nc : Nat} {SS : Nat → List LB} {rs : Nat → Nat} {n : Nat} {RU : Nat → List LB}
/-- the reference looks for a row with these values -/
theorem fo_p (hn : nmRe m a nc NL) (hx : txR m.texts m.textLengths m.seriesCount SS) (hg : ∀ q, q < m.seriesCount → serG (SS q)) (hs : s < m.seriesCount) (hr : ∀ q, q < n → rs (256 * b + q) < m.seriesCount ∧ RU q = SS (rs (256 * b + q))) {p : Nat} (hp : p ≤ n) (h1 : ∀ q, q < p → ¬ eqK NL nc (RU q) (SS s)) (h2 : p < n → eqK NL nc (RU p) (SS s)) : ∀ (w o v : Nat), o ≤ p → n + 1 ≤ w + o → (m.fo a s b rs n w o v).1 = p
  | 0, o, v, g1, g2 => by
    show o = p
    omega
  | w + 1, o, v, g1, g2 => by
    by_cases c : n ≤ o
    · rw [fo_e c]
      show o = p
      omega
    · obtain ⟨r1, r2⟩ := hr o (by omega)
      have gO := hg _ r1
      have gS := hg s hs
      have e : ((MS.s_valueLength m v).cr a s (rs (256 * b + o))).1 = cmT NL nc (SS s) (SS (rs (256 * b + o))) := cr_eq (x := MS.s_valueLength m v) hn hx hs r1 gS gO
      have eq0 : cmT NL nc (SS s) (SS (rs (256 * b + o))) = 0 ↔ eqK NL nc (RU o) (SS s) := by
        rw [cmT_eq gS gO, r2]
        exact ⟨fun z i hi => (z i hi).symm, fun z i hi => (z i hi).symm⟩
      by_cases d : o = p
      · subst d
        rw [fo_y (Nat.succ_pos w) c (by rw [e]; exact eq0.mpr (h2 (by omega)))]
      · rw [fo_n (Nat.succ_pos w) c (by rw [e]; exact fun z => h1 o (by omega) (eq0.mp z))]
        exact fo_p hn hx hg hs hr hp h1 h2 w (o + 1) _ (by omega) (by omega)
end FO
section ME
variable {sg : Int32} {m : MS} {a b : Nat} {t u : TB} {NL : Nat → List Int32} {RS RU SS : Nat → List LB}
def meQ (sg : Int32) (m : MS) (a b : Nat) (t u : TB) (NL : Nat → List Int32) (RS RU : Nat → List LB) (r : Nat) (φ : Nat → Nat) (M : meT) (J : Nat × Nat × TB) : Prop :=
  (M.1 = J.1 ∧ jmK t r J.1 J.2.2) ∧ ((∀ q, q < J.1 → φ q < r ∧ J.2.2.rs q = t.rs (φ q)) ∧ (∀ x y, x < y → y < J.1 → φ x < φ y)) ∧ ((∀ q, q < J.1 → M.2.2.1 (256 * a + q) = m.rowSeries (256 * a + φ q)) ∧ ∀ q, (q < 256 * a ∨ 256 * a + J.1 ≤ q) → M.2.2.1 q = m.rowSeries q) ∧ (∀ q, (q < J.1 ∨ r ≤ q) → q < t.rc → rwE M.2.1.1 M.2.1.2 a q J.2.2 q ∧ hiZ J.2.2 q) ∧ (∀ q, (q < a * 256 * 64 ∨ a * 256 * 64 + 256 * 64 ≤ q) → M.2.1.1 q = m.isCell q ∧ M.2.1.2 q = m.cells q) ∧ J.2.1 ≤ u.rc ∧ ∀ q, q < J.2.1 → ∀ r', r ≤ r' → r' < t.rc → ltK NL t.nc (RU q) (RS r')
theorem me_jm (hs : isOp sg) (hab : a < b) (ht : tabR m a t NL RS SS) (hu : tabR m b u NL RU SS) (hn : u.nc = t.nc) (hnc : 0 < t.nc) (hx : txR m.texts m.textLengths m.seriesCount SS) (hg : ∀ q, q < m.seriesCount → serG (SS q)) : ∀ r, r ≤ t.rc → ∃ φ, meQ sg m a b t u NL RS RU r φ (m.meG sg a b r) (jmG sg NL t u RS RU r)
  | 0, _ => ⟨fun _ => 0, ⟨rfl, rfl, rfl, rfl, Nat.le_refl 0, rfl, rfl, rfl, fun _ _ => rfl⟩, ⟨fun q hq => absurd hq (Nat.not_lt_zero q), fun x y _ hy => absurd hy (Nat.not_lt_zero y)⟩, ⟨fun q hq => absurd hq (Nat.not_lt_zero q), fun _ _ => rfl⟩, fun q _ hq => ht.2.2.2.2 q hq, fun _ _ => ⟨rfl, rfl⟩, Nat.zero_le _, fun q hq => absurd hq (Nat.not_lt_zero q)⟩
  | r + 1, hr => by
    obtain ⟨φ, ih⟩ := me_jm hs hab ht hu hn hnc hx hg r (by omega)
    have eJ : jmG sg NL t u RS RU (r + 1) = jmS sg NL t.nc u RS RU r (jmG sg NL t u RS RU r).1 (jmG sg NL t u RS RU r).2.1 (jmG sg NL t u RS RU r).2.2 := rfl
    obtain ⟨⟨n, g, rs, v⟩, eM⟩ : ∃ M, m.meG sg a b r = M := ⟨_, rfl⟩
    obtain ⟨⟨n', o, z⟩, eG⟩ : ∃ J, jmG sg NL t u RS RU r = J := ⟨_, rfl⟩
    rw [eM, eG] at ih
    rw [eG] at eJ
    obtain ⟨⟨i1, i2⟩, ⟨i3, i4⟩, ⟨i5, i6⟩, i7, i8, i9, i10⟩ := ih
    have i1 : n = n' := i1
    subst i1
    have i2 : jmK t r n z := i2
    have i3r : ∀ q, q < n → z.rs q = t.rs (φ q) := fun q hq => (i3 q hq).2
    have i3 : ∀ q, q < n → φ q < r := fun q hq => (i3 q hq).1
    have i4 : ∀ x y, x < y → y < n → φ x < φ y := i4
    have i5 : ∀ q, q < n → rs (256 * a + q) = m.rowSeries (256 * a + φ q) := i5
    have i6 : ∀ q, (q < 256 * a ∨ 256 * a + n ≤ q) → rs q = m.rowSeries q := i6
    have i7 : ∀ q, (q < n ∨ r ≤ q) → q < t.rc → rwE g.1 g.2 a q z q ∧ hiZ z q := i7
    have i8 : ∀ q, (q < a * 256 * 64 ∨ a * 256 * 64 + 256 * 64 ≤ q) → g.1 q = m.isCell q ∧ g.2 q = m.cells q := i8
    have i9 : o ≤ u.rc := i9
    have i10 : ∀ q, q < o → ∀ r', r ≤ r' → r' < t.rc → ltK NL t.nc (RU q) (RS r') := i10
    have eJ : jmG sg NL t u RS RU (r + 1) = jmS sg NL t.nc u RS RU r n o z := eJ
    obtain ⟨z1, z2, z3, z4, z5, z6, z7, z8⟩ := i2
    obtain ⟨ta, tsrt⟩ := ht.2.2.1 hnc
    obtain ⟨ua, usrt⟩ := hu.2.2.1 (by rw [hn]; exact hnc)
    rw [hn] at usrt
    have t256 := ht.2.1.2.1
    have u256 := hu.2.1.2.1
    have ub : m.tableRows b = u.rc := hu.2.1.1
    obtain ⟨s1, s2⟩ := ta r (by omega)
    have es : rs (256 * a + r) = m.rowSeries (256 * a + r) := i6 _ (Or.inr (by omega))
    obtain ⟨s, eS⟩ : ∃ s, s = m.rowSeries (256 * a + r) := ⟨_, rfl⟩
    rw [← eS] at s1 s2 es
    have gRU : ∀ q, q < u.rc → serG (RU q) := fun q hq => by rw [(ua q hq).2]; exact hg _ (ua q hq).1
    have gS : serG (RS r) := by rw [s2]; exact hg s s1
    obtain ⟨p1, p2⟩ := pl_thr usrt gRU gS u256
    obtain ⟨p, ep⟩ : ∃ p, p = plT NL t.nc u.rc RU (RS r) := ⟨_, rfl⟩
    rw [← ep] at p1 p2
    have op : o ≤ p := by
      by_cases c : o ≤ p
      · exact c
      · have := (p2 p (by omega)).mp (i10 p (by omega) r (Nat.le_refl r) (by omega))
        omega
    have eq : jmQ NL t.nc u RU (RS r) o = p := jmO_p p1 (fun q hq => (ltT_K gRU gS hq).trans (p2 q hq)) _ o rfl op
    have nx : ∀ q, q < p → ∀ r', r + 1 ≤ r' → r' < t.rc → ltK NL t.nc (RU q) (RS r') := fun q hq r' h1 h2 => ltK_tr ((p2 q (by omega)).mpr hq) (tsrt r r' (by omega) h2)
    have hrb : ∀ q, q < m.tableRows b → rs (256 * b + q) < m.seriesCount ∧ RU q = SS (rs (256 * b + q)) := fun q hq => by
      rw [ub] at hq
      rw [i6 _ (Or.inr (by omega))]
      exact ua q hq
    have hlow : ∀ q, q < p → ¬ eqK NL t.nc (RU q) (SS s) := fun q hq e => by
      have := (p2 q (by omega)).mpr hq
      rw [s2] at this
      exact ltK_irr (ltK_e2 (fun i hi => (e i hi).symm) this)
    by_cases c : p < u.rc ∧ cmT NL t.nc (RU p) (RS r) = 0
    · have ek : eqK NL t.nc (RU p) (SS s) := by
        have := (cmT_eq (gRU p c.1) gS).mp c.2
        rw [s2] at this
        exact this
      have ef := fo_p (hn := ht.1.1) hx hg s1 hrb (p := p) (by rw [ub]; exact p1) hlow (fun _ => ek) (m.tableRows b + 1) 0 v (Nat.zero_le _) (by omega)
      obtain ⟨v2, ef2⟩ : ∃ v2, m.fo a (rs (256 * a + r)) b rs (m.tableRows b) (m.tableRows b + 1) 0 v = (p, v2) := ⟨_, by rw [es]; exact Prod.ext ef rfl⟩
      rw [me_s eM ef2, eJ, jmS_y eq c.1 c.2]
      have em2 : m.me2 sg a b r n g rs p v2 = (n + 1, jrG sg g (cA a n) (cA a r) (cA b p) m.windows, va_up rs (256 * a + n) (rs (256 * a + r)), v2) := if_neg (by rw [ub]; omega)
      have wz : (z.mv r n).wi = m.windows := z1.trans ht.2.1.2.2.1
      rw [em2, ← wz]
      have A : rwF g.1 g.2 ((a * 256 + r) * 64) (z.mv r n).wi ((z.mv r n).th n) (fun w => (z.mv r n).ce (n * (z.mv r n).wi + w)) := fun w hw => by
        have hw : w < z.wi := hw
        have e1 : (z.mv r n).th n = z.th r := va_up_self _ _ _
        have e2 : (z.mv r n).ce (n * (z.mv r n).wi + w) = z.ce (r * z.wi + w) := (cp_row hw).trans (if_pos rfl)
        rw [e1]
        show _ ∧ (_ → _ = (z.mv r n).ce (n * (z.mv r n).wi + w))
        rw [e2]
        exact (i7 r (Or.inr (Nat.le_refl r)) (by omega)).1 w hw
      have B : rwF g.1 g.2 ((b * 256 + p) * 64) (z.mv r n).wi (u.th p) (fun w => u.ce (p * u.wi + w)) := fun w hw => by
        rw [wz] at hw
        have w64 := ht.2.1.2.2.2
        obtain ⟨o1, o2⟩ := i8 ((b * 256 + p) * 64 + w) (by omega)
        rw [o1, o2]
        exact (hu.2.2.2.2 p c.1).1 w (by rw [hu.2.1.2.2.1]; exact hw)
      obtain ⟨j1, j2, j3⟩ := jr_T (z := z.mv r n) (r := n) hs (by rw [wz]; exact ht.2.1.2.2.2) (show ¬ a = b by omega) ⟨by omega, by omega, by omega⟩ A B
      refine ⟨va_up φ n r, ⟨rfl, jmK_y ⟨z1, z2, z3, z4, z5, z6, z7, z8⟩⟩, ⟨fun q hq => ?_, fun x y hxy hy => ?_⟩, ⟨fun q hq => ?_, fun q hq => ?_⟩, fun q hq hl => ?_, fun q hq => ?_, by show p ≤ u.rc; exact p1, nx⟩
      · have hq : q < n + 1 := hq
        show va_up φ n r q < r + 1 ∧ va_up z.rs n (z.rs r) q = t.rs (va_up φ n r q)
        by_cases e : q = n
        · rw [e, va_up_self, va_up_self]
          exact ⟨by omega, z8 r (Nat.le_refl r)⟩
        · rw [va_up_ne _ _ e, va_up_ne _ _ e]
          have := i3 q (by omega)
          exact ⟨by omega, i3r q (by omega)⟩
      · have hy : y < n + 1 := hy
        rw [va_up_ne _ _ (show ¬ x = n by omega)]
        by_cases e : y = n
        · rw [e, va_up_self]; exact i3 x (by omega)
        · rw [va_up_ne _ _ e]; exact i4 x y hxy (by omega)
      · have hq : q < n + 1 := hq
        show va_up rs (256 * a + n) (rs (256 * a + r)) (256 * a + q) = m.rowSeries (256 * a + va_up φ n r q)
        by_cases e : q = n
        · rw [e, va_up_self, va_up_self, es, eS]
        · rw [va_up_ne _ _ e, va_up_ne _ _ (by omega)]; exact i5 q (by omega)
      · have hq : q < 256 * a ∨ 256 * a + (n + 1) ≤ q := hq
        show va_up rs (256 * a + n) (rs (256 * a + r)) q = _
        rw [va_up_ne _ _ (by omega)]
        exact i6 q (by omega)
      · have hq : q < n + 1 ∨ r + 1 ≤ q := hq
        show rwE (jrG sg g (cA a n) (cA a r) (cA b p) (z.mv r n).wi).1 (jrG sg g (cA a n) (cA a r) (cA b p) (z.mv r n).wi).2 a q (TB.jrl sg (z.mv r n) u n p n) q ∧ hiZ (TB.jrl sg (z.mv r n) u n p n) q
        unfold TB.jrl
        by_cases e : q = n
        · rw [e]; exact j1
        · obtain ⟨x1, x2⟩ := j2 q e
          obtain ⟨y1, y2⟩ := i7 q (by omega) hl
          obtain ⟨m1, m2⟩ := mv_rw (g := g) (a := a) (q := q) (r := r) (n := n) (z := z) e
          exact ⟨x1 (m1 y1), x2 (m2 y2)⟩
      · obtain ⟨o1, o2⟩ := j3 q (ix_out (Nat.lt_of_le_of_lt z4 (Nat.lt_of_lt_of_le hr t256)) hq)
        obtain ⟨p1, p2⟩ := i8 q hq
        exact ⟨o1.trans p1, o2.trans p2⟩
    · have hup : ∀ q, q < u.rc → ¬ eqK NL t.nc (RU q) (SS s) := fun q hq e => by
        have e' : eqK NL t.nc (RU q) (RS r) := by rw [s2]; exact e
        have := (pl_row usrt gRU gS u256 hq e').1
        rw [← ep] at this
        exact c ⟨by omega, by rw [this]; exact (cmT_eq (gRU q hq) gS).mpr e'⟩
      have ef := fo_p (hn := ht.1.1) hx hg s1 hrb (p := m.tableRows b) (Nat.le_refl _) (fun q hq => hup q (by rw [← ub]; exact hq)) (fun z => absurd z (Nat.lt_irrefl _)) (m.tableRows b + 1) 0 v (Nat.zero_le _) (by omega)
      obtain ⟨v2, ef2⟩ : ∃ v2, m.fo a (rs (256 * a + r)) b rs (m.tableRows b) (m.tableRows b + 1) 0 v = (m.tableRows b, v2) := ⟨_, by rw [es]; exact Prod.ext ef rfl⟩
      have ejs : jmS sg NL t.nc u RS RU r n o z = (n, p, z) := by
        unfold jmS
        rw [eq, if_neg c]
      rw [me_s eM ef2, eJ, ejs, show m.me2 sg a b r n g rs (m.tableRows b) v2 = (n, g, rs, v2) from if_pos rfl]
      refine ⟨φ, ⟨rfl, jmK_n ⟨z1, z2, z3, z4, z5, z6, z7, z8⟩⟩, ⟨fun q hq => ⟨by have := i3 q hq; omega, i3r q hq⟩, i4⟩, ⟨i5, i6⟩, fun q hq hl => i7 q (hq.imp id (fun y => by omega)) hl, i8, p1, nx⟩
theorem me_tab (hs : isOp sg) (hab : a < b) (ht : tabR m a t NL RS SS) (hu : tabR m b u NL RU SS) (hn : u.nc = t.nc) (hnc : 0 < t.nc) (hx : txR m.texts m.textLengths m.seriesCount SS) (hg : ∀ q, q < m.seriesCount → serG (SS q)) : ∃ φ : Nat → Nat, tabR (m.meS sg a b) a (TB.s_rc (jmG sg NL t u RS RU t.rc).2.2 (jmG sg NL t u RS RU t.rc).1) NL (fun q => RS (φ q)) SS ∧ (∀ q, q < (jmG sg NL t u RS RU t.rc).1 → φ q < t.rc ∧ (jmG sg NL t u RS RU t.rc).2.2.rs q = t.rs (φ q)) ∧ jmK t t.rc (jmG sg NL t u RS RU t.rc).1 (jmG sg NL t u RS RU t.rc).2.2 := by
  obtain ⟨φ, ⟨i1, z1, z2, z3, z4, z5, z6, z7, z8⟩, ⟨i3, i4⟩, ⟨i5, i6⟩, i7, i8, -, -⟩ := me_jm hs hab ht hu hn hnc hx hg t.rc (Nat.le_refl _)
  have i3b := i3
  have i3 : ∀ q, q < (jmG sg NL t u RS RU t.rc).1 → φ q < t.rc := fun q hq => (i3b q hq).1
  have ra : m.tableRows a = t.rc := ht.2.1.1
  have et : (m.meS sg a b).tableRows a = (jmG sg NL t u RS RU t.rc).1 := by
    show va_up m.tableRows a (m.meG sg a b (m.tableRows a)).1 a = _
    rw [va_up_self, ra]
    exact i1
  have er : (m.meS sg a b).rowSeries = (m.meG sg a b t.rc).2.2.1 := by
    show (m.meG sg a b (m.tableRows a)).2.2.1 = _
    rw [ra]
  have ei : (m.meS sg a b).isCell = (m.meG sg a b t.rc).2.1.1 := by
    show (m.meG sg a b (m.tableRows a)).2.1.1 = _
    rw [ra]
  have ec : (m.meS sg a b).cells = (m.meG sg a b t.rc).2.1.2 := by
    show (m.meG sg a b (m.tableRows a)).2.1.2 = _
    rw [ra]
  have t256 := ht.2.1.2.1
  refine ⟨φ, ⟨⟨by show nmRe m a (jmG sg NL t u RS RU t.rc).2.2.nc NL; rw [z6]; exact ht.1.1, by show (jmG sg NL t u RS RU t.rc).2.2.nc ≤ 6; rw [z6]; exact ht.1.2⟩, ⟨et, by show (jmG sg NL t u RS RU t.rc).1 ≤ 256; omega, z1.trans ht.2.1.2.2.1, ht.2.1.2.2.2⟩, fun _ => ?_, fun g => ?_, fun r hr => ?_⟩, i3b, z1, z2, z3, z4, z5, z6, z7, z8⟩
  · show (∀ q, q < (jmG sg NL t u RS RU t.rc).1 → (m.meS sg a b).rowSeries (256 * a + q) < m.seriesCount ∧ RS (φ q) = SS ((m.meS sg a b).rowSeries (256 * a + q))) ∧ srtR NL (jmG sg NL t u RS RU t.rc).2.2.nc (jmG sg NL t u RS RU t.rc).1 (fun q => RS (φ q))
    rw [z6, er]
    obtain ⟨g1, g2⟩ := ht.2.2.1 hnc
    refine ⟨fun q hq => ?_, fun x y hxy hy => g2 _ _ (i4 x y hxy hy) (i3 y hy)⟩
    rw [i5 q hq]
    exact g1 _ (i3 q hq)
  · have g : (jmG sg NL t u RS RU t.rc).2.2.nc = 0 := g
    rw [z6] at g
    omega
  · rw [ei, ec]
    exact i7 r (Or.inl hr) (by have hr : r < (jmG sg NL t u RS RU t.rc).1 := hr; omega)
end ME
