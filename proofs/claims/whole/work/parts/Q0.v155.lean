/-! The matches of a step: looked at by the reference. -/
section MG
variable {x : MS} {s : Nat} {SS : Nat → List LB}
theorem mtG_sp {tp : Nat → Int32} {nx : Nat → Nat} {hd : Nat → Bool} {vl : Nat → Nat} : ∀ (d q w v : Nat), (∀ i, q ≤ i → i < q + d → tp i = 32) → d ≤ w → mtG tp nx hd vl w q true v = mtG tp nx hd vl (w - d) (q + d) true v
  | 0, q, w, v, _, _ => rfl
  | d + 1, q, w, v, h, hw => by
    have e := h q (Nat.le_refl q) (by omega)
    rw [mtG_s (by omega) rfl (by rw [e]; decide) (by rw [e]; decide), mtG_sp d (q + 1) (w - 1) v (fun i h1 h2 => h i (by omega) (by omega)) (by omega), show w - 1 - d = w - (d + 1) by omega, show q + 1 + d = q + (d + 1) by omega]
set_option maxRecDepth 100000 in
theorem mt_q (hb : byteF x.tape) (hx : txR x.texts x.textLengths x.seriesCount SS) (hs : s < x.seriesCount) (hg : serG (SS s)) {w : Nat} : ∀ {y : MS} {t : TKQ} {k : Nat} {KD : Nat → Int32} {MN MT : Nat → List Int32} {R : RM}, R = rmG x.tape x.length w t k KD MN MT → y.tape = x.tape → y.length = x.length → tkR y t → y.lx → y.isT → R.1 = true → R.2.1.2.2.2.2.1 = 0 → R.2.1.1 = 125 → (k ≤ R.2.2.1 ∧ ∀ i, i < k → R.2.2.2.1 i = KD i ∧ R.2.2.2.2.1 i = MN i ∧ R.2.2.2.2.2 i = MT i) ∧ ∀ w' v, x.length + 1 ≤ w' + y.frm → ((mtG x.atN (m5E x.tape x.length) (x.mt1 s) (x.mtL s) w' y.frm true v).1 = true ↔ ∀ i, k ≤ i → i < R.2.2.1 → tkF R.2.2.2.1 R.2.2.2.2.1 R.2.2.2.2.2 (SS s) i = true) := by
  induction w with
  | zero =>
    intro y t k KD MN MT R eR hf hn h hl ht r1 r2 r3
    rw [eR] at r1
    exact Bool.noConfusion r1
  | succ w ih =>
    intro y t k KD MN MT R eR hf hn h hl ht r1 r2 r3
    obtain ⟨t1, et1⟩ : ∃ t1, t1 = nxT x.tape x.length t := ⟨_, rfl⟩
    obtain ⟨t2, et2⟩ : ∃ t2, t2 = nxT x.tape x.length t1 := ⟨_, rfl⟩
    obtain ⟨t3, et3⟩ : ∃ t3, t3 = nxT x.tape x.length t2 := ⟨_, rfl⟩
    obtain ⟨t4, et4⟩ : ∃ t4, t4 = nxT x.tape x.length t3 := ⟨_, rfl⟩
    have hby : byteF y.tape := by rw [hf]; exact hb
    by_cases c1 : ¬ t.1 = 258
    · rw [eR, show rmG x.tape x.length (w + 1) t k KD MN MT = (false, rfT t 2 t.2.1, k, KD, MN, MT) from rm_k c1] at r1
      exact Bool.noConfusion r1
    have ky : y.kind = 2 := (kR_i h.1 kR_2).mpr (Classical.not_not.mp c1)
    by_cases c2 : isMk t1.1 = false
    · rw [eR, show rmG x.tape x.length (w + 1) t k KD MN MT = (false, rfT t1 2 t1.2.1, k, KD, MN, MT) from rm_m (Classical.not_not.mp c1) et1 c2] at r1
      exact Bool.noConfusion r1
    have N1 := nx_c hf hn hb h hl
    rw [← et1] at N1
    rcases N1 with ⟨a1, a2, a3, a4⟩ | ⟨a1, a2, a3, a4⟩
    rotate_left
    · rw [a2] at c2
      exact absurd (by decide) c2
    have A := nx_in hl a1
    have T1 := tk_nx y
    obtain ⟨y1, e1⟩ : ∃ y1, y1 = y.nx.2 := ⟨_, rfl⟩
    rw [← e1] at a2 a3 A T1
    have f1 : y1.tape = x.tape := (tk_f T1 MS.tape rfl).trans hf
    have n1 : y1.length = x.length := (tk_f T1 MS.length rfl).trans hn
    have k2 : y1.kind = 61 ∨ 256 ≤ y1.kind := (isMk_k a2.1).mp (by
      cases q : isMk t1.1 with
      | true => rfl
      | false => exact absurd q c2)
    by_cases c3 : ¬ t2.1 = 259
    · rw [eR, show rmG x.tape x.length (w + 1) t k KD MN MT = (false, rfT t2 2 t2.2.1, k, KD, MN, MT) from rm_t (Classical.not_not.mp c1) et1 c2 et2 c3] at r1
      exact Bool.noConfusion r1
    have N2 := nx_c f1 n1 hb a2 a3
    rw [← et2] at N2
    rcases N2 with ⟨b1, b2, b3, b4⟩ | ⟨b1, b2, b3, b4⟩
    rotate_left
    · exact absurd (by rw [b2]; decide) c3
    have B := nx_in a3 b1
    have T2 := tk_nx y1
    obtain ⟨y2, e2⟩ : ∃ y2, y2 = y1.nx.2 := ⟨_, rfl⟩
    rw [← e2] at b2 b3 B T2
    have f2 : y2.tape = x.tape := (tk_f T2 MS.tape rfl).trans f1
    have n2 : y2.length = x.length := (tk_f T2 MS.length rfl).trans n1
    have k3 : y2.kind = 3 := (kR_i b2.1 kR_3).mpr (Classical.not_not.mp c3)
    have M := mc_at hby hl ht ky a1 e1 k2 b1 e2 k3
    rw [hf, hn] at M
    obtain ⟨m1, m2, m4, m5, m6, m7, m8, m9⟩ := M
    have m6 : isSep (x.atN y.frm) = false := by
      have : isSep (atI y.tape y.length y.frm) = false := m6
      rw [hf, hn] at this
      exact this
    have m7 : ¬ x.atN y.frm = 125 := by
      have : ¬ atI y.tape y.length y.frm = 125 := m7
      rw [hf, hn] at this
      exact this
    have q1 := mt1_q (s := s) hx hs hg m1 hl.2.1 m2 m4 m5 m8 m9 a2.1
    have w1 : seg x.tape y.frm y.too = tkw x.tape t := by unfold tkw; rw [h.2.1, h.2.2.1]
    have w2 : seg x.tape (y2.frm + 1) (y2.too - 1) = tkx x.tape t2 := by unfold tkx; rw [b2.2.1, b2.2.2.1]
    rw [w1, w2] at q1
    have hfr : y.frm < y2.too := by
      have := hl.2.1
      have := a3.2.1
      have := A.2.1
      have := B.2.1
      omega
    have N3 := nx_c f2 n2 hb b2 b3
    rw [← et3] at N3
    rcases N3 with ⟨d1, d2, d3, d4⟩ | ⟨d1, d2, d3, d4⟩
    rotate_left
    · have er : R = (true, t3, k + 1, va_up KD k t1.1, va_up MN k (tkw x.tape t), va_up MT k (tkx x.tape t2)) := eR.trans (rm_e (Classical.not_not.mp c1) et1 c2 et2 (Classical.not_not.mp c3) et3 (by rw [d2]; decide))
      rw [er] at r3
      have r3 : t3.1 = 125 := r3
      rw [d2] at r3
      exact absurd r3 (by decide)
    have D := nx_in b3 d1
    have S3 := nx_sp (by rw [f2]; exact hb) b3 d1
    have I3 := (nx_isT d1).1
    have T3 := tk_nx y2
    obtain ⟨y3, e3⟩ : ∃ y3, y3 = y2.nx.2 := ⟨_, rfl⟩
    rw [← e3] at d2 d3 D S3 I3 T3
    have f3 : y3.tape = x.tape := (tk_f T3 MS.tape rfl).trans f2
    have n3 : y3.length = x.length := (tk_f T3 MS.length rfl).trans n2
    have S3 : ∀ i, y2.too ≤ i → i < y3.frm → x.atN i = 32 := fun i h1 h2 => by
      have : atI y2.tape y2.length i = 32 := S3 i h1 h2
      rw [f2, n2] at this
      exact this
    -- the place behind the text, then the next token
    have go : ∀ w' v, x.length + 1 ≤ w' + y.frm → (x.mt1 s y.frm = false → (mtG x.atN (m5E x.tape x.length) (x.mt1 s) (x.mtL s) w' y.frm true v).1 = false) ∧ (x.mt1 s y.frm = true → ∃ w'' v', x.length + 1 ≤ w'' + y3.frm ∧ mtG x.atN (m5E x.tape x.length) (x.mt1 s) (x.mtL s) w' y.frm true v = mtG x.atN (m5E x.tape x.length) (x.mt1 s) (x.mtL s) w'' y3.frm true v') := by
      intro w' v hw'
      have l3 := d3.2.1
      have l4 := d3.2.2.1
      have l5 := D.2.1
      have l0 := hl.2.2.1
      have l1 := hl.2.1
      rw [mtG_m (by omega) rfl m7 m6, m5]
      refine ⟨fun g => ?_, fun g => ?_⟩
      · rw [g, mtG_e (Or.inl rfl)]
      · rw [g, mtG_sp (y3.frm - y2.too) y2.too (w' - 1) _ (fun i h1 h2 => S3 i h1 (by omega)) (by omega), Nat.add_sub_cancel' l5]
        exact ⟨_, _, by omega, rfl⟩
    have a3k : 32 ≤ y3.kind → y3.kind < 256 → x.atN y3.frm = y3.kind ∧ y3.too = y3.frm + 1 := fun g1 g2 => by
      obtain ⟨u1, u2⟩ := I3.2.2.1 g1 g2
      have u1 : atI y3.tape y3.length y3.frm = y3.kind := u1
      rw [f3, n3] at u1
      exact ⟨u1, u2⟩
    by_cases c4 : ¬ t3.1 = 44
    · have er : R = (true, t3, k + 1, va_up KD k t1.1, va_up MN k (tkw x.tape t), va_up MT k (tkx x.tape t2)) := eR.trans (rm_e (Classical.not_not.mp c1) et1 c2 et2 (Classical.not_not.mp c3) et3 c4)
      rw [er] at r3
      have k4 : y3.kind = 125 := (kR_i d2.1 (kR_s (by decide))).mpr r3
      rw [er]
      refine ⟨⟨Nat.le_succ k, fun i hi => ⟨va_up_ne _ _ (Nat.ne_of_lt hi), va_up_ne _ _ (Nat.ne_of_lt hi), va_up_ne _ _ (Nat.ne_of_lt hi)⟩⟩, fun w' v hw' => ?_⟩
      have tf : tkF (va_up KD k t1.1) (va_up MN k (tkw x.tape t)) (va_up MT k (tkx x.tape t2)) (SS s) k = x.mt1 s y.frm := by
        rw [q1]
        unfold tkF
        rw [va_up_self, va_up_self, va_up_self]
      obtain ⟨g1, g2⟩ := go w' v hw'
      cases c : x.mt1 s y.frm with
      | false =>
        rw [g1 c]
        refine ⟨fun e => Bool.noConfusion e, fun e => ?_⟩
        have := e k (Nat.le_refl k) (Nat.lt_succ_self k)
        rw [show tkF _ _ _ (SS s) k = _ from tf, c] at this
        exact this
      | true =>
        obtain ⟨w'', v', h1, h2⟩ := g2 c
        rw [h2, mtG_e (Or.inr (by rw [(a3k (by rw [k4]; decide) (by rw [k4]; decide)).1]; exact k4))]
        refine ⟨fun _ i i1 i2 => ?_, fun _ => rfl⟩
        have i2 : i < k + 1 := i2
        have : i = k := by omega
        rw [this]
        exact tf.trans c
    · have er : R = rmG x.tape x.length w t4 (k + 1) (va_up KD k t1.1) (va_up MN k (tkw x.tape t)) (va_up MT k (tkx x.tape t2)) := eR.trans (rm_s (Classical.not_not.mp c1) et1 c2 et2 (Classical.not_not.mp c3) et3 (Classical.not_not.mp c4) et4)
      have k4 : y3.kind = 44 := (kR_i d2.1 (kR_s (by decide))).mpr (Classical.not_not.mp c4)
      have N4 := nx_c f3 n3 hb d2 d3
      rw [← et4] at N4
      rcases N4 with ⟨g1, g2, g3, g4⟩ | ⟨g1, g2, g3, g4⟩
      rotate_left
      · exfalso
        rw [er] at r1
        cases w with
        | zero => exact Bool.noConfusion r1
        | succ w =>
          rw [show rmG x.tape x.length (w + 1) t4 (k + 1) (va_up KD k t1.1) (va_up MN k (tkw x.tape t)) (va_up MT k (tkx x.tape t2)) = (false, rfT t4 2 t4.2.1, k + 1, va_up KD k t1.1, va_up MN k (tkw x.tape t), va_up MT k (tkx x.tape t2)) from rm_k (by rw [g2]; decide)] at r1
          exact Bool.noConfusion r1
      have G := nx_in d3 g1
      have S4 := nx_sp (by rw [f3]; exact hb) d3 g1
      have I4 := (nx_isT g1).1
      have T4 := tk_nx y3
      obtain ⟨y4, e4⟩ : ∃ y4, y4 = y3.nx.2 := ⟨_, rfl⟩
      rw [← e4] at g2 g3 G S4 I4 T4
      have S4 : ∀ i, y3.too ≤ i → i < y4.frm → x.atN i = 32 := fun i h1 h2 => by
        have : atI y3.tape y3.length i = 32 := S4 i h1 h2
        rw [f3, n3] at this
        exact this
      obtain ⟨⟨p1, p2⟩, p3⟩ := ih er ((tk_f T4 MS.tape rfl).trans f3) ((tk_f T4 MS.length rfl).trans n3) g2 g3 I4 r1 r2 r3
      have pk := p2 k (Nat.lt_succ_self k)
      rw [va_up_self, va_up_self, va_up_self] at pk
      have tf : tkF R.2.2.2.1 R.2.2.2.2.1 R.2.2.2.2.2 (SS s) k = x.mt1 s y.frm := by
        rw [q1]
        unfold tkF
        rw [pk.1, pk.2.1, pk.2.2]
      refine ⟨⟨by omega, fun i hi => ?_⟩, fun w' v hw' => ?_⟩
      · obtain ⟨v1, v2, v3⟩ := p2 i (by omega)
        rw [va_up_ne _ _ (Nat.ne_of_lt hi)] at v1 v2 v3
        exact ⟨v1, v2, v3⟩
      · obtain ⟨u1, u2⟩ := go w' v hw'
        cases c : x.mt1 s y.frm with
        | false =>
          rw [u1 c]
          refine ⟨fun e => Bool.noConfusion e, fun e => ?_⟩
          have := e k (Nat.le_refl k) (by omega)
          rw [tf, c] at this
          exact this
        | true =>
          obtain ⟨w'', v', h1, h2⟩ := u2 c
          obtain ⟨z1, z2⟩ := a3k (by rw [k4]; decide) (by rw [k4]; decide)
          have l4 := g3.2.1
          have l5 := g3.2.2.1
          have l6 := (tk_f T4 MS.length rfl).trans n3
          have l7 := G.2.1
          rw [h2, mtG_s (by omega) rfl (by rw [z1, k4]; decide) (by rw [z1, k4]; decide), mtG_sp (y4.frm - y3.too) (y3.frm + 1) (w'' - 1) v' (fun i h1 h2 => S4 i (by omega) (by omega)) (by omega), show y3.frm + 1 + (y4.frm - y3.too) = y4.frm by omega, p3 _ _ (by omega)]
          constructor
          · intro e i i1 i2
            by_cases ci : i = k
            · rw [ci, tf, c]
            · exact e i (by omega) i2
          · intro e i i1 i2
            exact e i (by omega) i2
end MG
