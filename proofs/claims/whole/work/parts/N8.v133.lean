/-! A point comes: over all of the relation. -/
section AP
variable {m : MS} {x : VS} {PS : Nat → PT} {dn bn : Nat → Nat} {ja pa : Nat → Nat} {w kd n : Nat} {a b : Int64}
theorem wrB_k (x : VS) (n : Nat) : (x.wrB n).jK = x.jK ∧ (x.wrB n).jO = x.jO ∧ (x.wrB n).jF = x.jF ∧ (x.wrB n).jS = x.jS ∧ (x.wrB n).jsize = x.jsize ∧ (x.wrB n).jN = x.jN := by
  unfold VS.wrB VS.wjS
  split
  · exact ⟨rfl, rfl, rfl, rfl, rfl, rfl⟩
  · split
    · exact ⟨rfl, rfl, rfl, rfl, rfl, rfl⟩
    · exact ⟨rfl, rfl, rfl, rfl, rfl, rfl⟩
theorem wrF_jw (x : VS) (ja : Nat → Nat) (kd w n : Nat) (a b : Int64) : x.wrF ja kd w n a b = x.jwS (x.wrF ja kd w n a b) := jw_t (jw_wrB x n) (jw_jad (x.wrB n) ja kd w n a b)
theorem wrF_at (x : VS) (ja : Nat → Nat) (kd w n : Nat) (a b : Int64) (h0 : x.jsize ≤ x.jN) (h1 : 0 < x.jN) : (x.wrF ja kd w n a b).jsize = x.jsize + 1 ∧ (∀ r, r < x.jsize → (x.wrF ja kd w n a b).jK r = x.jK r ∧ (x.wrF ja kd w n a b).jO r = x.jO r ∧ (x.wrF ja kd w n a b).jF r = x.jF r ∧ (x.wrF ja kd w n a b).jS r = x.jS r) ∧ (x.wrF ja kd w n a b).jK x.jsize = kd ∧ (x.wrF ja kd w n a b).jO x.jsize = w ∧ (x.wrF ja kd w n a b).jF x.jsize = a ∧ (x.wrF ja kd w n a b).jS x.jsize = b := by
  obtain ⟨k1, k2, k3, k4, k5, k6⟩ := wrB_k x n
  obtain ⟨p1, ⟨q1, q2, -, -, q5, q6⟩, p3, -⟩ := jad_at (x.wrB n) ja kd w n a b (by rw [k5, k6]; exact h0) (by rw [k6]; exact h1)
  rw [k5] at p1 q1 q2 q5 q6 p3
  refine ⟨p3, fun r hr => ?_, q1, q2, q5, q6⟩
  obtain ⟨u1, u2, -, -, u5, u6⟩ := p1 r hr
  rw [k1] at u1
  rw [k2] at u2
  rw [k3] at u5
  rw [k4] at u6
  exact ⟨u1, u2, u5, u6⟩
/-- what is kept after a record -/
theorem rKp_le (h : jrR m x) (hk : x.jkept ≤ x.jsize) (n : Nat) : x.jkept ≤ m.rKept n ∧ m.rKept n ≤ x.jsize := by
  obtain ⟨g1, g2, -⟩ := h
  unfold MS.rKept
  split
  · rw [g2]; exact ⟨Nat.le_refl _, hk⟩
  · rw [g1]; exact ⟨hk, Nat.le_refl _⟩
theorem cmF_j (x : VS) (pa : Nat → Nat) (w : Nat) (a b : Int64) : (x.cmF pa w a b).jsize = x.jsize ∧ (x.cmF pa w a b).jkept = x.jkept ∧ svA (x.cmF pa w a b) = svA x ∧ (x.cmF pa w a b).ncat = x.ncat := by
  unfold VS.cmF
  split
  · exact ⟨rfl, rfl, rfl, rfl⟩
  · unfold VS.haF
    split
    · exact ⟨rfl, rfl, rfl, rfl⟩
    · exact ⟨rfl, rfl, rfl, rfl⟩
theorem jrR_cm {y : VS} (h : jrR m y) : jrR m (y.cmF pa w a b) := by
  unfold VS.cmF
  split
  · exact h
  · unfold VS.haF
    split
    · exact h
    · exact h
theorem vB_t {x y z : VS} (h1 : vB x y) (h2 : vB y z) : vB x z := by
  obtain ⟨⟨a1, a2, a3, a4⟩, ⟨a5, a6, a7, a8, a9, a10⟩, a11, a12, a13⟩ := h1
  obtain ⟨⟨b1, b2, b3, b4⟩, ⟨b5, b6, b7, b8, b9, b10⟩, b11, b12, b13⟩ := h2
  exact ⟨⟨b1.trans a1, b2.trans a2, b3.trans a3, b4.trans a4⟩, ⟨b5.trans a5, b6.trans a6, b7.trans a7, b8.trans a8, b9.trans a9, b10.trans a10⟩, b11.trans a11, fun k hk => (b12 k (by rw [a11]; exact hk)).trans (a12 k hk), b13.trans a13⟩
theorem ap_co (h : coR m x PS dn bn) (hw : w < x.nser) (hm : x.may w a = true) (hJ : x.jsize ≤ x.jN ∧ 0 < x.jN) (hH : x.hsize ≤ x.hN ∧ 0 < x.hN) : coR (((m.s_cod 0).recS 1 w a b 1).comS w a b) (x.apF ja pa w a b) PS dn bn := by
  obtain ⟨h1, h2, h3, h4, h5, h6, h7⟩ := h
  have hm : isTm a = true ∧ ¬ a ≤ x.nlast w ∧ ¬ a < x.nhor := by
    unfold VS.may at hm
    rw [Bool.and_eq_true, Bool.and_eq_true, nd, nd] at hm
    exact hm
  obtain ⟨t1, t2, t3⟩ := hm
  have t4 : x.nlast w < a := Int64.not_le.mp t2
  have jr := jr_rec (m' := ((m.s_cod 0).recS 1 w a b 1).comS w a b) (ja := ja) (kd := 1) (w := w) (n := 1) (a := a) (b := b) (a' := a) (b' := b) h4 hJ.1 hJ.2 (fun _ => ⟨rfl, rfl⟩) ⟨rfl, rfl, rfl, rfl, rfl, rfl, rfl, rfl, rfl, rfl, rfl, rfl, rfl, rfl⟩
  have wa := wrF_at x ja 1 w 1 a b hJ.1 hJ.2
  have jw := wrF_jw x ja 1 w 1 a b
  show coR _ ((x.wrF ja 1 w 1 a b).cmF pa w a b) PS dn bn
  obtain ⟨y1, ey⟩ : ∃ y1, y1 = x.wrF ja 1 w 1 a b := ⟨_, rfl⟩
  rw [← ey] at jr wa jw ⊢
  obtain ⟨w1, w2, w3, w4, w5, w6⟩ := wa
  have vb1 : vB x y1 := by rw [jw]; exact ⟨⟨rfl, rfl, rfl, rfl⟩, ⟨rfl, rfl, rfl, rfl, rfl, rfl⟩, rfl, fun _ _ => rfl, rfl⟩
  have vp1 : vP x y1 := by rw [jw]; exact ⟨rfl, rfl, rfl, rfl, rfl, rfl⟩
  have vh1 : vH x y1 := by rw [jw]; exact ⟨rfl, rfl, rfl, rfl⟩
  have en : y1.nser = x.nser ∧ y1.nlast = x.nlast ∧ y1.hN = x.hN ∧ hdL y1 = hdL x ∧ scL y1 = scL x ∧ svA y1 = svA x := by rw [jw]; exact ⟨rfl, rfl, rfl, rfl, rfl, rfl⟩
  obtain ⟨n1, n2, n3, n4, n5, n6⟩ := en
  have hho : m.horizon = x.nhor := h1.1.2.2.1
  have hk := rKp_le h4 h6 1
  have jk : y1.jkept = m.rKept 1 := jr.2.1.symm
  obtain ⟨c1, c2, c3, c4, c5, c6, c7, c8, c9⟩ := cmF_k y1 pa w a b
  obtain ⟨d1, d2, d3, d4⟩ := cmF_j y1 pa w a b
  have hh : y1.hsize ≤ y1.hN ∧ 0 < y1.hN := by rw [vh1.1, n3]; exact hH
  have dl := (hdL_cm y1 pa w a b hh.1 hh.2).1
  have vb := vB_t vb1 (vB_cm y1 pa w a b)
  have cy : y1.cmF pa w a b = (VS.s_nlast y1 (va_up y1.nlast w a)).haF pa w a b := if_neg (by rw [vp1.2.1]; exact t3)
  obtain ⟨a1, a2, a3, a4⟩ := haF_at (VS.s_nlast y1 (va_up y1.nlast w a)) pa w a b hh.1 hh.2
  obtain ⟨-, -, -, -, -, -, -, b8, -⟩ := haF_b (VS.s_nlast y1 (va_up y1.nlast w a)) pa w a b
  have vp := vP_ha (VS.s_nlast y1 (va_up y1.nlast w a)) pa w a b
  rw [← cy] at a1 a2 a3 a4 b8 vp
  obtain ⟨z, ez⟩ : ∃ z, z = y1.cmF pa w a b := ⟨_, rfl⟩
  have jr2 : jrR (((m.s_cod 0).recS 1 w a b 1).comS w a b) (y1.cmF pa w a b) := jrR_cm jr
  rw [← ez] at c1 c2 c3 c4 c5 c6 c7 c8 c9 d1 d2 d3 d4 dl vb a1 a2 a3 a4 b8 vp jr2 ⊢
  have b8 : z.hsize = y1.hsize + 1 := b8
  have a1 : ∀ q, q < y1.hsize → z.hO q = y1.hO q ∧ z.hT q = y1.hT q ∧ z.hV q = y1.hV q := a1
  have a2 : z.hO y1.hsize = w := a2
  have a3 : z.hT y1.hsize = a := a3
  have a4 : z.hV y1.hsize = b := a4
  have vp : vP y1 z := vp
  have vpx : vP x z := ⟨vp.1.trans vp1.1, vp.2.1.trans vp1.2.1, vp.2.2.1.trans vp1.2.2.1, vp.2.2.2.1.trans vp1.2.2.2.1, vp.2.2.2.2.1.trans vp1.2.2.2.2.1, vp.2.2.2.2.2.trans vp1.2.2.2.2.2⟩
  rw [vh1.1] at a1 a2 a3 a4 b8
  rw [vh1.2.1, vh1.2.2.1, vh1.2.2.2] at a1
  refine ⟨ptR_come h1 ⟨rfl, rfl, rfl, rfl, rfl⟩ vpx ⟨rfl, rfl, rfl, rfl, rfl, rfl, rfl, rfl, rfl⟩ ⟨b8, a1, a2, a3, a4⟩ (by rw [h3.1]; exact hw) (by rw [hho]; exact t3) (by rw [h3.2 w hw]; exact t4) (isTm_i t1), bsR_come h2 ⟨rfl, rfl, rfl, rfl, rfl⟩ ⟨rfl, rfl, rfl, rfl, h2.2.2.2.2.2.1, Nat.le_refl _⟩ vb, la_up h3 ⟨rfl, rfl⟩ ⟨c7.trans n1, by rw [c8, n2]⟩, jr2, joR_add (kd := 1) (w := w) (a := a) (b := b) h5 ⟨c5.trans vp1.1, c6.trans vp1.2.1, d3.trans n6⟩ ⟨by rw [d1, w1], by rw [d2, jk]; exact hk.1, fun r hr => by rw [c1, c2, c3, c4]; exact w2 r hr⟩ ⟨by rw [c1]; exact w3, by rw [c2]; exact w4, by rw [c3]; exact w5, by rw [c4]; exact w6⟩ (inA_1 h5.1 ⟨c7.trans n1, by rw [c8, n2], by rw [dl, n4, vp1.2.1], c9.trans n5⟩) (pk_of h1 h3) ⟨by decide, fun e => absurd e (by decide), fun _ => hw, fun _ => ⟨t1, t4⟩⟩ h6, by rw [d1, d2, w1, jk]; omega, ?_⟩
  rw [d4, vb1.2.2.2.2]
  exact h7
end AP
