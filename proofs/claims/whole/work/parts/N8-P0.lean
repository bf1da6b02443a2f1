section
/-! A point comes: over all of the relation. -/
section AP
variable {m : MS} {x : VS} {PS : Nat → PT} {dn bn : Nat → Nat} {ja pa : Nat → Nat} {w kd n : Nat} {a b : Int64}
theorem wrB_k (x : VS) (n : Nat) : (x.wrB n).jK = x.jK ∧ (x.wrB n).jO = x.jO ∧ (x.wrB n).jF = x.jF ∧ (x.wrB n).jS = x.jS ∧ (x.wrB n).jsize = x.jsize ∧ (x.wrB n).jN = x.jN := by
  unfold VS.wrB VS.wjS
  split
  · exact ⟨rfl, rfl, rfl, rfl, rfl, rfl⟩
  · split
    · exact ⟨rfl, rfl, rfl, rfl, rfl, rfl⟩
    · exact ⟨rfl, rfl, rfl, rfl, rfl, rfl⟩
theorem wrF_jw (x : VS) (ja : Nat → Nat) (kd w n : Nat) (a b : Int64) : x.wrF ja kd w n a b = x.jwS (x.wrF ja kd w n a b) := jw_t (jw_wrB x n) (jw_jad (x.wrB n) ja kd w n a b)
theorem wrF_at (x : VS) (ja : Nat → Nat) (kd w n : Nat) (a b : Int64) (h0 : x.jsize ≤ x.jN) (h1 : 0 < x.jN) : (x.wrF ja kd w n a b).jsize = x.jsize + 1 ∧ (∀ r, r < x.jsize → (x.wrF ja kd w n a b).jK r = x.jK r ∧ (x.wrF ja kd w n a b).jO r = x.jO r ∧ (x.wrF ja kd w n a b).jF r = x.jF r ∧ (x.wrF ja kd w n a b).jS r = x.jS r) ∧ (x.wrF ja kd w n a b).jK x.jsize = kd ∧ (x.wrF ja kd w n a b).jO x.jsize = w ∧ (x.wrF ja kd w n a b).jF x.jsize = a ∧ (x.wrF ja kd w n a b).jS x.jsize = b := by
  obtain ⟨k1, k2, k3, k4, k5, k6⟩ := wrB_k x n
  obtain ⟨p1, ⟨q1, q2, -, -, q5, q6⟩, p3, -⟩ := jad_at (x.wrB n) ja kd w n a b (by rw [k5, k6]; exact h0) (by rw [k6]; exact h1)
  rw [k5] at p1 q1 q2 q5 q6 p3
  refine ⟨p3, fun r hr => ?_, q1, q2, q5, q6⟩
  obtain ⟨u1, u2, -, -, u5, u6⟩ := p1 r hr
  rw [k1] at u1
  rw [k2] at u2
  rw [k3] at u5
  rw [k4] at u6
  exact ⟨u1, u2, u5, u6⟩
/-- what is kept after a record -/
theorem rKp_le (h : jrR m x) (hk : x.jkept ≤ x.jsize) (n : Nat) : x.jkept ≤ m.rKept n ∧ m.rKept n ≤ x.jsize := by
  obtain ⟨g1, g2, -⟩ := h
  unfold MS.rKept
  split
  · rw [g2]; exact ⟨Nat.le_refl _, hk⟩
  · rw [g1]; exact ⟨hk, Nat.le_refl _⟩
theorem cmF_j (x : VS) (pa : Nat → Nat) (w : Nat) (a b : Int64) : (x.cmF pa w a b).jsize = x.jsize ∧ (x.cmF pa w a b).jkept = x.jkept ∧ svA (x.cmF pa w a b) = svA x ∧ (x.cmF pa w a b).ncat = x.ncat := by
  unfold VS.cmF
  split
  · exact ⟨rfl, rfl, rfl, rfl⟩
  · unfold VS.haF
    split
    · exact ⟨rfl, rfl, rfl, rfl⟩
    · exact ⟨rfl, rfl, rfl, rfl⟩
theorem jrR_cm {y : VS} (h : jrR m y) : jrR m (y.cmF pa w a b) := by
  unfold VS.cmF
  split
  · exact h
  · unfold VS.haF
    split
    · exact h
    · exact h
theorem vB_t {x y z : VS} (h1 : vB x y) (h2 : vB y z) : vB x z := by
  obtain ⟨⟨a1, a2, a3, a4⟩, ⟨a5, a6, a7, a8, a9, a10⟩, a11, a12, a13⟩ := h1
  obtain ⟨⟨b1, b2, b3, b4⟩, ⟨b5, b6, b7, b8, b9, b10⟩, b11, b12, b13⟩ := h2
  exact ⟨⟨b1.trans a1, b2.trans a2, b3.trans a3, b4.trans a4⟩, ⟨b5.trans a5, b6.trans a6, b7.trans a7, b8.trans a8, b9.trans a9, b10.trans a10⟩, b11.trans a11, fun k hk => (b12 k (by rw [a11]; exact hk)).trans (a12 k hk), b13.trans a13⟩
theorem ap_co (h : coR m x PS dn bn) (hw : w < x.nser) (hm : x.may w a = true) (hJ : x.jsize ≤ x.jN ∧ 0 < x.jN) (hH : x.hsize ≤ x.hN ∧ 0 < x.hN) : coR (((m.s_cod 0).recS 1 w a b 1).comS w a b) (x.apF ja pa w a b) PS dn bn := by
  obtain ⟨h1, h2, h3, h4, h5, h6, h7⟩ := h
  have hm : isTm a = true ∧ ¬ a ≤ x.nlast w ∧ ¬ a < x.nhor := by
    unfold VS.may at hm
    rw [Bool.and_eq_true, Bool.and_eq_true, nd, nd] at hm
    exact hm
  obtain ⟨t1, t2, t3⟩ := hm
  have t4 : x.nlast w < a := Int64.not_le.mp t2
  have jr := jr_rec (m' := ((m.s_cod 0).recS 1 w a b 1).comS w a b) (ja := ja) (kd := 1) (w := w) (n := 1) (a := a) (b := b) (a' := a) (b' := b) h4 hJ.1 hJ.2 (fun _ => ⟨rfl, rfl⟩) ⟨rfl, rfl, rfl, rfl, rfl, rfl, rfl, rfl, rfl, rfl, rfl, rfl, rfl, rfl⟩
  have wa := wrF_at x ja 1 w 1 a b hJ.1 hJ.2
  have jw := wrF_jw x ja 1 w 1 a b
  show coR _ ((x.wrF ja 1 w 1 a b).cmF pa w a b) PS dn bn
  obtain ⟨y1, ey⟩ : ∃ y1, y1 = x.wrF ja 1 w 1 a b := ⟨_, rfl⟩
  rw [← ey] at jr wa jw ⊢
  obtain ⟨w1, w2, w3, w4, w5, w6⟩ := wa
  have vb1 : vB x y1 := by rw [jw]; exact ⟨⟨rfl, rfl, rfl, rfl⟩, ⟨rfl, rfl, rfl, rfl, rfl, rfl⟩, rfl, fun _ _ => rfl, rfl⟩
  have vp1 : vP x y1 := by rw [jw]; exact ⟨rfl, rfl, rfl, rfl, rfl, rfl⟩
  have vh1 : vH x y1 := by rw [jw]; exact ⟨rfl, rfl, rfl, rfl⟩
  have en : y1.nser = x.nser ∧ y1.nlast = x.nlast ∧ y1.hN = x.hN ∧ hdL y1 = hdL x ∧ scL y1 = scL x ∧ svA y1 = svA x := by rw [jw]; exact ⟨rfl, rfl, rfl, rfl, rfl, rfl⟩
  obtain ⟨n1, n2, n3, n4, n5, n6⟩ := en
  have hho : m.horizon = x.nhor := h1.1.2.2.1
  have hk := rKp_le h4 h6 1
  have jk : y1.jkept = m.rKept 1 := jr.2.1.symm
  obtain ⟨c1, c2, c3, c4, c5, c6, c7, c8, c9⟩ := cmF_k y1 pa w a b
  obtain ⟨d1, d2, d3, d4⟩ := cmF_j y1 pa w a b
  have hh : y1.hsize ≤ y1.hN ∧ 0 < y1.hN := by rw [vh1.1, n3]; exact hH
  have dl := (hdL_cm y1 pa w a b hh.1 hh.2).1
  have vb := vB_t vb1 (vB_cm y1 pa w a b)
  have cy : y1.cmF pa w a b = (VS.s_nlast y1 (va_up y1.nlast w a)).haF pa w a b := if_neg (by rw [vp1.2.1]; exact t3)
  obtain ⟨a1, a2, a3, a4⟩ := haF_at (VS.s_nlast y1 (va_up y1.nlast w a)) pa w a b hh.1 hh.2
  obtain ⟨-, -, -, -, -, -, -, b8, -⟩ := haF_b (VS.s_nlast y1 (va_up y1.nlast w a)) pa w a b
  have vp := vP_ha (VS.s_nlast y1 (va_up y1.nlast w a)) pa w a b
  rw [← cy] at a1 a2 a3 a4 b8 vp
  obtain ⟨z, ez⟩ : ∃ z, z = y1.cmF pa w a b := ⟨_, rfl⟩
  have jr2 : jrR (((m.s_cod 0).recS 1 w a b 1).comS w a b) (y1.cmF pa w a b) := jrR_cm jr
  rw [← ez] at c1 c2 c3 c4 c5 c6 c7 c8 c9 d1 d2 d3 d4 dl vb a1 a2 a3 a4 b8 vp jr2 ⊢
  have b8 : z.hsize = y1.hsize + 1 := b8
  have a1 : ∀ q, q < y1.hsize → z.hO q = y1.hO q ∧ z.hT q = y1.hT q ∧ z.hV q = y1.hV q := a1
  have a2 : z.hO y1.hsize = w := a2
  have a3 : z.hT y1.hsize = a := a3
  have a4 : z.hV y1.hsize = b := a4
  have vp : vP y1 z := vp
  have vpx : vP x z := ⟨vp.1.trans vp1.1, vp.2.1.trans vp1.2.1, vp.2.2.1.trans vp1.2.2.1, vp.2.2.2.1.trans vp1.2.2.2.1, vp.2.2.2.2.1.trans vp1.2.2.2.2.1, vp.2.2.2.2.2.trans vp1.2.2.2.2.2⟩
  rw [vh1.1] at a1 a2 a3 a4 b8
  rw [vh1.2.1, vh1.2.2.1, vh1.2.2.2] at a1
  refine ⟨ptR_come h1 ⟨rfl, rfl, rfl, rfl, rfl⟩ vpx ⟨rfl, rfl, rfl, rfl, rfl, rfl, rfl, rfl, rfl⟩ ⟨b8, a1, a2, a3, a4⟩ (by rw [h3.1]; exact hw) (by rw [hho]; exact t3) (by rw [h3.2 w hw]; exact t4) (isTm_i t1), bsR_come h2 ⟨rfl, rfl, rfl, rfl, rfl⟩ ⟨rfl, rfl, rfl, rfl, h2.2.2.2.2.2.1, Nat.le_refl _⟩ vb, la_up h3 ⟨rfl, rfl⟩ ⟨c7.trans n1, by rw [c8, n2]⟩, jr2, joR_add (kd := 1) (w := w) (a := a) (b := b) h5 ⟨c5.trans vp1.1, c6.trans vp1.2.1, d3.trans n6⟩ ⟨by rw [d1, w1], by rw [d2, jk]; exact hk.1, fun r hr => by rw [c1, c2, c3, c4]; exact w2 r hr⟩ ⟨by rw [c1]; exact w3, by rw [c2]; exact w4, by rw [c3]; exact w5, by rw [c4]; exact w6⟩ (inA_1 h5.1 ⟨c7.trans n1, by rw [c8, n2], by rw [dl, n4, vp1.2.1], c9.trans n5⟩) (pk_of h1 h3) ⟨by decide, fun e => absurd e (by decide), fun _ => hw, fun _ => ⟨t1, t4⟩⟩ h6, by rw [d1, d2, w1, jk]; omega, ?_⟩
  rw [d4, vb1.2.2.2.2]
  exact h7
end AP
end
section
/-! A delete: over all of the relation. -/
section DE
variable {m : MS} {x y1 z : VS} {PS : Nat → PT} {dn bn : Nat → Nat} {ja : Nat → Nat} {w : Nat} {a b : Int64}
theorem de_co (h : coR m x PS dn bn) (hw : w < x.nser) (hJ : x.jsize ≤ x.jN ∧ 0 < x.jN) (hd : m.deletes < 2 ^ 29) (ey : y1 = x.wrF ja 2 w 1 a b) (hz : (sumN x.npc (x.soN PS w a b) = 0 ∧ z = y1.dwS w a b) ∨ (0 < sumN x.npc (x.soN PS w a b) ∧ z = (y1.dwS w a b).asS w a b)) : ∃ dn', coR (((m.s_cod 0).recS 2 w a b 1).goS w a b) z PS dn' bn := by
  obtain ⟨h1, h2, h3, h4, h5, h6, h7⟩ := h
  have jr := jr_rec (m' := ((m.s_cod 0).recS 2 w a b 1).goS w a b) (ja := ja) (kd := 2) (w := w) (n := 1) (a := a) (b := b) (a' := a) (b' := b) h4 hJ.1 hJ.2 (fun _ => ⟨rfl, rfl⟩) ⟨rfl, rfl, rfl, rfl, rfl, rfl, rfl, rfl, rfl, rfl, rfl, rfl, rfl, rfl⟩
  have wa := wrF_at x ja 2 w 1 a b hJ.1 hJ.2
  have jw := wrF_jw x ja 2 w 1 a b
  rw [← ey] at jr wa jw
  obtain ⟨w1, w2, w3, w4, w5, w6⟩ := wa
  have hk := rKp_le h4 h6 1
  have jk : y1.jkept = m.rKept 1 := jr.2.1.symm
  -- what is the same in both cases
  have f : (z.npc = x.npc ∧ z.nhor = x.nhor ∧ z.hsize = (x.dwS w a b).hsize ∧ z.hO = (x.dwS w a b).hO ∧ z.hT = (x.dwS w a b).hT ∧ z.hV = (x.dwS w a b).hV) ∧ vB x z ∧ (z.nser = x.nser ∧ z.nlast = x.nlast ∧ svA z = svA x ∧ z.ncat = x.ncat) ∧ (z.jK = y1.jK ∧ z.jO = y1.jO ∧ z.jF = y1.jF ∧ z.jS = y1.jS ∧ z.jsize = y1.jsize ∧ z.jkept = y1.jkept) ∧ jrR (((m.s_cod 0).recS 2 w a b 1).goS w a b) z := by
    rcases hz with ⟨-, e⟩ | ⟨-, e⟩
    · rw [e]
      refine ⟨?_, ?_, ?_, ⟨rfl, rfl, rfl, rfl, rfl, rfl⟩, jr⟩
      · rw [jw]; exact ⟨rfl, rfl, rfl, rfl, rfl, rfl⟩
      · rw [jw]; exact ⟨⟨rfl, rfl, rfl, rfl⟩, ⟨rfl, rfl, rfl, rfl, rfl, rfl⟩, rfl, fun _ _ => rfl, rfl⟩
      · rw [jw]; exact ⟨rfl, rfl, rfl, rfl⟩
    · rw [e]
      refine ⟨?_, ?_, ?_, ⟨rfl, rfl, rfl, rfl, rfl, rfl⟩, jr⟩
      · rw [jw]; exact ⟨rfl, rfl, rfl, rfl, rfl, rfl⟩
      · rw [jw]; exact ⟨⟨rfl, rfl, rfl, rfl⟩, ⟨rfl, rfl, rfl, rfl, rfl, rfl⟩, rfl, fun _ _ => rfl, rfl⟩
      · rw [jw]; exact ⟨rfl, rfl, rfl, rfl⟩
  have hs : (sumN x.npc (x.soN PS w a b) = 0 ∧ z.nsO = x.nsO ∧ z.nsF = x.nsF ∧ z.nsT = x.nsT ∧ z.nsc = x.nsc) ∨ (0 < sumN x.npc (x.soN PS w a b) ∧ z.nsO = (x.asS w a b).nsO ∧ z.nsF = (x.asS w a b).nsF ∧ z.nsT = (x.asS w a b).nsT ∧ z.nsc = x.nsc + 1) := by
    rcases hz with ⟨g, e⟩ | ⟨g, e⟩
    · refine Or.inl ⟨g, ?_⟩
      rw [e, jw]; exact ⟨rfl, rfl, rfl, rfl⟩
    · refine Or.inr ⟨g, ?_⟩
      rw [e, jw]; exact ⟨rfl, rfl, rfl, rfl⟩
  obtain ⟨f1, f2, ⟨f3, f4, f5, f6⟩, ⟨j1, j2, j3, j4, j5, j6⟩, f7⟩ := f
  have hl : hdL z = (hdL x).filter (fun p => !wiB w a b p) := by
    rw [← hdL_dw x w a b]
    unfold hdL
    rw [f1.2.2.1, f1.2.2.2.1, f1.2.2.2.2.1, f1.2.2.2.2.2]
  have sl : scL z = (if 0 < sumN x.npc (x.soN PS w a b) then scL x ++ [(w, maxL a x.nhor, minL b (x.nlast w))] else scL x) := by
    rcases hs with ⟨g, e1, e2, e3, e4⟩ | ⟨g, e1, e2, e3, e4⟩
    · rw [if_neg (by omega)]
      unfold scL
      rw [e1, e2, e3, e4]
    · rw [if_pos g, ← scL_as]
      unfold scL
      rw [e1, e2, e3, e4]
      rfl
  obtain ⟨dn', p⟩ := ptR_go (m' := ((m.s_cod 0).recS 2 w a b 1).goS w a b) h1 ⟨rfl, rfl, rfl, rfl, rfl⟩ ⟨rfl, rfl, rfl, rfl, rfl, rfl, rfl, rfl, rfl⟩ (h3.2 w hw) hd f1 hs
  refine ⟨dn', p, bsR_p h2 ⟨rfl, rfl, rfl, rfl⟩ (fun q hq => go_pk (m := (m.s_cod 0).recS 2 w a b 1) hq) ⟨rfl, rfl, rfl, rfl, h2.2.2.2.2.2.1, Nat.le_succ _⟩ f2, ⟨h3.1.trans f3.symm, fun s hs => by rw [f3] at hs; rw [f4]; exact h3.2 s hs⟩, f7, joR_add (kd := 2) (w := w) (a := a) (b := b) h5 ⟨f1.1, f1.2.1, f5⟩ ⟨by rw [j5, w1], by rw [j6, jk]; exact hk.1, fun r hr => by rw [j1, j2, j3, j4]; exact w2 r hr⟩ ⟨by rw [j1]; exact w3, by rw [j2]; exact w4, by rw [j3]; exact w5, by rw [j4]; exact w6⟩ (inA_2 h5.1 hw ⟨f3, f4, hl, sl⟩) (pk_of h1 h3) ⟨by decide, fun e => absurd e (by decide), fun _ => hw, fun e => absurd e (by decide)⟩ h6, by rw [j5, j6, w1, jk]; omega, ?_⟩
  rw [f6]
  exact h7
end DE
end
section
/-! The journal kept, power lost: over all of the relation. -/
section KK
variable {m m' : MS} {x x' : VS} {PS : Nat → PT} {dn bn : Nat → Nat}
/-- only how much is kept, and what the writing counts, is other -/
theorem co_k (h : coR m x PS dn bn) (h1 : mP m m') (h2 : mQ m m') (hm : m'.baseHidden = m.baseHidden ∧ m'.baseHorizon = m.baseHorizon ∧ m'.baseSeries = m.baseSeries ∧ m'.baseLasts = m.baseLasts ∧ m'.catalogBlocks = m.catalogBlocks) (h3 : vP x x') (h4 : vH x x') (vb : vB x x') (hn : x'.nser = x.nser ∧ x'.nlast = x.nlast) (hj : x'.jsize = x.jsize ∧ x'.jK = x.jK ∧ x'.jO = x.jO ∧ x'.jF = x.jF ∧ x'.jS = x.jS) (hk : x.jkept ≤ x'.jkept ∧ x'.jkept ≤ x.jsize) (jr : jrR m' x') : coR m' x' PS dn bn := by
  obtain ⟨g1, g2, g3, g4, g5, g6, g7⟩ := h
  obtain ⟨a1, a2, a3, a4, a5⟩ := hm
  obtain ⟨j1, j2, j3, j4, j5⟩ := hj
  have h2' := h2
  obtain ⟨q1, q2, q3, q4, q5, q6, q7, q8, q9⟩ := h2
  have sv : svA x' = svA x := by
    unfold svA
    rw [vb.2.1.2.2.2.1, vb.2.1.2.2.2.2.1, vb.1.1, vb.1.2.1, vb.1.2.2.1, vb.1.2.2.2]
  have er : ∀ r, rpV PS x' r = rpV PS x r := fun r => rpV_e ⟨h3.1, h3.2.1, sv⟩ (fun i _ => by rw [j2, j3, j4, j5]; exact ⟨rfl, rfl, rfl, rfl⟩)
  have hl : hdL x' = hdL x := by
    unfold hdL
    rw [h4.1, h4.2.1, h4.2.2.1, h4.2.2.2]
  have sl : scL x' = scL x := by
    unfold scL
    rw [h3.2.2.1, h3.2.2.2.1, h3.2.2.2.2.1, h3.2.2.2.2.2]
  refine ⟨ptR_same g1 h1 h2' h3 h4, bsR_p g2 ⟨q1, q2, q3, a1⟩ (fun q _ => by unfold MS.pkd; rw [q5]) ⟨a2, h1.2.2.2.2, a3, a4, by rw [q8]; exact g2.2.2.2.2.2.1, by rw [q7]; exact Nat.le_refl _⟩ vb, ⟨by rw [q8, hn.1]; exact g3.1, fun s hs => by rw [hn.1] at hs; rw [q9, hn.2]; exact g3.2 s hs⟩, jr, ⟨?_, fun r hr => ?_, fun K k1 k2 => ?_⟩, by rw [j1]; exact hk.2, by rw [a5, vb.2.2.2.2]; exact g7⟩
  · rw [er, j1]
    obtain ⟨u1, u2, u3, u4⟩ := g5.1
    exact ⟨by rw [hn.1]; exact u1, by rw [hn.1, hn.2]; exact u2, by rw [hl]; exact u3, by rw [sl]; exact u4⟩
  · rw [j1] at hr
    rw [er, j2, j3, j4, j5, sl, h3.1, h3.2.1]
    exact g5.2.1 r hr
  · rw [j1] at k2
    rw [er]
    exact g5.2.2 K (Nat.le_trans hk.1 k1) k2
end KK
end
section
/-! Sync and power over all of the relation. -/
section SY
variable {m : MS} {x : VS} {PS : Nat → PT} {dn bn : Nat → Nat}
theorem sy_co1 (h : coR m x PS dn bn) : coR (MS.s_kept (MS.s_fresh (MS.s_written (MS.s_cutLeft (MS.s_cod m 0) (cutF m.cutLeft)) (m.written + 1)) false) m.records) x.wj1 PS dn bn := by
  obtain ⟨g1, g2, g3, g4, g5, g6, g7, g8, g9, g10, g11⟩ := h.2.2.2.1
  exact co_k h ⟨rfl, rfl, rfl, rfl, rfl⟩ ⟨rfl, rfl, rfl, rfl, rfl, rfl, rfl, rfl, rfl⟩ ⟨rfl, rfl, rfl, rfl, rfl⟩ ⟨rfl, rfl, rfl, rfl, rfl, rfl⟩ ⟨rfl, rfl, rfl, rfl⟩ ⟨⟨rfl, rfl, rfl, rfl⟩, ⟨rfl, rfl, rfl, rfl, rfl, rfl⟩, rfl, fun _ _ => rfl, rfl⟩ ⟨rfl, rfl⟩ ⟨rfl, rfl, rfl, rfl, rfl⟩ ⟨h.2.2.2.2.2.1, Nat.le_refl _⟩ ⟨g1, g1, g3, g4, rfl, congrArg cutF g6, congrArg (· + 1) g7, g8, g9, fun _ => rfl, g11⟩
theorem sy_co0 (h : coR m x PS dn bn) (hf : x.jch = false) : coR (MS.s_kept (MS.s_fresh (MS.s_cod m 0) false) m.records) x PS dn bn := by
  obtain ⟨g1, g2, g3, g4, g5, g6, g7, g8, g9, g10, g11⟩ := h.2.2.2.1
  exact co_k h ⟨rfl, rfl, rfl, rfl, rfl⟩ ⟨rfl, rfl, rfl, rfl, rfl, rfl, rfl, rfl, rfl⟩ ⟨rfl, rfl, rfl, rfl, rfl⟩ ⟨rfl, rfl, rfl, rfl, rfl, rfl⟩ ⟨rfl, rfl, rfl, rfl⟩ ⟨⟨rfl, rfl, rfl, rfl⟩, ⟨rfl, rfl, rfl, rfl, rfl, rfl⟩, rfl, fun _ _ => rfl, rfl⟩ ⟨rfl, rfl⟩ ⟨rfl, rfl, rfl, rfl, rfl⟩ ⟨Nat.le_refl _, h.2.2.2.2.2.1⟩ ⟨g1, g1.trans (g10 hf).symm, g3, g4, hf.symm, g6, g7, g8, g9, g10, g11⟩
/-- power, code and counts of writing -/
theorem pw_co (h : coR m x PS dn bn) (cd : Int32) (o p : Bool) (c : Int32) (k : Nat) : coR (MS.s_written (MS.s_cutLeft (MS.s_on (MS.s_cod m cd) o) c) (m.written + k)) (VS.s_writes (VS.s_cutLeft (VS.s_powered x p) c) (x.writes + k)) PS dn bn := by
  obtain ⟨g1, g2, g3, g4, g5, g6, g7, g8, g9, g10, g11⟩ := h.2.2.2.1
  exact co_k h ⟨rfl, rfl, rfl, rfl, rfl⟩ ⟨rfl, rfl, rfl, rfl, rfl, rfl, rfl, rfl, rfl⟩ ⟨rfl, rfl, rfl, rfl, rfl⟩ ⟨rfl, rfl, rfl, rfl, rfl, rfl⟩ ⟨rfl, rfl, rfl, rfl⟩ ⟨⟨rfl, rfl, rfl, rfl⟩, ⟨rfl, rfl, rfl, rfl, rfl, rfl⟩, rfl, fun _ _ => rfl, rfl⟩ ⟨rfl, rfl⟩ ⟨rfl, rfl, rfl, rfl, rfl⟩ ⟨Nat.le_refl _, h.2.2.2.2.2.1⟩ ⟨g1, g2, g3, g4, g5, rfl, congrArg (· + k) g7, g8, g9, g10, g11⟩
end SY
end
section
/-! Points come in a row: over all of the relation. -/
section BK
variable {m : MS} {x : VS} {PS : Nat → PT} {dn bn : Nat → Nat} {w : Nat}
theorem bk_co (h : coR m x PS dn bn) (ht : m.tape = x.tape) (hw : w < x.nser) (hfl : x.jfill ≤ 126) (hJ : x.jsize ≤ x.jN ∧ 0 < x.jN) (hH : x.hsize ≤ x.hN ∧ 0 < x.hN) : ∀ {i : Nat} {z : VS}, bkR x w i z → coR ((m.s_cod 0).blkS w i) z PS dn bn ∧ ((m.s_cod 0).blkS w i).tape = x.tape ∧ z.nser = x.nser
  | 0, z, e => by
    rw [show z = VS.s_tapeLength x 0 from e]
    exact ⟨h, ht, rfl⟩
  | i + 1, z, e => by
    have bi := bk_i hfl hJ.1 hJ.2 hH.1 hH.2 e
    obtain ⟨y, ja, pa, e1, e2, e3⟩ := e
    obtain ⟨c1, c2, c3⟩ := bk_co h ht hw hfl hJ hH e1
    obtain ⟨-, -, -, -, -, -, -, q8, q9, -, -, q12, q13⟩ := bk_i hfl hJ.1 hJ.2 hH.1 hH.2 e1
    have ap := ap_co (ja := ja) (pa := pa) (b := vlB x i) c1 (by rw [c3]; exact hw) e2 ⟨q8, q9⟩ ⟨q12, q13⟩
    rw [e3]
    refine ⟨?_, c2, ?_⟩
    · have et : numB m.tape (16 * i) 8 = tmB x i := by unfold tmB; rw [ht, Nat.mul_comm]
      have ev : numB m.tape (16 * i + 8) 8 = vlB x i := by unfold vlB; rw [ht, Nat.mul_comm]
      show coR ((((m.s_cod 0).blkS w i).recS 1 w (numB m.tape (16 * i) 8) (numB m.tape (16 * i + 8) 8) 1).comS w (numB m.tape (16 * i) 8) (numB m.tape (16 * i + 8) 8)) _ PS dn bn
      rw [et, ev]
      exact ap
    · rw [← c3]
      exact (cmF_k (y.wrF ja 1 w 1 (tmB x i) (vlB x i)) pa w (tmB x i) (vlB x i)).2.2.2.2.2.2.1.trans ((congrArg VS.nser (wrF_jw y ja 1 w 1 (tmB x i) (vlB x i))).trans rfl)
end BK
end
section
/-! A new series: over all of the relation. -/
section SE
variable {m : MS} {x y1 : VS} {PS : Nat → PT} {dn bn : Nat → Nat} {ja : Nat → Nat} {n tl mp : Nat} {a' b' : Int64}
theorem se_co (h : coR m x PS dn bn) (hJ : x.jsize ≤ x.jN ∧ 0 < x.jN) (ey : y1 = x.wrF ja 0 x.nser n 0 0) : coR ((m.recS 0 m.seriesCount a' b' n).nwS m.seriesCount tl) (y1.anS mp) PS dn bn := by
  obtain ⟨h1, h2, h3, h4, h5, h6, h7⟩ := h
  have hb := h2.2.2.2.2.2.1
  rw [h3.1] at hb ⊢
  have jr := jr_rec (m' := (m.recS 0 x.nser a' b' n).nwS x.nser tl) (ja := ja) (kd := 0) (w := x.nser) (n := n) (a := 0) (b := 0) (a' := a') (b' := b') h4 hJ.1 hJ.2 (fun e => absurd rfl e) ⟨rfl, rfl, rfl, rfl, rfl, rfl, rfl, rfl, rfl, rfl, rfl, rfl, rfl, rfl⟩
  have wa := wrF_at x ja 0 x.nser n 0 0 hJ.1 hJ.2
  have jw := wrF_jw x ja 0 x.nser n 0 0
  rw [← ey] at jr wa jw
  obtain ⟨w1, w2, w3, w4, w5, w6⟩ := wa
  have hk := rKp_le h4 h6 n
  have jk : y1.jkept = m.rKept n := jr.2.1.symm
  have en : y1.nser = x.nser ∧ y1.nlast = x.nlast ∧ hdL y1 = hdL x ∧ scL y1 = scL x ∧ svA y1 = svA x ∧ y1.ncat = x.ncat := by rw [jw]; exact ⟨rfl, rfl, rfl, rfl, rfl, rfl⟩
  have vb : vB x (y1.anS mp) := by rw [jw]; exact ⟨⟨rfl, rfl, rfl, rfl⟩, ⟨rfl, rfl, rfl, rfl, rfl, rfl⟩, rfl, fun _ _ => rfl, rfl⟩
  have vp : vP x (y1.anS mp) := by rw [jw]; exact ⟨rfl, rfl, rfl, rfl, rfl, rfl⟩
  have vh : vH x (y1.anS mp) := by rw [jw]; exact ⟨rfl, rfl, rfl, rfl⟩
  obtain ⟨n1, n2, n3, n4, n5, n6⟩ := en
  have e1 : (y1.anS mp).nser = x.nser + 1 := congrArg (· + 1) n1
  have e2 : (y1.anS mp).nlast = va_up x.nlast x.nser (-1) := by rw [← n1, ← n2]; rfl
  obtain ⟨z, ez⟩ : ∃ z, z = y1.anS mp := ⟨_, rfl⟩
  have jz : z.jK = y1.jK ∧ z.jO = y1.jO ∧ z.jF = y1.jF ∧ z.jS = y1.jS ∧ z.jsize = y1.jsize ∧ z.jkept = y1.jkept ∧ hdL z = hdL y1 ∧ scL z = scL y1 ∧ svA z = svA y1 ∧ z.ncat = y1.ncat := by rw [ez]; exact ⟨rfl, rfl, rfl, rfl, rfl, rfl, rfl, rfl, rfl, rfl⟩
  have jr2 : jrR ((m.recS 0 x.nser a' b' n).nwS x.nser tl) (y1.anS mp) := jr
  rw [← ez] at vb vp vh e1 e2 jr2 ⊢
  obtain ⟨j1, j2, j3, j4, j5, j6, j7, j8, j9, j10⟩ := jz
  have hls : ∀ s, s < x.nser → ((m.recS 0 x.nser a' b' n).nwS x.nser tl).lasts s = m.lasts s := fun s hs => va_up_ne _ _ (Nat.ne_of_lt hs)
  refine ⟨ptR_new h1 ⟨rfl, rfl, rfl, rfl, rfl⟩ ⟨rfl, rfl, rfl, rfl, rfl, rfl, rfl⟩ ⟨by rw [h3.1]; exact Nat.le_succ _, fun s hs => hls s (by rw [← h3.1]; exact hs)⟩ vp vh, bsR_p h2 ⟨rfl, rfl, rfl, rfl⟩ (fun _ _ => rfl) ⟨rfl, rfl, rfl, rfl, Nat.le_succ_of_le hb, Nat.le_refl _⟩ vb, ⟨e1.symm, fun s hs => ?_⟩, jr2, joR_add (kd := 0) (w := x.nser) (a := 0) (b := 0) h5 ⟨vp.1, vp.2.1, j9.trans n5⟩ ⟨by rw [j5, w1], by rw [j6, jk]; exact hk.1, fun r hr => by rw [j1, j2, j3, j4]; exact w2 r hr⟩ ⟨by rw [j1]; exact w3, by rw [j2]; exact w4, by rw [j3]; exact w5, by rw [j4]; exact w6⟩ (inA_0 h5.1 ⟨e1, e2, j7.trans n3, j8.trans n4⟩) (pk_of h1 h3) ⟨by decide, fun _ => rfl, fun e => absurd rfl e, fun e => absurd e (by decide)⟩ h6, by rw [j5, j6, w1, jk]; omega, ?_⟩
  · rw [e1] at hs
    rw [e2]
    by_cases c : s = x.nser
    · rw [c]
      exact (va_up_self _ _ _).trans (va_up_self _ _ _).symm
    · rw [hls s (by omega), va_up_ne _ _ c]
      exact h3.2 s (by omega)
  · rw [j10, n6]
    exact h7
end SE
end
section
/-! Tokens: the reference's and the class's. -/
theorem by_ex {z : Int32} (h : z.toInt8.toInt32 = z) : ∃ n : Nat, n < 256 ∧ z = (Int8.ofBitVec (BitVec.ofNat 8 n)).toInt32 :=
  ⟨z.toInt8.toBitVec.toNat, z.toInt8.toBitVec.isLt, by
    rw [BitVec.ofNat_toNat, BitVec.setWidth_eq, Int8.ofBitVec_toBitVec]
    exact h.symm⟩
def byB (P : Int32 → Bool) : Prop := ∀ n : Nat, n < 256 → P (Int8.ofBitVec (BitVec.ofNat 8 n)).toInt32 = true
theorem byB_u {P : Int32 → Bool} (h : byB P) {z : Int32} (hz : z.toInt8.toInt32 = z) : P z = true := by
  obtain ⟨n, h1, h2⟩ := by_ex hz
  rw [h2]
  exact h n h1
def b_eq (a b : Bool) : Bool := (a && b) || (!a && !b)
theorem b_eqI {a b : Bool} (h : b_eq a b = true) : a = b := by revert h; cases a <;> cases b <;> decide
def b_k (k : Int32) (z : Int32) : Bool := b_eq (decide (z &&& 255 = k)) (decide (z = k))
theorem b_kI {k z : Int32} (h : b_k k z = true) : z &&& 255 = k ↔ z = k := by
  have := b_eqI h
  by_cases c : z = k
  · rw [decide_eq_true c] at this; exact ⟨fun _ => c, fun _ => of_decide_eq_true this⟩
  · rw [decide_eq_false c] at this; exact ⟨fun e => absurd e (of_decide_eq_false this), fun e => absurd e c⟩
def b_10 (z : Int32) : Bool := !isDg z || (decide (z &&& 255 = z) && (decide (z = 48) || (decide (z = 49) || (decide (z = 50) || (decide (z = 51) || (decide (z = 52) || (decide (z = 53) || (decide (z = 54) || (decide (z = 55) || (decide (z = 56) || decide (z = 57)))))))))))
section BY
variable {z : Int32}
theorem by_dg (hz : z.toInt8.toInt32 = z) : isDg (z &&& 255) = isDg z := b_eqI (byB_u (P := fun z => b_eq (isDg (z &&& 255)) (isDg z)) (by unfold byB; decide +kernel) hz)
theorem by_lt (hz : z.toInt8.toInt32 = z) : isLt (z &&& 255) = isLt z := b_eqI (byB_u (P := fun z => b_eq (isLt (z &&& 255)) (isLt z)) (by unfold byB; decide +kernel) hz)
theorem by_nm (hz : z.toInt8.toInt32 = z) : isNm (z &&& 255) = isNm z := by unfold isNm; rw [by_lt hz, by_dg hz]
theorem by_tx (hz : z.toInt8.toInt32 = z) : isTx (z &&& 255) = isTv z := b_eqI (byB_u (P := fun z => b_eq (isTx (z &&& 255)) (isTv z)) (by unfold byB; decide +kernel) hz)
theorem by_s1 (hz : z.toInt8.toInt32 = z) : sgOne (z &&& 255) = sgOne z := b_eqI (byB_u (P := fun z => b_eq (sgOne (z &&& 255)) (sgOne z)) (by unfold byB; decide +kernel) hz)
theorem by_33 (hz : z.toInt8.toInt32 = z) : z &&& 255 = 33 ↔ z = 33 := b_kI (byB_u (P := b_k 33) (by unfold byB; decide +kernel) hz)
theorem by_34 (hz : z.toInt8.toInt32 = z) : z &&& 255 = 34 ↔ z = 34 := b_kI (byB_u (P := b_k 34) (by unfold byB; decide +kernel) hz)
theorem by_61 (hz : z.toInt8.toInt32 = z) : z &&& 255 = 61 ↔ z = 61 := b_kI (byB_u (P := b_k 61) (by unfold byB; decide +kernel) hz)
theorem by_94 (hz : z.toInt8.toInt32 = z) : z &&& 255 = 94 ↔ z = 94 := b_kI (byB_u (P := b_k 94) (by unfold byB; decide +kernel) hz)
theorem by_so (hz : z.toInt8.toInt32 = z) (h : sgOne z = true) : z &&& 255 = z := by
  have := byB_u (P := fun z => !sgOne z || decide (z &&& 255 = z)) (by unfold byB; decide +kernel) hz
  rw [h] at this
  exact of_decide_eq_true this
theorem by_10 (hz : z.toInt8.toInt32 = z) (h : isDg z = true) : z &&& 255 = z ∧ (z = 48 ∨ z = 49 ∨ z = 50 ∨ z = 51 ∨ z = 52 ∨ z = 53 ∨ z = 54 ∨ z = 55 ∨ z = 56 ∨ z = 57) := by
  have := byB_u (P := b_10) (by unfold byB; decide +kernel) hz
  unfold b_10 at this
  rw [h] at this
  simpa using this
end BY
section TK
variable {f : Nat → Int32} {n : Nat}
theorem at_iv (q : Nat) : atI f n q = atV f n q &&& 255 := by
  unfold atI atV
  by_cases c : q < n
  · rw [if_neg (by omega), if_pos c]
  · rw [if_pos (by omega), if_neg c]; decide
theorem atV_by (hby : byteF f) (q : Nat) : (atV f n q).toInt8.toInt32 = atV f n q := by
  unfold atV
  split
  · exact hby q
  · decide
theorem at_lt {q : Nat} (h : q < n) : atI f n q = f q &&& 255 := if_neg (by omega)
theorem sk_wh : ∀ (k q : Nat), n - q = k → q ≤ n → skG f n (n + 1 - q) q = whE isSp f n q
  | 0, q, e, h => by
    rw [show n + 1 - q = 0 + 1 by omega, whE_n (by omega)]
    exact if_pos (by omega)
  | k + 1, q, e, h => by
    rw [show n + 1 - q = (k + 1) + 1 by omega]
    show (if n ≤ q then q else if f q = 32 then skG f n (k + 1) (q + 1) else q) = _
    rw [if_neg (by omega)]
    have ih := sk_wh k (q + 1) (by omega) (by omega)
    rw [show n + 1 - (q + 1) = k + 1 by omega] at ih
    by_cases c : f q = 32
    · rw [if_pos c, whE_t (by omega) (decide_eq_true c), ih]
    · rw [if_neg c, whE_f (decide_eq_false c)]
theorem id_wh (hby : byteF f) : ∀ (k q : Nat), n - q = k → q ≤ n → idG f n (n + 1 - q) q = whE isNm f n q
  | 0, q, e, h => by
    rw [show n + 1 - q = 0 + 1 by omega, whE_n (by omega)]
    show (if isNm (atI f n q) = true then _ else q) = q
    rw [show atI f n q = 0 from if_pos (by omega)]
    rfl
  | k + 1, q, e, h => by
    rw [show n + 1 - q = (k + 1) + 1 by omega]
    show (if isNm (atI f n q) = true then idG f n (k + 1) (q + 1) else q) = _
    have ih := id_wh hby k (q + 1) (by omega) (by omega)
    rw [show n + 1 - (q + 1) = k + 1 by omega] at ih
    rw [at_lt (by omega), by_nm (hby q)]
    cases c : isNm (f q) with
    | true => rw [if_pos rfl, whE_t (by omega) c, ih]
    | false => rw [if_neg (by decide), whE_f c]
theorem tx_wh (hby : byteF f) : ∀ (k q : Nat), n - q = k → q ≤ n → txG f n (n + 1 - q) q = whE isTv f n q
  | 0, q, e, h => by
    rw [show n + 1 - q = 0 + 1 by omega, whE_n (by omega)]
    exact if_pos (by omega)
  | k + 1, q, e, h => by
    rw [show n + 1 - q = (k + 1) + 1 by omega]
    show (if n ≤ q then q else if isTx (atI f n q) = true then txG f n (k + 1) (q + 1) else q) = _
    have ih := tx_wh hby k (q + 1) (by omega) (by omega)
    rw [show n + 1 - (q + 1) = k + 1 by omega] at ih
    rw [if_neg (by omega), at_lt (by omega), by_tx (hby q)]
    cases c : isTv (f q) with
    | true => rw [if_pos rfl, whE_t (by omega) c, ih]
    | false => rw [if_neg (by decide), whE_f c]
/-- too large or not -/
theorem ng_o {v : Int64} {z : Int32} (hz : z = 48 ∨ z = 49 ∨ z = 50 ∨ z = 51 ∨ z = 52 ∨ z = 53 ∨ z = 54 ∨ z = 55 ∨ z = 56 ∨ z = 57) : ngB true v (z - 48) = !decide ((9223372036854775807 - (z - 48).toInt64) / 10 < v) := by
  have ha : ∀ c : Int64, c = 922337203685477580 → (true && (decide (v < 922337203685477580) || (decide (v = 922337203685477580) && true))) = !decide (c < v) := by
    intro c e
    subst e
    by_cases h1 : v < 922337203685477580
    · rw [decide_eq_true h1, decide_eq_false (Int64.not_lt.mpr (Int64.le_of_lt h1))]; rfl
    · rw [decide_eq_false h1]
      by_cases h2 : v = 922337203685477580
      · rw [h2]; decide
      · rw [decide_eq_false h2, decide_eq_true (Int64.lt_of_le_of_ne (Int64.not_lt.mp h1) (fun e => h2 e.symm))]; rfl
  have hb : ∀ c : Int64, c = 922337203685477579 → (true && (decide (v < 922337203685477580) || (decide (v = 922337203685477580) && false))) = !decide (c < v) := by
    intro c e
    subst e
    have k1 : (922337203685477580 : Int64).toInt = 922337203685477580 := by decide
    have k2 : (922337203685477579 : Int64).toInt = 922337203685477579 := by decide
    by_cases h1 : v < 922337203685477580
    · have h3 : ¬ (922337203685477579 : Int64) < v := by
        rw [Int64.lt_iff_toInt_lt, k1] at h1
        rw [Int64.lt_iff_toInt_lt, k2]
        omega
      rw [decide_eq_true h1, decide_eq_false h3]; rfl
    · have h3 : (922337203685477579 : Int64) < v := by
        rw [Int64.lt_iff_toInt_lt, k1] at h1
        rw [Int64.lt_iff_toInt_lt, k2]
        omega
      rw [decide_eq_false h1, decide_eq_true h3, Bool.and_false]; rfl
  rcases hz with h | h | h | h | h | h | h | h | h | h
  · subst h; exact ha _ (by decide)
  · subst h; exact ha _ (by decide)
  · subst h; exact ha _ (by decide)
  · subst h; exact ha _ (by decide)
  · subst h; exact ha _ (by decide)
  · subst h; exact ha _ (by decide)
  · subst h; exact ha _ (by decide)
  · subst h; exact ha _ (by decide)
  · subst h; exact hb _ (by decide)
  · subst h; exact hb _ (by decide)
def nuR (f : Nat → Int32) (n d q : Nat) (r : Nat × Bool × Int64) : Prop := r.1 = whE isDg f n q ∧ r.2.1 = !nuO f d (whE isDg f n q - d) ∧ (nuO f d (whE isDg f n q - d) = false → r.2.2 = nuV f d (whE isDg f n q - d))
theorem nu_wh (hby : byteF f) (d : Nat) : ∀ (k q j : Nat) (m : Int64), n - q = k → q ≤ n → q = d + j → (nuO f d j = false → m = nuV f d j) → nuR f n d q (numG f n (n + 1 - q) q (!nuO f d j) m)
  | 0, q, j, m, e, h, ej, hm => by
    rw [show n + 1 - q = 0 + 1 by omega]
    show nuR f n d q (if isDg (atI f n q) = true then _ else (q, !nuO f d j, m))
    rw [show atI f n q = 0 from if_pos (by omega), if_neg (by decide)]
    unfold nuR
    rw [whE_n (by omega), show q - d = j by omega]
    exact ⟨rfl, rfl, hm⟩
  | k + 1, q, j, m, e, h, ej, hm => by
    rw [show n + 1 - q = (k + 1) + 1 by omega]
    show nuR f n d q (if isDg (atI f n q) = true then numG f n (k + 1) (q + 1) (ngB (!nuO f d j) m (atI f n q - 48)) (ngA (!nuO f d j) m (atI f n q - 48)) else (q, !nuO f d j, m))
    rw [at_lt (by omega), by_dg (hby q)]
    cases c : isDg (f q) with
    | true =>
      obtain ⟨b1, b2⟩ := by_10 (hby q) c
      rw [if_pos rfl, b1]
      have en : nuO f d (j + 1) = (nuO f d j || decide ((9223372036854775807 - (f q - 48).toInt64) / 10 < nuV f d j)) := by rw [ej]; rfl
      have ev : nuV f d (j + 1) = 10 * nuV f d j + (f q - 48).toInt64 := by rw [ej]; rfl
      have eg : ngB (!nuO f d j) m (f q - 48) = !nuO f d (j + 1) := by
        rw [en]
        cases g : nuO f d j with
        | true => rfl
        | false => rw [hm g]; exact ng_o b2
      have ih := nu_wh hby d k (q + 1) (j + 1) (ngA (!nuO f d j) m (f q - 48)) (by omega) (by omega) (by omega) (fun g => by
        unfold ngA
        rw [eg, g, if_pos (show (!false) = true from rfl), ev]
        rw [en, Bool.or_eq_false_iff] at g
        rw [hm g.1])
      rw [show n + 1 - (q + 1) = k + 1 by omega, ← eg] at ih
      unfold nuR at ih ⊢
      rw [whE_t (by omega) c]
      exact ih
    | false =>
      rw [if_neg (by decide)]
      unfold nuR
      rw [whE_f c, show q - d = j by omega]
      exact ⟨rfl, rfl, hm⟩
end TK
/-- kinds of tokens -/
def kR (a b : Int32) : Prop := (a = 0 ∧ b = 256) ∨ (a = 1 ∧ b = 257) ∨ (a = 2 ∧ b = 258) ∨ (a = 3 ∧ b = 259) ∨ (a = 256 ∧ b = 260) ∨ (a = 257 ∧ b = 261) ∨ (a = 258 ∧ b = 262) ∨ (sgOne a = true ∧ b = a)
/-- the token read -/
def tkR (m : MS) (t : TKQ) : Prop := kR m.kind t.1 ∧ m.frm = t.2.1 ∧ m.too = t.2.2.1 ∧ (m.kind = 1 → m.amount = t.2.2.2.1) ∧ m.faultCode = 0 ∧ t.2.2.2.2.1 = 0 ∧ m.faultPlace = t.2.2.2.2.2
/-- read, or not a token -/
def nxR (r : Bool × MS) (u : TKQ) : Prop := (r.1 = true ∧ tkR r.2 u) ∨ (r.1 = false ∧ u.1 = 263 ∧ ¬ u.2.2.2.2.1 = 0 ∧ r.2.faultCode = u.2.2.2.2.1 ∧ r.2.faultPlace = u.2.2.2.2.2)
theorem adX_n {d : TD} {t : TKQ} (h : ¬ d.1 = 263) : adX d t = mkT d t := if_neg h
theorem adX_b {d : TD} {t : TKQ} (h : d.1 = 263) (h0 : t.2.2.2.2.1 = 0) : adX d t = (d.1, d.2.1, d.2.2.1, d.2.2.2, 1, nI d.2.1) := by
  unfold adX rfT
  rw [if_pos h]
  exact if_pos h0
theorem sgOne_i {z : Int32} : (z = 37 ∨ z = 40 ∨ z = 41 ∨ z = 42 ∨ z = 43 ∨ z = 44 ∨ z = 45 ∨ z = 47 ∨ z = 61 ∨ z = 123 ∨ z = 125) ↔ sgOne z = true := by
  constructor
  · intro h
    rcases h with h | h | h | h | h | h | h | h | h | h | h <;> subst h <;> decide
  · intro h
    unfold sgOne at h
    simp only [Bool.or_eq_true, decide_eq_true_eq] at h
    rcases h with h | h | h | h | h | h | h | h | h | h | h <;> subst h <;> decide
theorem sg_q {z y : Int32} (hz : z.toInt8.toInt32 = z) (hy : y.toInt8.toInt32 = y) : (sgTwo (z &&& 255) (y &&& 255) = 256 ∧ sgV z y = (260, 2)) ∨ (sgTwo (z &&& 255) (y &&& 255) = 257 ∧ sgV z y = (261, 2)) ∨ (sgTwo (z &&& 255) (y &&& 255) = 258 ∧ sgV z y = (262, 2)) ∨ (sgTwo (z &&& 255) (y &&& 255) = 0 ∧ sgOne (z &&& 255) = true ∧ sgV z y = (z, 1)) ∨ (sgTwo (z &&& 255) (y &&& 255) = 0 ∧ sgOne (z &&& 255) = false ∧ sgV z y = (263, 1)) := by
  unfold sgTwo sgV
  simp only [by_33 hz, by_94 hz, by_61 hy, by_94 hy, by_s1 hz]
  by_cases c1 : z = 33
  · have c2 : ¬ z = 94 := by rw [c1]; decide
    have c3 : sgOne z = false := by rw [c1]; decide
    rw [if_pos c1]
    by_cases d1 : y = 61
    · rw [if_pos ⟨c1, d1⟩, if_pos d1]; exact Or.inl ⟨rfl, rfl⟩
    · rw [if_neg (fun h => d1 h.2), if_neg (fun h => c2 h.1), if_neg d1]
      by_cases d2 : y = 94
      · rw [if_pos ⟨c1, d2⟩, if_pos d2]; exact Or.inr (Or.inr (Or.inl ⟨rfl, rfl⟩))
      · rw [if_neg (fun h => d2 h.2), if_neg d2]; exact Or.inr (Or.inr (Or.inr (Or.inr ⟨rfl, c3, rfl⟩)))
  · rw [if_neg (fun h => c1 h.1), if_neg c1]
    by_cases c2 : z = 94
    · have c3 : sgOne z = false := by rw [c2]; decide
      rw [if_pos c2]
      by_cases d1 : y = 61
      · rw [if_pos ⟨c2, d1⟩, if_pos d1]; exact Or.inr (Or.inl ⟨rfl, rfl⟩)
      · rw [if_neg (fun h => d1 h.2), if_neg (fun h => c1 h.1), if_neg d1]; exact Or.inr (Or.inr (Or.inr (Or.inr ⟨rfl, c3, rfl⟩)))
    · rw [if_neg (fun h => c2 h.1), if_neg (fun h => c1 h.1), if_neg c2]
      cases s : sgOne z with
      | true => rw [if_pos (sgOne_i.mpr s)]; exact Or.inr (Or.inr (Or.inr (Or.inl ⟨rfl, rfl, rfl⟩)))
      | false => rw [if_neg (fun h => by rw [sgOne_i.mp h] at s; cases s)]; exact Or.inr (Or.inr (Or.inr (Or.inr ⟨rfl, rfl, rfl⟩)))
theorem nx_q {m : MS} {t : TKQ} (hby : byteF m.tape) (ht : m.too = t.2.2.1) (hle : m.too ≤ m.length) (h0 : t.2.2.2.2.1 = 0) (hm : m.faultCode = 0) (hp : m.faultPlace = t.2.2.2.2.2) : nxR m.nx (nxT m.tape m.length t) := by
  have es : m.sk = whE isSp m.tape m.length t.2.2.1 := by rw [← ht]; exact sk_wh _ _ rfl hle
  have ei := (whE_in (P := isSp) (f := m.tape) (q := t.2.2.1) (by rw [← ht]; exact hle)).2
  show nxR (m.nxD m.sk) (adX (tkD m.tape m.length t.2.2.2.1 (whE isSp m.tape m.length t.2.2.1)) t)
  rw [es]
  generalize whE isSp m.tape m.length t.2.2.1 = d at ei
  clear es
  by_cases c0 : m.length ≤ d
  · rw [nx_e c0, show tkD m.tape m.length t.2.2.2.1 d = (256, d, m.length, t.2.2.2.1) from if_pos (by omega), adX_n (by show ¬ (256 : Int32) = 263; decide)]
    exact Or.inl ⟨rfl, Or.inl ⟨rfl, rfl⟩, rfl, (by show d = m.length; omega), fun e => absurd e (by show ¬ (0 : Int32) = 1; decide), hm, h0, hp⟩
  have ed : m.atN d = m.tape d &&& 255 := at_lt (by omega)
  have e1 : ¬ d = m.length := by omega
  cases c1 : isDg (m.tape d) with
  | true =>
    have hd : isDg (m.atN d) = true := by rw [ed, by_dg (hby d)]; exact c1
    obtain ⟨b, v, k, hv⟩ : ∃ b v k, m.nu d = (b, v, k) := ⟨_, _, _, rfl⟩
    have nr := nu_wh (n := m.length) hby d _ d 0 0 rfl (by omega) rfl (fun _ => rfl)
    rw [show numG m.tape m.length (m.length + 1 - d) d (!nuO m.tape d 0) 0 = (b, v, k) from hv] at nr
    obtain ⟨r1, r2, r3⟩ := nr
    rw [show tkD m.tape m.length t.2.2.2.1 d = (nuK m.tape d (whE isDg m.tape m.length d - d), d, whE isDg m.tape m.length d, nuV m.tape d (whE isDg m.tape m.length d - d)) from (if_neg e1).trans (if_pos c1)]
    cases v with
    | true =>
      have o : nuO m.tape d (whE isDg m.tape m.length d - d) = false := by
        have r2 : true = !nuO m.tape d (whE isDg m.tape m.length d - d) := r2
        cases q : nuO m.tape d (whE isDg m.tape m.length d - d) with
        | true => rw [q] at r2; cases r2
        | false => rfl
      have o2 : nuK m.tape d (whE isDg m.tape m.length d - d) = 257 := if_neg (by rw [o]; decide)
      rw [nx_n c0 hd hv, o2, adX_n (by show ¬ (257 : Int32) = 263; decide)]
      exact Or.inl ⟨rfl, Or.inr (Or.inl ⟨rfl, rfl⟩), rfl, r1, fun _ => r3 o, hm, h0, hp⟩
    | false =>
      have o : nuO m.tape d (whE isDg m.tape m.length d - d) = true := by
        have r2 : false = !nuO m.tape d (whE isDg m.tape m.length d - d) := r2
        cases q : nuO m.tape d (whE isDg m.tape m.length d - d) with
        | true => rfl
        | false => rw [q] at r2; cases r2
      have o2 : nuK m.tape d (whE isDg m.tape m.length d - d) = 263 := if_pos o
      rw [nx_nx c0 hd hv, o2, adX_b rfl h0]
      exact Or.inr ⟨rfl, rfl, by show ¬ (1 : Int32) = 0; decide, rfl, rfl⟩
  | false =>
    have hd : isDg (m.atN d) = false := by rw [ed, by_dg (hby d)]; exact c1
    have n1 : ¬ isDg (m.tape d) = true := by rw [c1]; decide
    cases c2 : isLt (m.tape d) with
    | true =>
      have hl : isLt (m.atN d) = true := by rw [ed, by_lt (hby d)]; exact c2
      have hn : isNm (m.tape d) = true := by unfold isNm; rw [c2]; rfl
      rw [nx_i c0 hd hl, show tkD m.tape m.length t.2.2.2.1 d = (258, d, whE isNm m.tape m.length (d + 1), t.2.2.2.1) from (if_neg e1).trans ((if_neg n1).trans (if_pos hn)), adX_n (by show ¬ (258 : Int32) = 263; decide)]
      refine Or.inl ⟨rfl, Or.inr (Or.inr (Or.inl ⟨rfl, rfl⟩)), rfl, ?_, fun e => absurd e (by show ¬ (2 : Int32) = 1; decide), hm, h0, hp⟩
      show m.idE d = whE isNm m.tape m.length (d + 1)
      rw [← whE_t (by omega) hn]
      exact id_wh hby _ _ rfl ei
    | false =>
      have hl : isLt (m.atN d) = false := by rw [ed, by_lt (hby d)]; exact c2
      have n2 : ¬ isNm (m.tape d) = true := by unfold isNm; rw [c2, c1]; decide
      by_cases c3 : m.tape d = 34
      · have h3 : m.atN d = 34 := by rw [ed, by_34 (hby d)]; exact c3
        have et : m.tx d = whE isTv m.tape m.length (d + 1) := tx_wh hby _ _ rfl (by omega)
        have e4 : m.atN (m.tx d) = 34 ↔ atV m.tape m.length (whE isTv m.tape m.length (d + 1)) = 34 := by
          rw [et]
          show atI m.tape m.length _ = 34 ↔ _
          rw [at_iv]
          exact by_34 (atV_by hby _)
        rw [show tkD m.tape m.length t.2.2.2.1 d = (tvK m.tape m.length d, d, tvN m.tape m.length d (d + 1), t.2.2.2.1) from (if_neg e1).trans ((if_neg n1).trans ((if_neg n2).trans (if_pos c3)))]
        by_cases c4 : atV m.tape m.length (whE isTv m.tape m.length (d + 1)) = 34
        · rw [nx_t c0 hd hl h3 (e4.mpr c4), tvK_y c4, tvN_y c4, adX_n (by show ¬ (259 : Int32) = 263; decide)]
          exact Or.inl ⟨rfl, Or.inr (Or.inr (Or.inr (Or.inl ⟨rfl, rfl⟩))), rfl, congrArg (· + 1) et, fun e => absurd e (by show ¬ (3 : Int32) = 1; decide), hm, h0, hp⟩
        · rw [nx_tx c0 hd hl h3 (fun e => c4 (e4.mp e)), tvK_n c4, adX_b rfl h0]
          exact Or.inr ⟨rfl, rfl, by show ¬ (1 : Int32) = 0; decide, rfl, rfl⟩
      · have h3 : ¬ m.atN d = 34 := by rw [ed, by_34 (hby d)]; exact c3
        have tw : m.tw d = sgTwo (m.tape d &&& 255) (atV m.tape m.length (d + 1) &&& 255) := by
          unfold MS.tw
          rw [ed, show m.atN (d + 1) = _ from at_iv (d + 1)]
        have td : tkD m.tape m.length t.2.2.2.1 d = ((sgV (m.tape d) (atV m.tape m.length (d + 1))).1, d, d + 1 + ((sgV (m.tape d) (atV m.tape m.length (d + 1))).2 - 1), t.2.2.2.1) := (if_neg e1).trans ((if_neg n1).trans ((if_neg n2).trans (if_neg c3)))
        rw [td]
        rcases sg_q (hby d) (atV_by (n := m.length) hby (d + 1)) with ⟨a, b⟩ | ⟨a, b⟩ | ⟨a, b⟩ | ⟨a, s, b⟩ | ⟨a, s, b⟩
        · rw [nx_s2 c0 hd hl h3 (by rw [tw, a]; decide), b, adX_n (by show ¬ (260 : Int32) = 263; decide), tw, a]
          exact Or.inl ⟨rfl, Or.inr (Or.inr (Or.inr (Or.inr (Or.inl ⟨rfl, rfl⟩)))), rfl, rfl, fun e => absurd e (by show ¬ (nI 256) = 1; decide), hm, h0, hp⟩
        · rw [nx_s2 c0 hd hl h3 (by rw [tw, a]; decide), b, adX_n (by show ¬ (261 : Int32) = 263; decide), tw, a]
          exact Or.inl ⟨rfl, Or.inr (Or.inr (Or.inr (Or.inr (Or.inr (Or.inl ⟨rfl, rfl⟩))))), rfl, rfl, fun e => absurd e (by show ¬ (nI 257) = 1; decide), hm, h0, hp⟩
        · rw [nx_s2 c0 hd hl h3 (by rw [tw, a]; decide), b, adX_n (by show ¬ (262 : Int32) = 263; decide), tw, a]
          exact Or.inl ⟨rfl, Or.inr (Or.inr (Or.inr (Or.inr (Or.inr (Or.inr (Or.inl ⟨rfl, rfl⟩)))))), rfl, rfl, fun e => absurd e (by show ¬ (nI 258) = 1; decide), hm, h0, hp⟩
        · have s2 : sgOne (m.tape d) = true := by rw [← by_s1 (hby d)]; exact s
          have e5 : m.atN d = m.tape d := ed.trans (by_so (hby d) s2)
          have e6 : ¬ m.tape d = 263 := fun e => by rw [e] at s2; revert s2; decide
          have e7 : ¬ m.tape d = 1 := fun e => by rw [e] at s2; revert s2; decide
          rw [nx_s1 c0 hd hl h3 (by rw [tw, a]) (by rw [e5]; exact s2), b, adX_n e6]
          exact Or.inl ⟨rfl, Or.inr (Or.inr (Or.inr (Or.inr (Or.inr (Or.inr (Or.inr ⟨by show sgOne (m.atN d) = true; rw [e5]; exact s2, e5.symm⟩)))))), rfl, rfl, fun e => absurd e (by show ¬ m.atN d = 1; rw [e5]; exact e7), hm, h0, hp⟩
        · rw [nx_sx c0 hd hl h3 (by rw [tw, a]) (by rw [ed]; exact s), b, adX_b rfl h0]
          exact Or.inr ⟨rfl, rfl, by show ¬ (1 : Int32) = 0; decide, rfl, rfl⟩
end
section
/-! Names of functions: the two ways. -/
theorem if_cg {α : Type} {p q : Prop} [Decidable p] [Decidable q] {a b c d : α} (h : p ↔ q) (h1 : a = c) (h2 : b = d) : (if p then a else b) = if q then c else d := by
  subst h1
  subst h2
  by_cases g : p
  · rw [if_pos g, if_pos (h.mp g)]
  · rw [if_neg g, if_neg (fun z => g (h.mpr z))]
theorem by_n0 {z : Int32} (hz : z.toInt8.toInt32 = z) : z &&& 255 = z ∨ (z < 0 ∧ 127 < z &&& 255) := by
  have := byB_u (P := fun z => decide (z &&& 255 = z) || (decide (z < 0) && decide (127 < z &&& 255))) (by unfold byB; decide +kernel) hz
  simpa using this
theorem by_c {z c : Int32} (hz : z.toInt8.toInt32 = z) (h1 : 0 ≤ c) (h2 : c ≤ 127) : z &&& 255 = c ↔ z = c := by
  rcases by_n0 hz with h | ⟨h, h'⟩
  · rw [h]
  · constructor
    · intro e
      rw [e] at h'
      exact absurd h2 (Int32.not_le.mpr h')
    · intro e
      rw [e] at h
      exact absurd h1 (Int32.not_le.mpr h)
section FN
variable {f : Nat → Int32} {n : Nat}
theorem at_k (hby : byteF f) {q : Nat} {c : Int32} (hq : q < n) (h1 : 0 ≤ c) (h2 : c ≤ 127) : atI f n q = c ↔ f q = c := by
  rw [at_lt hq]
  exact by_c (hby q) h1 h2
theorem fnV_3 (a b c : Int32) : fnV [a, b, c] = if a = 115 ∧ b = 117 ∧ c = 109 then 0 else -1 := by
  unfold fnV
  simp only [sameW_i]
  simp [qsW, qsByt]
theorem fnV_4 (a b c d : Int32) : fnV [a, b, c, d] = if a = 109 ∧ b = 111 ∧ c = 115 ∧ d = 116 then 3 else -1 := by
  unfold fnV
  simp only [sameW_i]
  simp [qsW, qsByt]
theorem fnV_5 (a b c d e : Int32) : fnV [a, b, c, d, e] = if a = 99 ∧ b = 111 ∧ c = 117 ∧ d = 110 ∧ e = 116 then 1 else if a = 108 ∧ b = 101 ∧ c = 97 ∧ d = 115 ∧ e = 116 then 2 else if a = 102 ∧ b = 105 ∧ c = 114 ∧ d = 115 ∧ e = 116 then 4 else -1 := by
  unfold fnV
  simp only [sameW_i]
  simp [qsW, qsByt]
theorem fnV_6 (a b c d e g : Int32) : fnV [a, b, c, d, e, g] = if a = 108 ∧ b = 97 ∧ c = 116 ∧ d = 101 ∧ e = 115 ∧ g = 116 then 5 else if a = 103 ∧ b = 114 ∧ c = 111 ∧ d = 119 ∧ e = 116 ∧ g = 104 then 6 else -1 := by
  unfold fnV
  simp only [sameW_i]
  simp [qsW, qsByt]
theorem fnV_n {L : List Int32} (h3 : ¬ L.length = 3) (h4 : ¬ L.length = 4) (h5 : ¬ L.length = 5) (h6 : ¬ L.length = 6) : fnV L = -1 := by
  have k0 : ∀ i, i < 7 → ((qsW i).length = 3 ∨ (qsW i).length = 4 ∨ (qsW i).length = 5 ∨ (qsW i).length = 6) := by decide
  have k : ∀ i, i < 7 → ¬ sameW L (qsW i) = true := by
    intro i hi e
    rw [sameW_i] at e
    have e : L.length = (qsW i).length := congrArg List.length e
    have := k0 i hi
    omega
  unfold fnV
  rw [if_neg (k 0 (by omega)), if_neg (k 1 (by omega)), if_neg (k 2 (by omega)), if_neg (k 3 (by omega)), if_neg (k 4 (by omega)), if_neg (k 5 (by omega)), if_neg (k 6 (by omega))]
end FN
section FI
variable {y : MS} {t : TKQ}
theorem atZ_m {k c : Nat} {d : Int32} (hd : d + nI c = 0) (h : c ≤ k) (hk : k < 2 ^ 31) : y.atZ (nI k + d) = y.atN (k - c) := by
  rw [nI_dn d hd h]
  unfold MS.atZ
  have h0 : ¬ nI (k - c) < 0 := fun e => by
    rw [Int32.lt_iff_toInt_lt, nI_toInt (by omega)] at e
    have : (0 : Int32).toInt = 0 := rfl
    omega
  rw [if_neg h0, i2n_of (by omega)]
theorem fn_q (hby : byteF y.tape) (hf : y.frm = t.2.1) (ht : y.too = t.2.2.1) (hk : y.kind = 2) (h1 : y.length ≤ 65536) (h2 : y.frm ≤ y.too) (h3 : y.too ≤ y.length) : y.fnI = fnV (tkw y.tape t) := by
  have hn : y.fnN = y.too - y.frm := if_pos hk
  have ea : ∀ (i : Nat) (c : Int32), y.frm + i < y.too → 0 ≤ c → c ≤ 127 → (y.atN (y.frm + i) = c ↔ y.tape (y.frm + i) = c) := fun i c hi c1 c2 => at_k hby (by omega) c1 c2
  have e1 : 1 ≤ y.too → y.atZ (nI y.too - 1) = y.atN (y.too - 1) := fun h => by
    rw [Int32.sub_eq_add_neg]
    exact atZ_m (by decide) h (by omega)
  have e2 : 2 ≤ y.too → y.atZ (nI y.too - 2) = y.atN (y.too - 2) := fun h => by
    rw [Int32.sub_eq_add_neg]
    exact atZ_m (by decide) h (by omega)
  have L : tkw y.tape t = seg y.tape y.frm y.too := by unfold tkw; rw [hf, ht]
  rw [L]
  have sl := seg_len y.tape y.frm y.too
  unfold MS.fnI
  rw [hn]
  by_cases c3 : y.too - y.frm = 3
  · rw [if_pos c3, seg_c _ (by omega), seg_c _ (by omega), seg_c _ (by omega), seg_n _ (by omega), fnV_3]
    refine if_cg ?_ rfl rfl
    unfold MS.nmB
    simp only [Bool.and_eq_true, decide_eq_true_eq, Bool.or_eq_true, hk, c3]
    have k0 := ea 0 115 (by omega) (by decide) (by decide)
    have k1 := ea 1 117 (by omega) (by decide) (by decide)
    have k2 := ea 2 109 (by omega) (by decide) (by decide)
    rw [Nat.add_zero] at k0
    rw [k0, k1, k2, show y.frm + 1 + 1 = y.frm + 2 from rfl]
    exact ⟨fun ⟨_, _, a, b, c, _⟩ => ⟨a, b, c.resolve_left (by omega)⟩, fun ⟨a, b, c⟩ => ⟨trivial, trivial, a, b, Or.inr c, Or.inl (by omega)⟩⟩
  rw [if_neg c3]
  by_cases c4 : y.too - y.frm = 4
  · rw [if_pos c4, seg_c _ (by omega), seg_c _ (by omega), seg_c _ (by omega), seg_c _ (by omega), seg_n _ (by omega), fnV_4]
    refine if_cg ?_ rfl rfl
    unfold MS.nmB
    simp only [Bool.and_eq_true, decide_eq_true_eq, Bool.or_eq_true, hk, c4]
    have k0 := ea 0 109 (by omega) (by decide) (by decide)
    have k1 := ea 1 111 (by omega) (by decide) (by decide)
    have k2 := ea 2 115 (by omega) (by decide) (by decide)
    have k3 := ea 3 116 (by omega) (by decide) (by decide)
    rw [Nat.add_zero] at k0
    rw [k0, k1, k2, k3, show y.frm + 1 + 1 = y.frm + 2 from rfl, show y.frm + 2 + 1 = y.frm + 3 from rfl]
    exact ⟨fun ⟨_, _, a, b, c, d⟩ => ⟨a, b, c.resolve_left (by omega), d.resolve_left (by omega)⟩, fun ⟨a, b, c, d⟩ => ⟨trivial, trivial, a, b, Or.inr c, Or.inr d⟩⟩
  rw [if_neg c4]
  by_cases c5 : y.too - y.frm = 5
  · rw [if_pos c5, seg_c _ (by omega), seg_c _ (by omega), seg_c _ (by omega), seg_c _ (by omega), seg_c _ (by omega), seg_n _ (by omega), fnV_5, e1 (by omega), e2 (by omega), show y.too - 1 = y.frm + 4 by omega, show y.too - 2 = y.frm + 3 by omega]
    have k : ∀ (a b c d e : Int32), (0 ≤ a ∧ a ≤ 127) → (0 ≤ b ∧ b ≤ 127) → (0 ≤ c ∧ c ≤ 127) → (0 ≤ d ∧ d ≤ 127) → (0 ≤ e ∧ e ≤ 127) → ((y.stB a b c = true ∧ y.atN (y.frm + 3) = d ∧ y.atN (y.frm + 4) = e) ↔ (y.tape y.frm = a ∧ y.tape (y.frm + 1) = b ∧ y.tape (y.frm + 2) = c ∧ y.tape (y.frm + 3) = d ∧ y.tape (y.frm + 4) = e)) := by
      intro a b c d e ha hb hc hd he
      unfold MS.stB
      simp only [Bool.and_eq_true, decide_eq_true_eq]
      have k0 := ea 0 a (by omega) ha.1 ha.2
      rw [Nat.add_zero] at k0
      rw [k0, ea 1 b (by omega) hb.1 hb.2, ea 2 c (by omega) hc.1 hc.2, ea 3 d (by omega) hd.1 hd.2, ea 4 e (by omega) he.1 he.2]
      exact ⟨fun ⟨⟨a, b, c⟩, d, e⟩ => ⟨a, b, c, d, e⟩, fun ⟨a, b, c, d, e⟩ => ⟨⟨a, b, c⟩, d, e⟩⟩
    exact if_cg (k 99 111 117 110 116 (by decide) (by decide) (by decide) (by decide) (by decide)) rfl (if_cg (k 108 101 97 115 116 (by decide) (by decide) (by decide) (by decide) (by decide)) rfl (if_cg (k 102 105 114 115 116 (by decide) (by decide) (by decide) (by decide) (by decide)) rfl rfl))
  rw [if_neg c5]
  by_cases c6 : y.too - y.frm = 6
  · rw [if_pos c6, seg_c _ (by omega), seg_c _ (by omega), seg_c _ (by omega), seg_c _ (by omega), seg_c _ (by omega), seg_c _ (by omega), seg_n _ (by omega), fnV_6, e1 (by omega), e2 (by omega), show y.too - 1 = y.frm + 5 by omega, show y.too - 2 = y.frm + 4 by omega]
    have k : ∀ (a b c d e g : Int32), (0 ≤ a ∧ a ≤ 127) → (0 ≤ b ∧ b ≤ 127) → (0 ≤ c ∧ c ≤ 127) → (0 ≤ d ∧ d ≤ 127) → (0 ≤ e ∧ e ≤ 127) → (0 ≤ g ∧ g ≤ 127) → ((y.stB a b c = true ∧ y.atN (y.frm + 3) = d ∧ y.atN (y.frm + 4) = e ∧ y.atN (y.frm + 5) = g) ↔ (y.tape y.frm = a ∧ y.tape (y.frm + 1) = b ∧ y.tape (y.frm + 2) = c ∧ y.tape (y.frm + 3) = d ∧ y.tape (y.frm + 4) = e ∧ y.tape (y.frm + 5) = g)) := by
      intro a b c d e g ha hb hc hd he hg
      unfold MS.stB
      simp only [Bool.and_eq_true, decide_eq_true_eq]
      have k0 := ea 0 a (by omega) ha.1 ha.2
      rw [Nat.add_zero] at k0
      rw [k0, ea 1 b (by omega) hb.1 hb.2, ea 2 c (by omega) hc.1 hc.2, ea 3 d (by omega) hd.1 hd.2, ea 4 e (by omega) he.1 he.2, ea 5 g (by omega) hg.1 hg.2]
      exact ⟨fun ⟨⟨a, b, c⟩, d, e⟩ => ⟨a, b, c, d, e⟩, fun ⟨a, b, c, d, e⟩ => ⟨⟨a, b, c⟩, d, e⟩⟩
    exact if_cg (k 108 97 116 101 115 116 (by decide) (by decide) (by decide) (by decide) (by decide) (by decide)) rfl (if_cg (k 103 114 111 119 116 104 (by decide) (by decide) (by decide) (by decide) (by decide) (by decide)) rfl rfl)
  rw [if_neg c6]
  exact (fnV_n (by omega) (by omega) (by omega) (by omega)).symm
/-- the word 'by' -/
theorem nm_by (hby : byteF y.tape) (hf : y.frm = t.2.1) (ht : y.too = t.2.2.1) (h2 : y.frm ≤ y.too) (h3 : y.too ≤ y.length) : y.nmB 98 121 32 32 2 = true ↔ (y.kind = 2 ∧ sameW (tkw y.tape t) (qsW 7) = true) := by
  have ea : ∀ (i : Nat) (c : Int32), y.frm + i < y.too → 0 ≤ c → c ≤ 127 → (y.atN (y.frm + i) = c ↔ y.tape (y.frm + i) = c) := fun i c hi c1 c2 => at_k hby (by omega) c1 c2
  have L : tkw y.tape t = seg y.tape y.frm y.too := by unfold tkw; rw [hf, ht]
  rw [L, sameW_i]
  unfold MS.nmB
  simp only [Bool.and_eq_true, decide_eq_true_eq, Bool.or_eq_true]
  by_cases c : y.too - y.frm = 2
  · have k0 := ea 0 98 (by omega) (by decide) (by decide)
    have k1 := ea 1 121 (by omega) (by decide) (by decide)
    rw [Nat.add_zero] at k0
    rw [k0, k1, seg_c _ (by omega), seg_c _ (by omega), seg_n _ (by omega)]
    constructor
    · rintro ⟨a, -, b, c, -⟩
      rw [b, c]
      exact ⟨a, rfl⟩
    · rintro ⟨a, b⟩
      have b : [y.tape y.frm, y.tape (y.frm + 1)] = [98, 121] := b
      rw [List.cons.injEq, List.cons.injEq] at b
      exact ⟨a, c, b.1, b.2.1, Or.inl (by omega), Or.inl (by omega)⟩
  · constructor
    · rintro ⟨-, b, -⟩
      exact absurd b c
    · rintro ⟨-, b⟩
      have b : (seg y.tape y.frm y.too).length = 2 := by rw [b]; rfl
      rw [seg_len] at b
      exact absurd b c
end FI
end
section
/-! Reading: what the two sides have read, the names of 'by'. -/
def kF (a : Int32) : Int32 := if a = 0 then 256 else if a = 1 then 257 else if a = 2 then 258 else if a = 3 then 259 else if a = 256 then 260 else if a = 257 then 261 else if a = 258 then 262 else a
def kG (b : Int32) : Int32 := if b = 256 then 0 else if b = 257 then 1 else if b = 258 then 2 else if b = 259 then 3 else if b = 260 then 256 else if b = 261 then 257 else if b = 262 then 258 else b
theorem kR_f {a b : Int32} (h : kR a b) : b = kF a ∧ a = kG b := by
  rcases h with ⟨h, e⟩ | ⟨h, e⟩ | ⟨h, e⟩ | ⟨h, e⟩ | ⟨h, e⟩ | ⟨h, e⟩ | ⟨h, e⟩ | ⟨h, e⟩
  · subst h; subst e; decide
  · subst h; subst e; decide
  · subst h; subst e; decide
  · subst h; subst e; decide
  · subst h; subst e; decide
  · subst h; subst e; decide
  · subst h; subst e; decide
  · subst e
    have h := sgOne_i.mpr h
    rcases h with h | h | h | h | h | h | h | h | h | h | h <;> subst h <;> decide
theorem kR_i {a b k k' : Int32} (h : kR a b) (h2 : kR k k') : a = k ↔ b = k' := by
  obtain ⟨h3, h4⟩ := kR_f h
  obtain ⟨h5, h6⟩ := kR_f h2
  constructor
  · intro e; rw [h3, h5, e]
  · intro e; rw [h4, h6, e]
theorem kR_b {a b : Int32} (h : kR a b) : ¬ b = 263 := by
  intro e
  obtain ⟨h3, h4⟩ := kR_f h
  rw [e] at h3 h4
  have h4 : a = 263 := h4
  rw [h4] at h3
  rcases h with ⟨h, -⟩ | ⟨h, -⟩ | ⟨h, -⟩ | ⟨h, -⟩ | ⟨h, -⟩ | ⟨h, -⟩ | ⟨h, -⟩ | ⟨h, -⟩ <;> rw [h4] at h <;> revert h <;> decide
theorem kR_s {a : Int32} (h : sgOne a = true) : kR a a := Or.inr (Or.inr (Or.inr (Or.inr (Or.inr (Or.inr (Or.inr ⟨h, rfl⟩))))))
theorem kR_2 : kR 2 258 := Or.inr (Or.inr (Or.inl ⟨rfl, rfl⟩))
theorem kR_3 : kR 3 259 := Or.inr (Or.inr (Or.inr (Or.inl ⟨rfl, rfl⟩)))
theorem kR_1 : kR 1 257 := Or.inr (Or.inl ⟨rfl, rfl⟩)
theorem kR_0 : kR 0 256 := Or.inl ⟨rfl, rfl⟩
/-- the fault that a token tells -/
def flR (m : MS) (u : TKQ) : Prop := m.faultCode = u.2.2.2.2.1 ∧ m.faultPlace = u.2.2.2.2.2
/-- both have read on, or both have found the same fault -/
def qR (r : Bool × MS) (b : Bool) (u : TKQ) : Prop := (u.2.2.2.2.1 = 0 → b = true ∧ r.1 = true ∧ tkR r.2 u ∧ r.2.lx) ∧ (¬ u.2.2.2.2.1 = 0 → r.1 = false ∧ flR r.2 u ∧ (b = true → u.1 = 263))
section QR
variable {f : Nat → Int32} {n : Nat} {y : MS} {t : TKQ}
theorem rfT_0 {k : Int32} {q : Nat} (h : t.2.2.2.2.1 = 0) : rfT t k q = (t.1, t.2.1, t.2.2.1, t.2.2.2.1, k, nI q) := if_pos h
theorem rfT_1 {k : Int32} {q : Nat} (h : ¬ t.2.2.2.2.1 = 0) : rfT t k q = t := if_neg h
theorem nx_c (hf : y.tape = f) (hn : y.length = n) (hby : byteF f) (h : tkR y t) (hl : y.lx) : (y.nx.1 = true ∧ tkR y.nx.2 (nxT f n t) ∧ y.nx.2.lx ∧ (nxT f n t).2.2.2.2.1 = 0) ∨ (y.nx.1 = false ∧ (nxT f n t).1 = 263 ∧ ¬ (nxT f n t).2.2.2.2.1 = 0 ∧ flR y.nx.2 (nxT f n t)) := by
  subst hf
  subst hn
  obtain ⟨-, -, h3, -, h5, h6, h7⟩ := h
  rcases nx_q hby h3 hl.2.2.1 h6 h5 h7 with ⟨a, b⟩ | ⟨a, b, c, d⟩
  · exact Or.inl ⟨a, b, (nx_in hl a).1, b.2.2.2.2.2.1⟩
  · exact Or.inr ⟨a, b, c, d⟩
theorem fl_q (h : tkR y t) (k : Int32) (hk : ¬ k = 0) : qR (false, y.flS k y.frm) false (rfT t k t.2.1) := by
  rw [rfT_0 h.2.2.2.2.2.1]
  exact ⟨fun e => absurd e hk, fun _ => ⟨rfl, ⟨rfl, congrArg nI h.2.1⟩, fun e => by cases e⟩⟩
theorem tkT_b {k : Int32} (h : t.1 = 263) (hk : ¬ k = 263) (hc : ¬ t.2.2.2.2.1 = 0) : tkT f n t k = (false, t) := by
  unfold tkT
  rw [if_neg (by rw [h]; exact fun e => hk e.symm), rfT_1 hc]
theorem nx_qq (hf : y.tape = f) (hn : y.length = n) (hby : byteF f) (h : tkR y t) (hl : y.lx) : qR y.nx true (nxT f n t) := by
  rcases nx_c hf hn hby h hl with ⟨a, b, c, d⟩ | ⟨a, b, c, d⟩
  · exact ⟨fun _ => ⟨rfl, a, b, c⟩, fun e => absurd d e⟩
  · exact ⟨fun e => absurd e c, fun _ => ⟨a, d, fun _ => b⟩⟩
theorem nd_q {k k' : Int32} (hf : y.tape = f) (hn : y.length = n) (hby : byteF f) (h : tkR y t) (hl : y.lx) (hk : kR k k') : qR (y.ndF k) (tkT f n t k').1 (tkT f n t k').2 := by
  unfold MS.ndF tkT
  have e := kR_i h.1 hk
  by_cases c : y.kind = k
  · rw [if_pos c, if_pos (e.mp c)]
    exact nx_qq hf hn hby h hl
  · rw [if_neg c, if_neg (fun z => c (e.mpr z))]
    exact fl_q h 2 (by decide)
end QR
/-- the names of table tb: both sides -/
def nmRe (y : MS) (tb k : Nat) (NL : Nat → List Int32) : Prop := y.tableNames tb = k ∧ ∀ i, i < k → seg y.tape (y.nameFroms (6 * tb + i)) (y.nameFroms (6 * tb + i) + y.nameLengths (6 * tb + i)) = NL i
theorem seg_ii {f : Nat → Int32} {a b c d : Nat} : seg f a b = seg f c d ↔ (b - a = d - c ∧ ∀ i, i < b - a → f (a + i) = f (c + i)) := by
  constructor
  · intro e
    have e1 : b - a = d - c := by rw [← seg_len f a b, ← seg_len f c d, e]
    refine ⟨e1, fun i hi => ?_⟩
    rw [← seg_get f hi, e, seg_get f (by omega)]
  · rintro ⟨e1, e2⟩
    unfold seg
    rw [← e1]
    exact List.map_congr_left (fun i hi => e2 i (List.mem_range.mp hi))
section NM
variable {f : Nat → Int32} {n : Nat} {y : MS} {t : TKQ} {tb k : Nat} {NL : Nat → List Int32}
theorem nmQ_s (hf : y.frm = t.2.1) (ht : y.too = t.2.2.1) (hl : y.frm ≤ y.too) (hn : nmRe y tb k NL) {i : Nat} (hi : i < k) : y.nmQ tb i = sameW (NL i) (tkw y.tape t) := by
  have e : (y.nmQ tb i = true) ↔ (sameW (NL i) (tkw y.tape t) = true) := by
    rw [sameW_i, ← hn.2 i hi]
    unfold MS.nmQ tkw
    rw [Bool.and_eq_true, decide_eq_true_eq, allB_iff, seg_ii, ← hf, ← ht, Nat.add_sub_cancel_left]
    constructor
    · rintro ⟨a, b⟩
      exact ⟨a, fun j hj => of_decide_eq_true (b j (by omega))⟩
    · rintro ⟨a, b⟩
      exact ⟨a, fun j hj => decide_eq_true (b j (by omega))⟩
  cases c : sameW (NL i) (tkw y.tape t) with
  | true => exact e.mpr c
  | false =>
    cases d : y.nmQ tb i with
    | false => rfl
    | true => rw [e.mp d] at c; cases c
theorem byT_m (hf : y.frm = t.2.1) (ht : y.too = t.2.2.1) (hl : y.frm ≤ y.too) (hn : nmRe y tb k NL) (hk : k ≤ 6) : y.byT tb = !mtB NL k (tkw y.tape t) := by
  unfold MS.byT mtB
  rw [hn.1, anyB_ext (g := fun i => !nsmB NL (tkw y.tape t) i) (fun i hi => by
    rw [nmQ_s hf ht hl hn hi]
    unfold nsmB
    rw [Bool.not_not])]
  have ea : ∀ j, anyB j (fun i => !nsmB NL (tkw y.tape t) i) = !allB j (nsmB NL (tkw y.tape t)) := by
    intro j
    induction j with
    | zero => rfl
    | succ j ih => rw [anyB_s, allB_s, ih, Bool.not_and]
  rw [ea, Bool.not_and, Bool.or_comm]
  congr 1
  by_cases c : k = 6
  · subst c; rfl
  · rw [decide_eq_false c, decide_eq_true (by omega)]; rfl
theorem nmRe_ad (hf : y.frm = t.2.1) (ht : y.too = t.2.2.1) (hl : y.frm ≤ y.too) (hn : nmRe y tb k NL) : nmRe (y.adS tb) tb (k + 1) (va_up NL k (tkw y.tape t)) := by
  obtain ⟨h1, h2⟩ := hn
  refine ⟨(va_up_self _ _ _).trans (congrArg (· + 1) h1), fun i hi => ?_⟩
  show seg y.tape (va_up y.nameFroms (6 * tb + y.tableNames tb) y.frm (6 * tb + i)) (va_up y.nameFroms (6 * tb + y.tableNames tb) y.frm (6 * tb + i) + va_up y.nameLengths (6 * tb + y.tableNames tb) (y.too - y.frm) (6 * tb + i)) = _
  rw [h1]
  by_cases c : i = k
  · subst c
    rw [va_up_self, va_up_self, va_up_self, Nat.add_sub_cancel' hl]
    unfold tkw
    rw [hf, ht]
  · rw [va_up_ne _ _ (by omega), va_up_ne _ _ (by omega), va_up_ne _ _ c]
    exact h2 i (by omega)
theorem nmRe_tk {z : MS} (h : y.tk z) (hn : nmRe y tb k NL) : nmRe z tb k NL := by
  have e1 : z.tableNames = y.tableNames := tk_f h MS.tableNames rfl
  have e2 : z.nameFroms = y.nameFroms := tk_f h MS.nameFroms rfl
  have e3 : z.nameLengths = y.nameLengths := tk_f h MS.nameLengths rfl
  have e4 : z.tape = y.tape := tk_f h MS.tape rfl
  unfold nmRe
  rw [e1, e2, e3, e4]
  exact hn
theorem rfT_n {k : Int32} {q : Nat} (h : t.2.2.2.2.1 = 0) (hk : ¬ k = 0) : ¬ (rfT t k q).2.2.2.2.1 = 0 := by
  rw [rfT_0 h]
  exact hk
theorem by_q (hby : byteF f) : ∀ {w : Nat} {y : MS} {t : TKQ} {k : Nat} {NL : Nat → List Int32}, y.tape = f → y.length = n → tkR y t → y.lx → nmRe y tb k NL → k + w = 7 → k ≤ 6 → qR (MS.byL tb w y) (byC f n (rnG f n w t k NL)).1 (byC f n (rnG f n w t k NL)).2.1 ∧ ((byC f n (rnG f n w t k NL)).2.1.2.2.2.2.1 = 0 → nmRe (MS.byL tb w y).2 tb (byC f n (rnG f n w t k NL)).2.2.1 (byC f n (rnG f n w t k NL)).2.2.2 ∧ (byC f n (rnG f n w t k NL)).2.2.1 ≤ 6)
  | 0, y, t, k, NL, hf, hn, h, hl, hnm, hk, hk6 => absurd hk6 (by omega)
  | w + 1, y, t, k, NL, hf, hn, h, hl, hnm, hk, hk6 => by
    have hp : 0 < w + 1 := Nat.succ_pos w
    by_cases k2 : y.kind = 2
    · have t2 : t.1 = 258 := (kR_i h.1 kR_2).mp k2
      have bt := byT_m h.2.1 h.2.2.1 hl.2.1 hnm (by omega)
      rw [hf] at bt
      cases c1 : mtB NL k (tkw f t) with
      | false =>
        rw [c1] at bt
        rw [by_4 hp k2 bt, show rnG f n (w + 1) t k NL = (false, rfT t 4 t.2.1, k, NL) from (if_neg (fun g => g t2)).trans (if_pos c1)]
        exact ⟨fl_q h 4 (by decide), fun e => absurd e (rfT_n h.2.2.2.2.2.1 (by decide))⟩
      | true =>
        have bt : y.byT tb = false := by rw [bt, c1]; rfl
        have c1' : ¬ mtB NL k (tkw f t) = false := by rw [c1]; decide
        have hka : k < 6 := by
          unfold mtB at c1
          rw [Bool.and_eq_true] at c1
          exact of_decide_eq_true c1.2
        have ha : tkR (y.adS tb) t := h
        have la : (y.adS tb).lx := hl
        have na := nmRe_ad h.2.1 h.2.2.1 hl.2.1 hnm
        rw [hf] at na
        rcases nx_c (y := y.adS tb) hf hn hby ha la with ⟨a1, a2, a3, a4⟩ | ⟨a1, a2, a3, a4⟩
        · obtain ⟨z, ez⟩ : ∃ z, z = (y.adS tb).nx.2 := ⟨_, rfl⟩
          have T := tk_nx (y.adS tb)
          rw [← ez] at a2 a3 T
          have nz := nmRe_tk T na
          have zf : z.tape = f := (tk_f T MS.tape rfl).trans hf
          have zn : z.length = n := (tk_f T MS.length rfl).trans hn
          by_cases c3 : z.kind = 44
          · have t3 : (nxT f n t).1 = 44 := (kR_i a2.1 (kR_s (by decide))).mp c3
            have er : rnG f n (w + 1) t k NL = rnG f n w (nxT f n (nxT f n t)) (k + 1) (va_up NL k (tkw f t)) := (if_neg (fun g => g t2)).trans ((if_neg c1').trans (if_neg (fun g => g t3)))
            rw [er]
            rcases nx_c zf zn hby a2 a3 with ⟨b1, b2, b3, b4⟩ | ⟨b1, b2, b3, b4⟩
            · rw [by_m hp k2 bt a1 ez c3 b1 rfl]
              exact by_q hby ((tk_f (tk_nx z) MS.tape rfl).trans zf) ((tk_f (tk_nx z) MS.length rfl).trans zn) b2 b3 (nmRe_tk (tk_nx z) nz) (by omega) (by omega)
            · rw [by_mn hp k2 bt a1 ez c3 b1]
              obtain ⟨w', rfl⟩ : ∃ w', w = w' + 1 := ⟨w - 1, by omega⟩
              have e2 : rnG f n (w' + 1) (nxT f n (nxT f n t)) (k + 1) (va_up NL k (tkw f t)) = (false, nxT f n (nxT f n t), k + 1, va_up NL k (tkw f t)) := by
                rw [show rnG f n (w' + 1) (nxT f n (nxT f n t)) (k + 1) (va_up NL k (tkw f t)) = (false, rfT (nxT f n (nxT f n t)) 2 (nxT f n (nxT f n t)).2.1, k + 1, va_up NL k (tkw f t)) from if_pos (by rw [b2]; decide), rfT_1 b3]
              rw [e2]
              exact ⟨⟨fun e => absurd e b3, fun _ => ⟨rfl, b4, fun _ => b2⟩⟩, fun e => absurd e b3⟩
          · have t3 : ¬ (nxT f n t).1 = 44 := fun e => c3 ((kR_i a2.1 (kR_s (by decide))).mpr e)
            have er : rnG f n (w + 1) t k NL = (true, nxT f n t, k + 1, va_up NL k (tkw f t)) := (if_neg (fun g => g t2)).trans ((if_neg c1').trans (if_pos t3))
            rw [by_e hp k2 bt a1 ez c3, er]
            show qR (z.ndF 41) (tkT f n (nxT f n t) 41).1 (tkT f n (nxT f n t) 41).2 ∧ (_ → nmRe (z.ndF 41).2 tb (k + 1) (va_up NL k (tkw f t)) ∧ k + 1 ≤ 6)
            exact ⟨nd_q zf zn hby a2 a3 (kR_s (by decide)), fun _ => ⟨nmRe_tk (tk_nd z 41) nz, by omega⟩⟩
        · have t3 : ¬ (nxT f n t).1 = 44 := by rw [a2]; decide
          have er : rnG f n (w + 1) t k NL = (true, nxT f n t, k + 1, va_up NL k (tkw f t)) := (if_neg (fun g => g t2)).trans ((if_neg c1').trans (if_pos t3))
          rw [by_n hp k2 bt a1, er]
          show qR (false, (y.adS tb).nx.2) (tkT f n (nxT f n t) 41).1 (tkT f n (nxT f n t) 41).2 ∧ ((tkT f n (nxT f n t) 41).2.2.2.2.2.1 = 0 → _)
          rw [tkT_b a2 (by decide) a3]
          exact ⟨⟨fun e => absurd e a3, fun _ => ⟨rfl, a4, fun _ => a2⟩⟩, fun e => absurd e a3⟩
    · rw [by_k hp k2, show rnG f n (w + 1) t k NL = (false, rfT t 2 t.2.1, k, NL) from if_pos (fun e => k2 ((kR_i h.1 kR_2).mpr e))]
      exact ⟨fl_q h 2 (by decide), fun e => absurd e (rfT_n h.2.2.2.2.2.1 (by decide))⟩
end NM
end
section
/-! Matches and a call read: the two ways. -/
theorem isMk_k {a b : Int32} (h : kR a b) : isMk b = true ↔ (a = 61 ∨ 256 ≤ a) := by
  rcases h with ⟨h, e⟩ | ⟨h, e⟩ | ⟨h, e⟩ | ⟨h, e⟩ | ⟨h, e⟩ | ⟨h, e⟩ | ⟨h, e⟩ | ⟨h, e⟩
  · subst h; subst e; decide
  · subst h; subst e; decide
  · subst h; subst e; decide
  · subst h; subst e; decide
  · subst h; subst e; decide
  · subst h; subst e; decide
  · subst h; subst e; decide
  · subst e
    have h := sgOne_i.mpr h
    rcases h with h | h | h | h | h | h | h | h | h | h | h <;> subst h <;> decide
section ML
variable {f : Nat → Int32} {n : Nat}
theorem nd_y {y : MS} {k : Int32} (h : y.kind = k) : y.ndF k = y.nx := if_pos h
theorem nd_f {y : MS} {k : Int32} (h : ¬ y.kind = k) : y.ndF k = (false, y.flS 2 y.frm) := if_neg h
theorem mc1q_x {z : MS} (h : ¬ (z.kind = 61 ∨ 256 ≤ z.kind)) : z.mc1 = (false, z.flS 2 z.frm) := if_neg h
theorem mc1q_f {z : MS} (h : z.kind = 61 ∨ 256 ≤ z.kind) (h2 : z.nx.1 = false) : z.mc1 = (false, z.nx.2) := (if_pos h).trans (if_neg (by rw [h2]; decide))
theorem mc1q_t {z : MS} (h : z.kind = 61 ∨ 256 ≤ z.kind) (h2 : z.nx.1 = true) : z.mc1 = z.nx.2.ndF 3 := (if_pos h).trans (if_pos h2)
section RMS
variable {w k : Nat} {t t1 t2 t3 t4 : TKQ} {KD : Nat → Int32} {MN MT : Nat → List Int32}
theorem rm_k (h : ¬ t.1 = 258) : rmG f n (w + 1) t k KD MN MT = (false, rfT t 2 t.2.1, k, KD, MN, MT) := rm_1 (Nat.succ_pos w) h
theorem mk_t {z : Int32} (h : ¬ isMk z = false) : isMk z = true := by
  cases c : isMk z with
  | true => rfl
  | false => exact absurd c h
theorem rm_m (h : t.1 = 258) (e1 : t1 = nxT f n t) (h2 : isMk t1.1 = false) : rmG f n (w + 1) t k KD MN MT = (false, rfT t1 2 t1.2.1, k, KD, MN, MT) := by
  have r := rm_2 (f := f) (n := n) (w := w + 1) (k := k) (t := t) (KD := KD) (MN := MN) (MT := MT) (Nat.succ_pos w) h
  rw [← e1] at r
  exact r h2
theorem rm_t (h : t.1 = 258) (e1 : t1 = nxT f n t) (h2 : ¬ isMk t1.1 = false) (e2 : t2 = nxT f n t1) (h3 : ¬ t2.1 = 259) : rmG f n (w + 1) t k KD MN MT = (false, rfT t2 2 t2.2.1, k, KD, MN, MT) := by
  have r := rm_3 (f := f) (n := n) (w := w + 1) (k := k) (t := t) (KD := KD) (MN := MN) (MT := MT) (Nat.succ_pos w) h
  rw [← e1, ← e2] at r
  exact r (mk_t h2) h3
theorem rm_e (h : t.1 = 258) (e1 : t1 = nxT f n t) (h2 : ¬ isMk t1.1 = false) (e2 : t2 = nxT f n t1) (h3 : t2.1 = 259) (e3 : t3 = nxT f n t2) (h4 : ¬ t3.1 = 44) : rmG f n (w + 1) t k KD MN MT = (true, t3, k + 1, va_up KD k t1.1, va_up MN k (tkw f t), va_up MT k (tkx f t2)) := by
  have r := rm_4 (f := f) (n := n) (w := w + 1) (k := k) (t := t) (KD := KD) (MN := MN) (MT := MT) (Nat.succ_pos w) h
  rw [← e1, ← e2, ← e3] at r
  exact r (mk_t h2) h3 h4
theorem rm_s (h : t.1 = 258) (e1 : t1 = nxT f n t) (h2 : ¬ isMk t1.1 = false) (e2 : t2 = nxT f n t1) (h3 : t2.1 = 259) (e3 : t3 = nxT f n t2) (h4 : t3.1 = 44) (e4 : t4 = nxT f n t3) : rmG f n (w + 1) t k KD MN MT = rmG f n w t4 (k + 1) (va_up KD k t1.1) (va_up MN k (tkw f t)) (va_up MT k (tkx f t2)) := by
  have r := rm_5 (f := f) (n := n) (w := w + 1) (k := k) (t := t) (KD := KD) (MN := MN) (MT := MT) (Nat.succ_pos w) h
  rw [← e1, ← e2, ← e3, ← e4] at r
  exact r (mk_t h2) h3 h4
end RMS
theorem nx_p {y : MS} {t t1 : TKQ} (hf : y.tape = f) (hn : y.length = n) (hby : byteF f) (h : tkR y t) (hl : y.lx) (e : t1 = nxT f n t) : (∃ z, y.nx = (true, z) ∧ tkR z t1 ∧ z.lx ∧ z.tape = f ∧ z.length = n ∧ y.too ≤ z.frm ∧ (z.kind = 0 ∨ z.frm < z.too) ∧ z.isT ∧ t1.2.2.2.2.1 = 0) ∨ (∃ z, y.nx = (false, z) ∧ t1.1 = 263 ∧ ¬ t1.2.2.2.2.1 = 0 ∧ flR z t1) := by
  have N := nx_c hf hn hby h hl
  rw [← e] at N
  rcases N with ⟨a1, a2, a3, a4⟩ | ⟨a1, a2, a3, a4⟩
  · obtain ⟨-, i2, i3⟩ := nx_in hl a1
    have T := tk_nx y
    exact Or.inl ⟨y.nx.2, Prod.ext a1 rfl, a2, a3, (tk_f T MS.tape rfl).trans hf, (tk_f T MS.length rfl).trans hn, i2, i3, (nx_isT a1).1, a4⟩
  · exact Or.inr ⟨y.nx.2, Prod.ext a1 rfl, a2, a3, a4⟩
section MCA
variable {y z u : MS}
theorem mcA_x (h : ¬ y.kind = 2) : y.mcF = (false, y.flS 2 y.frm) := by
  have e : y.ndF 2 = (false, y.flS 2 y.frm) := nd_f h
  rw [mc_n (by rw [e]), e]
theorem mcA_1 (h : y.kind = 2) (e : y.nx = (false, z)) : y.mcF = (false, z) := by
  have e : y.ndF 2 = (false, z) := (nd_y h).trans e
  rw [mc_n (by rw [e]), e]
theorem mcA_2 (h : y.kind = 2) (e : y.nx = (true, z)) : y.mcF = z.mc1 := by
  have e : y.ndF 2 = (true, z) := (nd_y h).trans e
  exact mc_y (by rw [e]) (by rw [e])
theorem mcA_3 (h : z.kind = 61 ∨ 256 ≤ z.kind) (e : z.nx = (false, u)) : z.mc1 = (false, u) := by
  rw [mc1q_f h (by rw [e]), e]
theorem mcA_4 (h : z.kind = 61 ∨ 256 ≤ z.kind) (e : z.nx = (true, u)) : z.mc1 = u.ndF 3 := by
  rw [mc1q_t h (by rw [e]), e]
end MCA
/-- a match read -/
theorem mc_q {y : MS} {t t1 t2 t3 : TKQ} (hby : byteF f) (hf : y.tape = f) (hn : y.length = n) (h : tkR y t) (hl : y.lx) (e1 : t1 = nxT f n t) (e2 : t2 = nxT f n t1) (e3 : t3 = nxT f n t2) : (∃ (z : MS) (b : Bool) (r : TKQ), y.mcF = (false, z) ∧ flR z r ∧ ¬ r.2.2.2.2.1 = 0 ∧ (b = true → r.1 = 263) ∧ ∀ (w k : Nat) (KD : Nat → Int32) (MN MT : Nat → List Int32), (rmG f n (w + 1) t k KD MN MT).1 = b ∧ (rmG f n (w + 1) t k KD MN MT).2.1 = r) ∨ (∃ v : MS, y.mcF = (true, v) ∧ tkR v t3 ∧ v.lx ∧ v.tape = f ∧ v.length = n ∧ v.isT ∧ (v.kind = 0 ∨ v.frm < v.too) ∧ y.too ≤ v.frm ∧ t3.2.2.2.2.1 = 0 ∧ t.1 = 258 ∧ ¬ isMk t1.1 = false ∧ t2.1 = 259) := by
  by_cases k2 : y.kind = 2
  · have tk2 : t.1 = 258 := (kR_i h.1 kR_2).mp k2
    rcases nx_p hf hn hby h hl e1 with ⟨z, a1, a2, a3, a4, a5, a6, a7, a8, a9⟩ | ⟨z, a1, a2, a3, a4⟩
    · by_cases m2 : z.kind = 61 ∨ 256 ≤ z.kind
      · have b2 : ¬ isMk t1.1 = false := fun g => by
          rw [(isMk_k a2.1).mpr m2] at g
          cases g
        rcases nx_p a4 a5 hby a2 a3 e2 with ⟨u, b1, b3, b4, b5, b6, b7, b8, b9, b10⟩ | ⟨u, b1, b3, b4, b5⟩
        · by_cases k3 : u.kind = 3
          · have c2 : t2.1 = 259 := (kR_i b3.1 kR_3).mp k3
            have mc : y.mcF = u.nx := (mcA_2 k2 a1).trans ((mcA_4 m2 b1).trans (nd_y k3))
            rcases nx_p b5 b6 hby b3 b4 e3 with ⟨v, d1, d2, d3, d4, d5, d6, d7, d8, d9⟩ | ⟨v, d1, d2, d3, d4⟩
            · have q1 := a3.2.1
              have q2 := b4.2.1
              exact Or.inr ⟨v, mc.trans d1, d2, d3, d4, d5, d8, d7, by omega, d9, tk2, b2, c2⟩
            · refine Or.inl ⟨v, true, t3, mc.trans d1, d4, d3, fun _ => d2, fun w k KD MN MT => ?_⟩
              rw [rm_e tk2 e1 b2 e2 c2 e3 (by rw [d2]; decide)]
              exact ⟨rfl, rfl⟩
          · have c2 : ¬ t2.1 = 259 := fun g => k3 ((kR_i b3.1 kR_3).mpr g)
            have q := fl_q b3 2 (by decide)
            have nz := rfT_n (q := t2.2.1) b3.2.2.2.2.2.1 (show ¬ (2 : Int32) = 0 by decide)
            obtain ⟨-, q2, q3⟩ := q.2 nz
            refine Or.inl ⟨u.flS 2 u.frm, false, rfT t2 2 t2.2.1, (mcA_2 k2 a1).trans ((mcA_4 m2 b1).trans (nd_f k3)), q2, nz, fun e => Bool.noConfusion e, fun w k KD MN MT => ?_⟩
            rw [rm_t tk2 e1 b2 e2 c2]
            exact ⟨rfl, rfl⟩
        · refine Or.inl ⟨u, false, t2, (mcA_2 k2 a1).trans (mcA_3 m2 b1), b5, b4, fun e => Bool.noConfusion e, fun w k KD MN MT => ?_⟩
          rw [rm_t tk2 e1 b2 e2 (by rw [b3]; decide), rfT_1 b4]
          exact ⟨rfl, rfl⟩
      · have b2 : isMk t1.1 = false := by
          cases c : isMk t1.1 with
          | false => rfl
          | true => exact absurd ((isMk_k a2.1).mp c) m2
        have q := fl_q a2 2 (by decide)
        have nz := rfT_n (q := t1.2.1) a2.2.2.2.2.2.1 (show ¬ (2 : Int32) = 0 by decide)
        obtain ⟨-, q2, q3⟩ := q.2 nz
        refine Or.inl ⟨z.flS 2 z.frm, false, rfT t1 2 t1.2.1, (mcA_2 k2 a1).trans (mc1q_x m2), q2, nz, fun e => Bool.noConfusion e, fun w k KD MN MT => ?_⟩
        rw [rm_m tk2 e1 b2]
        exact ⟨rfl, rfl⟩
    · refine Or.inl ⟨z, false, t1, mcA_1 k2 a1, a4, a3, fun e => Bool.noConfusion e, fun w k KD MN MT => ?_⟩
      rw [rm_m tk2 e1 (by rw [a2]; decide), rfT_1 a3]
      exact ⟨rfl, rfl⟩
  · have tk2 : ¬ t.1 = 258 := fun g => k2 ((kR_i h.1 kR_2).mpr g)
    have q := fl_q h 2 (by decide)
    have nz := rfT_n (q := t.2.1) h.2.2.2.2.2.1 (show ¬ (2 : Int32) = 0 by decide)
    obtain ⟨-, q2, q3⟩ := q.2 nz
    refine Or.inl ⟨y.flS 2 y.frm, false, rfT t 2 t.2.1, mcA_x k2, q2, nz, fun e => Bool.noConfusion e, fun w k KD MN MT => ?_⟩
    rw [rm_k tk2]
    exact ⟨rfl, rfl⟩
theorem ml_q (hby : byteF f) {w : Nat} : ∀ {w2 : Nat} {y : MS} {t : TKQ} {k : Nat} {KD : Nat → Int32} {MN MT : Nat → List Int32}, y.tape = f → y.length = n → tkR y t → y.lx → (y.kind = 0 ∨ y.frm < y.too) → n + 1 ≤ w + t.2.1 → w ≤ w2 → qR (MS.mlF w2 y) (rmG f n w t k KD MN MT).1 (rmG f n w t k KD MN MT).2.1 := by
  induction w with
  | zero =>
    intro w2 y t k KD MN MT hf hn h hl hp hw hw2
    have := hl.2.1
    have := hl.2.2.1
    have := h.2.1
    omega
  | succ w ih =>
    intro w2 y t k KD MN MT hf hn h hl hp hw hw2
    have hp2 : 0 < w2 := by omega
    obtain ⟨t1, e1⟩ : ∃ t1, t1 = nxT f n t := ⟨_, rfl⟩
    obtain ⟨t2, e2⟩ : ∃ t2, t2 = nxT f n t1 := ⟨_, rfl⟩
    obtain ⟨t3, e3⟩ : ∃ t3, t3 = nxT f n t2 := ⟨_, rfl⟩
    obtain ⟨t4, e4⟩ : ∃ t4, t4 = nxT f n t3 := ⟨_, rfl⟩
    rcases mc_q hby hf hn h hl e1 e2 e3 with ⟨z, b, r, a1, a2, a3, a4, a5⟩ | ⟨v, a1, a2, a3, a4, a5, a6, a7, a8, a9, a10, a11, a12⟩
    · obtain ⟨c1, c2⟩ := a5 w k KD MN MT
      rw [c1, c2, ml_0 hp2 (by rw [a1]), a1]
      exact ⟨fun e => absurd e a3, fun _ => ⟨rfl, a2, a4⟩⟩
    · have mc1 : y.mcF.1 = true := by rw [a1]
      have mc2 : v = y.mcF.2 := by rw [a1]
      by_cases k4 : v.kind = 44
      · have q4 : t3.1 = 44 := (kR_i a2.1 (kR_s (by decide))).mp k4
        rw [rm_s a10 e1 a11 e2 a12 e3 q4 e4]
        rcases nx_p a4 a5 hby a2 a3 e4 with ⟨s, d1, d2, d3, d4, d5, d6, d7, d8, d9⟩ | ⟨s, d1, d2, d3, d4⟩
        · rw [ml_m hp2 mc1 mc2 k4 (by rw [d1]) (show s = v.nx.2 by rw [d1])]
          have x1 := h.2.1
          have x2 := d2.2.1
          have x3 := a3.2.1
          have x4 : y.frm < y.too := hp.resolve_left (fun g => by
            have : y.kind = 2 := (kR_i h.1 kR_2).mpr a10
            rw [this] at g
            exact absurd g (by decide))
          exact ih d4 d5 d2 d3 d7 (by omega) (by omega)
        · rw [ml_n hp2 mc1 mc2 k4 (by rw [d1]), d1]
          cases w with
          | zero => exact ⟨fun e => absurd e d3, fun _ => ⟨rfl, d4, fun e => by cases e⟩⟩
          | succ w =>
            rw [rm_k (show ¬ t4.1 = 258 by rw [d2]; decide), rfT_1 d3]
            exact ⟨fun e => absurd e d3, fun _ => ⟨rfl, d4, fun e => by cases e⟩⟩
      · have q4 : ¬ t3.1 = 44 := fun g => k4 ((kR_i a2.1 (kR_s (by decide))).mpr g)
        rw [rm_e a10 e1 a11 e2 a12 e3 q4, ml_e hp2 mc1 mc2 k4]
        exact ⟨fun _ => ⟨rfl, rfl, a2, a3⟩, fun e => absurd a9 e⟩
end ML
end
section
/-! A call read: the two ways. -/
/-- behind a call's parenthesis -/
def MS.clZ (z : MS) (wh p : Nat) : Bool × MS := if z.works = true then (z.rkS wh p).nx else z.nx
section CQ
variable {f : Nat → Int32} {n wh p : Nat}
theorem cl5_q {z : MS} {t : TKQ} (hf : z.tape = f) (hn : z.length = n) (hby : byteF f) (h : tkR z t) (hl : z.lx) : qR (z.cl5 wh p) (tkT f n t 41).1 (tkT f n t 41).2 ∧ ((tkT f n t 41).2.2.2.2.2.1 = 0 → z.cl5 wh p = z.clZ wh p) := by
  by_cases k : z.kind = 41
  · have e : z.cl5 wh p = z.clZ wh p := if_pos k
    rw [show tkT f n t 41 = (true, nxT f n t) from if_pos ((kR_i h.1 (kR_s (by decide))).mp k)]
    refine ⟨?_, fun _ => e⟩
    rw [e]
    unfold MS.clZ
    split
    · have hf2 : (z.rkS wh p).tape = f := hf
      have hn2 : (z.rkS wh p).length = n := hn
      have h2 : tkR (z.rkS wh p) t := h
      have hl2 : (z.rkS wh p).lx := hl
      exact nx_qq hf2 hn2 hby h2 hl2
    · exact nx_qq hf hn hby h hl
  · rw [c5_x k, show tkT f n t 41 = (false, rfT t 2 t.2.1) from if_neg (fun e => k ((kR_i h.1 (kR_s (by decide))).mpr e))]
    exact ⟨fl_q h 2 (by decide), fun e => absurd e (rfT_n h.2.2.2.2.2.1 (by decide))⟩
theorem qR_b {y : MS} {u : TKQ} (h : ¬ u.2.2.2.2.1 = 0) (hf : flR y u) : qR (false, y) false u := ⟨fun e => absurd e h, fun _ => ⟨rfl, hf, fun e => by cases e⟩⟩
theorem tlD_b {u : TKQ} {b : Bool} {X : Nat × (Nat → Int32) × (Nat → List Int32) × (Nat → List Int32)} (hc : ¬ u.2.2.2.2.1 = 0) (hb : b = true → u.1 = 263) : tlD f n (b, u, X) = (false, u, X) := by
  cases b with
  | false => rfl
  | true =>
    show ((tkT f n u 41).1, (tkT f n u 41).2, X) = _
    rw [tkT_b (hb rfl) (by decide) hc]
theorem tlC_b {u : TKQ} {b : Bool} {X : Nat × (Nat → Int32) × (Nat → List Int32) × (Nat → List Int32)} (hc : ¬ u.2.2.2.2.1 = 0) (hb : b = true → u.1 = 263) : tlC f n (b, u, X) = (false, u, X) := by
  cases b with
  | false => rfl
  | true =>
    show tlD f n ((tkT f n u 125).1, (tkT f n u 125).2, X) = _
    rw [tkT_b (hb rfl) (by decide) hc]
    rfl
theorem msT_b {u : TKQ} (hc : ¬ u.2.2.2.2.1 = 0) (hb : u.1 = 263) : ∃ X, msT f n u = (false, u, X) := by
  unfold msT
  rw [if_neg (by rw [hb]; decide)]
  cases n with
  | zero => exact ⟨_, rfl⟩
  | succ n =>
    rw [show rmG f (n + 1) (n + 1) u 0 (fun _ => 0) (fun _ => []) (fun _ => []) = (false, rfT u 2 u.2.1, 0, fun _ => 0, fun _ => [], fun _ => []) from if_pos (by rw [hb]; decide), rfT_1 hc]
    exact ⟨_, rfl⟩
theorem cl4_q {y : MS} {t : TKQ} {X : Nat × (Nat → Int32) × (Nat → List Int32) × (Nat → List Int32)} (hf : y.tape = f) (hn : y.length = n) (hby : byteF f) (h : tkR y t) (hl : y.lx) : qR (y.cl4 wh p) (tlC f n (true, t, X)).1 (tlC f n (true, t, X)).2.1 ∧ ((tlC f n (true, t, X)).2.1.2.2.2.2.1 = 0 → (tlC f n (true, t, X)).2.2 = X ∧ ∃ z, y.tk z ∧ y.cl4 wh p = z.clZ wh p) := by
  have q := nd_q (k := 125) (k' := 125) hf hn hby h hl (kR_s (by decide))
  have e0 : tlC f n (true, t, X) = tlD f n ((tkT f n t 125).1, (tkT f n t 125).2, X) := rfl
  rw [e0]
  obtain ⟨d, ed⟩ : ∃ d, d = tkT f n t 125 := ⟨_, rfl⟩
  rw [← ed] at q ⊢
  by_cases c : d.2.2.2.2.2.1 = 0
  · obtain ⟨b1, r1, tr, lz⟩ := q.1 c
    rw [show tlD f n (d.1, d.2, X) = ((tkT f n d.2 41).1, (tkT f n d.2 41).2, X) by rw [b1]; rfl, c4_1 r1 rfl]
    have T := tk_nd y 125
    obtain ⟨s1, s2⟩ := cl5_q (wh := wh) (p := p) ((tk_f T MS.tape rfl).trans hf) ((tk_f T MS.length rfl).trans hn) hby tr lz
    exact ⟨s1, fun g => ⟨rfl, _, T, s2 g⟩⟩
  · obtain ⟨r1, fl, b⟩ := q.2 c
    rw [c4_0 r1, tlD_b c b]
    exact ⟨qR_b c fl, fun e => absurd e c⟩
theorem cl2_q {y : MS} {t : TKQ} (hf : y.tape = f) (hn : y.length = n) (hby : byteF f) (h : tkR y t) (hl : y.lx) : qR (y.cl2 wh) (tlT f n t).1 (tlT f n t).2.1 ∧ ((tlT f n t).2.1.2.2.2.2.1 = 0 → ∃ z, y.tk z ∧ y.cl2 wh = z.clZ wh (tkT f n t 40).2.2.2.1) := by
  have q := nd_q (k := 40) (k' := 40) hf hn hby h hl (kR_s (by decide))
  unfold tlT
  obtain ⟨a, ea⟩ : ∃ a, a = tkT f n t 40 := ⟨_, rfl⟩
  rw [← ea] at q ⊢
  by_cases c : a.2.2.2.2.2.1 = 0
  · obtain ⟨b1, r1, tr, lz⟩ := q.1 c
    have A := nd_in hl r1
    have T := tk_nd y 40
    obtain ⟨z1, ez1⟩ : ∃ z1, z1 = (y.ndF 40).2 := ⟨_, rfl⟩
    rw [← ez1] at tr lz A T
    have zf : z1.tape = f := (tk_f T MS.tape rfl).trans hf
    have zn : z1.length = n := (tk_f T MS.length rfl).trans hn
    have q2 := nd_q (k := 123) (k' := 123) zf zn hby tr lz (kR_s (by decide))
    rw [if_pos b1]
    unfold tlB
    obtain ⟨b, eb⟩ : ∃ b, b = tkT f n a.2 123 := ⟨_, rfl⟩
    rw [← eb] at q2 ⊢
    by_cases c2 : b.2.2.2.2.2.1 = 0
    · obtain ⟨b2, r2, tr2, lz2⟩ := q2.1 c2
      have A2 := nd_in lz r2
      have T2 := tk_nd z1 123
      obtain ⟨u, eu⟩ : ∃ u, u = (z1.ndF 123).2 := ⟨_, rfl⟩
      rw [← eu] at tr2 lz2 A2 T2
      have uf : u.tape = f := (tk_f T2 MS.tape rfl).trans zf
      have un : u.length = n := (tk_f T2 MS.length rfl).trans zn
      rw [if_pos b2]
      have ep : a.2.2.2.1 = z1.too := tr.2.2.1.symm
      rw [ep]
      by_cases k : u.kind = 125
      · rw [c2_e r1 ez1 r2 eu k, show msT f n b.2 = (true, b.2, 0, fun _ => 0, fun _ => [], fun _ => []) from if_pos ((kR_i tr2.1 (kR_s (by decide))).mp k)]
        obtain ⟨s1, s2⟩ := cl4_q (wh := wh) (p := z1.too) (X := (0, fun _ => 0, fun _ => [], fun _ => [])) uf un hby tr2 lz2
        refine ⟨s1, fun g => ?_⟩
        obtain ⟨-, z, g1, g2⟩ := s2 g
        exact ⟨z, tk_tr T (tk_tr T2 g1), g2⟩
      · rw [c2_m r1 ez1 r2 eu k, show msT f n b.2 = rmG f n n b.2 0 (fun _ => 0) (fun _ => []) (fun _ => []) from if_neg (fun e => k ((kR_i tr2.1 (kR_s (by decide))).mpr e))]
        have st : 1 ≤ b.2.2.1 := by
          have w1 := tr2.2.1
          have w2 := A2.2.1
          have w3 := A.2.2.1.resolve_left (by rw [A2.2.2.2]; decide)
          omega
        have m1 := ml_q (k := 0) (KD := fun _ => 0) (MN := fun _ => []) (MT := fun _ => []) (w := n) (w2 := u.length + 1) hby uf un tr2 lz2 A2.2.2.1 (by omega) (by omega)
        have T3 := ml_tk (w := u.length + 1) (x := u)
        obtain ⟨r, er⟩ : ∃ r, r = rmG f n n b.2 0 (fun _ => 0) (fun _ => []) (fun _ => []) := ⟨_, rfl⟩
        rw [← er] at m1 ⊢
        obtain ⟨v, ev⟩ : ∃ v, v = MS.mlF (u.length + 1) u := ⟨_, rfl⟩
        rw [← ev] at m1 T3 ⊢
        obtain ⟨v1, v2⟩ := v
        obtain ⟨r1', r2', r3'⟩ := r
        by_cases c3 : r2'.2.2.2.2.1 = 0
        · obtain ⟨d1, d2, d3, d4⟩ := m1.1 c3
          have d1 : r1' = true := d1
          have d2 : v1 = true := d2
          subst d1
          subst d2
          rw [c3_t]
          obtain ⟨s1, s2⟩ := cl4_q (wh := wh) (p := z1.too) (X := r3') ((tk_f T3 MS.tape rfl).trans uf) ((tk_f T3 MS.length rfl).trans un) hby d3 d4
          refine ⟨s1, fun g => ?_⟩
          obtain ⟨-, z, g1, g2⟩ := s2 g
          exact ⟨z, tk_tr T (tk_tr T2 (tk_tr T3 g1)), g2⟩
        · obtain ⟨d1, d2, d3⟩ := m1.2 c3
          have d1 : v1 = false := d1
          subst d1
          rw [c3_f, tlC_b c3 d3]
          exact ⟨qR_b c3 d2, fun e => absurd e c3⟩
    · obtain ⟨d1, d2, d3⟩ := q2.2 c2
      rw [c2_1 r1 ez1 d1]
      cases hb : b.1 with
      | false => exact ⟨qR_b c2 d2, fun e => absurd e c2⟩
      | true =>
        obtain ⟨X, eX⟩ := msT_b (f := f) (n := n) c2 (d3 hb)
        rw [if_pos rfl, eX]
        exact ⟨qR_b c2 d2, fun e => absurd e c2⟩
  · obtain ⟨d1, d2, d3⟩ := q.2 c
    rw [c2_0 d1]
    cases hb : a.1 with
    | false => exact ⟨qR_b c d2, fun e => absurd e c⟩
    | true =>
      rw [if_pos rfl]
      unfold tlB
      rw [tkT_b (d3 hb) (by decide) c]
      exact ⟨qR_b c d2, fun e => absurd e c⟩
end CQ
end
section
/-! A function read: the two ways. -/
section CF
variable {f : Nat → Int32} {n wh : Nat} {y : MS} {t : TKQ}
theorem tlT_b {u : TKQ} (hc : ¬ u.2.2.2.2.1 = 0) (hb : u.1 = 263) : (tlT f n u).1 = false ∧ (tlT f n u).2.1 = u := by
  unfold tlT
  rw [tkT_b hb (by decide) hc]
  exact ⟨rfl, rfl⟩
/-- behind a fault before the call's parenthesis -/
theorem pfB_b {b : RN} (hc : ¬ b.2.1.2.2.2.2.1 = 0) (hb : b.1 = true → b.2.1.1 = 263) : (pfB f n t b).1 = false ∧ (pfB f n t b).2.1 = b.2.1 := by
  unfold pfB
  cases h : b.1 with
  | false => exact ⟨rfl, rfl⟩
  | true =>
    obtain ⟨e1, e2⟩ := tlT_b (f := f) (n := n) hc (hb h)
    rw [if_pos rfl]
    exact ⟨e1, e2⟩
theorem cl0_nm (y : MS) : y.nk y.cl0 ∧ y.nmO y.cl0 y.pile ∧ nmRe y.cl0 y.pile 0 (fun _ => []) := ⟨rfl, ⟨fun q hq => va_up_ne _ _ hq, fun q _ => ⟨rfl, rfl⟩⟩, va_up_self _ _ _, fun i hi => absurd hi (Nat.not_lt_zero i)⟩
theorem cl_q (hf : y.tape = f) (hn : y.length = n) (hby : byteF f) (h : tkR y t) (hl : y.lx) (hv : ¬ fnV (tkw f t) = -1) : qR (y.clF wh) (pFn f n t).1 (pFn f n t).2.1 ∧ ((pFn f n t).2.1.2.2.2.2.1 = 0 → ∃ (z : MS) (b : RN), b = fbT f n (nxT f n t) ∧ b.1 = true ∧ (∃ u : MS, u.tape = f ∧ u.length = n ∧ tkR u b.2.1 ∧ u.lx) ∧ y.nk z ∧ y.nmO z y.pile ∧ nmRe z y.pile b.2.2.1 b.2.2.2 ∧ b.2.2.1 ≤ 6 ∧ (pFn f n t).2.2 = [pfS f t b (tlT f n b.2.1)] ∧ (tlT f n b.2.1).1 = true ∧ (tlT f n b.2.1).2.1.2.2.2.2.1 = 0 ∧ y.clF wh = z.clZ wh (tkT f n b.2.1 40).2.2.2.1) := by
  rw [show pFn f n t = pfB f n t (fbT f n (nxT f n t)) from if_neg hv]
  obtain ⟨c1, c2, c3⟩ := cl0_nm y
  have h0 : tkR y.cl0 t := h
  have l0 : y.cl0.lx := hl
  rcases nx_c (y := y.cl0) hf hn hby h0 l0 with ⟨a1, a2, a3, a4⟩ | ⟨a1, a2, a3, a4⟩
  · have T := tk_nx y.cl0
    obtain ⟨x, ex⟩ : ∃ x, x = y.cl0.nx.2 := ⟨_, rfl⟩
    rw [← ex] at a2 a3 T
    have xf : x.tape = f := (tk_f T MS.tape rfl).trans hf
    have xn : x.length = n := (tk_f T MS.length rfl).trans hn
    have xp : x.pile = y.pile := tk_f T MS.pile rfl
    have k1 : y.nk x := nk_tr c1 (nk_of T)
    have k2 : y.nmO x y.pile := nmO_tr c2 (nmO_tk T)
    have k3 := nmRe_tk T c3
    have nb := nm_by (y := x) (t := nxT f n t) (by rw [xf]; exact hby) a2.2.1 a2.2.2.1 a3.2.1 a3.2.2.1
    rw [xf] at nb
    have e2 := kR_i a2.1 kR_2
    cases c : x.nmB 98 121 32 32 2 with
    | false =>
      have fb : fbT f n (nxT f n t) = (true, nxT f n t, 0, fun _ => []) := if_neg (fun z => by rw [nb.mpr ⟨e2.mpr z.1, z.2⟩] at c; cases c)
      rw [cl_n a1 ex c, fb]
      show qR (x.cl2 wh) (tlT f n (nxT f n t)).1 (tlT f n (nxT f n t)).2.1 ∧ ((tlT f n (nxT f n t)).2.1.2.2.2.2.1 = 0 → _)
      obtain ⟨s1, s2⟩ := cl2_q (wh := wh) xf xn hby a2 a3
      refine ⟨s1, fun g => ?_⟩
      obtain ⟨z, g1, g2⟩ := s2 g
      exact ⟨z, _, rfl, rfl, ⟨x, xf, xn, a2, a3⟩, nk_tr k1 (nk_of g1), nmO_tr k2 (nmO_tk g1), nmRe_tk g1 k3, Nat.zero_le _, rfl, (s1.1 g).1, g, g2⟩
    | true =>
      have nb' := nb.mp c
      have fb : fbT f n (nxT f n t) = byT f n (nxT f n (nxT f n t)) := if_pos ⟨e2.mp nb'.1, nb'.2⟩
      rw [fb]
      rcases nx_c xf xn hby a2 a3 with ⟨b1, b2, b3, b4⟩ | ⟨b1, b2, b3, b4⟩
      · have T2 := tk_nx x
        obtain ⟨x2, ex2⟩ : ∃ x2, x2 = x.nx.2 := ⟨_, rfl⟩
        rw [← ex2] at b2 b3 T2
        have xf2 : x2.tape = f := (tk_f T2 MS.tape rfl).trans xf
        have xn2 : x2.length = n := (tk_f T2 MS.length rfl).trans xn
        have q := nd_q (k := 40) (k' := 40) xf2 xn2 hby b2 b3 (kR_s (by decide))
        unfold byT
        obtain ⟨a, ea⟩ : ∃ a, a = tkT f n (nxT f n (nxT f n t)) 40 := ⟨_, rfl⟩
        rw [← ea] at q ⊢
        by_cases d : a.2.2.2.2.2.1 = 0
        · obtain ⟨d1, d2, d3, d4⟩ := q.1 d
          rw [if_pos d1]
          have T3 := tk_nd x2 40
          obtain ⟨x3, ex3⟩ : ∃ x3, x3 = (x2.ndF 40).2 := ⟨_, rfl⟩
          rw [← ex3] at d3 d4 T3
          have xf3 : x3.tape = f := (tk_f T3 MS.tape rfl).trans xf2
          have xn3 : x3.length = n := (tk_f T3 MS.length rfl).trans xn2
          have k4 := nmRe_tk T3 (nmRe_tk T2 k3)
          have bf := byF_2 b1 ex2 d2 ex3
          rw [xp] at bf
          obtain ⟨s1, s2⟩ := by_q (tb := y.pile) (w := 7) (k := 0) hby xf3 xn3 d3 d4 k4 (by omega) (by omega)
          obtain ⟨B, eB⟩ : ∃ B, B = byC f n (rnG f n 7 a.2 0 (fun _ => [])) := ⟨_, rfl⟩
          rw [show rnH f n a.2 = rnG f n 7 a.2 0 (fun _ => []) from rfl]
          rw [← eB] at s1 s2 ⊢
          by_cases g : B.2.1.2.2.2.2.1 = 0
          · obtain ⟨g1, g2, g3, g4⟩ := s1.1 g
            obtain ⟨g5, g6⟩ := s2 g
            have r := byL_in (t := y.pile) (w := 7) (y := x3) (v := (MS.byL y.pile 7 x3).2) d4 (fun k hk => by rw [k4.1] at hk; exact absurd hk (Nat.not_lt_zero k)) (by rw [k4.1]) (Prod.ext g2 rfl)
            obtain ⟨-, -, -, -, r5, r6⟩ := r
            rw [← bf] at g2 g3 g4 g5 r5 r6
            have zf : x.byF.2.tape = f := (nk_f r5 MS.tape rfl).trans xf3
            have zn : x.byF.2.length = n := (nk_f r5 MS.length rfl).trans xn3
            have nk3 : y.nk x3 := nk_tr k1 (nk_tr (nk_of T2) (nk_of T3))
            have no3 : y.nmO x3 y.pile := nmO_tr k2 (nmO_tr (nmO_tk T2) (nmO_tk T3))
            rw [cl_y a1 ex c g2 rfl, show pfB f n t B = ((tlT f n B.2.1).1, (tlT f n B.2.1).2.1, [pfS f t B (tlT f n B.2.1)]) from if_pos g1]
            obtain ⟨u1, u2⟩ := cl2_q (wh := wh) zf zn hby g3 g4
            refine ⟨u1, fun e => ?_⟩
            obtain ⟨z, v1, v2⟩ := u2 e
            exact ⟨z, B, rfl, g1, ⟨x.byF.2, zf, zn, g3, g4⟩, nk_tr nk3 (nk_tr r5 (nk_of v1)), nmO_tr no3 (nmO_tr r6 (nmO_tk v1)), nmRe_tk v1 g5, g6, rfl, (u1.1 e).1, e, v2⟩
          · obtain ⟨g1, g2, g3⟩ := s1.2 g
            rw [← bf] at g1 g2
            obtain ⟨p1, p2⟩ := pfB_b (f := f) (n := n) (t := t) g g3
            rw [cl_b a1 ex c g1, p1, p2]
            exact ⟨qR_b g g2, fun e => absurd e g⟩
        · obtain ⟨d1, d2, d3⟩ := q.2 d
          have bf := byF_1 b1 ex2 d1
          have eB : ∃ X, (if a.1 = true then byC f n (rnH f n a.2) else (false, a.2, 0, fun _ => [])) = ((false, a.2, X) : RN) := by
            cases hb : a.1 with
            | false => exact ⟨_, rfl⟩
            | true =>
              rw [if_pos rfl]
              unfold rnH
              rw [show rnG f n 7 a.2 0 (fun _ => []) = (false, rfT a.2 2 a.2.2.1, 0, fun _ => []) from if_pos (by rw [d3 hb]; decide), rfT_1 d]
              exact ⟨_, rfl⟩
          obtain ⟨X, eX⟩ := eB
          rw [eX]
          obtain ⟨p1, p2⟩ := pfB_b (f := f) (n := n) (t := t) (b := (false, a.2, X)) d (fun e => by cases e)
          rw [cl_b a1 ex c (by rw [bf]), p1, p2, bf]
          exact ⟨qR_b d d2, fun e => absurd e d⟩
      · have bf := byF_0 b1
        have eB : byT f n (nxT f n (nxT f n t)) = (false, nxT f n (nxT f n t), 0, fun _ => []) := by
          unfold byT
          rw [tkT_b b2 (by decide) b3]
          rfl
        rw [eB]
        obtain ⟨p1, p2⟩ := pfB_b (f := f) (n := n) (t := t) (b := (false, nxT f n (nxT f n t), 0, fun _ => [])) b3 (fun e => by cases e)
        rw [cl_b a1 ex c (by rw [bf]), p1, p2, bf]
        exact ⟨qR_b b3 b4, fun e => absurd e b3⟩
  · have fb : fbT f n (nxT f n t) = (true, nxT f n t, 0, fun _ => []) := if_neg (fun z => by rw [a2] at z; exact absurd z.1 (by decide))
    rw [fb, cl_0 a1]
    generalize nxT f n t = t1 at a2 a3 a4
    obtain ⟨p1, p2⟩ := pfB_b (f := f) (n := n) (t := t) (b := (true, t1, 0, fun _ => [])) a3 (fun _ => a2)
    rw [p1, p2]
    exact ⟨qR_b a3 a4, fun e => absurd e a3⟩
end CF
end
section
/-! The signs that wait, and what is done with them. -/
def stG (s p : Nat → Nat) : Nat → List (Nat × Nat)
  | 0 => []
  | k + 1 => (s k, p k) :: stG s p k
def MS.stk (y : MS) : List (Nat × Nat) := stG y.signs y.signPlaces y.signCount
theorem stG_ext {s p s' p' : Nat → Nat} : ∀ {k : Nat}, (∀ i, i < k → s' i = s i ∧ p' i = p i) → stG s' p' k = stG s p k
  | 0, _ => rfl
  | k + 1, h => by
    show (s' k, p' k) :: stG s' p' k = (s k, p k) :: stG s p k
    rw [stG_ext (fun i hi => h i (by omega)), (h k (by omega)).1, (h k (by omega)).2]
theorem stG_up (s p : Nat → Nat) (k a b : Nat) : stG (va_up s k a) (va_up p k b) (k + 1) = (a, b) :: stG s p k := by
  show (va_up s k a k, va_up p k b k) :: stG (va_up s k a) (va_up p k b) k = _
  rw [va_up_self, va_up_self, stG_ext (fun i hi => ⟨va_up_ne _ _ (Nat.ne_of_lt hi), va_up_ne _ _ (Nat.ne_of_lt hi)⟩)]
theorem stk_c {y : MS} {a : Nat × Nat} {S : List (Nat × Nat)} (h : y.stk = a :: S) : 0 < y.signCount ∧ y.top = a.1 ∧ y.signPlaces (y.signCount - 1) = a.2 ∧ stG y.signs y.signPlaces (y.signCount - 1) = S := by
  unfold MS.stk at h
  unfold MS.top
  cases c : y.signCount with
  | zero => rw [c] at h; cases h
  | succ k =>
    rw [c] at h
    have h : (y.signs k, y.signPlaces k) :: stG y.signs y.signPlaces k = a :: S := h
    rw [List.cons.injEq] at h
    obtain ⟨h1, h2⟩ := h
    rw [← h1]
    exact ⟨Nat.succ_pos k, rfl, rfl, h2⟩
theorem stk_0 {y : MS} (h : y.stk = []) : y.signCount = 0 := by
  unfold MS.stk at h
  cases c : y.signCount with
  | zero => rfl
  | succ k => rw [c] at h; cases h
theorem stk_ck {x y : MS} (h : x.ck y) : y.stk = x.stk := by
  unfold MS.stk
  rw [ck_f h MS.signs rfl, ck_f h MS.signPlaces rfl, ck_f h MS.signCount rfl]
/-- the step of a sign -/
def fls (a : Nat × Nat) : SP1 := if a.1 = 109 then spO 265 a.2 0 else spO (nI a.1) a.2 0
/-- x with token, fault and signs of y -/
def MS.sgS (x y : MS) : MS := MS.s_wants (MS.s_opn (MS.s_signCount (MS.s_signPlaces (MS.s_signs (x.tkS y) y.signs) y.signPlaces) y.signCount) y.opn) y.wants
def MS.sg (x y : MS) : Prop := y = x.sgS y
theorem sg_tk {x y : MS} (h : x.tk y) : x.sg y := by
  have h1 : x.sg (x.tkS y) := rfl
  rw [← show y = x.tkS y from h] at h1
  exact h1
theorem sg_tr {x y z : MS} (h1 : x.sg y) (h2 : y.sg z) : x.sg z := h2.trans ((congrArg (fun w => MS.sgS w z) h1).trans rfl)
/-- what an invariant of the steps done must keep -/
def JK (f : Nat → Int32) (n : Nat) (J : List SP1 → MS → Prop) (Jf : List SP1 → SP1 → MS → Prop) : Prop :=
  (∀ L y z, J L y → y.sg z → J L z) ∧
  (∀ L s y z, J L y → y.works = false → y.nk z → J (L ++ [s]) z) ∧
  (∀ L y q, J L y → y.works = true → y.qI → y.pile < 20 → J (L ++ [spO 257 q y.amount]) y.nbS) ∧
  (∀ L y q, J L y → y.works = true → y.qI → 1 ≤ y.pile → J (L ++ [spO 265 q 0]) y.ngS) ∧
  (∀ L y a q, J L y → y.works = true → y.qI → 2 ≤ y.pile → binS a = true → (y.opB = true → J (L ++ [spO (nI a) q 0]) (y.opS (nI a) q)) ∧ (y.opB = false → Jf L (spO (nI a) q 0) (y.opS (nI a) q))) ∧
  (∀ L y z t b wh, J L y → y.works = true → y.qI → y.pile < 20 → y.tape = f → y.length = n → y.nk z → y.nmO z y.pile → nmRe z y.pile b.2.2.1 b.2.2.2 → b.2.2.1 ≤ 6 → (∃ u : MS, u.tape = f ∧ u.length = n ∧ tkR u b.2.1 ∧ u.lx) → (tlT f n b.2.1).1 = true → (tlT f n b.2.1).2.1.2.2.2.2.1 = 0 → fnV (tkw f t) = nI wh → wh < 7 → J (L ++ [pfS f t b (tlT f n b.2.1)]) (z.rkS wh (tkT f n b.2.1 40).2.2.2.1))
/-- a step among these was not done -/
def FFq (Jf : List SP1 → SP1 → MS → Prop) (L : List SP1) (v : MS) : Prop := ∃ L1 s L2, L = L1 ++ s :: L2 ∧ Jf L1 s v
theorem FF_m {Jf : List SP1 → SP1 → MS → Prop} {L : List SP1} {v : MS} (h : FFq Jf L v) (X : List SP1) : FFq Jf (L ++ X) v := by
  obtain ⟨L1, s, L2, e, h⟩ := h
  exact ⟨L1, s, L2 ++ X, by rw [e, List.append_assoc, List.cons_append], h⟩
section DN
variable {f : Nat → Int32} {n : Nat} {J : List SP1 → MS → Prop} {Jf : List SP1 → SP1 → MS → Prop} {y : MS} {L : List SP1}
theorem dn_J (hJ : JK f n J Jf) (hd : y.dI) {a : Nat × Nat} {S : List (Nat × Nat)} (hs : y.stk = a :: S) (h4 : ¬ a.1 = 40) (h : J L y) : (y.dnF.1 = true ∧ J (L ++ [fls a]) y.dnF.2 ∧ y.dnF.2.stk = S) ∨ (y.dnF.1 = false ∧ Jf L (fls a) y.dnF.2 ∧ y.works = true) := by
  obtain ⟨j1, j2, -, j4, j5, -⟩ := hJ
  obtain ⟨s1, s2, s3, s4⟩ := stk_c hs
  have sp : y.pop.stk = S := s4
  have sgp : y.sg y.pop := rfl
  have hp := j1 L y y.pop h sgp
  have tc := top_c hd.1 s1 (by rw [s2]; exact h4)
  unfold MS.dnF
  cases w : y.works with
  | false =>
    rw [if_neg (by decide)]
    exact Or.inl ⟨rfl, j2 L (fls a) y.pop y.pop hp w rfl, sp⟩
  | true =>
    rw [if_pos rfl]
    have q1 : y.pop.works = true := w
    have q2 : y.pop.qI := hd.2.1 w
    by_cases c : y.top = 109
    · rw [if_pos c]
      have e : fls a = spO 265 a.2 0 := if_pos (by rw [← s2]; exact c)
      have pl : 1 ≤ y.pop.pile := by
        show 1 ≤ y.pile
        have i := hd.1.2.2.2.2 w
        have o := hd.1.2.1
        have m := cnt_le y.signCount y.isO
        omega
      rw [e]
      exact Or.inl ⟨rfl, j4 L y.pop a.2 hp q1 q2 pl, (stk_ck (ck_ng y.pop)).trans sp⟩
    · rw [if_neg c]
      have b : binS y.top = true := tc.resolve_left (fun z => c z.1)
      have e : fls a = spO (nI a.1) a.2 0 := if_neg (by rw [← s2]; exact c)
      have pl0 : 2 ≤ y.pile := bin_pl hd.1 s1 b w
      have pl : 2 ≤ y.pop.pile := pl0
      rw [e, s2, s3]
      rw [s2] at b
      obtain ⟨g1, g2⟩ := j5 L y.pop a.1 a.2 hp q1 q2 pl b
      cases o : y.pop.opB with
      | true => exact Or.inl ⟨rfl, g1 o, (stk_ck (ck_opS y.pop _ _)).trans sp⟩
      | false => exact Or.inr ⟨rfl, g2 o, rfl⟩
theorem dt_J (hJ : JK f n J Jf) {rk : Nat} (hr : 1 ≤ rk) {S : List (Nat × Nat)} (hS : S = [] ∨ ∃ b S', S = b :: S' ∧ rkM b.1 < rk) : ∀ {P : List (Nat × Nat)} {y : MS} {L : List SP1}, y.dI → y.stk = P ++ S → (∀ a, a ∈ P → rk ≤ rkM a.1) → J L y → ((y.dt rk).1 = true ∧ J (L ++ P.map fls) (y.dt rk).2 ∧ (y.dt rk).2.stk = S) ∨ ((y.dt rk).1 = false ∧ FFq Jf (L ++ P.map fls) (y.dt rk).2 ∧ y.works = true)
  | [], y, L, hd, hs, hP, h => by
    have e : y.dt rk = (true, y) := by
      refine dt_e ?_
      rcases hS with e | ⟨b, S', e, g⟩
      · exact Or.inl (stk_0 (hs.trans e))
      · have q := stk_c (y := y) (a := b) (S := S') (hs.trans e)
        rw [← q.2.1] at g
        exact Or.inr g
    rw [e]
    refine Or.inl ⟨rfl, ?_, hs⟩
    rw [List.map_nil, List.append_nil]
    exact h
  | a :: P, y, L, hd, hs, hP, h => by
    obtain ⟨s1, s2, s3, s4⟩ := stk_c (y := y) (a := a) (S := P ++ S) hs
    have g := hP a (List.mem_cons_self ..)
    have h1 : ¬ rkM y.top < rk := by rw [s2]; omega
    have h0 : ¬ y.signCount = 0 := by omega
    have h4 : ¬ a.1 = 40 := by rw [← s2]; exact rk_40 h1 hr
    rcases dn_J hJ hd hs h4 h with ⟨a1, a2, a3⟩ | ⟨a1, a2, a3⟩
    · obtain ⟨i1, i2⟩ := dn_in (v := y.dnF.2) hd s1 (by rw [s2]; exact h4) (Prod.ext a1 rfl)
      have e : y.dt rk = y.dnF.2.dt rk := by
        unfold MS.dt
        rw [dt_t s1 h0 h1 a1 rfl, i2]
      rw [e, List.map_cons, show L ++ fls a :: P.map fls = (L ++ [fls a]) ++ P.map fls by rw [List.append_assoc]; rfl]
      rw [← show y.dnF.2.works = y.works from dk_f (dk_dn y) MS.works rfl]
      exact dt_J hJ hr hS i1 a3 (fun b hb => hP b (List.mem_cons_of_mem _ hb)) a2
    · have e : y.dt rk = (false, y.dnF.2) := dt_f s1 h0 h1 a1
      rw [e]
      exact Or.inr ⟨rfl, ⟨L, fls a, P.map fls, rfl, a2⟩, a3⟩
end DN
/-- a question from here on -/
def MS.QR (y : MS) : Bool × MS := MS.quR (y.length + 1 - y.frm) y
theorem QR_w : ∀ (k w1 w2 : Nat) (y : MS), y.lI → y.length + 1 - y.frm ≤ k → y.length + 1 - y.frm ≤ w1 → y.length + 1 - y.frm ≤ w2 → MS.quR w1 y = MS.quR w2 y
  | 0, w1, w2, y, h, h0, h1, h2 => by
    have := lI_frm h
    omega
  | k + 1, w1, w2, y, h, h0, h1, h2 => by
    have hf := lI_frm h
    by_cases c : y.kind = 0 ∧ y.wants = false
    · rw [quR_e (by omega) c.1 c.2, quR_e (by omega) c.1 c.2]
    · have h' : ¬ y.kind = 0 ∨ y.wants = true := by
        by_cases k : y.kind = 0
        · refine Or.inr ?_
          cases w2 : y.wants with
          | true => rfl
          | false => exact absurd ⟨k, w2⟩ c
        · exact Or.inl k
      rw [quR_s (w := w1) (by omega) h' rfl, quR_s (w := w2) (by omega) h' rfl]
      cases g : y.q1.1 with
      | false => rfl
      | true =>
        obtain ⟨v, ev⟩ : ∃ v, v = y.q1.2 := ⟨_, rfl⟩
        obtain ⟨a, b, c1, c2⟩ := q1_in (v := v) h (Prod.ext g ev.symm)
        have e : v.length = y.length := qk_f b MS.length rfl
        rw [if_pos rfl, if_pos rfl, ← ev]
        exact QR_w k (w1 - 1) (w2 - 1) v a (by omega) (by omega) (by omega)
section QRs
variable {y v : MS}
theorem QR_t (h : y.lI) (h' : ¬ y.kind = 0 ∨ y.wants = true) (e1 : y.q1.1 = true) (e2 : v = y.q1.2) : y.QR = v.QR ∧ v.lI ∧ y.qk v ∧ y.frm < v.frm := by
  have hf := lI_frm h
  obtain ⟨a, b, c1, c2⟩ := q1_in (v := v) h (Prod.ext e1 e2.symm)
  have e : v.length = y.length := qk_f b MS.length rfl
  refine ⟨?_, a, b, c1⟩
  unfold MS.QR
  rw [quR_s (by omega) h' e2, if_pos e1]
  exact QR_w _ _ _ v a (Nat.le_refl _) (by omega) (Nat.le_refl _)
theorem QR_f (h : y.lI) (h' : ¬ y.kind = 0 ∨ y.wants = true) (e1 : y.q1.1 = false) : y.QR = (false, y.q1.2) := by
  have hf := lI_frm h
  unfold MS.QR
  rw [quR_s (by omega) h' rfl, if_neg (by rw [e1]; decide)]
theorem QR_e (h : y.lI) (h0 : y.kind = 0) (h2 : y.wants = false) : y.QR = y.qu3 := by
  have hf := lI_frm h
  exact quR_e (by omega) h0 h2
end QRs
end
