/-! The journal kept, power lost: over all of the relation. -/
section KK
variable {m m' : MS} {x x' : VS} {PS : Nat → PT} {dn bn : Nat → Nat}
/-- only how much is kept, and what the writing counts, is other -/
theorem co_k (h : coR m x PS dn bn) (h1 : mP m m') (h2 : mQ m m') (hm : m'.baseHidden = m.baseHidden ∧ m'.baseHorizon = m.baseHorizon ∧ m'.baseSeries = m.baseSeries ∧ m'.baseLasts = m.baseLasts ∧ m'.catalogBlocks = m.catalogBlocks) (h3 : vP x x') (h4 : vH x x') (vb : vB x x') (hn : x'.nser = x.nser ∧ x'.nlast = x.nlast) (hj : x'.jsize = x.jsize ∧ x'.jK = x.jK ∧ x'.jO = x.jO ∧ x'.jF = x.jF ∧ x'.jS = x.jS) (hk : x.jkept ≤ x'.jkept ∧ x'.jkept ≤ x.jsize) (jr : jrR m' x') : coR m' x' PS dn bn := by
  obtain ⟨g1, g2, g3, g4, g5, g6, g7⟩ := h
  obtain ⟨a1, a2, a3, a4, a5⟩ := hm
  obtain ⟨j1, j2, j3, j4, j5⟩ := hj
  have h2' := h2
  obtain ⟨q1, q2, q3, q4, q5, q6, q7, q8, q9⟩ := h2
  have sv : svA x' = svA x := by
    unfold svA
    rw [vb.2.1.2.2.2.1, vb.2.1.2.2.2.2.1, vb.1.1, vb.1.2.1, vb.1.2.2.1, vb.1.2.2.2]
  have er : ∀ r, rpV PS x' r = rpV PS x r := fun r => rpV_e ⟨h3.1, h3.2.1, sv⟩ (fun i _ => by rw [j2, j3, j4, j5]; exact ⟨rfl, rfl, rfl, rfl⟩)
  have hl : hdL x' = hdL x := by
    unfold hdL
    rw [h4.1, h4.2.1, h4.2.2.1, h4.2.2.2]
  have sl : scL x' = scL x := by
    unfold scL
    rw [h3.2.2.1, h3.2.2.2.1, h3.2.2.2.2.1, h3.2.2.2.2.2]
  refine ⟨ptR_same g1 h1 h2' h3 h4, bsR_p g2 ⟨q1, q2, q3, a1⟩ (fun q _ => by unfold MS.pkd; rw [q5]) ⟨a2, h1.2.2.2.2, a3, a4, by rw [q8]; exact g2.2.2.2.2.2.1, by rw [q7]; exact Nat.le_refl _⟩ vb, ⟨by rw [q8, hn.1]; exact g3.1, fun s hs => by rw [hn.1] at hs; rw [q9, hn.2]; exact g3.2 s hs⟩, jr, ⟨?_, fun r hr => ?_, fun K k1 k2 => ?_⟩, by rw [j1]; exact hk.2, by rw [a5, vb.2.2.2.2]; exact g7⟩
  · rw [er, j1]
    obtain ⟨u1, u2, u3, u4⟩ := g5.1
    exact ⟨by rw [hn.1]; exact u1, by rw [hn.1, hn.2]; exact u2, by rw [hl]; exact u3, by rw [sl]; exact u4⟩
  · rw [j1] at hr
    rw [er, j2, j3, j4, j5, sl, h3.1, h3.2.1]
    exact g5.2.1 r hr
  · rw [j1] at k2
    rw [er]
    exact g5.2.2 K (Nat.le_trans hk.1 k1) k2
end KK
