/-! A new series: over all of the relation. -/
section SE
variable {m : MS} {x y1 : VS} {PS : Nat → PT} {dn bn : Nat → Nat} {ja : Nat → Nat} {n tl mp : Nat} {a' b' : Int64}
theorem se_co (h : coR m x PS dn bn) (hJ : x.jsize ≤ x.jN ∧ 0 < x.jN) (ey : y1 = x.wrF ja 0 x.nser n 0 0) : coR ((m.recS 0 m.seriesCount a' b' n).nwS m.seriesCount tl) (y1.anS mp) PS dn bn := by
  obtain ⟨h1, h2, h3, h4, h5, h6, h7⟩ := h
  have hb := h2.2.2.2.2.2.1
  rw [h3.1] at hb ⊢
  have jr := jr_rec (m' := (m.recS 0 x.nser a' b' n).nwS x.nser tl) (ja := ja) (kd := 0) (w := x.nser) (n := n) (a := 0) (b := 0) (a' := a') (b' := b') h4 hJ.1 hJ.2 (fun e => absurd rfl e) ⟨rfl, rfl, rfl, rfl, rfl, rfl, rfl, rfl, rfl, rfl, rfl, rfl, rfl, rfl⟩
  have wa := wrF_at x ja 0 x.nser n 0 0 hJ.1 hJ.2
  have jw := wrF_jw x ja 0 x.nser n 0 0
  rw [← ey] at jr wa jw
  obtain ⟨w1, w2, w3, w4, w5, w6⟩ := wa
  have hk := rKp_le h4 h6 n
  have jk : y1.jkept = m.rKept n := jr.2.1.symm
  have en : y1.nser = x.nser ∧ y1.nlast = x.nlast ∧ hdL y1 = hdL x ∧ scL y1 = scL x ∧ svA y1 = svA x ∧ y1.ncat = x.ncat := by rw [jw]; exact ⟨rfl, rfl, rfl, rfl, rfl, rfl⟩
  have vb : vB x (y1.anS mp) := by rw [jw]; exact ⟨⟨rfl, rfl, rfl, rfl⟩, ⟨rfl, rfl, rfl, rfl, rfl, rfl⟩, rfl, fun _ _ => rfl, rfl⟩
  have vp : vP x (y1.anS mp) := by rw [jw]; exact ⟨rfl, rfl, rfl, rfl, rfl, rfl⟩
  have vh : vH x (y1.anS mp) := by rw [jw]; exact ⟨rfl, rfl, rfl, rfl⟩
  obtain ⟨n1, n2, n3, n4, n5, n6⟩ := en
  have e1 : (y1.anS mp).nser = x.nser + 1 := congrArg (· + 1) n1
  have e2 : (y1.anS mp).nlast = va_up x.nlast x.nser (-1) := by rw [← n1, ← n2]; rfl
  obtain ⟨z, ez⟩ : ∃ z, z = y1.anS mp := ⟨_, rfl⟩
  have jz : z.jK = y1.jK ∧ z.jO = y1.jO ∧ z.jF = y1.jF ∧ z.jS = y1.jS ∧ z.jsize = y1.jsize ∧ z.jkept = y1.jkept ∧ hdL z = hdL y1 ∧ scL z = scL y1 ∧ svA z = svA y1 ∧ z.ncat = y1.ncat := by rw [ez]; exact ⟨rfl, rfl, rfl, rfl, rfl, rfl, rfl, rfl, rfl, rfl⟩
  have jr2 : jrR ((m.recS 0 x.nser a' b' n).nwS x.nser tl) (y1.anS mp) := jr
  rw [← ez] at vb vp vh e1 e2 jr2 ⊢
  obtain ⟨j1, j2, j3, j4, j5, j6, j7, j8, j9, j10⟩ := jz
  have hls : ∀ s, s < x.nser → ((m.recS 0 x.nser a' b' n).nwS x.nser tl).lasts s = m.lasts s := fun s hs => va_up_ne _ _ (Nat.ne_of_lt hs)
  refine ⟨ptR_new h1 ⟨rfl, rfl, rfl, rfl, rfl⟩ ⟨rfl, rfl, rfl, rfl, rfl, rfl, rfl⟩ ⟨by rw [h3.1]; exact Nat.le_succ _, fun s hs => hls s (by rw [← h3.1]; exact hs)⟩ vp vh, bsR_p h2 ⟨rfl, rfl, rfl, rfl⟩ (fun _ _ => rfl) ⟨rfl, rfl, rfl, rfl, Nat.le_succ_of_le hb, Nat.le_refl _⟩ vb, ⟨e1.symm, fun s hs => ?_⟩, jr2, joR_add (kd := 0) (w := x.nser) (a := 0) (b := 0) h5 ⟨vp.1, vp.2.1, j9.trans n5⟩ ⟨by rw [j5, w1], by rw [j6, jk]; exact hk.1, fun r hr => by rw [j1, j2, j3, j4]; exact w2 r hr⟩ ⟨by rw [j1]; exact w3, by rw [j2]; exact w4, by rw [j3]; exact w5, by rw [j4]; exact w6⟩ (inA_0 h5.1 ⟨e1, e2, j7.trans n3, j8.trans n4⟩) (pk_of h1 h3) ⟨by decide, fun _ => rfl, fun e => absurd rfl e, fun e => absurd e (by decide)⟩ h6, by rw [j5, j6, w1, jk]; omega, ?_⟩
  · rw [e1] at hs
    rw [e2]
    by_cases c : s = x.nser
    · rw [c]
      exact (va_up_self _ _ _).trans (va_up_self _ _ _).symm
    · rw [hls s (by omega), va_up_ne _ _ c]
      exact h3.2 s (by omega)
  · rw [j10, n6]
    exact h7
end SE
