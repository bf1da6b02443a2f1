/-! A delete: over all of the relation. -/
section DE
variable {m : MS} {x y1 z : VS} {PS : Nat → PT} {dn bn : Nat → Nat} {ja : Nat → Nat} {w : Nat} {a b : Int64}
theorem de_co (h : coR m x PS dn bn) (hw : w < x.nser) (hJ : x.jsize ≤ x.jN ∧ 0 < x.jN) (hd : m.deletes < 2 ^ 29) (ey : y1 = x.wrF ja 2 w 1 a b) (hz : (sumN x.npc (x.soN PS w a b) = 0 ∧ z = y1.dwS w a b) ∨ (0 < sumN x.npc (x.soN PS w a b) ∧ z = (y1.dwS w a b).asS w a b)) : ∃ dn', coR (((m.s_cod 0).recS 2 w a b 1).goS w a b) z PS dn' bn := by
  obtain ⟨h1, h2, h3, h4, h5, h6, h7⟩ := h
  have jr := jr_rec (m' := ((m.s_cod 0).recS 2 w a b 1).goS w a b) (ja := ja) (kd := 2) (w := w) (n := 1) (a := a) (b := b) (a' := a) (b' := b) h4 hJ.1 hJ.2 (fun _ => ⟨rfl, rfl⟩) ⟨rfl, rfl, rfl, rfl, rfl, rfl, rfl, rfl, rfl, rfl, rfl, rfl, rfl, rfl⟩
  have wa := wrF_at x ja 2 w 1 a b hJ.1 hJ.2
  have jw := wrF_jw x ja 2 w 1 a b
  rw [← ey] at jr wa jw
  obtain ⟨w1, w2, w3, w4, w5, w6⟩ := wa
  have hk := rKp_le h4 h6 1
  have jk : y1.jkept = m.rKept 1 := jr.2.1.symm
  -- what is the same in both cases
  have f : (z.npc = x.npc ∧ z.nhor = x.nhor ∧ z.hsize = (x.dwS w a b).hsize ∧ z.hO = (x.dwS w a b).hO ∧ z.hT = (x.dwS w a b).hT ∧ z.hV = (x.dwS w a b).hV) ∧ vB x z ∧ (z.nser = x.nser ∧ z.nlast = x.nlast ∧ svA z = svA x ∧ z.ncat = x.ncat) ∧ (z.jK = y1.jK ∧ z.jO = y1.jO ∧ z.jF = y1.jF ∧ z.jS = y1.jS ∧ z.jsize = y1.jsize ∧ z.jkept = y1.jkept) ∧ jrR (((m.s_cod 0).recS 2 w a b 1).goS w a b) z := by
    rcases hz with ⟨-, e⟩ | ⟨-, e⟩
    · rw [e]
      refine ⟨?_, ?_, ?_, ⟨rfl, rfl, rfl, rfl, rfl, rfl⟩, jr⟩
      · rw [jw]; exact ⟨rfl, rfl, rfl, rfl, rfl, rfl⟩
      · rw [jw]; exact ⟨⟨rfl, rfl, rfl, rfl⟩, ⟨rfl, rfl, rfl, rfl, rfl, rfl⟩, rfl, fun _ _ => rfl, rfl⟩
      · rw [jw]; exact ⟨rfl, rfl, rfl, rfl⟩
    · rw [e]
      refine ⟨?_, ?_, ?_, ⟨rfl, rfl, rfl, rfl, rfl, rfl⟩, jr⟩
      · rw [jw]; exact ⟨rfl, rfl, rfl, rfl, rfl, rfl⟩
      · rw [jw]; exact ⟨⟨rfl, rfl, rfl, rfl⟩, ⟨rfl, rfl, rfl, rfl, rfl, rfl⟩, rfl, fun _ _ => rfl, rfl⟩
      · rw [jw]; exact ⟨rfl, rfl, rfl, rfl⟩
  have hs : (sumN x.npc (x.soN PS w a b) = 0 ∧ z.nsO = x.nsO ∧ z.nsF = x.nsF ∧ z.nsT = x.nsT ∧ z.nsc = x.nsc) ∨ (0 < sumN x.npc (x.soN PS w a b) ∧ z.nsO = (x.asS w a b).nsO ∧ z.nsF = (x.asS w a b).nsF ∧ z.nsT = (x.asS w a b).nsT ∧ z.nsc = x.nsc + 1) := by
    rcases hz with ⟨g, e⟩ | ⟨g, e⟩
    · refine Or.inl ⟨g, ?_⟩
      rw [e, jw]; exact ⟨rfl, rfl, rfl, rfl⟩
    · refine Or.inr ⟨g, ?_⟩
      rw [e, jw]; exact ⟨rfl, rfl, rfl, rfl⟩
  obtain ⟨f1, f2, ⟨f3, f4, f5, f6⟩, ⟨j1, j2, j3, j4, j5, j6⟩, f7⟩ := f
  have hl : hdL z = (hdL x).filter (fun p => !wiB w a b p) := by
    rw [← hdL_dw x w a b]
    unfold hdL
    rw [f1.2.2.1, f1.2.2.2.1, f1.2.2.2.2.1, f1.2.2.2.2.2]
  have sl : scL z = (if 0 < sumN x.npc (x.soN PS w a b) then scL x ++ [(w, maxL a x.nhor, minL b (x.nlast w))] else scL x) := by
    rcases hs with ⟨g, e1, e2, e3, e4⟩ | ⟨g, e1, e2, e3, e4⟩
    · rw [if_neg (by omega)]
      unfold scL
      rw [e1, e2, e3, e4]
    · rw [if_pos g, ← scL_as]
      unfold scL
      rw [e1, e2, e3, e4]
      rfl
  obtain ⟨dn', p⟩ := ptR_go (m' := ((m.s_cod 0).recS 2 w a b 1).goS w a b) h1 ⟨rfl, rfl, rfl, rfl, rfl⟩ ⟨rfl, rfl, rfl, rfl, rfl, rfl, rfl, rfl, rfl⟩ (h3.2 w hw) hd f1 hs
  refine ⟨dn', p, bsR_p h2 ⟨rfl, rfl, rfl, rfl⟩ (fun q hq => go_pk (m := (m.s_cod 0).recS 2 w a b 1) hq) ⟨rfl, rfl, rfl, rfl, h2.2.2.2.2.2.1, Nat.le_succ _⟩ f2, ⟨h3.1.trans f3.symm, fun s hs => by rw [f3] at hs; rw [f4]; exact h3.2 s hs⟩, f7, joR_add (kd := 2) (w := w) (a := a) (b := b) h5 ⟨f1.1, f1.2.1, f5⟩ ⟨by rw [j5, w1], by rw [j6, jk]; exact hk.1, fun r hr => by rw [j1, j2, j3, j4]; exact w2 r hr⟩ ⟨by rw [j1]; exact w3, by rw [j2]; exact w4, by rw [j3]; exact w5, by rw [j4]; exact w6⟩ (inA_2 h5.1 hw ⟨f3, f4, hl, sl⟩) (pk_of h1 h3) ⟨by decide, fun e => absurd e (by decide), fun _ => hw, fun e => absurd e (by decide)⟩ h6, by rw [j5, j6, w1, jk]; omega, ?_⟩
  rw [f6]
  exact h7
end DE
