/-! Packed points and last times; a start over all of the relation. -/
section PK
variable {m : MS} {x : VS} {PS : Nat → PT} {dn bn : Nat → Nat} {fN : Nat → Nat}
theorem pk_of (h : ptR m x PS dn) (hs : seR m x) : pkL PS x.npc x.nser x.nlast := by
  intro k hk i hi
  obtain ⟨e1, -, -⟩ := h.1.2.2.2 k hk
  obtain ⟨q, q1, q2, q3, q4⟩ := arr_ix e1 (W := m.seriesCount) (fun q hq hc => in_se h hk hq hc) hi
  obtain ⟨y1, y2⟩ := h.2.2.2.2.1.2.1 q q1 (inP_pk h hk q2).2.1
  rw [q3, q4]
  rw [hs.1] at y1
  rw [hs.2 _ y1] at y2
  exact ⟨y1, y2⟩
theorem pk_sv (h : ptR m x PS dn) (hb : bsR m x bn) : pkL PS x.npc x.sser x.slast := by
  intro k hk i hi
  obtain ⟨e1, -, -⟩ := h.1.2.2.2 k hk
  obtain ⟨q, q1, q2, q3, q4⟩ := arr_ix e1 (W := m.seriesCount) (fun q hq hc => in_se h hk hq hc) hi
  obtain ⟨-, -, ⟨j1, j2, j3, -, -⟩⟩ := hb
  obtain ⟨y1, y2⟩ := j1 q q1 (inP_pk h hk q2).1
  rw [q3, q4]
  rw [j2] at y1
  rw [j3 _ y1] at y2
  exact ⟨y1, y2⟩
theorem rp_cb (fN : Nat → Nat) (m : MS) : ∀ r, (m.rpS fN r).catalogBlocks = m.catalogBlocks
  | 0 => rfl
  | r + 1 => by
    rw [← rp_cb fN m r]
    show ((m.rpS fN r).rp1 fN r).catalogBlocks = _
    unfold MS.rp1
    split
    · rfl
    · split
      · split
        · rfl
        · rfl
      · rfl
theorem st_co {a9 b9 u9n : Nat} {z : VS} (h : coR m x PS dn bn) (hN : 0 < x.hN) (hd : m.deletes + x.jkept ≤ 2 ^ 29) (hfg : fgG x.jB x.jU x.jkept = (a9, b9, u9n)) (hz : dgR PS (x.stS a9 b9 u9n) x.jkept z) : (∃ d', coR (m.st2.rpS fN m.kept) z PS d' bn) ∧ (m.st2.rpS fN m.kept).deletes ≤ m.deletes + x.jkept := by
  obtain ⟨h1, h2, h3, h4, h5, h6, h7⟩ := h
  obtain ⟨⟨d', u1⟩, u2, u3, u4, u5, u6⟩ := st_all (fN := fN) h1 h2 h4 h5 h6 (pk_sv h1 h2) hN hd hfg hz
  have dk := dg_k hz
  have e1 : z.jsize = min x.jsize x.jkept := (congrArg VS.jsize dk).trans rfl
  have e2 : z.jkept = min x.jsize x.jkept := (congrArg VS.jkept dk).trans rfl
  have e3 : z.ncat = x.scat := (congrArg VS.ncat dk).trans rfl
  refine ⟨⟨d', u1, u2, u3, u4, u5, by rw [e1, e2]; exact Nat.le_refl _, ?_⟩, u6⟩
  rw [rp_cb, e3, h2.2.2.2.2.2.2]
  exact h7
end PK
