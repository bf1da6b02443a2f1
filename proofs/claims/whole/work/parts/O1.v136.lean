/-! Sync and power over all of the relation. -/
section SY
variable {m : MS} {x : VS} {PS : Nat → PT} {dn bn : Nat → Nat}
theorem sy_co1 (h : coR m x PS dn bn) : coR (MS.s_kept (MS.s_fresh (MS.s_written (MS.s_cutLeft (MS.s_cod m 0) (cutF m.cutLeft)) (m.written + 1)) false) m.records) x.wj1 PS dn bn := by
  obtain ⟨g1, g2, g3, g4, g5, g6, g7, g8, g9, g10, g11⟩ := h.2.2.2.1
  exact co_k h ⟨rfl, rfl, rfl, rfl, rfl⟩ ⟨rfl, rfl, rfl, rfl, rfl, rfl, rfl, rfl, rfl⟩ ⟨rfl, rfl, rfl, rfl, rfl⟩ ⟨rfl, rfl, rfl, rfl, rfl, rfl⟩ ⟨rfl, rfl, rfl, rfl⟩ ⟨⟨rfl, rfl, rfl, rfl⟩, ⟨rfl, rfl, rfl, rfl, rfl, rfl⟩, rfl, fun _ _ => rfl, rfl⟩ ⟨rfl, rfl⟩ ⟨rfl, rfl, rfl, rfl, rfl⟩ ⟨h.2.2.2.2.2.1, Nat.le_refl _⟩ ⟨g1, g1, g3, g4, rfl, congrArg cutF g6, congrArg (· + 1) g7, g8, g9, fun _ => rfl, g11⟩
theorem sy_co0 (h : coR m x PS dn bn) (hf : x.jch = false) : coR (MS.s_kept (MS.s_fresh (MS.s_cod m 0) false) m.records) x PS dn bn := by
  obtain ⟨g1, g2, g3, g4, g5, g6, g7, g8, g9, g10, g11⟩ := h.2.2.2.1
  exact co_k h ⟨rfl, rfl, rfl, rfl, rfl⟩ ⟨rfl, rfl, rfl, rfl, rfl, rfl, rfl, rfl, rfl⟩ ⟨rfl, rfl, rfl, rfl, rfl⟩ ⟨rfl, rfl, rfl, rfl, rfl, rfl⟩ ⟨rfl, rfl, rfl, rfl⟩ ⟨⟨rfl, rfl, rfl, rfl⟩, ⟨rfl, rfl, rfl, rfl, rfl, rfl⟩, rfl, fun _ _ => rfl, rfl⟩ ⟨rfl, rfl⟩ ⟨rfl, rfl, rfl, rfl, rfl⟩ ⟨Nat.le_refl _, h.2.2.2.2.2.1⟩ ⟨g1, g1.trans (g10 hf).symm, g3, g4, hf.symm, g6, g7, g8, g9, g10, g11⟩
/-- power, code and counts of writing -/
theorem pw_co (h : coR m x PS dn bn) (cd : Int32) (o p : Bool) (c : Int32) (k : Nat) : coR (MS.s_written (MS.s_cutLeft (MS.s_on (MS.s_cod m cd) o) c) (m.written + k)) (VS.s_writes (VS.s_cutLeft (VS.s_powered x p) c) (x.writes + k)) PS dn bn := by
  obtain ⟨g1, g2, g3, g4, g5, g6, g7, g8, g9, g10, g11⟩ := h.2.2.2.1
  exact co_k h ⟨rfl, rfl, rfl, rfl, rfl⟩ ⟨rfl, rfl, rfl, rfl, rfl, rfl, rfl, rfl, rfl⟩ ⟨rfl, rfl, rfl, rfl, rfl⟩ ⟨rfl, rfl, rfl, rfl, rfl, rfl⟩ ⟨rfl, rfl, rfl, rfl⟩ ⟨⟨rfl, rfl, rfl, rfl⟩, ⟨rfl, rfl, rfl, rfl, rfl, rfl⟩, rfl, fun _ _ => rfl, rfl⟩ ⟨rfl, rfl⟩ ⟨rfl, rfl, rfl, rfl, rfl⟩ ⟨Nat.le_refl _, h.2.2.2.2.2.1⟩ ⟨g1, g2, g3, g4, g5, rfl, congrArg (· + k) g7, g8, g9, g10, g11⟩
end SY
