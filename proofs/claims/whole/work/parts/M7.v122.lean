/-! The reference's flush and compact over the points' relation. -/
section RF
variable {m : MS} {x x1 x' : VS} {PS PS' : Nat → PT} {dn : Nat → Nat}
theorem flu_pl (h : ptR m x PS dn) {q : Nat} (hq : q < m.points) : mapT m.points m.isM1 m.flP m.places q = if m.places q = -1 then nI m.parcelNumber else m.places q := by
  rw [mapT_v hq]
  by_cases e : m.places q = -1
  · rw [if_pos (show m.isM1 q = true from decide_eq_true e), if_pos e]
    exact if_pos (hd_seen h hq (decide_eq_true e))
  · rw [if_neg (show ¬ m.isM1 q = true from fun z => e (of_decide_eq_true z)), if_neg e]
theorem flu_pt {O : Nat → Nat} {T V : Nat → Int64} (h : ptR m x PS dn) (hz : 0 < x.hsize) (hu : ∀ q, q < m.points → m.hdd q = true → cv1 x.nsO x.nsF x.nsT x.nsc (m.pointSeries q) (m.pointTimes q) = none) (hpn : m.parcelNumber < 2 ^ 29) (hx : x'.npc = x.npc + 1 ∧ x'.nhor = x.nhor ∧ x'.nsO = x.nsO ∧ x'.nsF = x.nsF ∧ x'.nsT = x.nsT ∧ x'.nsc = x.nsc ∧ x'.hsize = 0) (l1 : laid x.hO x.hsize x.hsize x.hO O) (l2 : laid x.hO x.hsize x.hsize x.hT T) (l3 : laid x.hO x.hsize x.hsize x.hV V) : ptR m.fluS x' (va_up PS x.npc (mkP x.hsize O T V)) dn := by
  have hh : decide (0 < m.heads) = true := decide_eq_true (by rw [heads_eq h]; exact hz)
  have p : ptR ((m.fl1 (m.manyN + m.catN + 1)).fl2 m.manyN) x' (va_up PS x.npc (mkP x.hsize O T V)) dn := ptR_pack h hu ⟨rfl, rfl, rfl, rfl, rfl, rfl, rfl, rfl, rfl⟩ ⟨fun q hq => flu_pl h hq, rfl, rfl, rfl, rfl⟩ hpn hx l1 l2 l3 (many_eq h hz l1 l2 l3).symm
  unfold MS.fluS
  rw [hh]
  exact ptR_tidy p ⟨rfl, rfl, rfl, rfl, rfl⟩ ⟨rfl, rfl, rfl, rfl, rfl, rfl, rfl, rfl, rfl⟩ ⟨rfl, rfl, rfl, rfl, rfl, rfl⟩ ⟨rfl, rfl, rfl, rfl⟩
theorem flu_pt0 (h : ptR m x PS dn) (hz : x.hsize = 0) (h3 : vP x x') (h4 : vH x x') : ptR m.fluS x' PS dn := by
  have h0 : m.heads = 0 := by rw [heads_eq h, hz]
  have hh : decide (0 < m.heads) = false := decide_eq_false (by omega)
  have hp : mapT m.points m.isM1 m.flP m.places = m.places := by
    funext q
    rcases Nat.lt_or_ge q m.points with hq | hq
    · rw [flu_pl h hq]
      by_cases e : m.places q = -1
      · exact absurd (show (decide (m.places q = -1) && m.seen q) = true from (by rw [decide_eq_true e, hd_seen h hq (decide_eq_true e)]; rfl)) (by rw [cnt_z (f := fun q => decide (m.places q = -1) && m.seen q) h0 hq]; decide)
      · rw [if_neg e]
    · exact mapT_at _ _ _ hq
  have p : ptR (m.fl1 (m.manyN + m.catN + 1)) x' PS dn := ptR_same h ⟨rfl, rfl, rfl, rfl, rfl⟩ ⟨rfl, rfl, rfl, rfl, hp, rfl, rfl, rfl, rfl⟩ h3 h4
  unfold MS.fluS
  rw [hh]
  exact ptR_tidy p ⟨rfl, rfl, rfl, rfl, rfl⟩ ⟨rfl, rfl, rfl, rfl, rfl, rfl, rfl, rfl, rfl⟩ ⟨rfl, rfl, rfl, rfl, rfl, rfl⟩ ⟨rfl, rfl, rfl, rfl⟩
theorem cms_pl (d : Nat) {q : Nat} (hq : q < m.points) : mapT m.points (m.is12 d) m.flP m.places q = if (m.inpc d q || m.inpc (d + 1) q) = true then (if m.seen q = true then nI m.parcelNumber else -2) else m.places q := mapT_v hq
theorem rmd_1 {f : Nat → Nat} {d v n j : Nat} (hj : j < n - 1) : rmT (d + 1) (va_up f d v) (n - 1) j = if j = d then v else if j < d then f j else f (j + 1) := by
  unfold rmT
  by_cases e : j = d
  · subst e
    rw [if_neg (by omega), if_pos rfl]
    exact if_pos rfl
  · rw [if_neg e]
    by_cases g : j < d
    · rw [if_neg (by omega), if_pos g]
      exact if_neg e
    · rw [if_pos (by omega), if_neg g]
      exact if_neg (by omega)
theorem rmd_2 {f : Nat → Nat} {d v n j : Nat} (hj : j < n - 2) : rmT d (rmT (d + 1) (va_up f d v) (n - 1)) (n - 1 - 1) j = if j < d then f j else f (j + 2) := by
  by_cases g : j < d
  · rw [if_pos g]
    show (if d ≤ j ∧ j < n - 1 - 1 then _ else rmT (d + 1) (va_up f d v) (n - 1) j) = f j
    rw [if_neg (by omega), rmd_1 (by omega), if_neg (by omega), if_pos g]
  · rw [if_neg g]
    show (if d ≤ j ∧ j < n - 1 - 1 then rmT (d + 1) (va_up f d v) (n - 1) (j + 1) else _) = f (j + 2)
    rw [if_pos (by omega), rmd_1 (by omega), if_neg (by omega), if_neg (by omega)]
variable {d : Nat} {go O : Nat → Nat} {gt gv T V : Nat → Int64}
theorem cms_pt (h : ptR m x PS dn) (hd : d + 2 ≤ x.npc) (h64 : x.nsc ≤ 64) (hpn : m.parcelNumber < 2 ^ 29) (hn : x'.npc = x.npc - 1) (hx : x'.nhor = x.nhor ∧ x'.hsize = x.hsize ∧ x'.hO = x.hO ∧ x'.hT = x.hT ∧ x'.hV = x.hV)
    (hx1 : (x1.nsO = x.nsO ∧ x1.nsF = x.nsF ∧ x1.nsT = x.nsT ∧ x1.nsc = x.nsc) ∧ x1.npc = x'.npc) (hsc : x'.nsO = tdT (x1.esC PS') x.nsO x.nsc ∧ x'.nsF = tdT (x1.esC PS') x.nsF x.nsc ∧ x'.nsT = tdT (x1.esC PS') x.nsT x.nsc ∧ x'.nsc = cnt x.nsc (x1.esC PS')) (hPS : ∀ j, j < x'.npc → PS' j = if j = d then mkP (cnt (PS d).n (x.sePc (PS d)) + cnt (PS (d + 1)).n (x.sePc (PS (d + 1)))) O T V else if j < d then PS j else PS (j + 1))
    (ha : gat2 (x.sePc (PS d)) (x.sePc (PS (d + 1))) (PS d) (PS (d + 1)) go gt gv) (l1 : laid go (cnt (PS d).n (x.sePc (PS d)) + cnt (PS (d + 1)).n (x.sePc (PS (d + 1)))) (cnt (PS d).n (x.sePc (PS d)) + cnt (PS (d + 1)).n (x.sePc (PS (d + 1)))) go O) (l2 : laid go (cnt (PS d).n (x.sePc (PS d)) + cnt (PS (d + 1)).n (x.sePc (PS (d + 1)))) (cnt (PS d).n (x.sePc (PS d)) + cnt (PS (d + 1)).n (x.sePc (PS (d + 1)))) gt T) (l3 : laid go (cnt (PS d).n (x.sePc (PS d)) + cnt (PS (d + 1)).n (x.sePc (PS (d + 1)))) (cnt (PS d).n (x.sePc (PS d)) + cnt (PS (d + 1)).n (x.sePc (PS (d + 1)))) gv V) (hp : 0 < cnt (PS d).n (x.sePc (PS d)) + cnt (PS (d + 1)).n (x.sePc (PS (d + 1)))) : ptR (m.cmS d) x' PS' (tdT (x1.esC PS') dn x.nsc) := by
  have en := cmN_eq h hd ha l1 l2 l3
  have hh : decide (m.cmN d = 0) = false := decide_eq_false (by rw [en]; exact Nat.ne_of_gt (bl_p O T V hp))
  have pc : m.parcelCount = x.npc := h.1.2.1
  have p : ptR (((m.cm1 d).cm2 d (m.cmN d)).rmS (d + 1)) x' PS' (tdT (x1.esC PS') dn x.nsc) := ptR_cmp h hd h64 hpn ⟨rfl, rfl, rfl, rfl, rfl, rfl, rfl, rfl, rfl, (by rw [hn, ← pc]; rfl)⟩ (fun q hq => cms_pl d hq)
    (fun j hj => rmd_1 (show j < m.parcelCount - 1 by omega)) (fun j hj => rmd_1 (show j < m.parcelCount - 1 by omega)) rfl hn hx hx1 hsc hPS ha l1 l2 l3 en.symm
  unfold MS.cmS
  rw [hh]
  exact ptR_tidy p ⟨rfl, rfl, rfl, rfl, rfl⟩ ⟨rfl, rfl, rfl, rfl, rfl, rfl, rfl, rfl, rfl⟩ ⟨rfl, rfl, rfl, rfl, rfl, rfl⟩ ⟨rfl, rfl, rfl, rfl⟩
theorem cms_pt0 (h : ptR m x PS dn) (hd : d + 2 ≤ x.npc) (h64 : x.nsc ≤ 64) (hpn : m.parcelNumber < 2 ^ 29) (hn : x'.npc = x.npc - 2) (hx : x'.nhor = x.nhor ∧ x'.hsize = x.hsize ∧ x'.hO = x.hO ∧ x'.hT = x.hT ∧ x'.hV = x.hV)
    (hx1 : (x1.nsO = x.nsO ∧ x1.nsF = x.nsF ∧ x1.nsT = x.nsT ∧ x1.nsc = x.nsc) ∧ x1.npc = x'.npc) (hsc : x'.nsO = tdT (x1.esC PS') x.nsO x.nsc ∧ x'.nsF = tdT (x1.esC PS') x.nsF x.nsc ∧ x'.nsT = tdT (x1.esC PS') x.nsT x.nsc ∧ x'.nsc = cnt x.nsc (x1.esC PS')) (hPS : ∀ j, j < x'.npc → PS' j = if j < d then PS j else PS (j + 2)) (hz : cnt (PS d).n (x.sePc (PS d)) + cnt (PS (d + 1)).n (x.sePc (PS (d + 1))) = 0) : ptR (m.cmS d) x' PS' (tdT (x1.esC PS') dn x.nsc) := by
  have hh : decide (m.cmN d = 0) = true := decide_eq_true (cmN_0 h hd hz)
  have pc : m.parcelCount = x.npc := h.1.2.1
  have p : ptR ((((m.cm1 d).cm2 d (m.cmN d)).rmS (d + 1)).rmS d) x' PS' (tdT (x1.esC PS') dn x.nsc) := ptR_cm0 h hd h64 hpn ⟨rfl, rfl, rfl, rfl, rfl, rfl, rfl, rfl, rfl, (by rw [hn, ← pc]; rfl)⟩ (fun q hq => cms_pl d hq)
    (fun j hj => rmd_2 (show j < m.parcelCount - 2 by omega)) (fun j hj => rmd_2 (show j < m.parcelCount - 2 by omega)) rfl hn hx hx1 hsc hPS hz
  unfold MS.cmS
  rw [hh]
  exact ptR_tidy p ⟨rfl, rfl, rfl, rfl, rfl⟩ ⟨rfl, rfl, rfl, rfl, rfl, rfl, rfl, rfl, rfl⟩ ⟨rfl, rfl, rfl, rfl, rfl, rfl⟩ ⟨rfl, rfl, rfl, rfl⟩
end RF
