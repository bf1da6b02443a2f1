/-! Compact of points, retain: over all of the relation. -/
section CS
variable {m : MS} {x y : VS} {PS : Nat → PT} {dn bn : Nat → Nat} {d : Nat} {a : Int64}
theorem sf_1 {α : Type} {f : Nat → α} {v : α} {n j : Nat} (hj : j < n - 1) (hd : d + 2 ≤ n) : sfT (va_up f d v) (d + 1) 1 (n - (d + 2)) j = if j = d then v else if j < d then f j else f (j + 1) := by
  unfold sfT
  by_cases e : j = d
  · subst e
    rw [if_neg (by omega), if_pos rfl]
    exact if_pos rfl
  · rw [if_neg e]
    by_cases g : j < d
    · rw [if_neg (by omega), if_pos g]
      exact if_neg e
    · rw [if_pos (by omega), if_neg g]
      exact if_neg (by omega)
theorem cms_ptN {x1 x' : VS} {PS' : Nat → PT} {go O : Nat → Nat} {gt gv T V : Nat → Int64} {N : Nat} (hN : N = cnt (PS d).n (x.sePc (PS d)) + cnt (PS (d + 1)).n (x.sePc (PS (d + 1)))) (h : ptR m x PS dn) (hd : d + 2 ≤ x.npc) (h64 : x.nsc ≤ 64) (hpn : m.parcelNumber < 2 ^ 29) (hn : x'.npc = x.npc - 1) (hx : x'.nhor = x.nhor ∧ x'.hsize = x.hsize ∧ x'.hO = x.hO ∧ x'.hT = x.hT ∧ x'.hV = x.hV)
    (hx1 : (x1.nsO = x.nsO ∧ x1.nsF = x.nsF ∧ x1.nsT = x.nsT ∧ x1.nsc = x.nsc) ∧ x1.npc = x'.npc) (hsc : x'.nsO = tdT (x1.esC PS') x.nsO x.nsc ∧ x'.nsF = tdT (x1.esC PS') x.nsF x.nsc ∧ x'.nsT = tdT (x1.esC PS') x.nsT x.nsc ∧ x'.nsc = cnt x.nsc (x1.esC PS')) (hPS : ∀ j, j < x'.npc → PS' j = if j = d then mkP N O T V else if j < d then PS j else PS (j + 1))
    (ha : gat2 (x.sePc (PS d)) (x.sePc (PS (d + 1))) (PS d) (PS (d + 1)) go gt gv) (l1 : laid go N N go O) (l2 : laid go N N gt T) (l3 : laid go N N gv V) (hp : 0 < N) : ptR (m.cmS d) x' PS' (tdT (x1.esC PS') dn x.nsc) ∧ m.cmN d = (mkP N O T V).bl := by
  subst hN
  exact ⟨cms_pt h hd h64 hpn hn hx hx1 hsc hPS ha l1 l2 l3 hp, cmN_eq h hd ha l1 l2 l3⟩
/-- compact, points seen -/
theorem cms_co1 {ga2 go2 O : Nat → Nat} {gt2 gv2 T V : Nat → Int64} {nb mp N : Nat} {pl1 : va_W} {Q : Nat → PT} (h : coR m x PS dn bn) (hd : d + 2 ≤ x.npc) (h64 : x.nsc ≤ 64) (hpn : m.parcelNumber < 2 ^ 29) (hN : N = cnt (PS d).n (x.sePc (PS d)) + cnt (PS (d + 1)).n (x.sePc (PS (d + 1)))) (hz : 0 < N) (ha : gat2 (x.sePc (PS d)) (x.sePc (PS (d + 1))) (PS d) (PS (d + 1)) go2 gt2 gv2) (l1 : laid go2 N N go2 O) (l2 : laid go2 N N gt2 T) (l3 : laid go2 N N gv2 V) (hb : (mkP N O T V).bl = nb) (hQ : ∀ j, j < x.npc - 1 → Q j = if j = d then mkP N O T V else if j < d then PS j else PS (j + 1)) : ∃ d', coR (m.cmS d) ((x.cp1 PS d nb mp pl1 ga2 go2 gt2 gv2).kmS Q) Q d' d' := by
  obtain ⟨h', c0⟩ := cms_ptN (x1 := x.cp1 PS d nb mp pl1 ga2 go2 gt2 gv2) (x' := (x.cp1 PS d nb mp pl1 ga2 go2 gt2 gv2).kmS Q) (PS' := Q) hN h.1 hd h64 hpn rfl ⟨rfl, rfl, rfl, rfl, rfl⟩ ⟨⟨rfl, rfl, rfl, rfl⟩, rfl⟩ ⟨rfl, rfl, rfl, rfl⟩ hQ ha l1 l2 l3 hz
  obtain ⟨f1, f2, f3, f4, f5, f6⟩ := cms_f m d
  obtain ⟨s1, s2, -⟩ := sy_eq h.2.2.2.1
  rw [c0, hb] at f3 f4
  exact ⟨_, mn_co h h' (cms_k h.1 hd) (by rw [f6]; exact Int64.lt_irrefl) f1 f2 (cms_b m d) f5 ⟨⟨rfl, rfl, rfl, rfl, rfl, rfl, rfl⟩, rfl, rfl, rfl, rfl, rfl, rfl⟩ ⟨rfl, rfl, rfl, rfl, rfl, rfl, rfl⟩ ⟨rfl, fun k hk => cpy_00 _ _ hk⟩ ⟨rfl, fun j hj => ⟨cpy_00 _ _ hj, cpy_00 _ _ hj, cpy_00 _ _ hj⟩⟩ (by rw [f3, s1]; rfl) (by rw [f4, s2]; rfl) (hd_fl h.1 rfl ⟨rfl, rfl, rfl, rfl⟩) (sc_sub (ke := (x.cp1 PS d nb mp pl1 ga2 go2 gt2 gv2).esC Q) ⟨rfl, rfl, rfl, rfl⟩)⟩
/-- what letting parcels go leaves -/
def rtF (m z : MS) : Prop := ((z.records = m.records ∧ z.kept = m.kept ∧ z.block = m.block ∧ z.used = m.used ∧ z.fresh = m.fresh ∧ z.journal = m.journal) ∧ z.kinds = m.kinds ∧ z.recordSeries = m.recordSeries ∧ z.units = m.units ∧ z.recordBlocks = m.recordBlocks ∧ z.firsts = m.firsts ∧ z.seconds = m.seconds) ∧ (z.baseSeries = m.baseSeries ∧ z.baseLasts = m.baseLasts ∧ z.catalogBlocks = m.catalogBlocks) ∧ z.cutLeft = m.cutLeft ∧ z.written = m.written
theorem rtJ_f (m : MS) (a : Int64) (n : Nat) : ∀ j, rtF m (m.rtJ a n j)
  | 0 => ⟨⟨⟨rfl, rfl, rfl, rfl, rfl, rfl⟩, rfl, rfl, rfl, rfl, rfl, rfl⟩, ⟨rfl, rfl, rfl⟩, rfl, rfl⟩
  | j + 1 => by
    have ih := rtJ_f m a n j
    show rtF m ((m.rtJ a n j).rtK a (n - 1 - j))
    unfold MS.rtK
    generalize allB _ _ = b
    cases b with
    | true => exact ih
    | false => exact ih
theorem rts_co (h : coR m x PS dn bn) (h0 : (-1 : Int64) < a) (hh : x.nhor < a) (h64 : x.nsc ≤ 64) : ∃ d', coR (m.rtS a) (((x.wjS.wb1).mhS PS a).kmS (tdT (mhC PS a) PS x.npc)) (tdT (mhC PS a) PS x.npc) d' d' := by
  rw [wjS_r]
  have h' := rts_pt (x1 := ((VS.wb1 (VS.s_jch (VS.s_jkept (VS.s_writes (VS.s_cutLeft x x.wjC) x.wjW) x.wjK) false)).mhS PS a)) (x' := (((VS.wb1 (VS.s_jch (VS.s_jkept (VS.s_writes (VS.s_cutLeft x x.wjC) x.wjW) x.wjK) false)).mhS PS a).kmS (tdT (mhC PS a) PS x.npc))) (PS' := tdT (mhC PS a) PS x.npc) h.1 h0 h64 rfl (fun k hk e => tdT_get hk e) rfl ⟨rfl, rfl, rfl, rfl⟩ ⟨⟨rfl, rfl, rfl, rfl⟩, rfl⟩ ⟨rfl, rfl, rfl, rfl⟩
  have pc : m.parcelCount = x.npc := h.1.1.2.1
  have es : m.rtS a = (((m.rt1 a).rtJ a x.npc x.npc).tidS).shoS := by unfold MS.rtS; rw [pc]
  obtain ⟨⟨⟨⟨f1, f2, f3, f4, f5, f6⟩, f7, f8, f9, f10, f11, f12⟩, ⟨g1, g2, g3⟩, g4, g5⟩⟩ : rtF (m.rt1 a) ((m.rt1 a).rtJ a x.npc x.npc) ∧ True := ⟨rtJ_f (m.rt1 a) a x.npc x.npc, trivial⟩
  obtain ⟨⟨b1, b2, b3, b4, b5, b6, b7, b8, b9, b10⟩, -, p3⟩ := rjI_all h.1 h0 rfl (Nat.le_refl x.npc)
  obtain ⟨s1, s2, -⟩ := sy_eq h.2.2.2.1
  have hho : m.horizon = x.nhor := h.1.1.2.2.1
  rw [es] at h' ⊢
  refine ⟨_, mn_co h h' (pkFr_td (m1 := (m.rt1 a).rtJ a x.npc x.npc) ⟨rfl, rfl, rfl, rfl, rfl⟩ ⟨b1, b2, b3, b5⟩ (fun q hq e => ?_)) ?_ ⟨⟨f1, f2, f3, f4, f5, f6⟩, f7, f8, f9, f10, f11, f12⟩ ⟨g1, g2, b7, b8, g3⟩ (fun q hq => ?_) rfl ⟨⟨rfl, rfl, rfl, rfl, rfl, rfl, rfl⟩, rfl, rfl, rfl, rfl, rfl, rfl⟩ ⟨rfl, rfl, rfl, rfl, rfl, rfl, rfl⟩ ⟨rfl, fun k hk => cpy_00 _ _ hk⟩ ⟨rfl, fun j hj => ⟨cpy_00 _ _ hj, cpy_00 _ _ hj, cpy_00 _ _ hj⟩⟩ ?_ ?_ (hd_rt (a := a) rfl ⟨rfl, rfl, rfl, rfl⟩) (sc_sub (ke := ((VS.wb1 (VS.s_jch (VS.s_jkept (VS.s_writes (VS.s_cutLeft x x.wjC) x.wjW) x.wjK) false)).mhS PS a).esC (tdT (mhC PS a) PS x.npc)) ⟨rfl, rfl, rfl, rfl⟩)⟩
  · rw [pkd_t] at e ⊢
    rw [p3 q hq] at e
    split at e
    · exact absurd (by decide) e
    · exact e
  · show ¬ ((m.rt1 a).rtJ a x.npc x.npc).horizon < m.horizon
    rw [b9, hho]
    exact Int64.not_lt.mpr (Int64.le_of_lt hh)
  · have hq : q < (((m.rt1 a).rtJ a x.npc x.npc).tidS).points := hq
    show mapT (((m.rt1 a).rtJ a x.npc x.npc).tidS).points (fun _ => true) (((m.rt1 a).rtJ a x.npc x.npc).tidS).hidden _ q = (((m.rt1 a).rtJ a x.npc x.npc).tidS).hidden q
    rw [mapT_v hq, if_pos rfl]
  · show ((m.rt1 a).rtJ a x.npc x.npc).cutLeft = cutF x.wjC
    rw [g4, ← s1]; rfl
  · show ((m.rt1 a).rtJ a x.npc x.npc).written = x.wjW + 1
    rw [g5, ← s2]; rfl
end CS
