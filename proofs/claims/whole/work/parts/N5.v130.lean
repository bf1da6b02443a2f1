/-! Compact and retain over all of the relation. -/
section CR
variable {m m1 m' : MS} {x x1 y : VS} {PS PS' : Nat → PT} {dn bn dn' : Nat → Nat} {d : Nat}
theorem pkFr_td (hm : m'.points = cnt m1.points m1.stay ∧ m'.pointSeries = tdT m1.stay m1.pointSeries m1.points ∧ m'.pointTimes = tdT m1.stay m1.pointTimes m1.points ∧ m'.places = tdT m1.stay m1.places m1.points ∧ m'.hidden = tdT m1.stay m1.hidden m1.points) (h0 : m1.points = m.points ∧ m1.pointSeries = m.pointSeries ∧ m1.pointTimes = m.pointTimes ∧ m1.hidden = m.hidden) (hp : ∀ q, q < m.points → m1.pkd q = true → m.pkd q = true) : pkFr m m' := by
  obtain ⟨a1, a2, a3, a4, a5⟩ := hm
  obtain ⟨b1, b2, b3, b4⟩ := h0
  intro i hi e
  rw [a1] at hi
  obtain ⟨q, q1, q2, rfl⟩ := cnt_at hi
  have e2 : m1.pkd q = true := by
    unfold MS.pkd at e ⊢
    rw [a4, tdT_get q1 q2] at e
    exact e
  have q3 := q1
  rw [b1] at q3
  exact ⟨q, q3, hp q q3 e2, by rw [a2, tdT_get q1 q2, b2], by rw [a3, tdT_get q1 q2, b3], by rw [a5, tdT_get q1 q2, b4]⟩
theorem sc_sub {ke : Nat → Bool} (hsc : y.nsO = tdT ke x.nsO x.nsc ∧ y.nsF = tdT ke x.nsF x.nsc ∧ y.nsT = tdT ke x.nsT x.nsc ∧ y.nsc = cnt x.nsc ke) : ∀ c, c ∈ scL y → c ∈ scL x := by
  obtain ⟨a1, a2, a3, a4⟩ := hsc
  intro c hc
  unfold scL at hc ⊢
  rw [a1, a2, a3, a4, ← td3, lsF_td] at hc
  unfold lsF
  obtain ⟨i, i1, i2⟩ := List.mem_map.mp hc
  exact List.mem_map.mpr ⟨i, (List.mem_filter.mp i1).1, i2⟩
theorem hd_fl (h : ptR m x PS dn) (hn : y.nhor = x.nhor) (hh : y.hsize = x.hsize ∧ y.hO = x.hO ∧ y.hT = x.hT ∧ y.hV = x.hV) : hdL y = (hdL x).filter (fun p => !decide (p.2.1 < y.nhor)) := by
  obtain ⟨a1, a2, a3, a4⟩ := hh
  have e : hdL y = hdL x := by unfold hdL; rw [a1, a2, a3, a4]
  rw [e, hn]
  symm
  refine List.filter_eq_self.mpr (fun p hp => ?_)
  unfold hdL lsF at hp
  obtain ⟨i, i1, i2⟩ := List.mem_map.mp hp
  have i3 := List.mem_range.mp i1
  rw [h.1.1.1] at i3
  obtain ⟨q, q1, q2, q3⟩ := cnt_at i3
  have t := (h.2.2.2.2.1.1 q q1 q2).1
  rw [← i2, ← q3]
  show (!decide (x.hT (cnt q m.hdd) < x.nhor)) = true
  rw [(h.1.1.2 q q1 q2).2.1, ← h.1.2.2.1, decide_eq_false t]
  rfl
theorem hd_rt {a : Int64} (hn : y.nhor = a) (hh : y.hsize = cnt x.hsize (x.hAb a) ∧ y.hO = tdT (x.hAb a) x.hO x.hsize ∧ y.hT = tdT (x.hAb a) x.hT x.hsize ∧ y.hV = tdT (x.hAb a) x.hV x.hsize) : hdL y = (hdL x).filter (fun p => !decide (p.2.1 < y.nhor)) := by
  obtain ⟨a1, a2, a3, a4⟩ := hh
  unfold hdL
  rw [a1, a2, a3, a4, ← td3, hn]
  exact lsF_fl (fun i _ => rfl)
theorem cms_f (m : MS) (d : Nat) : (((m.cmS d).records = m.records ∧ (m.cmS d).kept = m.records ∧ (m.cmS d).block = m.block ∧ (m.cmS d).used = m.used ∧ (m.cmS d).fresh = false ∧ (m.cmS d).journal = m.journal) ∧ (m.cmS d).kinds = m.kinds ∧ (m.cmS d).recordSeries = m.recordSeries ∧ (m.cmS d).units = m.units ∧ (m.cmS d).recordBlocks = m.recordBlocks ∧ (m.cmS d).firsts = m.firsts ∧ (m.cmS d).seconds = m.seconds) ∧ ((m.cmS d).baseSeries = m.baseSeries ∧ (m.cmS d).baseLasts = m.baseLasts ∧ (m.cmS d).seriesCount = m.seriesCount ∧ (m.cmS d).lasts = m.lasts ∧ (m.cmS d).catalogBlocks = m.catalogBlocks) ∧ ((m.cmS d).cutLeft = cutN m.syCut (m.cmN d + 1) ∧ (m.cmS d).written = m.syWr + (m.cmN d + 1) ∧ (m.cmS d).baseHorizon = (m.cmS d).horizon ∧ (m.cmS d).horizon = m.horizon) := by
  unfold MS.cmS
  generalize decide (m.cmN d = 0) = b
  cases b with
  | true => exact ⟨⟨⟨rfl, rfl, rfl, rfl, rfl, rfl⟩, rfl, rfl, rfl, rfl, rfl, rfl⟩, ⟨rfl, rfl, rfl, rfl, rfl⟩, rfl, rfl, rfl, rfl⟩
  | false => exact ⟨⟨⟨rfl, rfl, rfl, rfl, rfl, rfl⟩, rfl, rfl, rfl, rfl, rfl, rfl⟩, ⟨rfl, rfl, rfl, rfl, rfl⟩, rfl, rfl, rfl, rfl⟩
theorem cms_b (m : MS) (d : Nat) : ∀ q, q < (m.cmS d).points → (m.cmS d).baseHidden q = (m.cmS d).hidden q := by
  intro q hq
  show mapT (m.cmS d).points (fun _ => true) (m.cmS d).hidden _ q = (m.cmS d).hidden q
  rw [mapT_v hq, if_pos rfl]
theorem cms_k (h : ptR m x PS dn) (hd : d + 2 ≤ x.npc) : pkFr m (m.cmS d) := by
  have pk : ∀ q, q < m.points → (m.cm1 d).pkd q = true → m.pkd q = true := fun q hq e => by
    by_cases g : (m.inpc d q || m.inpc (d + 1) q) = true
    · rw [Bool.or_eq_true] at g
      rcases g with g | g
      · exact (inP_pk h (by omega) g).1
      · exact (inP_pk h (by omega) g).1
    · unfold MS.pkd at e ⊢
      rw [show (m.cm1 d).places q = m.places q from (cms_pl d hq).trans (if_neg g)] at e
      exact e
  unfold MS.cmS
  generalize decide (m.cmN d = 0) = b
  cases b with
  | true => exact pkFr_td (m1 := (((m.cm1 d).cm2 d (m.cmN d)).rmS (d + 1)).rmS d) ⟨rfl, rfl, rfl, rfl, rfl⟩ ⟨rfl, rfl, rfl, rfl⟩ pk
  | false => exact pkFr_td (m1 := ((m.cm1 d).cm2 d (m.cmN d)).rmS (d + 1)) ⟨rfl, rfl, rfl, rfl, rfl⟩ ⟨rfl, rfl, rfl, rfl⟩ pk
/-- compact, nothing seen -/
theorem cms_co0 {ga2 go2 : Nat → Nat} {gt2 gv2 : Nat → Int64} (h : coR m x PS dn bn) (hd : d + 2 ≤ x.npc) (h64 : x.nsc ≤ 64) (hpn : m.parcelNumber < 2 ^ 29) (hz : cnt (PS d).n (x.sePc (PS d)) + cnt (PS (d + 1)).n (x.sePc (PS (d + 1))) = 0) : ∃ d', coR (m.cmS d) ((x.cp0 PS d ga2 go2 gt2 gv2).kmS (sfT PS d 2 (x.npc - (d + 2)))) (sfT PS d 2 (x.npc - (d + 2))) d' d' := by
  have h' : ptR (m.cmS d) ((x.cp0 PS d ga2 go2 gt2 gv2).kmS (sfT PS d 2 (x.npc - (d + 2)))) (sfT PS d 2 (x.npc - (d + 2))) _ := cms_pt0 (x1 := x.cp0 PS d ga2 go2 gt2 gv2) h.1 hd h64 hpn rfl ⟨rfl, rfl, rfl, rfl, rfl⟩ ⟨⟨rfl, rfl, rfl, rfl⟩, rfl⟩ ⟨rfl, rfl, rfl, rfl⟩ (fun j hj => by
    have hj : j < x.npc - 2 := hj
    unfold sfT
    by_cases g : j < d
    · rw [if_neg (by omega), if_pos g]
    · rw [if_pos (by omega), if_neg g]) hz
  obtain ⟨f1, f2, f3, f4, f5, f6⟩ := cms_f m d
  obtain ⟨s1, s2, -⟩ := sy_eq h.2.2.2.1
  have c0 := cmN_0 h.1 hd hz
  rw [c0] at f3 f4
  exact ⟨_, mn_co h h' (cms_k h.1 hd) (by rw [f6]; exact Int64.lt_irrefl) f1 f2 (cms_b m d) f5 ⟨⟨rfl, rfl, rfl, rfl, rfl, rfl, rfl⟩, rfl, rfl, rfl, rfl, rfl, rfl⟩ ⟨rfl, rfl, rfl, rfl, rfl, rfl, rfl⟩ ⟨rfl, fun k hk => cpy_00 _ _ hk⟩ ⟨rfl, fun j hj => ⟨cpy_00 _ _ hj, cpy_00 _ _ hj, cpy_00 _ _ hj⟩⟩ (by rw [f3, s1]; rfl) (by rw [f4, s2]; rfl) (hd_fl h.1 rfl ⟨rfl, rfl, rfl, rfl⟩) (sc_sub (ke := (x.cp0 PS d ga2 go2 gt2 gv2).esC (sfT PS d 2 (x.npc - (d + 2)))) ⟨rfl, rfl, rfl, rfl⟩)⟩
end CR
