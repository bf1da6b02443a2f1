/-! What both sides answer about points. -/
section AQ
variable {se : Nat → Nat} {ti va : Nat → Int64} {c : Nat → Bool} {N n : Nat} {o : Nat → Nat} {t v : Nat → Int64}
theorem ar_sum : ∀ W, sumN W (fun w => cnt N (arS se c w)) = cnt N (arL se c W)
  | 0 => arL_0.symm
  | W + 1 => by
    show sumN W _ + cnt N (arS se c W) = _
    rw [ar_sum W, arL_s]
theorem ch_in (h : arr se ti va c N n o t v) {w : Nat} : ∀ {j : Nat}, 0 < j → j ≤ cnt N (arS se c w) → cnt (cnt N (arL se c w) + j) (chB o) = cnt (cnt N (arL se c w)) (chB o) + 1
  | 0, h0, _ => absurd h0 (Nat.lt_irrefl 0)
  | 1, _, hj => by
    obtain ⟨q, -, -, -, a, -⟩ := arr_at h (w := w) (j := 0) (by omega)
    rw [Nat.add_zero] at a
    rw [cnt_t]
    unfold chB
    rcases Nat.eq_zero_or_pos (cnt N (arL se c w)) with z | z
    · rw [decide_eq_true z]; rfl
    · have := arr_lt h (w := w) (i := cnt N (arL se c w) - 1) (by omega)
      rw [decide_eq_false (show ¬ o (cnt N (arL se c w)) = o (cnt N (arL se c w) - 1) by omega)]
      simp
  | j + 2, _, hj => by
    have ih := ch_in h (w := w) (j := j + 1) (by omega) (by omega)
    obtain ⟨q, -, -, -, a, -⟩ := arr_at h (w := w) (j := j + 1) (by omega)
    obtain ⟨q2, -, -, -, b, -⟩ := arr_at h (w := w) (j := j) (by omega)
    rw [show cnt N (arL se c w) + (j + 2) = cnt N (arL se c w) + (j + 1) + 1 by omega, cnt_f, ih]
    unfold chB
    rw [decide_eq_false (show ¬ cnt N (arL se c w) + (j + 1) = 0 by omega), show cnt N (arL se c w) + (j + 1) - 1 = cnt N (arL se c w) + j by omega, a, b, decide_eq_true rfl]
    rfl
theorem ch_all (h : arr se ti va c N n o t v) : ∀ W, cnt W (fun w => decide (0 < cnt N (arS se c w))) = cnt (cnt N (arL se c W)) (chB o)
  | 0 => by rw [arL_0]; rfl
  | W + 1 => by
    have ih := ch_all h W
    rw [arL_s]
    rcases Nat.eq_zero_or_pos (cnt N (arS se c W)) with e | e
    · rw [cnt_f (decide_eq_false (by omega)), e, Nat.add_zero]
      exact ih
    · rw [cnt_t (decide_eq_true e), ch_in h e (Nat.le_refl _), ih]
end AQ
section AN
variable {m : MS} {x : VS} {PS : Nat → PT} {dn : Nat → Nat}
theorem heads_eq (h : ptR m x PS dn) : m.heads = x.hsize := by
  rw [h.1.1.1]
  refine cnt_ext (fun q hq => ?_)
  show (m.hdd q && m.seen q) = m.hdd q
  cases e : m.hdd q with
  | false => rfl
  | true => rw [hd_seen h hq e]; rfl
theorem si_eq (h : ptR m x PS dn) {k q : Nat} (hk : k < x.npc) (hq : q < m.points) (hc : m.inpc k q = true) : x.siPc (PS k) 1099511627775 (arP m.pointSeries (m.inpc k) m.points q) = m.seen q := by
  unfold VS.siPc
  rw [see_eq h hk hq hc, ((h.1.2.2.2 k hk).1.2 q hq hc).2.1, decide_eq_false (h.2.2.2.2.2 q hq).2]
  rfl
theorem all_seen (h : ptR m x PS dn) : cnt m.points m.seen = sumN x.npc (x.sbN PS (1099511627776 - 1)) + x.hsize := by
  have a := seen_sum h (fun _ => true)
  have b : cnt m.points (fun q => m.seen q && true) = cnt m.points m.seen := cnt_ext (fun q _ => Bool.and_true _)
  have d : cnt m.points (fun q => m.hdd q && true) = x.hsize := by rw [h.1.1.1]; exact cnt_ext (fun q _ => Bool.and_true _)
  rw [b, d] at a
  rw [a, pk_sum h]
  congr 1
  refine sumN_ext (fun k hk => ?_)
  exact (pc_cnt h hk (F := x.siPc (PS k) (1099511627776 - 1)) (fun q hq hc => by rw [Bool.and_true]; exact si_eq h hk hq hc)).symm
/-- a parcel told -/
theorem inP_e (m : MS) (k w q : Nat) : m.inP (m.parcels k) w q = arS m.pointSeries (m.inpc k) w q := Bool.and_comm _ _
theorem pc_0 (h : ptR m x PS dn) {k : Nat} (hk : k < x.npc) : sumN m.seriesCount (fun z => cnt m.points (m.inP (m.parcels k) z)) = (PS k).n := by
  have e : (fun z => cnt m.points (m.inP (m.parcels k) z)) = fun z => cnt m.points (arS m.pointSeries (m.inpc k) z) := by
    funext z
    exact cnt_ext (fun q _ => inP_e m k z q)
  rw [e, ar_sum, arL_all (fun q hq hc => in_se h hk hq hc)]
  exact (h.1.2.2.2 k hk).1.1.symm
theorem pc_1 (h : ptR m x PS dn) {k : Nat} (hk : k < x.npc) : sumN m.seriesCount (fun z => cnt m.points (fun y => m.inP (m.parcels k) z y && m.seen y)) = cnt (PS k).n (x.siPc (PS k) 1099511627775) := by
  have e : (fun z => cnt m.points (fun y => m.inP (m.parcels k) z y && m.seen y)) = fun z => cnt m.points (arS m.pointSeries (fun y => m.inpc k y && m.seen y) z) := by
    funext z
    refine cnt_ext (fun q _ => ?_)
    rw [inP_e]
    show ((m.inpc k q && decide (m.pointSeries q = z)) && m.seen q) = ((m.inpc k q && m.seen q) && decide (m.pointSeries q = z))
    cases m.inpc k q <;> cases m.seen q <;> simp
  rw [e, ar_sum, arL_all (fun q hq hc => in_se h hk hq (by rw [Bool.and_eq_true] at hc; exact hc.1))]
  exact (pc_cnt h hk (fun q hq hc => si_eq h hk hq hc)).symm
theorem pc_2 (h : ptR m x PS dn) {k : Nat} (hk : k < x.npc) : cnt m.seriesCount (fun z => decide (0 < cnt m.points (m.inP (m.parcels k) z))) = (PS k).ch := by
  obtain ⟨a1, a2, -⟩ := h.1.2.2.2 k hk
  have e : (fun z => decide (0 < cnt m.points (m.inP (m.parcels k) z))) = fun z => decide (0 < cnt m.points (arS m.pointSeries (m.inpc k) z)) := by
    funext z
    rw [cnt_ext (f := m.inP (m.parcels k) z) (fun q _ => inP_e m k z q)]
  rw [e, ch_all a1, arL_all (fun q hq hc => in_se h hk hq hc), ← a1.1]
  rw [a2]
  rfl
theorem pc_3 (h : ptR m x PS dn) {k : Nat} (hk : k < x.npc) : m.bA (nI (m.parcels k)) (nI (m.parcels k)) false m.seriesCount = (PS k).bi := by
  obtain ⟨a1, a2, -⟩ := h.1.2.2.2 k hk
  rw [bt_all (n := (PS k).n) a1 (fun w q => by
    unfold MS.sel arS MS.inpc
    rw [Bool.or_self, Bool.not_false, Bool.true_or, Bool.and_true]
    exact Bool.and_comm _ _) (fun q hq hc => in_se h hk hq hc), ← a2]
theorem fr_eq (h : ptR m x PS dn) (h1 : m.blocks = x.diskBlocks) (h2 : m.journal = x.jlimit) (h3 : m.catalogBlocks = x.ncat) : m.freeN = x.fr PS := by
  have e : sumN m.parcelCount m.parcelBlocks = sumN x.npc (blN PS) := by
    rw [h.1.2.1]
    exact sumN_ext (fun k hk => (h.1.2.2.2 k hk).2.2)
  unfold MS.freeN
  rw [e, h1, h2, h3]
  show _ = x.diskBlocks - 2 - x.jlimit - (x.ncat + sumN x.npc (blN PS))
  omega
/-- points within -/
theorem btw_1 (h : ptR m x PS dn) (w : Nat) (a b : Int64) : cnt m.points (m.btw w a b true) = sumN x.npc (x.soN PS w a b) := by
  have e : cnt m.points (m.btw w a b true) = cnt m.points (fun q => m.pkd q && m.bt w a b q) := cnt_ext (fun q _ => by
    show (m.bt w a b q && (!true || !decide (m.places q < 0))) = (!decide (m.places q < 0) && m.bt w a b q)
    rw [Bool.not_true, Bool.false_or]
    exact Bool.and_comm _ _)
  rw [e, pk_sum h]
  refine sumN_ext (fun k hk => (pc_cnt h hk (F := x.soPc (PS k) w a b) (fun q hq hc => ?_)).symm)
  obtain ⟨a1, a2, -⟩ := (h.1.2.2.2 k hk).1.2 q hq hc
  unfold VS.soPc MS.bt
  rw [see_eq h hk hq hc, a1, a2]
  cases decide (m.pointSeries q = w) <;> cases m.seen q <;> cases decide (m.pointTimes q < a) <;> simp
theorem btw_0 (h : ptR m x PS dn) (w : Nat) (a b : Int64) : cnt m.points (m.btw w a b false) = sumN x.npc (x.soN PS w a b) + cnt x.hsize (x.hW w a b) := by
  rw [← btw_1 h w a b]
  have e : cnt x.hsize (x.hW w a b) = cnt m.points (fun q => m.hdd q && m.bt w a b q) := hd_cnt h (fun q hq hc => by
    obtain ⟨a1, a2, -⟩ := h.1.1.2 q hq hc
    unfold VS.hW MS.bt
    rw [a1, a2, hd_seen h hq hc]
    rfl)
  rw [e]
  refine cnt_add (fun q hq => ?_)
  show ((m.bt w a b q && (!false || !decide (m.places q < 0))) = true ↔ (m.bt w a b q && (!true || !decide (m.places q < 0))) = true ∨ (m.hdd q && m.bt w a b q) = true) ∧ ¬ ((m.bt w a b q && (!true || !decide (m.places q < 0))) = true ∧ (m.hdd q && m.bt w a b q) = true)
  rcases h.2.2.1.1 q hq with e2 | e2 | ⟨k, hk, e2⟩
  · have n : m.bt w a b q = false := by
      unfold MS.bt MS.seen
      rw [e2, decide_eq_true (show (-2 : Int32) ≤ -2 by decide)]
      simp
    rw [n]
    simp
  · rw [show m.hdd q = true from decide_eq_true e2, e2]
    simp
  · rw [(inP_pk h hk (decide_eq_true e2)).2.2, show (!decide (m.places q < 0)) = true from (inP_pk h hk (decide_eq_true e2)).1]
    simp
end AN
