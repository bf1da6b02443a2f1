/-! More that never changes; a flush: the sizes. -/
theorem tbK_m {dA : Nat → ClassId} {pl pl1 : va_W} {wi : Nat} {t : TB} {NL : Nat → List Int32} {RS : Nat → List LB} (hs : ∀ c, c ∈ pl → c ∈ pl1) (h : tbK dA pl wi t NL RS) : tbK dA pl1 wi t NL RS :=
  ⟨nmOk_m hs h.1, h.2.1, fun z => rsOk_m hs (h.2.2.1 z), rsAll_m hs h.2.2.2.1, h.2.2.2.2⟩
theorem cnt_1 {f : Nat → Bool} : ∀ {n : Nat}, (∀ j, j < n → f j = true) → cnt n f = n
  | 0, _ => rfl
  | n + 1, h => by rw [cnt_t (h n (Nat.lt_succ_self n)), cnt_1 (fun j hj => h j (Nat.lt_succ_of_lt hj))]
/-- every point lies in a parcel -/
theorem pk_all {m : MS} {x : VS} {PS : Nat → PT} {dn : Nat → Nat} (h : ptR m x PS dn) (hz : x.hsize = 0) (h2 : ∀ q, q < m.points → ¬ m.places q = -2) : cnt m.points m.pkd = m.points := by
  refine cnt_1 (fun q hq => ?_)
  have hc : cnt m.points m.hdd = 0 := h.1.1.1.symm.trans hz
  rcases h.2.2.1.1 q hq with e | e | ⟨k, hk, e⟩
  · exact absurd e (h2 q hq)
  · exact absurd (show m.hdd q = true from decide_eq_true e) (by rw [cnt_z hc hq]; decide)
  · show (!decide (m.places q < 0)) = true
    have h3 := h.2.2.1.2.2.1 k hk
    have h4 := h.2.2.1.2.2.2
    rw [e, decide_eq_false (nI_nn (by omega))]
    rfl
theorem fl_T (m0 : MS) (n : Nat) : (m0.fl3 n).fl4.points = cnt m0.points m0.stay ∧ (m0.fl3 n).fl4.places = tdT m0.stay m0.places m0.points ∧ (m0.fl3 n).fl4.pointSeries = tdT m0.stay m0.pointSeries m0.points ∧ (m0.fl3 n).fl4.deletes = m0.deletes ∧ (m0.fl3 n).fl4.parcelNumber = m0.parcelNumber := ⟨rfl, rfl, rfl, rfl, rfl⟩
theorem fl_F (M : MS) (hs : ∀ q, q < M.points → M.pointSeries q < 256) : M.fluS.points ≤ M.points ∧ (∀ q, q < M.fluS.points → ¬ M.fluS.places q = -2) ∧ (∀ q, q < M.fluS.points → M.fluS.pointSeries q < 256) ∧ M.fluS.deletes = M.deletes ∧ M.fluS.parcelNumber ≤ M.parcelNumber + 1 := by
  have core : ∀ (m0 : MS) (k : Nat), m0.points = M.points → m0.pointSeries = M.pointSeries → m0.deletes = M.deletes → m0.parcelNumber ≤ M.parcelNumber + 1 → ((m0.fl3 k).fl4.points ≤ M.points ∧ (∀ q, q < (m0.fl3 k).fl4.points → ¬ (m0.fl3 k).fl4.places q = -2) ∧ (∀ q, q < (m0.fl3 k).fl4.points → (m0.fl3 k).fl4.pointSeries q < 256) ∧ (m0.fl3 k).fl4.deletes = M.deletes ∧ (m0.fl3 k).fl4.parcelNumber ≤ M.parcelNumber + 1) := by
    intro m0 k e1 e2 e3 e4
    obtain ⟨f1, f2, f3, f4, f5⟩ := fl_T m0 k
    rw [f1, f2, f3, f4, f5]
    refine ⟨by rw [← e1]; exact cnt_le _ _, fun q hq => ?_, fun q hq => ?_, e3, e4⟩
    · obtain ⟨j, hj, c, ej⟩ := cnt_at hq
      rw [← ej, tdT_get hj c]
      have c : (!decide (m0.places j = -2)) = true := c
      intro z
      rw [decide_eq_true z] at c
      cases c
    · obtain ⟨j, hj, c, ej⟩ := cnt_at hq
      rw [← ej, tdT_get hj c, e2]
      exact hs j (by omega)
  unfold MS.fluS
  cases decide (0 < M.heads) with
  | true => exact core ((M.fl1 (M.manyN + M.catN + 1)).fl2 M.manyN) M.catN rfl rfl rfl (Nat.le_refl _)
  | false => exact core (M.fl1 (M.manyN + M.catN + 1)) M.catN rfl rfl rfl (Nat.le_succ _)
section FL
variable {dA : Nat → ClassId} {ad : Nat → Nat} {e0 n : Nat} {x y z : VS} {M : MS} {cs ss cs' ss' : Nat} {PS : Nat → PT} {SS : Nat → List LB} {dn bn : Nat → Nat} {gq : LI} {rq : va_W} {la : Nat → Nat} {gk : LI} {AT : Nat → Nat → Nat} {T : Nat → TB} {pl1 : va_W}
theorem rlA_m (hs : ∀ c, c ∈ x.pl → c ∈ pl1) (h : rlA dA ad e0 M x gq rq la gk AT T) : rlA dA ad e0 M (VS.s_pl x pl1) gq rq la gk AT T := by
  obtain ⟨⟨r1, r2, r3, r4⟩, r5, ⟨r6, r7⟩, ⟨r8, r9⟩, r10⟩ := h
  refine ⟨⟨r1, stL_m hs r2, r3, r4⟩, r5, ⟨fun tb ht => rsAll_m hs (r6 tb ht), r7⟩, ⟨r8, fun ht => ?_⟩, r10⟩
  obtain ⟨NL, RS, u1, u2⟩ := r9 ht
  exact ⟨NL, RS, u1, tbK_m hs u2⟩
theorem rlS_m (hs : ∀ c, c ∈ x.pl → c ∈ pl1) (h : rlS dA SS M x) : rlS dA SS M (VS.s_pl x pl1) := ⟨h.1, h.2.1, knOk_m hs h.2.2.1, h.2.2.2⟩
theorem rlN_m (hs : ∀ c, c ∈ x.pl → c ∈ pl1) (h : rlN dA PS M x n) : rlN dA PS M (VS.s_pl x pl1) n := ⟨⟨h.1.1, h.1.2.1, h.1.2.2.1, psOk_m hs h.1.2.2.2⟩, h.2⟩
/-- more that never changes -/
theorem rl_pl (h : Rl dA ad e0 n x M cs ss) (hn : n + 1 ≤ 512) (hs : ∀ c, c ∈ x.pl → c ∈ pl1) (cd : Int32) (hc : cs' ≤ cs + 100) (hs' : ss' ≤ ss + 5000) : Rl dA ad e0 (n + 1) (VS.s_pl x pl1) (MS.s_cod M cd) cs' ss' := by
  obtain ⟨PS, SS, dn, bn, gq, rq, la, gk, AT, T, a1, a2, a3, a4, a5, a6, a7, a8⟩ := h
  exact ⟨PS, SS, dn, bn, gq, rq, la, gk, AT, T, a1, a2, rlS_m hs a3, rlN_up (rlN_m hs a4), rlA_m hs a5, hn, by show cs' + 17 * x.tapeLength ≤ 2000 + 400 * (n + 1) + 6 * x.jN + 3 * x.hN + 3 * x.gN + x.tpN; omega, by show ss' + 70 * x.tapeLength ≤ 1177800 + 6000 * (n + 1) + 12 * x.jN + 6 * x.hN + 6 * x.gN + 2 * x.tpN + (700 * gk.sz + 2 * sumN gk.sz (fun tb => (T tb).cN) + 4 * x.bN); omega⟩
/-- the power fails as k blocks are written -/
theorem rl_pwk (h : Rl dA ad e0 n x M cs ss) (hn : n + 1 ≤ 512) (hs : ∀ c, c ∈ x.pl → c ∈ pl1) (cd : Int32) (k : Nat) (hk : k ≤ 300) (hc : cs' ≤ cs + 100) (hs' : ss' ≤ ss + 5000) : Rl dA ad e0 (n + 1) (VS.s_pl (x.xiS k) pl1) (MS.s_written (MS.s_cutLeft (MS.s_on (MS.s_cod M cd) false) (-1)) (M.written + k)) cs' ss' := by
  obtain ⟨PS, SS, dn, bn, gq, rq, la, gk, AT, T, a1, ⟨t1, t2, t3, t4, t5, t6⟩, a3, a4, a5, a6, a7, a8⟩ := h
  have b4 := rlN_m hs a4
  obtain ⟨n1, n2, n3, ⟨n4, n5, n6, n7⟩, ⟨n8, n9, n10, n11⟩, n12⟩ := a4
  obtain ⟨b1, -⟩ := b4
  exact ⟨PS, SS, dn, bn, gq, rq, la, gk, AT, T, pw_co a1 cd false false (-1) k, ⟨t1, t2, t3, t4, t5, rfl⟩, rlS_m hs a3, ⟨b1, n2, n3, ⟨by show 16 * x.jsize + x.tapeLength ≤ 36 * (n + 1); omega, by show 16 * x.hsize + x.tapeLength ≤ 36 * (n + 1); omega, by show 16 * (cnt M.points M.pkd + cnt x.jsize (fun r => decide (x.jK r = 1))) + x.tapeLength ≤ 36 * (n + 1); omega, n7⟩, ⟨by show x.writes + k ≤ 300 * (n + 1); omega, by show M.deletes ≤ 1300 * (n + 1); omega, by show M.parcelNumber ≤ n + 1; omega, n11⟩, n12⟩, rlA_m hs a5, hn, by show cs' + 17 * x.tapeLength ≤ 2000 + 400 * (n + 1) + 6 * x.jN + 3 * x.hN + 3 * x.gN + x.tpN; omega, by show ss' + 70 * x.tapeLength ≤ 1177800 + 6000 * (n + 1) + 12 * x.jN + 6 * x.hN + 6 * x.gN + 2 * x.tpN + (700 * gk.sz + 2 * sumN gk.sz (fun tb => (T tb).cN) + 4 * x.bN); omega⟩
theorem flu_T (h : rlT M x ∧ rlS dA SS M x ∧ rlA dA ad e0 M x gq rq la gk AT T) : rlT M.fluS x ∧ rlS dA SS M.fluS x ∧ rlA dA ad e0 M.fluS x gq rq la gk AT T := by
  unfold MS.fluS
  cases decide (0 < M.heads) with
  | true => exact h
  | false => exact h
/-- a flush with no head -/
theorem rl_f0 (a1 : coR M x PS dn bn) (a2 : rlT M x) (a3 : rlS dA SS M x) (a4 : rlN dA PS M x n) (a5 : rlA dA ad e0 M x gq rq la gk AT T) (ar : rlR x gk T n cs ss) (hn : n + 1 ≤ 512) (hz : x.hsize = 0) (hf : (ctG2 SS x.nser).1 ≤ x.fr PS) : Rl dA ad e0 (n + 1) (x.flZ SS) M.fluS (cs + 0 + 0 + 0) (ss + 0 + 0 + 0) := by
  obtain ⟨a6, a7, a8⟩ := ar
  obtain ⟨co', -⟩ := flu_0 a1 a3.1 hz
  obtain ⟨⟨n1, n2, n3, n4⟩, ⟨n5, n6, n7⟩, ⟨n8, n9, n10, n11, n12, n13, n14, n15⟩, ⟨n16, n17, n18, n19⟩, ⟨n20, n21, n22, n23⟩, n24⟩ := a4
  obtain ⟨f1, f2, f3, f4, f5⟩ := fl_F M n23
  have pk := pk_all co'.1 rfl f2
  obtain ⟨k1, k2, k3⟩ := flu_T ⟨a2, a3, a5⟩
  have t11 := a2.2.2.2.2.1
  have hf : (ctG2 SS x.nser).1 ≤ x.diskBlocks - 2 - x.jlimit - (x.ncat + sumN x.npc (blN PS)) := hf
  refine ⟨PS, SS, dn, dn, gq, rq, la, gk, AT, T, co', k1, k2, ⟨⟨n1, n2, n3, n4⟩, ⟨?_, Nat.zero_le _, ?_⟩, ⟨Nat.zero_le _, n9, n10, Nat.zero_le _, n12, n13, n14, n15⟩, ⟨?_, ?_, ?_, ?_⟩, ⟨?_, by omega, by omega, f3⟩, fun q hq => absurd hq (Nat.not_lt_zero q)⟩, k3, hn, ?_, ?_⟩
  · show x.jlimit + 2 + ((ctG2 SS x.nser).1 + sumN x.npc (blN PS)) ≤ x.diskBlocks
    omega
  · show 0 < x.jlimit
    omega
  · show 16 * 0 + x.tapeLength ≤ 36 * (n + 1)
    omega
  · show 16 * 0 + x.tapeLength ≤ 36 * (n + 1)
    omega
  · show 16 * (cnt M.fluS.points M.fluS.pkd + 0) + x.tapeLength ≤ 36 * (n + 1)
    omega
  · show M.fluS.points ≤ cnt M.fluS.points M.fluS.pkd + 0
    omega
  · show x.writes + ((ctG2 SS x.nser).1 + 1) ≤ 300 * (n + 1)
    omega
  · show cs + 0 + 0 + 0 + 17 * x.tapeLength ≤ 2000 + 400 * (n + 1) + 6 * x.jN + 3 * x.hN + 3 * x.gN + x.tpN
    omega
  · show ss + 0 + 0 + 0 + 70 * x.tapeLength ≤ 1177800 + 6000 * (n + 1) + 12 * x.jN + 6 * x.hN + 6 * x.gN + 2 * x.tpN + (700 * gk.sz + 2 * sumN gk.sz (fun tb => (T tb).cN) + 4 * x.bN)
    omega
/-- a flush with heads -/
theorem rl_f1 {O : Nat → Nat} {TT V : Nat → Int64} {nb mp : Nat} (a1 : coR M x PS dn bn) (a2 : rlT M x) (a3 : rlS dA SS M x) (a4 : rlN dA PS M x n) (a5 : rlA dA ad e0 M x gq rq la gk AT T) (ar : rlR x gk T n cs ss) (hn : n + 1 ≤ 512) (hz : 0 < x.hsize) (l1 : laid x.hO x.hsize x.hsize x.hO O) (l2 : laid x.hO x.hsize x.hsize x.hT TT) (l3 : laid x.hO x.hsize x.hsize x.hV V) (hO : ∀ q, O q < 256) (hpc : isPc dA pl1 mp (mkP x.hsize O TT V)) (hs : ∀ c, c ∈ x.pl → c ∈ pl1) (hb : (mkP x.hsize O TT V).bl = nb) (hp : x.npc < 32) (hf : nb + (ctG2 SS x.nser).1 ≤ x.fr PS) : Rl dA ad e0 (n + 1) (x.flS SS nb mp pl1) M.fluS (cs + 5 + 0 + 0) (ss + (8 + (3 * x.hsize + x.nser + 1)) + 0 + 0) := by
  obtain ⟨a6, a7, a8⟩ := ar
  obtain ⟨⟨n1, n2, n3, n4⟩, ⟨n5, n6, n7⟩, ⟨n8, n9, n10, n11, n12, n13, n14, n15⟩, ⟨n16, n17, n18, n19⟩, ⟨n20, n21, n22, n23⟩, n24⟩ := a4
  obtain ⟨co', -⟩ := flu_1 (mp := mp) (pl1 := pl1) a1 a3.1 hz (by omega) l1 l2 l3 hb
  obtain ⟨f1, f2, f3, f4, f5⟩ := fl_F M n23
  have pk := pk_all co'.1 rfl f2
  obtain ⟨k1, k2, k3⟩ := flu_T ⟨a2, a3, a5⟩
  have t11 := a2.2.2.2.2.1
  have hf : nb + (ctG2 SS x.nser).1 ≤ x.diskBlocks - 2 - x.jlimit - (x.ncat + sumN x.npc (blN PS)) := hf
  have esum : sumN (x.npc + 1) (blN (va_up PS x.npc (mkP x.hsize O TT V))) = sumN x.npc (blN PS) + nb := by
    have e1 : sumN x.npc (blN (va_up PS x.npc (mkP x.hsize O TT V))) = sumN x.npc (blN PS) := sumN_ext (fun k hk => by
      show (va_up PS x.npc (mkP x.hsize O TT V) k).bl = (PS k).bl
      rw [va_up_ne _ _ (by omega)])
    have e2 : blN (va_up PS x.npc (mkP x.hsize O TT V)) x.npc = nb := by
      show (va_up PS x.npc (mkP x.hsize O TT V) x.npc).bl = nb
      rw [va_up_self]
      exact hb
    rw [← e1, ← e2]
    rfl
  refine ⟨_, SS, dn, dn, gq, rq, la, gk, AT, T, co', k1, rlS_m (x := x) hs k2, ⟨⟨n1, ?_, n3, psOk_a (psOk_m hs n4) hpc ⟨?_, fun i _ => hO i⟩⟩, ⟨?_, Nat.zero_le _, ?_⟩, ⟨Nat.zero_le _, n9, n10, Nat.zero_le _, n12, n13, n14, n15⟩, ⟨?_, ?_, ?_, ?_⟩, ⟨?_, by omega, by omega, f3⟩, fun q hq => absurd hq (Nat.not_lt_zero q)⟩, rlA_m (x := x) hs k3, hn, ?_, ?_⟩
  · show x.npc + 1 ≤ 32
    omega
  · show x.hsize ≤ 12000
    omega
  · show x.jlimit + 2 + ((ctG2 SS x.nser).1 + sumN (x.npc + 1) (blN (va_up PS x.npc (mkP x.hsize O TT V)))) ≤ x.diskBlocks
    omega
  · show 0 < x.jlimit
    omega
  · show 16 * 0 + x.tapeLength ≤ 36 * (n + 1)
    omega
  · show 16 * 0 + x.tapeLength ≤ 36 * (n + 1)
    omega
  · show 16 * (cnt M.fluS.points M.fluS.pkd + 0) + x.tapeLength ≤ 36 * (n + 1)
    omega
  · show M.fluS.points ≤ cnt M.fluS.points M.fluS.pkd + 0
    omega
  · show x.writes + (nb + (ctG2 SS x.nser).1 + 1) ≤ 300 * (n + 1)
    omega
  · show cs + 5 + 0 + 0 + 17 * x.tapeLength ≤ 2000 + 400 * (n + 1) + 6 * x.jN + 3 * x.hN + 3 * x.gN + x.tpN
    omega
  · show ss + (8 + (3 * x.hsize + x.nser + 1)) + 0 + 0 + 70 * x.tapeLength ≤ 1177800 + 6000 * (n + 1) + 12 * x.jN + 6 * x.hN + 6 * x.gN + 2 * x.tpN + (700 * gk.sz + 2 * sumN gk.sz (fun tb => (T tb).cN) + 4 * x.bN)
    omega
end FL
