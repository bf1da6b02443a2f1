section
/-! More that never changes; a flush: the sizes. -/
theorem tbK_m {dA : Nat → ClassId} {pl pl1 : va_W} {wi : Nat} {t : TB} {NL : Nat → List Int32} {RS : Nat → List LB} (hs : ∀ c, c ∈ pl → c ∈ pl1) (h : tbK dA pl wi t NL RS) : tbK dA pl1 wi t NL RS :=
  ⟨nmOk_m hs h.1, h.2.1, fun z => rsOk_m hs (h.2.2.1 z), rsAll_m hs h.2.2.2.1, h.2.2.2.2⟩
theorem cnt_1 {f : Nat → Bool} : ∀ {n : Nat}, (∀ j, j < n → f j = true) → cnt n f = n
  | 0, _ => rfl
  | n + 1, h => by rw [cnt_t (h n (Nat.lt_succ_self n)), cnt_1 (fun j hj => h j (Nat.lt_succ_of_lt hj))]
/-- every point lies in a parcel -/
theorem pk_all {m : MS} {x : VS} {PS : Nat → PT} {dn : Nat → Nat} (h : ptR m x PS dn) (hz : x.hsize = 0) (h2 : ∀ q, q < m.points → ¬ m.places q = -2) : cnt m.points m.pkd = m.points := by
  refine cnt_1 (fun q hq => ?_)
  have hc : cnt m.points m.hdd = 0 := h.1.1.1.symm.trans hz
  rcases h.2.2.1.1 q hq with e | e | ⟨k, hk, e⟩
  · exact absurd e (h2 q hq)
  · exact absurd (show m.hdd q = true from decide_eq_true e) (by rw [cnt_z hc hq]; decide)
  · show (!decide (m.places q < 0)) = true
    have h3 := h.2.2.1.2.2.1 k hk
    have h4 := h.2.2.1.2.2.2
    rw [e, decide_eq_false (nI_nn (by omega))]
    rfl
theorem fl_T (m0 : MS) (n : Nat) : (m0.fl3 n).fl4.points = cnt m0.points m0.stay ∧ (m0.fl3 n).fl4.places = tdT m0.stay m0.places m0.points ∧ (m0.fl3 n).fl4.pointSeries = tdT m0.stay m0.pointSeries m0.points ∧ (m0.fl3 n).fl4.deletes = m0.deletes ∧ (m0.fl3 n).fl4.parcelNumber = m0.parcelNumber := ⟨rfl, rfl, rfl, rfl, rfl⟩
theorem fl_F (M : MS) (hs : ∀ q, q < M.points → M.pointSeries q < 256) : M.fluS.points ≤ M.points ∧ (∀ q, q < M.fluS.points → ¬ M.fluS.places q = -2) ∧ (∀ q, q < M.fluS.points → M.fluS.pointSeries q < 256) ∧ M.fluS.deletes = M.deletes ∧ M.fluS.parcelNumber ≤ M.parcelNumber + 1 := by
  have core : ∀ (m0 : MS) (k : Nat), m0.points = M.points → m0.pointSeries = M.pointSeries → m0.deletes = M.deletes → m0.parcelNumber ≤ M.parcelNumber + 1 → ((m0.fl3 k).fl4.points ≤ M.points ∧ (∀ q, q < (m0.fl3 k).fl4.points → ¬ (m0.fl3 k).fl4.places q = -2) ∧ (∀ q, q < (m0.fl3 k).fl4.points → (m0.fl3 k).fl4.pointSeries q < 256) ∧ (m0.fl3 k).fl4.deletes = M.deletes ∧ (m0.fl3 k).fl4.parcelNumber ≤ M.parcelNumber + 1) := by
    intro m0 k e1 e2 e3 e4
    obtain ⟨f1, f2, f3, f4, f5⟩ := fl_T m0 k
    rw [f1, f2, f3, f4, f5]
    refine ⟨by rw [← e1]; exact cnt_le _ _, fun q hq => ?_, fun q hq => ?_, e3, e4⟩
    · obtain ⟨j, hj, c, ej⟩ := cnt_at hq
      rw [← ej, tdT_get hj c]
      have c : (!decide (m0.places j = -2)) = true := c
      intro z
      rw [decide_eq_true z] at c
      cases c
    · obtain ⟨j, hj, c, ej⟩ := cnt_at hq
      rw [← ej, tdT_get hj c, e2]
      exact hs j (by omega)
  unfold MS.fluS
  cases decide (0 < M.heads) with
  | true => exact core ((M.fl1 (M.manyN + M.catN + 1)).fl2 M.manyN) M.catN rfl rfl rfl (Nat.le_refl _)
  | false => exact core (M.fl1 (M.manyN + M.catN + 1)) M.catN rfl rfl rfl (Nat.le_succ _)
section FL
variable {dA : Nat → ClassId} {ad : Nat → Nat} {e0 n : Nat} {x y z : VS} {M : MS} {cs ss cs' ss' : Nat} {PS : Nat → PT} {SS : Nat → List LB} {dn bn : Nat → Nat} {gq : LI} {rq : va_W} {la : Nat → Nat} {gk : LI} {AT : Nat → Nat → Nat} {T : Nat → TB} {pl1 : va_W}
theorem rlA_m (hs : ∀ c, c ∈ x.pl → c ∈ pl1) (h : rlA dA ad e0 M x gq rq la gk AT T) : rlA dA ad e0 M (VS.s_pl x pl1) gq rq la gk AT T := by
  obtain ⟨⟨r1, r2, r3, r4⟩, r5, ⟨r6, r7⟩, ⟨r8, r9⟩, r10⟩ := h
  refine ⟨⟨r1, stL_m hs r2, r3, r4⟩, r5, ⟨fun tb ht => rsAll_m hs (r6 tb ht), r7⟩, ⟨r8, fun ht => ?_⟩, r10⟩
  obtain ⟨NL, RS, u1, u2⟩ := r9 ht
  exact ⟨NL, RS, u1, tbK_m hs u2⟩
theorem rlS_m (hs : ∀ c, c ∈ x.pl → c ∈ pl1) (h : rlS dA SS M x) : rlS dA SS M (VS.s_pl x pl1) := ⟨h.1, h.2.1, knOk_m hs h.2.2.1, h.2.2.2⟩
theorem rlN_m (hs : ∀ c, c ∈ x.pl → c ∈ pl1) (h : rlN dA PS M x n) : rlN dA PS M (VS.s_pl x pl1) n := ⟨⟨h.1.1, h.1.2.1, h.1.2.2.1, psOk_m hs h.1.2.2.2⟩, h.2⟩
/-- more that never changes -/
theorem rl_pl (h : Rl dA ad e0 n x M cs ss) (hn : n + 1 ≤ 512) (hs : ∀ c, c ∈ x.pl → c ∈ pl1) (cd : Int32) (hc : cs' ≤ cs + 100) (hs' : ss' ≤ ss + 5000) : Rl dA ad e0 (n + 1) (VS.s_pl x pl1) (MS.s_cod M cd) cs' ss' := by
  obtain ⟨PS, SS, dn, bn, gq, rq, la, gk, AT, T, a1, a2, a3, a4, a5, a6, a7, a8⟩ := h
  exact ⟨PS, SS, dn, bn, gq, rq, la, gk, AT, T, a1, a2, rlS_m hs a3, rlN_up (rlN_m hs a4), rlA_m hs a5, hn, by show cs' + 17 * x.tapeLength ≤ 2000 + 400 * (n + 1) + 6 * x.jN + 3 * x.hN + 3 * x.gN + x.tpN; omega, by show ss' + 70 * x.tapeLength ≤ 1177800 + 6000 * (n + 1) + 12 * x.jN + 6 * x.hN + 6 * x.gN + 2 * x.tpN + (700 * gk.sz + 2 * sumN gk.sz (fun tb => (T tb).cN) + 4 * x.bN); omega⟩
/-- the power fails as k blocks are written -/
theorem rl_pwk (h : Rl dA ad e0 n x M cs ss) (hn : n + 1 ≤ 512) (hs : ∀ c, c ∈ x.pl → c ∈ pl1) (cd : Int32) (k : Nat) (hk : k ≤ 300) (hc : cs' ≤ cs + 100) (hs' : ss' ≤ ss + 5000) : Rl dA ad e0 (n + 1) (VS.s_pl (x.xiS k) pl1) (MS.s_written (MS.s_cutLeft (MS.s_on (MS.s_cod M cd) false) (-1)) (M.written + k)) cs' ss' := by
  obtain ⟨PS, SS, dn, bn, gq, rq, la, gk, AT, T, a1, ⟨t1, t2, t3, t4, t5, t6⟩, a3, a4, a5, a6, a7, a8⟩ := h
  have b4 := rlN_m hs a4
  obtain ⟨n1, n2, n3, ⟨n4, n5, n6, n7⟩, ⟨n8, n9, n10, n11⟩, n12⟩ := a4
  obtain ⟨b1, -⟩ := b4
  exact ⟨PS, SS, dn, bn, gq, rq, la, gk, AT, T, pw_co a1 cd false false (-1) k, ⟨t1, t2, t3, t4, t5, rfl⟩, rlS_m hs a3, ⟨b1, n2, n3, ⟨by show 16 * x.jsize + x.tapeLength ≤ 32 * (n + 1); omega, by show 16 * x.hsize + x.tapeLength ≤ 32 * (n + 1); omega, by show 16 * (cnt M.points M.pkd + cnt x.jsize (fun r => decide (x.jK r = 1))) + x.tapeLength ≤ 32 * (n + 1); omega, n7⟩, ⟨by show x.writes + k ≤ 300 * (n + 1); omega, by show M.deletes ≤ 1300 * (n + 1); omega, by show M.parcelNumber ≤ n + 1; omega, n11⟩, n12⟩, rlA_m hs a5, hn, by show cs' + 17 * x.tapeLength ≤ 2000 + 400 * (n + 1) + 6 * x.jN + 3 * x.hN + 3 * x.gN + x.tpN; omega, by show ss' + 70 * x.tapeLength ≤ 1177800 + 6000 * (n + 1) + 12 * x.jN + 6 * x.hN + 6 * x.gN + 2 * x.tpN + (700 * gk.sz + 2 * sumN gk.sz (fun tb => (T tb).cN) + 4 * x.bN); omega⟩
theorem flu_T (h : rlT M x ∧ rlS dA SS M x ∧ rlA dA ad e0 M x gq rq la gk AT T) : rlT M.fluS x ∧ rlS dA SS M.fluS x ∧ rlA dA ad e0 M.fluS x gq rq la gk AT T := by
  unfold MS.fluS
  cases decide (0 < M.heads) with
  | true => exact h
  | false => exact h
/-- a flush with no head -/
theorem rl_f0 (a1 : coR M x PS dn bn) (a2 : rlT M x) (a3 : rlS dA SS M x) (a4 : rlN dA PS M x n) (a5 : rlA dA ad e0 M x gq rq la gk AT T) (ar : rlR x gk T n cs ss) (hn : n + 1 ≤ 512) (hz : x.hsize = 0) (hf : (ctG2 SS x.nser).1 ≤ x.fr PS) : Rl dA ad e0 (n + 1) (x.flZ SS) M.fluS (cs + 0 + 0 + 0) (ss + 0 + 0 + 0) := by
  obtain ⟨a6, a7, a8⟩ := ar
  obtain ⟨co', -⟩ := flu_0 a1 a3.1 hz
  obtain ⟨⟨n1, n2, n3, n4⟩, ⟨n5, n6, n7⟩, ⟨n8, n9, n10, n11, n12, n13, n14, n15⟩, ⟨n16, n17, n18, n19⟩, ⟨n20, n21, n22, n23⟩, n24⟩ := a4
  obtain ⟨f1, f2, f3, f4, f5⟩ := fl_F M n23
  have pk := pk_all co'.1 rfl f2
  obtain ⟨k1, k2, k3⟩ := flu_T ⟨a2, a3, a5⟩
  have t11 := a2.2.2.2.2.1
  have hf : (ctG2 SS x.nser).1 ≤ x.diskBlocks - 2 - x.jlimit - (x.ncat + sumN x.npc (blN PS)) := hf
  refine ⟨PS, SS, dn, dn, gq, rq, la, gk, AT, T, co', k1, k2, ⟨⟨n1, n2, n3, n4⟩, ⟨?_, Nat.zero_le _, ?_⟩, ⟨Nat.zero_le _, n9, n10, Nat.zero_le _, n12, n13, n14, n15⟩, ⟨?_, ?_, ?_, ?_⟩, ⟨?_, by omega, by omega, f3⟩, ⟨⟨⟨rfl, rfl⟩, fun q hq => absurd hq (Nat.not_lt_zero q)⟩, fun q hq => absurd hq (Nat.not_lt_zero q)⟩, fun q hq => absurd hq (Nat.not_lt_zero q)⟩, k3, hn, ?_, ?_⟩
  · show x.jlimit + 2 + ((ctG2 SS x.nser).1 + sumN x.npc (blN PS)) ≤ x.diskBlocks
    omega
  · show 0 < x.jlimit
    omega
  · show 16 * 0 + x.tapeLength ≤ 32 * (n + 1)
    omega
  · show 16 * 0 + x.tapeLength ≤ 32 * (n + 1)
    omega
  · show 16 * (cnt M.fluS.points M.fluS.pkd + 0) + x.tapeLength ≤ 32 * (n + 1)
    omega
  · show M.fluS.points ≤ cnt M.fluS.points M.fluS.pkd + 0
    omega
  · show x.writes + ((ctG2 SS x.nser).1 + 1) ≤ 300 * (n + 1)
    omega
  · show cs + 0 + 0 + 0 + 17 * x.tapeLength ≤ 2000 + 400 * (n + 1) + 6 * x.jN + 3 * x.hN + 3 * x.gN + x.tpN
    omega
  · show ss + 0 + 0 + 0 + 70 * x.tapeLength ≤ 1177800 + 6000 * (n + 1) + 12 * x.jN + 6 * x.hN + 6 * x.gN + 2 * x.tpN + (700 * gk.sz + 2 * sumN gk.sz (fun tb => (T tb).cN) + 4 * x.bN)
    omega
/-- a flush with heads -/
theorem rl_f1 {O : Nat → Nat} {TT V : Nat → Int64} {nb mp : Nat} (a1 : coR M x PS dn bn) (a2 : rlT M x) (a3 : rlS dA SS M x) (a4 : rlN dA PS M x n) (a5 : rlA dA ad e0 M x gq rq la gk AT T) (ar : rlR x gk T n cs ss) (hn : n + 1 ≤ 512) (hz : 0 < x.hsize) (l1 : laid x.hO x.hsize x.hsize x.hO O) (l2 : laid x.hO x.hsize x.hsize x.hT TT) (l3 : laid x.hO x.hsize x.hsize x.hV V) (hO : ∀ q, O q < 256) (hpc : isPc dA pl1 mp (mkP x.hsize O TT V)) (hs : ∀ c, c ∈ x.pl → c ∈ pl1) (hb : (mkP x.hsize O TT V).bl = nb) (hp : x.npc < 32) (hf : nb + (ctG2 SS x.nser).1 ≤ x.fr PS) : Rl dA ad e0 (n + 1) (x.flS SS nb mp pl1) M.fluS (cs + 5 + 0 + 0) (ss + (8 + (3 * x.hsize + x.nser + 1)) + 0 + 0) := by
  obtain ⟨a6, a7, a8⟩ := ar
  obtain ⟨⟨n1, n2, n3, n4⟩, ⟨n5, n6, n7⟩, ⟨n8, n9, n10, n11, n12, n13, n14, n15⟩, ⟨n16, n17, n18, n19⟩, ⟨n20, n21, n22, n23⟩, n24⟩ := a4
  obtain ⟨co', -⟩ := flu_1 (mp := mp) (pl1 := pl1) a1 a3.1 hz (by omega) l1 l2 l3 hb
  obtain ⟨f1, f2, f3, f4, f5⟩ := fl_F M n23
  have pk := pk_all co'.1 rfl f2
  obtain ⟨k1, k2, k3⟩ := flu_T ⟨a2, a3, a5⟩
  have t11 := a2.2.2.2.2.1
  have hf : nb + (ctG2 SS x.nser).1 ≤ x.diskBlocks - 2 - x.jlimit - (x.ncat + sumN x.npc (blN PS)) := hf
  have esum : sumN (x.npc + 1) (blN (va_up PS x.npc (mkP x.hsize O TT V))) = sumN x.npc (blN PS) + nb := by
    have e1 : sumN x.npc (blN (va_up PS x.npc (mkP x.hsize O TT V))) = sumN x.npc (blN PS) := sumN_ext (fun k hk => by
      show (va_up PS x.npc (mkP x.hsize O TT V) k).bl = (PS k).bl
      rw [va_up_ne _ _ (by omega)])
    have e2 : blN (va_up PS x.npc (mkP x.hsize O TT V)) x.npc = nb := by
      show (va_up PS x.npc (mkP x.hsize O TT V) x.npc).bl = nb
      rw [va_up_self]
      exact hb
    rw [← e1, ← e2]
    rfl
  refine ⟨_, SS, dn, dn, gq, rq, la, gk, AT, T, co', k1, rlS_m (x := x) hs k2, ⟨⟨n1, ?_, n3, psOk_a (psOk_m hs n4) hpc ⟨?_, fun i _ => hO i⟩⟩, ⟨?_, Nat.zero_le _, ?_⟩, ⟨Nat.zero_le _, n9, n10, Nat.zero_le _, n12, n13, n14, n15⟩, ⟨?_, ?_, ?_, ?_⟩, ⟨?_, by omega, by omega, f3⟩, ⟨⟨⟨rfl, rfl⟩, fun q hq => absurd hq (Nat.not_lt_zero q)⟩, fun q hq => absurd hq (Nat.not_lt_zero q)⟩, fun q hq => absurd hq (Nat.not_lt_zero q)⟩, rlA_m (x := x) hs k3, hn, ?_, ?_⟩
  · show x.npc + 1 ≤ 32
    omega
  · show x.hsize ≤ 12000
    omega
  · show x.jlimit + 2 + ((ctG2 SS x.nser).1 + sumN (x.npc + 1) (blN (va_up PS x.npc (mkP x.hsize O TT V)))) ≤ x.diskBlocks
    omega
  · show 0 < x.jlimit
    omega
  · show 16 * 0 + x.tapeLength ≤ 32 * (n + 1)
    omega
  · show 16 * 0 + x.tapeLength ≤ 32 * (n + 1)
    omega
  · show 16 * (cnt M.fluS.points M.fluS.pkd + 0) + x.tapeLength ≤ 32 * (n + 1)
    omega
  · show M.fluS.points ≤ cnt M.fluS.points M.fluS.pkd + 0
    omega
  · show x.writes + (nb + (ctG2 SS x.nser).1 + 1) ≤ 300 * (n + 1)
    omega
  · show cs + 5 + 0 + 0 + 17 * x.tapeLength ≤ 2000 + 400 * (n + 1) + 6 * x.jN + 3 * x.hN + 3 * x.gN + x.tpN
    omega
  · show ss + (8 + (3 * x.hsize + x.nser + 1)) + 0 + 0 + 70 * x.tapeLength ≤ 1177800 + 6000 * (n + 1) + 12 * x.jN + 6 * x.hN + 6 * x.gN + 2 * x.tpN + (700 * gk.sz + 2 * sumN gk.sz (fun tb => (T tb).cN) + 4 * x.bN)
    omega
end FL
end
section
/-! A flush: the call. -/
theorem first_or (P : Nat → Prop) [DecidablePred P] : ∀ N, (∃ j, j < N ∧ P j ∧ ∀ i, i < j → ¬ P i) ∨ ∀ i, i < N → ¬ P i
  | 0 => Or.inr (fun i hi => absurd hi (Nat.not_lt_zero i))
  | N + 1 => by
    rcases first_or P N with ⟨j, h1, h2, h3⟩ | h
    · exact Or.inl ⟨j, Nat.lt_succ_of_lt h1, h2, h3⟩
    · by_cases c : P N
      · exact Or.inl ⟨N, Nat.lt_succ_self N, c, h⟩
      · refine Or.inr (fun i hi => ?_)
        by_cases e : i = N
        · rw [e]
          exact c
        · exact h i (by omega)
theorem ct_le (SS : Nat → List LB) : ∀ n, (ctG2 SS n).1 ≤ n
  | 0 => Nat.le_refl 0
  | n + 1 => by
    have h := ct_le SS n
    show (if uS (SS n) ≤ (ctG2 SS n).2 then ((ctG2 SS n).1, (ctG2 SS n).2 - uS (SS n)) else ((ctG2 SS n).1 + 1, 126 - uS (SS n))).1 ≤ n + 1
    split
    · show (ctG2 SS n).1 ≤ n + 1
      omega
    · show (ctG2 SS n).1 + 1 ≤ n + 1
      omega
theorem many_le {M : MS} (h : M.points ≤ 12000) (h2 : M.seriesCount ≤ 256) : M.manyN ≤ 20000 := by
  have := bA_le M (-1) (-1) true h M.seriesCount
  unfold MS.manyN
  split
  · omega
  · omega
section CI
variable {p : Program} {e : Env} {s : State} {m : MethodId} {below : List Frame} {meth : Method} {c : Code} {b L : Nat} {xs : Nat → Int32} {D : va_G} {dA : Nat → ClassId} {e0 : Nat} {A : Nat → Prop} {h : Nat} {ad : Nat → Nat} {mm : Nat} {mad : Nat → Nat} {o : Nat} {n : Nat} {x : VS} {M : MS} {cs ss : Nat}

theorem flu_cod (M : MS) : M.fluS.cod = 0 := by
  unfold MS.fluS
  cases decide (0 < M.heads) with
  | true => rfl
  | false => rfl

theorem call_10 (l : Launch) (hC : lS p l s m meth c b L xs D dA e0 A) (hL : L ≤ 3072) (hi : 6 * n + 6 ≤ L) (hR : Rl dA ad e0 n x M cs ss) (cont : ∀ x' M' cs' ss', Rl dA ad e0 (n + 1) x' M' cs' ss' → At9 p l e s m below meth c b D dA A h ad mm mad o 23 (6 * n + 6) x' M' cs' ss') : At9 p l e s m below meth c b D dA A h ad mm mad o (tg9 10) (6 * n) x M cs ss := by
  intro og H locs ls hP hD hS hl
  obtain ⟨rm1, rm2⟩ := rl_room (rl_skip hR (by omega))
  obtain ⟨PS, SS, dn, bn, gq, rq, la, gk, AT, T, co, ⟨⟨t1, t2, t3, t4⟩, ⟨t5, t6, t7⟩, ⟨t8, t9⟩, t10, t11, t12⟩, ⟨sr1, sr2, sr3, sr4, sr5⟩, nr, ⟨⟨r1, r2, r3, r4⟩, r5, ⟨r6, r7⟩, ⟨r8, r9⟩, r10⟩, rr⟩ := id hR
  obtain ⟨cp, cb, ⟨se1, se2⟩, ⟨g1, g2, g3, g4, g5, g6, g7, g8, g9, g10, g11⟩, cj, ck, cc⟩ := id co
  obtain ⟨⟨n1, n2, n3, n4⟩, ⟨n5, n6, n7⟩, ⟨n8, n9, n10, n11, n12, n13, n14, n15⟩, ⟨n16, n17, n18, n19⟩, ⟨n20, n21, n22, n23⟩, n24⟩ := id nr
  cases hp : x.powered with
  | false =>
    have hr2 := rl_up (cs' := cs + 1 + 0 + 0) (ss' := ss + 6 + 0 + 0) hR (by omega) 1 (by omega) (by omega)
    obtain ⟨rn1, rn2⟩ := rl_room hr2
    have W1 := fun sz => k8_flush_1 l D dA sz h ad o og x (fun u => u = x) _ _ _ _ (nf_x1 (w := fun _ => x) (fun sz => v_flush_x l (lS_tr hC) D dA sz h ad x hp) (fun _ _ => rfl) (fun _ _ _ q => q))
    have M1 := fun sz => k_flush_1 l D dA sz mm mad M (t12.trans hp)
    exact l9_10_x l hC (k9 := 1) hi hL ⟨by omega, by omega, by omega, by omega⟩ ⟨by omega, by omega⟩ rfl k_n1 W1 M1 hP hD hS hl (fun u H1 locs1 ls1 hf hP hD hS hl => cont u _ _ _ (by rw [show u = x from hf]; exact hr2) og H1 locs1 ls1 hP hD hS hl)
  | true =>
    have on : M.on = true := t12.trans hp
    by_cases hj0 : x.jsize = 0
    · have hr2 := rl_up (cs' := cs + 0 + 0 + 0) (ss' := ss + 0 + 0 + 0) hR (by omega) 0 (by omega) (by omega)
      have W1 := fun sz => k8_flush l D dA sz h ad o og x 0 (fun u => u = x) _ _ _ _ (nf_i (fun sz => v_flush_z l D dA sz h ad x hp hj0) (fun r u q => ⟨q, rfl⟩) (fun _ _ _ q => q))
      have M1 := fun sz => k_flush_n l D dA sz mm mad M on (g1.trans hj0)
      exact l9_10 l hC hi hL ⟨by omega, by omega, by omega, by omega⟩ ⟨by omega, by omega⟩ rfl rfl W1 M1 hP hD hS hl (fun u H1 locs1 ls1 hf hP hD hS hl => cont u _ _ _ (by rw [show u = x from hf]; exact hr2) _ H1 locs1 ls1 hP hD hS hl)
    · have hjp : 0 < x.jsize := Nat.pos_of_ne_zero hj0
      have hr0 : ¬ M.records = 0 := by omega
      have rec1 : M.records ≤ 32000 := by omega
      have pts1 : M.points ≤ 12000 := by omega
      have hsc : M.seriesCount ≤ 256 := by omega
      have htl : ∀ q : Nat, q < M.seriesCount → M.textLengths q ≤ 304 := fun q hq => by
        have := sr1 q hq
        omega
      have epc : M.parcelCount = x.npc := cp.1.2.1
      have eb : sumN M.parcelCount M.parcelBlocks = sumN x.npc (blN PS) := by
        rw [cp.1.2.1]
        exact sumN_ext (fun k hk => (cp.1.2.2.2 k hk).2.2)
      have f1 : M.parcelCount ≤ 40 := by omega
      have f2 : 2 + M.journal + M.catalogBlocks + sumN M.parcelCount M.parcelBlocks ≤ M.blocks := by omega
      have f3 : M.blocks ≤ 256 := by omega
      have efr : M.freeN = x.fr PS := fr_eq cp t10 g8 cc
      have ehd : M.heads = x.hsize := heads_eq cp
      have ecn : M.catN = (ctG2 SS x.nser).1 := by
        rw [← se1]
        exact cat_eq sr1
      have hct := ct_le SS x.nser
      have hfr256 : x.fr PS ≤ 256 := by
        show x.diskBlocks - 2 - x.jlimit - (x.ncat + sumN x.npc (blN PS)) ≤ 256
        omega
      have rlt : rlT M x := ⟨⟨t1, t2, t3, t4⟩, ⟨t5, t6, t7⟩, ⟨t8, t9⟩, t10, t11, t12⟩
      have rls : rlS dA SS M x := ⟨sr1, sr2, sr3, sr4, sr5⟩
      have rla : rlA dA ad e0 M x gq rq la gk AT T := ⟨⟨r1, r2, r3, r4⟩, r5, ⟨r6, r7⟩, ⟨r8, r9⟩, r10⟩
      by_cases hz : x.hsize = 0
      · have emc : M.manyN + M.catN = (ctG2 SS x.nser).1 := (flu_0 co sr1 hz).2
        by_cases hf : x.fr PS < (ctG2 SS x.nser).1
        · have hr2 := rl_up (cs' := cs + 1 + 0 + 0) (ss' := ss + 6 + 0 + 0) hR (by omega) 2 (by omega) (by omega)
          obtain ⟨rn1, rn2⟩ := rl_room hr2
          have W1 := fun sz => k8_flush_2 l D dA sz h ad o og x (fun u => u = x) _ _ _ _ (nf_x1 (w := fun _ => x) (fun sz => v_flush_u0 l (lS_tr hC) D dA sz h ad x PS SS hp hjp (by omega) n4 n2 n5 sr3 n1 t11 hz hf (by omega)) (fun _ _ => rfl) (fun _ _ _ q => q))
          have M1 := fun sz => k_flush_2 l D dA sz mm mad M on hr0 rec1 pts1 hsc n23 htl f1 f2 f3 (Or.inr (by omega))
          exact l9_10_x l hC (k9 := 2) hi hL ⟨by omega, by omega, by omega, by omega⟩ ⟨by omega, by omega⟩ rfl k_n2 W1 M1 hP hD hS hl (fun u H1 locs1 ls1 hf hP hD hS hl => cont u _ _ _ (by rw [show u = x from hf]; exact hr2) og H1 locs1 ls1 hP hD hS hl)
        · have hf : (ctG2 SS x.nser).1 ≤ x.fr PS := by omega
          have hn1 : ¬ (0 < M.heads ∧ M.parcelCount = 32) := by omega
          rcases first_or (fun j => cutN x.cutLeft j = 0) ((ctG2 SS x.nser).1 + 1) with ⟨k0, u1, u2, u3⟩ | hcz
          · have hr2 := rl_pwk (cs' := cs + 1 + 0 + 0) (ss' := ss + 6 + 0 + 0) (pl1 := x.pl) hR (by omega) (fun _ z => z) 1 k0 (by omega) (by omega) (by omega)
            obtain ⟨rn1, rn2⟩ := rl_room hr2
            have W1 := fun sz => k8_flush_1 l D dA sz h ad o og x (fun u => u = x.xiS k0) _ _ _ _ (nf_x1 (w := fun _ => x.xiS k0) (fun sz => v_flush_i0 l (lS_tr hC) D dA sz h ad x PS SS k0 hp hjp (by omega) n4 n2 n5 sr3 n1 t11 hz hf u1 u3 u2) (fun _ _ => rfl) (fun _ _ _ q => q))
            have M1 := fun sz => k_flush_5 l D dA sz mm mad M k0 on hr0 rec1 pts1 hsc n23 htl f1 f2 f3 hn1 (by omega) (by omega) (by rw [g6]; exact u2) (fun i hi => by rw [g6]; exact u3 i hi)
            exact l9_10_x l hC (k9 := 1) hi hL ⟨by omega, by omega, by omega, by omega⟩ ⟨by omega, by omega⟩ rfl k_n1 W1 M1 hP hD hS hl (fun u H1 locs1 ls1 hf hP hD hS hl => cont u _ _ _ (by rw [show u = x.xiS k0 from hf]; exact hr2) og H1 locs1 ls1 hP hD hS hl)
          · have hr2 := rl_f0 co rlt rls nr rla rr (by omega) hz hf
            have W1 := fun sz => k8_flush l D dA sz h ad o og x (nI ((ctG2 SS x.nser).1 + 1)) (fun u => u = x.flZ SS) _ _ _ _ (nf_i (w := fun _ => x.flZ SS) (fun sz => v_flush_0 l D dA sz h ad x PS SS hp hjp (by omega) n4 n2 n5 sr3 n1 t11 (by omega) (by omega) n3 hz hf hcz) (fun r u q => ⟨q, rfl⟩) (fun _ _ _ q => q))
            have M1 := nm_i (M1 := M.fluS) (b := nI (M.manyN + M.catN + 1)) (Pc2 := fun sz => pC D dA [.ref mm] (MW dA mm mad M) sz) (fun sz => k_flush_0 l D dA sz mm mad M on hr0 rec1 pts1 hsc n23 htl f1 f2 f3 hn1 (by omega) (by omega) (fun i hi => by rw [g6]; exact hcz i (by omega))) (fun r u q => ⟨q.1, q.2⟩) (fun _ _ _ q => q)
            exact l9_10 l hC hi hL ⟨by omega, by omega, by omega, by omega⟩ ⟨by omega, by omega⟩ (flu_cod M) (by rw [emc]) W1 M1 hP hD hS hl (fun u H1 locs1 ls1 hf hP hD hS hl => cont u _ _ _ (by rw [show u = _ from hf]; exact hr2) _ H1 locs1 ls1 hP hD hS hl)
      · have hzp : 0 < x.hsize := Nat.pos_of_ne_zero hz
        have hml := many_le pts1 hsc
        obtain ⟨nb, enb⟩ : ∃ nb, nb = M.manyN := ⟨_, rfl⟩
        have hbl : ∀ (O : Nat → Nat) (T V : Nat → Int64), laid x.hO x.hsize x.hsize x.hO O → laid x.hO x.hsize x.hsize x.hT T → laid x.hO x.hsize x.hsize x.hV V → (mkP x.hsize O T V).bl = nb := fun O T V l1 l2 l3 => by
          rw [enb]
          exact (many_eq cp hzp l1 l2 l3).symm
        have hho : ∀ i : Nat, i < x.hsize → x.hO i < x.nser := fun i hi => hO_lt cj ck hi
        have emc : M.manyN + M.catN = nb + (ctG2 SS x.nser).1 := by omega
        have hs4 : x.hsize ≤ 1152 := by omega
        by_cases hu : 32 ≤ x.npc ∨ x.fr PS < nb + (ctG2 SS x.nser).1
        · have hr2 : ∀ u : VS, x.pk u → Rl dA ad e0 (n + 1) u (MS.s_cod M 2) (cs + 6 + 0 + 0) (ss + (14 + (3 * x.hsize + x.nser + 1)) + 0 + 0) := fun u hk => by
            obtain ⟨z1, z2⟩ := hk
            rw [z1]
            exact rl_pl hR (by omega) z2 2 (by omega) (by omega)
          obtain ⟨rn1, rn2⟩ := rl_room (hr2 x ⟨rfl, fun _ z => z⟩)
          have W1 := fun sz => k8_flush_2 l D dA sz h ad o og x (fun u => x.pk u) _ _ _ _ (nf_x1 (w := fun u => u) (fun sz => v_flush_u1 l (lS_tr hC) D dA sz h ad x PS SS nb hp hjp (by omega) n4 n2 n5 sr3 n1 t11 (by omega) n11 (by omega) hho hzp hbl (by omega) hu) (fun u q => q) (fun _ _ _ q => q))
          have M1 := fun sz => k_flush_2 l D dA sz mm mad M on hr0 rec1 pts1 hsc n23 htl f1 f2 f3 (by omega)
          exact l9_10_x l hC (k9 := 2) hi hL ⟨by omega, by omega, by omega, by omega⟩ ⟨by omega, by omega⟩ rfl k_n2 W1 M1 hP hD hS hl (fun u H1 locs1 ls1 hf hP hD hS hl => cont u _ _ _ (hr2 u hf) og H1 locs1 ls1 hP hD hS hl)
        · have hp32 : x.npc < 32 := by omega
          have hf : nb + (ctG2 SS x.nser).1 ≤ x.fr PS := by omega
          have hn1 : ¬ (0 < M.heads ∧ M.parcelCount = 32) := by omega
          rcases first_or (fun j => cutN x.cutLeft j = 0) (nb + (ctG2 SS x.nser).1 + 1) with ⟨k0, u1, u2, u3⟩ | hcz
          · have hr2 : ∀ u : VS, (x.xiS k0).pk u → Rl dA ad e0 (n + 1) u (MS.s_written (MS.s_cutLeft (MS.s_on (MS.s_cod M 1) false) (-1)) (M.written + k0)) (cs + 6 + 0 + 0) (ss + (14 + (3 * x.hsize + x.nser + 1)) + 0 + 0) := fun u hk => by
              obtain ⟨z1, z2⟩ := hk
              rw [z1]
              exact rl_pwk hR (by omega) z2 1 k0 (by omega) (by omega) (by omega)
            obtain ⟨rn1, rn2⟩ := rl_room (hr2 (x.xiS k0) ⟨rfl, fun _ z => z⟩)
            have W1 := fun sz => k8_flush_1 l D dA sz h ad o og x (fun u => (x.xiS k0).pk u) _ _ _ _ (nf_x1 (w := fun u => u) (fun sz => v_flush_i1 l (lS_tr hC) D dA sz h ad x PS SS nb k0 hp hjp (by omega) n4 n2 n5 sr3 n1 t11 (by omega) n11 (by omega) hho hzp hbl hp32 hf u1 u3 u2) (fun u q => q) (fun _ _ _ q => q))
            have M1 := fun sz => k_flush_5 l D dA sz mm mad M k0 on hr0 rec1 pts1 hsc n23 htl f1 f2 f3 hn1 (by omega) (by omega) (by rw [g6]; exact u2) (fun i hi => by rw [g6]; exact u3 i hi)
            exact l9_10_x l hC (k9 := 1) hi hL ⟨by omega, by omega, by omega, by omega⟩ ⟨by omega, by omega⟩ rfl k_n1 W1 M1 hP hD hS hl (fun u H1 locs1 ls1 hf hP hD hS hl => cont u _ _ _ (hr2 u hf) og H1 locs1 ls1 hP hD hS hl)
          · have rn1 : cs + 5 ≤ 601024 ∧ ss + (8 + (3 * x.hsize + x.nser + 1)) ≤ 7293034 := by
              have hr2 := rl_up (cs' := cs + 5) (ss' := ss + (8 + (3 * x.hsize + x.nser + 1))) hR (by omega) 0 (by omega) (by omega)
              exact rl_room hr2
            obtain ⟨rn1, rn2⟩ := rn1
            have W1 := fun sz => k8_flush l D dA sz h ad o og x (nI (nb + (ctG2 SS x.nser).1 + 1)) (fun u => ∃ (O : Nat → Nat) (T V : Nat → Int64) (mp : Nat) (pl1 : va_W), laid x.hO x.hsize x.hsize x.hO O ∧ laid x.hO x.hsize x.hsize x.hT T ∧ laid x.hO x.hsize x.hsize x.hV V ∧ (∀ q, O q < 256) ∧ isPc dA pl1 mp (mkP x.hsize O T V) ∧ (∀ c, c ∈ x.pl → c ∈ pl1) ∧ u = x.flS SS nb mp pl1) _ _ _ _ (nf_i (w := fun u => u) (fun sz => v_flush_1 l D dA sz h ad x PS SS nb hp hjp (by omega) n4 n2 n5 sr3 n1 t11 (by omega) n11 (by omega) hho hzp hbl (by omega) (by omega) n3 hp32 hf hcz) (fun r u q => q) (fun _ _ _ q => q))
            have M1 := nm_i (M1 := M.fluS) (b := nI (M.manyN + M.catN + 1)) (Pc2 := fun sz => pC D dA [.ref mm] (MW dA mm mad M) sz) (fun sz => k_flush_0 l D dA sz mm mad M on hr0 rec1 pts1 hsc n23 htl f1 f2 f3 hn1 (by omega) (by omega) (fun i hi => by rw [g6]; exact hcz i (by omega))) (fun r u q => ⟨q.1, q.2⟩) (fun _ _ _ q => q)
            exact l9_10 l hC hi hL ⟨by omega, by omega, by omega, by omega⟩ ⟨by omega, by omega⟩ (flu_cod M) (by rw [emc]) W1 M1 hP hD hS hl (fun u H1 locs1 ls1 hf2 hP hD hS hl => by
              obtain ⟨O, TT, V, mp, pl1, l1, l2, l3, l4, l5, l6, l7⟩ := hf2
              refine cont u _ _ _ ?_ _ H1 locs1 ls1 hP hD hS hl
              rw [l7]
              exact rl_f1 co rlt rls nr rla rr (by omega) hzp l1 l2 l3 l4 l5 l6 (hbl O TT V l1 l2 l3) hp32 hf)

end CI
end
section
/-! A retain: what it counts. -/
theorem rp_len (PS : Nat → PT) (npc : Nat) (hor : Int64) (st : AS4) (jK jO : Nat → Nat) (jF jS : Nat → Int64) : ∀ r, (rpF PS npc hor st jK jO jF jS r).2.2.1.length ≤ st.2.2.1.length + cnt r (fun i => decide (jK i = 1))
  | 0 => Nat.le_refl _
  | r + 1 => by
    have h := rp_len PS npc hor st jK jO jF jS r
    show (rpS PS npc hor (rpF PS npc hor st jK jO jF jS r) (jK r) (jO r) (jF r) (jS r)).2.2.1.length ≤ _
    obtain ⟨u, eu⟩ : ∃ u, u = rpF PS npc hor st jK jO jF jS r := ⟨_, rfl⟩
    rw [← eu] at h ⊢
    have hc : cnt r (fun i => decide (jK i = 1)) ≤ cnt (r + 1) (fun i => decide (jK i = 1)) := cnt_mono (Nat.le_succ r)
    unfold rpS
    split
    · show u.2.2.1.length ≤ _
      omega
    · split
      · rename_i c
        rw [cnt_t (f := fun i => decide (jK i = 1)) (decide_eq_true c)]
        show (if jF r < hor then u.2.2.1 else u.2.2.1 ++ [(jO r, jF r, jS r)]).length ≤ _
        split
        · omega
        · rw [List.length_append]
          show u.2.2.1.length + 1 ≤ _
          omega
      · show (u.2.2.1.filter (fun p => !wiB (jO r) (jF r) (jS r) p)).length ≤ _
        have := List.length_filter_le (fun p => !wiB (jO r) (jF r) (jS r) p) u.2.2.1
        omega
/-- no more heads than points in the journal -/
theorem hs_le {PS : Nat → PT} {x : VS} (hj : joR PS x) : x.hsize ≤ cnt x.jsize (fun r => decide (x.jK r = 1)) := by
  obtain ⟨⟨i1, i2, i3, i4⟩, -⟩ := hj
  have h := rp_len PS x.npc x.nhor (svA x) x.jK x.jO x.jF x.jS x.jsize
  have e : (rpF PS x.npc x.nhor (svA x) x.jK x.jO x.jF x.jS x.jsize).2.2.1 = hdL x := i3
  rw [e] at h
  have e2 : (hdL x).length = x.hsize := lsF_l _ _
  have e3 : (svA x).2.2.1.length = 0 := rfl
  omega
/-- each point is packed or a head -/
theorem pt_all {m : MS} {x : VS} {PS : Nat → PT} {dn : Nat → Nat} (h : ptR m x PS dn) (h2 : ∀ q, q < m.points → ¬ m.places q = -2) : m.points = cnt m.points m.pkd + x.hsize := by
  have e : cnt m.points (fun _ => true) = cnt m.points m.pkd + cnt m.points m.hdd := cnt_add (fun q hq => by
    have e1 : (-1 : Int32) < 0 := by decide
    rcases h.2.2.1.1 q hq with e | e | ⟨k, hk, e⟩
    · exact absurd e (h2 q hq)
    · refine ⟨⟨fun _ => Or.inr (decide_eq_true e), fun _ => rfl⟩, fun z => ?_⟩
      have z1 : (!decide (m.places q < 0)) = true := z.1
      rw [e, decide_eq_true e1] at z1
      cases z1
    · have h3 := h.2.2.1.2.2.1 k hk
      have h4 := h.2.2.1.2.2.2
      have nn : ¬ nI (m.parcels k) < 0 := nI_nn (by omega)
      refine ⟨⟨fun _ => Or.inl ?_, fun _ => rfl⟩, fun z => ?_⟩
      · show (!decide (m.places q < 0)) = true
        rw [e, decide_eq_false nn]
        rfl
      · have z2 : m.places q = -1 := of_decide_eq_true z.2
        rw [e] at z2
        exact nn (by rw [z2]; exact e1))
  have e2 : cnt m.points (fun _ => true) = m.points := cnt_1 (fun _ _ => rfl)
  have e3 : x.hsize = cnt m.points m.hdd := h.1.1.1
  omega
theorem sum_td {c : Nat → Bool} {PS : Nat → PT} : ∀ n, sumN (cnt n c) (blN (tdT c PS n)) ≤ sumN n (blN PS)
  | 0 => Nat.le_refl _
  | n + 1 => by
    have h := sum_td (c := c) (PS := PS) n
    have e0 : sumN (n + 1) (blN PS) = sumN n (blN PS) + (PS n).bl := rfl
    cases e : c n with
    | true =>
      rw [cnt_t e, tdT_t e rfl]
      have e1 : sumN (cnt n c) (blN (va_up (tdT c PS n) (cnt n c) (PS n))) = sumN (cnt n c) (blN (tdT c PS n)) := sumN_ext (fun k hk => by
        show (va_up (tdT c PS n) (cnt n c) (PS n) k).bl = (tdT c PS n k).bl
        rw [va_up_ne _ _ (by omega)])
      have e2 : sumN (cnt n c + 1) (blN (va_up (tdT c PS n) (cnt n c) (PS n))) = sumN (cnt n c) (blN (va_up (tdT c PS n) (cnt n c) (PS n))) + (va_up (tdT c PS n) (cnt n c) (PS n) (cnt n c)).bl := rfl
      rw [e2, e1, va_up_self, e0]
      omega
    | false =>
      rw [cnt_f e, tdT_f e, e0]
      omega
theorem psOk_td {dA : Nat → ClassId} {nP : Nat → Option Nat} {n : Nat} {pl : va_W} {PS : Nat → PT} {c : Nat → Bool} (h : psOk dA nP n pl PS) : psOk dA (tdT c nP n) (cnt n c) pl (tdT c PS n) := by
  intro k hk
  obtain ⟨j, hj, ec, ek⟩ := cnt_at hk
  rw [← ek, tdT_get hj ec, tdT_get hj ec]
  exact h j hj
/-- what a retain leaves: before the points are tidied -/
def rtYq (M m : MS) : Prop := m.points = M.points ∧ m.pointSeries = M.pointSeries ∧ m.deletes = M.deletes ∧ m.parcelNumber = M.parcelNumber ∧ cnt m.points m.pkd ≤ cnt M.points M.pkd
theorem rtYq_m2 {M m : MS} (h : rtYq M m) (c : Nat → Bool) {m' : MS} (e : m'.points = m.points ∧ m'.pointSeries = m.pointSeries ∧ m'.deletes = m.deletes ∧ m'.parcelNumber = m.parcelNumber) (ep : m'.places = mapT m.points c m2F m.places) : rtYq M m' := by
  obtain ⟨h1, h2, h3, h4, h5⟩ := h
  obtain ⟨e1, e2, e3, e4⟩ := e
  refine ⟨e1.trans h1, e2.trans h2, e3.trans h3, e4.trans h4, Nat.le_trans ?_ h5⟩
  rw [e1]
  refine cnt_le2 (fun q hq hp => ?_)
  have hp : (!decide (m'.places q < 0)) = true := hp
  show (!decide (m.places q < 0)) = true
  rw [ep, mapT_v hq] at hp
  by_cases d : c q = true
  · rw [if_pos d] at hp
    cases hp
  · rw [if_neg d] at hp
    exact hp
theorem rtYq_K {M m : MS} (h : rtYq M m) (t : Int64) (i : Nat) : rtYq M (m.rtK t i) := by
  unfold MS.rtK
  cases allB m.points (m.rtA t i) with
  | true => exact rtYq_m2 h (m.rtP i) ⟨rfl, rfl, rfl, rfl⟩ rfl
  | false => exact h
theorem rtYq_J {M m : MS} (h : rtYq M m) (t : Int64) (n : Nat) : ∀ i, rtYq M (m.rtJ t n i)
  | 0 => h
  | i + 1 => rtYq_K (rtYq_J h t n i) t (n - 1 - i)
theorem rt_F (M : MS) (t : Int64) (hs : ∀ q, q < M.points → M.pointSeries q < 256) : (M.rtS t).points ≤ M.points ∧ (∀ q, q < (M.rtS t).points → ¬ (M.rtS t).places q = -2) ∧ (∀ q, q < (M.rtS t).points → (M.rtS t).pointSeries q < 256) ∧ (M.rtS t).deletes = M.deletes ∧ (M.rtS t).parcelNumber = M.parcelNumber ∧ cnt (M.rtS t).points (M.rtS t).pkd ≤ cnt M.points M.pkd := by
  have h0 : rtYq M (M.rt1 t) := rtYq_m2 (M := M) (m := M) ⟨rfl, rfl, rfl, rfl, Nat.le_refl _⟩ (M.rtH t) ⟨rfl, rfl, rfl, rfl⟩ rfl
  have h1 := rtYq_J h0 t M.parcelCount M.parcelCount
  show (((M.rt1 t).rtJ t M.parcelCount M.parcelCount).tidS.shoS).points ≤ M.points ∧ (∀ q, q < (((M.rt1 t).rtJ t M.parcelCount M.parcelCount).tidS.shoS).points → ¬ (((M.rt1 t).rtJ t M.parcelCount M.parcelCount).tidS.shoS).places q = -2) ∧ (∀ q, q < (((M.rt1 t).rtJ t M.parcelCount M.parcelCount).tidS.shoS).points → (((M.rt1 t).rtJ t M.parcelCount M.parcelCount).tidS.shoS).pointSeries q < 256) ∧ (((M.rt1 t).rtJ t M.parcelCount M.parcelCount).tidS.shoS).deletes = M.deletes ∧ (((M.rt1 t).rtJ t M.parcelCount M.parcelCount).tidS.shoS).parcelNumber = M.parcelNumber ∧ cnt (((M.rt1 t).rtJ t M.parcelCount M.parcelCount).tidS.shoS).points (((M.rt1 t).rtJ t M.parcelCount M.parcelCount).tidS.shoS).pkd ≤ cnt M.points M.pkd
  obtain ⟨m0, em⟩ : ∃ m0, m0 = (M.rt1 t).rtJ t M.parcelCount M.parcelCount := ⟨_, rfl⟩
  rw [← em] at h1 ⊢
  obtain ⟨e1, e2, e3, e4, e5⟩ := h1
  have f1 : m0.tidS.shoS.points = cnt m0.points m0.stay := rfl
  have f2 : m0.tidS.shoS.places = tdT m0.stay m0.places m0.points := rfl
  have f3 : m0.tidS.shoS.pointSeries = tdT m0.stay m0.pointSeries m0.points := rfl
  refine ⟨by rw [f1, ← e1]; exact cnt_le _ _, fun q hq => ?_, fun q hq => ?_, e3, e4, Nat.le_trans (Nat.le_of_eq ?_) e5⟩
  · rw [f1] at hq
    obtain ⟨j, hj, c, ej⟩ := cnt_at hq
    rw [f2, ← ej, tdT_get hj c]
    have c : (!decide (m0.places j = -2)) = true := c
    intro z
    rw [decide_eq_true z] at c
    cases c
  · rw [f1] at hq
    obtain ⟨j, hj, c, ej⟩ := cnt_at hq
    rw [f3, ← ej, tdT_get hj c, e2]
    exact hs j (by omega)
  · rw [f1]
    refine td_cnt (st := m0.stay) (c := m0.pkd) (fun q hq hp => ?_) (fun q hq hst => ?_) m0.points (Nat.le_refl _)
    · have hp : (!decide (m0.places q < 0)) = true := hp
      show (!decide (m0.places q = -2)) = true
      by_cases d : m0.places q = -2
      · rw [d] at hp
        cases hp
      · rw [decide_eq_false d]
        rfl
    · show (!decide (m0.tidS.shoS.places (cnt q m0.stay) < 0)) = !decide (m0.places q < 0)
      rw [f2, tdT_get hq hst]
section RT
variable {dA : Nat → ClassId} {ad : Nat → Nat} {e0 : Nat} {x : VS} {M : MS} {SS : Nat → List LB} {gq : LI} {rq : va_W} {la : Nat → Nat} {gk : LI} {AT : Nat → Nat → Nat} {T : Nat → TB}
theorem rtJ_keep (t : Int64) (n : Nat) (h : rlT M x ∧ rlS dA SS M x ∧ rlA dA ad e0 M x gq rq la gk AT T) : ∀ i, rlT (M.rtJ t n i) x ∧ rlS dA SS (M.rtJ t n i) x ∧ rlA dA ad e0 (M.rtJ t n i) x gq rq la gk AT T
  | 0 => h
  | i + 1 => by
    have ih := rtJ_keep t n h i
    show rlT ((M.rtJ t n i).rtK t (n - 1 - i)) x ∧ rlS dA SS ((M.rtJ t n i).rtK t (n - 1 - i)) x ∧ rlA dA ad e0 ((M.rtJ t n i).rtK t (n - 1 - i)) x gq rq la gk AT T
    obtain ⟨u, eu⟩ : ∃ u, u = M.rtJ t n i := ⟨_, rfl⟩
    rw [← eu] at ih ⊢
    unfold MS.rtK
    cases allB u.points (u.rtA t (n - 1 - i)) with
    | true => exact ih
    | false => exact ih
theorem rts_keep (t : Int64) (h : rlT M x ∧ rlS dA SS M x ∧ rlA dA ad e0 M x gq rq la gk AT T) : rlT (M.rtS t) x ∧ rlS dA SS (M.rtS t) x ∧ rlA dA ad e0 (M.rtS t) x gq rq la gk AT T := by
  have h1 : rlT (M.rt1 t) x ∧ rlS dA SS (M.rt1 t) x ∧ rlA dA ad e0 (M.rt1 t) x gq rq la gk AT T := h
  have h2 := rtJ_keep t M.parcelCount h1 M.parcelCount
  exact h2
end RT
end
section
/-! A retain: the sizes. -/
theorem sub1_lt {a t : Int64} (h : ¬ a < 0) : (a - 1 < t) ↔ a ≤ t := by
  have e0 : (0 : Int64).toInt = 0 := by decide
  have e1 : (1 : Int64).toInt = 1 := by decide
  rw [Int64.lt_iff_toInt_lt, e0] at h
  have h2 := a.toInt_lt
  have e : (a - 1).toInt = a.toInt - 1 := by
    rw [Int64.toInt_sub, e1]
    exact Int.bmod_eq_of_le (by omega) (by omega)
  rw [Int64.lt_iff_toInt_lt, Int64.le_iff_toInt_le, e]
  omega
theorem rt_cnt {m : MS} {x : VS} {PS : Nat → PT} {dn : Nat → Nat} (h : ptR m x PS dn) {a : Int64} (ha : ¬ a < 0) : cnt m.points (m.rtC a) = sumN x.npc (x.sbN PS (a - 1)) + cnt x.hsize (x.hBl a) := by
  have e := seen_sum h (fun q => !decide (a ≤ m.pointTimes q))
  have e1 : cnt m.points (m.rtC a) = cnt m.points (fun q => m.seen q && !decide (a ≤ m.pointTimes q)) := rfl
  have e2 : cnt x.hsize (x.hBl a) = cnt m.points (fun q => m.hdd q && !decide (a ≤ m.pointTimes q)) := hd_cnt h (fun q hq hc => by
    obtain ⟨a1, a2, -⟩ := h.1.1.2 q hq hc
    unfold VS.hBl
    rw [a2])
  rw [e1, e, e2, pk_sum h]
  congr 1
  refine sumN_ext (fun k hk => ?_)
  refine (pc_cnt h hk (F := x.siPc (PS k) (a - 1)) (fun q hq hc => ?_)).symm
  unfold VS.siPc
  rw [see_eq h hk hq hc, ((h.1.2.2.2 k hk).1.2 q hq hc).2.1, decide_eq_decide.mpr (sub1_lt ha)]
  exact Bool.and_comm _ _
theorem rtJ_j (M : MS) (t : Int64) (n : Nat) : ∀ i, (M.rtJ t n i).firsts = M.firsts ∧ (M.rtJ t n i).textLengths = M.textLengths ∧ (M.rtJ t n i).recordSeries = M.recordSeries
  | 0 => ⟨rfl, rfl, rfl⟩
  | i + 1 => by
    have ih := rtJ_j M t n i
    show ((M.rtJ t n i).rtK t (n - 1 - i)).firsts = M.firsts ∧ ((M.rtJ t n i).rtK t (n - 1 - i)).textLengths = M.textLengths ∧ ((M.rtJ t n i).rtK t (n - 1 - i)).recordSeries = M.recordSeries
    obtain ⟨u, eu⟩ : ∃ u, u = M.rtJ t n i := ⟨_, rfl⟩
    rw [← eu] at ih ⊢
    unfold MS.rtK
    cases allB u.points (u.rtA t (n - 1 - i)) with
    | true => exact ih
    | false => exact ih
theorem rts_j (M : MS) (t : Int64) : (M.rtS t).firsts = M.firsts ∧ (M.rtS t).textLengths = M.textLengths ∧ (M.rtS t).recordSeries = M.recordSeries := rtJ_j (M.rt1 t) t M.parcelCount M.parcelCount
section RU
variable {dA : Nat → ClassId} {ad : Nat → Nat} {e0 n : Nat} {x y z : VS} {m M : MS} {cs ss : Nat} {PS : Nat → PT} {SS : Nat → List LB} {dn bn : Nat → Nat} {gq : LI} {rq : va_W} {la : Nat → Nat} {gk : LI} {AT : Nat → Nat → Nat} {T : Nat → TB} {a : Int64}
theorem wj_keep (h : rlT m x ∧ rlS dA SS m x ∧ rlA dA ad e0 m x gq rq la gk AT T) : rlT m x.wjS ∧ rlS dA SS m x.wjS ∧ rlA dA ad e0 m x.wjS gq rq la gk AT T := by
  unfold VS.wjS
  split
  · exact h
  · exact h
theorem wj_same (x : VS) : (x.wjS.nser = x.nser ∧ x.wjS.npc = x.npc ∧ x.wjS.nsc = x.nsc ∧ x.wjS.nP = x.nP ∧ x.wjS.pl = x.pl ∧ x.wjS.ncat = x.ncat ∧ x.wjS.diskBlocks = x.diskBlocks ∧ x.wjS.gN = x.gN ∧ x.wjS.tapeLength = x.tapeLength ∧ x.wjS.tpN = x.tpN ∧ x.wjS.bN = x.bN ∧ x.wjS.jlimit = x.jlimit) ∧ (x.wjS.jsize = x.jsize ∧ x.wjS.jN = x.jN ∧ x.wjS.jfill = x.jfill ∧ x.wjS.jblock = x.jblock ∧ x.wjS.jK = x.jK ∧ x.wjS.jU = x.jU ∧ x.wjS.jB = x.jB ∧ x.wjS.jO = x.jO) ∧ x.wjS.hsize = x.hsize ∧ x.wjS.hN = x.hN ∧ x.wjS.writes ≤ x.writes + 1 := by
  unfold VS.wjS
  split
  · exact ⟨⟨rfl, rfl, rfl, rfl, rfl, rfl, rfl, rfl, rfl, rfl, rfl, rfl⟩, ⟨rfl, rfl, rfl, rfl, rfl, rfl, rfl, rfl⟩, rfl, rfl, Nat.le_refl _⟩
  · exact ⟨⟨rfl, rfl, rfl, rfl, rfl, rfl, rfl, rfl, rfl, rfl, rfl, rfl⟩, ⟨rfl, rfl, rfl, rfl, rfl, rfl, rfl, rfl⟩, rfl, rfl, Nat.le_succ _⟩
theorem rl_rt (a1 : coR M x PS dn bn) (a2 : rlT M x) (a3 : rlS dA SS M x) (a4 : rlN dA PS M x n) (a5 : rlA dA ad e0 M x gq rq la gk AT T) (ar : rlR x gk T n cs ss) (hn : n + 1 ≤ 512) (h0 : ¬ a < 0) (hh : x.nhor < a) : Rl dA ad e0 (n + 1) (((x.wjS.wb1).mhS PS a).kmS (tdT (mhC PS a) PS x.npc)) (M.rtS a) (cs + 0 + 0 + 0) (ss + 0 + 0 + 0) := by
  obtain ⟨a6, a7, a8⟩ := ar
  obtain ⟨⟨n1, n2, n3, n4⟩, ⟨n5, n6, n7⟩, ⟨n8, n9, n10, n11, n12, n13, n14, n15⟩, ⟨n16, n17, n18, n19⟩, ⟨n20, n21, n22, n23⟩, n24⟩ := a4
  have hm1 : (-1 : Int64) < a := by
    have e0 : (0 : Int64).toInt = 0 := by decide
    have e1 : (-1 : Int64).toInt = -1 := by decide
    rw [Int64.lt_iff_toInt_lt, e0] at h0
    rw [Int64.lt_iff_toInt_lt, e1]
    omega
  obtain ⟨d', co'⟩ := rts_co a1 hm1 hh n3
  obtain ⟨f1, f2, f3, f4, f5, f6⟩ := rt_F M a n23
  have pa := pt_all co'.1 f2
  obtain ⟨k1, k2, k3⟩ := rts_keep a (wj_keep ⟨a2, a3, a5⟩)
  obtain ⟨⟨s1, s2, s3, s4, s5, s6, s7, s8, s9, s10, s11, s12⟩, ⟨s13, s14, s15, s16, s18, s19, s20, s21⟩, s22, s23, s24⟩ := wj_same x
  obtain ⟨y, ey⟩ : ∃ y, y = x.wjS := ⟨_, rfl⟩
  rw [← ey] at co' pa k1 k2 k3 s1 s2 s3 s4 s5 s6 s7 s8 s9 s10 s11 s12 s13 s14 s15 s16 s18 s19 s20 s21 s22 s23 s24 ⊢
  have hle := hs_le co'.2.2.2.2.1
  have hsz : (((y.wb1).mhS PS a).kmS (tdT (mhC PS a) PS x.npc)).hsize ≤ y.hsize := cnt_le _ _
  have hnc : (((y.wb1).mhS PS a).kmS (tdT (mhC PS a) PS x.npc)).nsc ≤ y.nsc := cnt_le _ _
  have hnp : cnt x.npc (mhC PS a) ≤ x.npc := cnt_le _ _
  have hsum := sum_td (c := mhC PS a) (PS := PS) x.npc
  have hck : cnt y.jsize (fun r => decide (y.jK r = 1)) = cnt x.jsize (fun r => decide (x.jK r = 1)) := by rw [s13, s18]
  have hle : (((y.wb1).mhS PS a).kmS (tdT (mhC PS a) PS x.npc)).hsize ≤ cnt y.jsize (fun r => decide (y.jK r = 1)) := hle
  have k3' : rlA dA ad e0 (M.rtS a) (((y.wb1).mhS PS a).kmS (tdT (mhC PS a) PS x.npc)) gq rq la gk AT T := ⟨k3.1, k3.2.1, k3.2.2.1, k3.2.2.2.1, k3.2.2.2.2.1, h0⟩
  refine ⟨_, SS, d', d', gq, rq, la, gk, AT, T, co', k1, k2, ⟨⟨?_, ?_, ?_, ?_⟩, ⟨?_, ?_, ?_⟩, ⟨?_, ?_, ?_, ?_, ?_, ?_, ?_, ?_⟩, ⟨?_, ?_, ?_, ?_⟩, ⟨?_, by omega, by omega, f3⟩, ⟨?_, ?_⟩, fun q hq => ?_⟩, k3', hn, ?_, ?_⟩
  · show y.nser ≤ 256
    omega
  · show cnt y.npc (mhC PS a) ≤ 32
    rw [s2]
    omega
  · omega
  · show psOk dA (tdT (mhC PS a) y.nP y.npc) (cnt y.npc (mhC PS a)) y.pl (tdT (mhC PS a) PS x.npc)
    rw [s2, s4, s5]
    exact psOk_td n4
  · show y.jlimit + 2 + (y.ncat + sumN (cnt y.npc (mhC PS a)) (blN (tdT (mhC PS a) PS x.npc))) ≤ y.diskBlocks
    rw [s2]
    omega
  · show y.jfill ≤ 126
    omega
  · show y.jblock < y.jlimit
    omega
  · show y.jsize ≤ y.jN
    omega
  · show 0 < y.jN
    omega
  · show y.jN ≤ 4096
    omega
  · show (((y.wb1).mhS PS a).kmS (tdT (mhC PS a) PS x.npc)).hsize ≤ y.hN
    omega
  · show 0 < y.hN
    omega
  · show y.hN ≤ 4096
    omega
  · show 0 < y.gN
    omega
  · show y.gN ≤ 8192
    omega
  · show 16 * y.jsize + y.tapeLength ≤ 32 * (n + 1)
    omega
  · show 16 * (((y.wb1).mhS PS a).kmS (tdT (mhC PS a) PS x.npc)).hsize + y.tapeLength ≤ 32 * (n + 1)
    omega
  · show 16 * (cnt (M.rtS a).points (M.rtS a).pkd + cnt y.jsize (fun r => decide (y.jK r = 1))) + y.tapeLength ≤ 32 * (n + 1)
    omega
  · show (M.rtS a).points ≤ cnt (M.rtS a).points (M.rtS a).pkd + cnt y.jsize (fun r => decide (y.jK r = 1))
    omega
  · show y.writes + 1 ≤ 300 * (n + 1)
    omega
  · exact fgX_c (x := x) (y := ((y.wb1).mhS PS a).kmS (tdT (mhC PS a) PS x.npc)) n24.1.1 ⟨s20, s19, s13, s16, s15, s12⟩
  · obtain ⟨j1, j2, j3⟩ := rts_j M a
    intro r hr1 hr2
    have hr1 : r < y.jsize := hr1
    have hr2 : y.jK r = 0 := hr2
    rw [s13] at hr1
    rw [s18] at hr2
    rw [j1, j2, j3]
    exact n24.1.2 r hr1 hr2
  · have hq : q < y.jsize := hq
    show y.jU q ≤ 126 ∧ y.jB q < 65536 ∧ y.jO q < 256
    rw [s19, s20, s21]
    exact n24.2 q (by omega)
  · show cs + 0 + 0 + 0 + 17 * y.tapeLength ≤ 2000 + 400 * (n + 1) + 6 * y.jN + 3 * y.hN + 3 * y.gN + y.tpN
    omega
  · show ss + 0 + 0 + 0 + 70 * y.tapeLength ≤ 1177800 + 6000 * (n + 1) + 12 * y.jN + 6 * y.hN + 6 * y.gN + 2 * y.tpN + (700 * gk.sz + 2 * sumN gk.sz (fun tb => (T tb).cN) + 4 * y.bN)
    omega
end RU
end
section
/-! A retain: the call. -/
theorem rtJ_cod (M : MS) (t : Int64) (n : Nat) : ∀ i, (M.rtJ t n i).cod = M.cod
  | 0 => rfl
  | i + 1 => by
    have ih := rtJ_cod M t n i
    show ((M.rtJ t n i).rtK t (n - 1 - i)).cod = M.cod
    obtain ⟨u, eu⟩ : ∃ u, u = M.rtJ t n i := ⟨_, rfl⟩
    rw [← eu] at ih ⊢
    unfold MS.rtK
    cases allB u.points (u.rtA t (n - 1 - i)) with
    | true => exact ih
    | false => exact ih
theorem rt_cod (M : MS) (t : Int64) : (M.rtS t).cod = 0 := (rtJ_cod (M.rt1 t) t M.parcelCount M.parcelCount).trans rfl
section SP
variable {dA : Nat → ClassId} {ad : Nat → Nat} {e0 n : Nat} {x : VS} {M : MS} {cs ss cs' ss' : Nat}
theorem rl_sp0 (h : Rl dA ad e0 n x M cs ss) (hn : n + 1 ≤ 512) (hf : x.jch = false) (hc : cs' ≤ cs + 100) (hs : ss' ≤ ss + 5000) : Rl dA ad e0 (n + 1) (VS.s_cutLeft (VS.s_powered x false) (-1)) (MS.s_fresh (MS.s_kept (MS.s_written (MS.s_cutLeft (MS.s_on (MS.s_cod M 1) false) (-1)) M.written) M.records) false) cs' ss' := by
  obtain ⟨PS, SS, dn, bn, gq, rq, la, gk, AT, T, a1, ⟨t1, t2, t3, t4, t5, t6⟩, a3, a4, a5, a6, a7, a8⟩ := h
  exact ⟨PS, SS, dn, bn, gq, rq, la, gk, AT, T, pw_co (sy_co0 a1 hf) 1 false false (-1) 0, ⟨t1, t2, t3, t4, t5, rfl⟩, a3, rlN_up a4, a5, hn, by show cs' + 17 * x.tapeLength ≤ 2000 + 400 * (n + 1) + 6 * x.jN + 3 * x.hN + 3 * x.gN + x.tpN; omega, by show ss' + 70 * x.tapeLength ≤ 1177800 + 6000 * (n + 1) + 12 * x.jN + 6 * x.hN + 6 * x.gN + 2 * x.tpN + (700 * gk.sz + 2 * sumN gk.sz (fun tb => (T tb).cN) + 4 * x.bN); omega⟩
theorem rl_sp1 (h : Rl dA ad e0 n x M cs ss) (hn : n + 1 ≤ 512) (hc : cs' ≤ cs + 100) (hs : ss' ≤ ss + 5000) : Rl dA ad e0 (n + 1) (VS.s_jch (VS.s_jkept (VS.s_writes (VS.s_cutLeft (VS.s_powered x false) (-1)) (x.writes + 1)) x.jsize) false) (MS.s_fresh (MS.s_kept (MS.s_written (MS.s_cutLeft (MS.s_on (MS.s_cod M 1) false) (-1)) (M.written + 1)) M.records) false) cs' ss' := by
  obtain ⟨PS, SS, dn, bn, gq, rq, la, gk, AT, T, a1, ⟨t1, t2, t3, t4, t5, t6⟩, a3, a4, a5, a6, a7, a8⟩ := h
  obtain ⟨n1, n2, n3, ⟨n4, n5, n6, n7⟩, ⟨n8, n9, n10, n11⟩, n12⟩ := a4
  exact ⟨PS, SS, dn, bn, gq, rq, la, gk, AT, T, pw_co (sy_co1 a1) 1 false false (-1) 0, ⟨t1, t2, t3, t4, t5, rfl⟩, a3, ⟨n1, n2, n3, ⟨by show 16 * x.jsize + x.tapeLength ≤ 32 * (n + 1); omega, by show 16 * x.hsize + x.tapeLength ≤ 32 * (n + 1); omega, by show 16 * (cnt M.points M.pkd + cnt x.jsize (fun r => decide (x.jK r = 1))) + x.tapeLength ≤ 32 * (n + 1); omega, n7⟩, ⟨by show x.writes + 1 ≤ 300 * (n + 1); omega, by show M.deletes ≤ 1300 * (n + 1); omega, by show M.parcelNumber ≤ n + 1; omega, n11⟩, n12⟩, a5, hn, by show cs' + 17 * x.tapeLength ≤ 2000 + 400 * (n + 1) + 6 * x.jN + 3 * x.hN + 3 * x.gN + x.tpN; omega, by show ss' + 70 * x.tapeLength ≤ 1177800 + 6000 * (n + 1) + 12 * x.jN + 6 * x.hN + 6 * x.gN + 2 * x.tpN + (700 * gk.sz + 2 * sumN gk.sz (fun tb => (T tb).cN) + 4 * x.bN); omega⟩
end SP
section CJ
variable {p : Program} {e : Env} {s : State} {m : MethodId} {below : List Frame} {meth : Method} {c : Code} {b L : Nat} {xs : Nat → Int32} {D : va_G} {dA : Nat → ClassId} {e0 : Nat} {A : Nat → Prop} {h : Nat} {ad : Nat → Nat} {mm : Nat} {mad : Nat → Nat} {o : Nat} {n : Nat} {x : VS} {M : MS} {cs ss : Nat}

theorem call_12 (l : Launch) (hC : lS p l s m meth c b L xs D dA e0 A) (hL : L ≤ 3072) (hi : 6 * n + 6 ≤ L) (hR : Rl dA ad e0 n x M cs ss) (cont : ∀ x' M' cs' ss', Rl dA ad e0 (n + 1) x' M' cs' ss' → At9 p l e s m below meth c b D dA A h ad mm mad o 23 (6 * n + 6) x' M' cs' ss') : At9 p l e s m below meth c b D dA A h ad mm mad o (tg9 12) (6 * n) x M cs ss := by
  intro og H locs ls hP hD hS hl
  obtain ⟨rm1, rm2⟩ := rl_room (rl_skip hR (by omega))
  obtain ⟨PS, SS, dn, bn, gq, rq, la, gk, AT, T, co, ⟨⟨t1, t2, t3, t4⟩, ⟨t5, t6, t7⟩, ⟨t8, t9⟩, t10, t11, t12⟩, ⟨sr1, sr2, sr3, sr4, sr5⟩, nr, ⟨⟨r1, r2, r3, r4⟩, r5, ⟨r6, r7⟩, ⟨r8, r9⟩, r10⟩, rr⟩ := id hR
  obtain ⟨cp, cb, ⟨se1, se2⟩, ⟨g1, g2, g3, g4, g5, g6, g7, g8, g9, g10, g11⟩, cj, ck, cc⟩ := id co
  obtain ⟨⟨n1, n2, n3, n4⟩, ⟨n5, n6, n7⟩, ⟨n8, n9, n10, n11, n12, n13, n14, n15⟩, ⟨n16, n17, n18, n19⟩, ⟨n20, n21, n22, n23⟩, n24⟩ := id nr
  have ehz : M.horizon = x.nhor := cp.1.2.2.1
  have z0 : (0 : Int64).toInt = 0 := by decide
  cases hp : x.powered with
  | false =>
    have hr2 := rl_up (cs' := cs + 1 + 0 + 0) (ss' := ss + 6 + 0 + 0) hR (by omega) 1 (by omega) (by omega)
    obtain ⟨rn1, rn2⟩ := rl_room hr2
    have W1 := fun sz => k8_retain_1 l D dA sz h ad o og x ((((xs (6 * n + 1)).toInt64) <<< ((32 : Int32).toInt64 &&& 63)) ||| (((xs (6 * n + 2)).toInt64) &&& 4294967295)) (fun u => u = x) _ _ _ _ (nf_x0 (fun sz => v_retain_x l (lS_tr hC) D dA sz h ad x ((((xs (6 * n + 1)).toInt64) <<< ((32 : Int32).toInt64 &&& 63)) ||| (((xs (6 * n + 2)).toInt64) &&& 4294967295)) hp) rfl (fun _ _ _ q => q))
    have M1 := fun sz => k_retain_1 l D dA sz mm mad M ((((xs (6 * n + 1)).toInt64) <<< ((32 : Int32).toInt64 &&& 63)) ||| (((xs (6 * n + 2)).toInt64) &&& 4294967295)) (t12.trans hp)
    exact l9_12_x l hC (k9 := 1) hi hL ⟨by omega, by omega, by omega, by omega⟩ ⟨by omega, by omega⟩ rfl k_n1 W1 M1 hP hD hS hl (fun u H1 locs1 ls1 hf hP hD hS hl => cont u _ _ _ (by rw [show u = x from hf]; exact hr2) og H1 locs1 ls1 hP hD hS hl)
  | true =>
    have on : M.on = true := t12.trans hp
    by_cases ht : isTm ((((xs (6 * n + 1)).toInt64) <<< ((32 : Int32).toInt64 &&& 63)) ||| (((xs (6 * n + 2)).toInt64) &&& 4294967295)) = false ∨ ((((xs (6 * n + 1)).toInt64) <<< ((32 : Int32).toInt64 &&& 63)) ||| (((xs (6 * n + 2)).toInt64) &&& 4294967295)) < x.nhor
    · have hm0 : ((((xs (6 * n + 1)).toInt64) <<< ((32 : Int32).toInt64 &&& 63)) ||| (((xs (6 * n + 2)).toInt64) &&& 4294967295)) < M.horizon ∨ 1099511627775 < ((((xs (6 * n + 1)).toInt64) <<< ((32 : Int32).toInt64 &&& 63)) ||| (((xs (6 * n + 2)).toInt64) &&& 4294967295)) := by
        rw [ehz]
        rcases ht with e | e
        · by_cases c1 : ((((xs (6 * n + 1)).toInt64) <<< ((32 : Int32).toInt64 &&& 63)) ||| (((xs (6 * n + 2)).toInt64) &&& 4294967295)) < 0
          · refine Or.inl ?_
            have nh := r10.2
            rw [Int64.lt_iff_toInt_lt] at c1 nh ⊢
            omega
          · by_cases c2 : 1099511627775 < ((((xs (6 * n + 1)).toInt64) <<< ((32 : Int32).toInt64 &&& 63)) ||| (((xs (6 * n + 2)).toInt64) &&& 4294967295))
            · exact Or.inr c2
            · refine absurd e ?_
              unfold isTm
              rw [decide_eq_false c1, decide_eq_false c2]
              decide
        · exact Or.inl e
      have hr2 := rl_up (cs' := cs + 1 + 0 + 0) (ss' := ss + 6 + 0 + 0) hR (by omega) 2 (by omega) (by omega)
      obtain ⟨rn1, rn2⟩ := rl_room hr2
      have W1 := fun sz => k8_retain_2 l D dA sz h ad o og x ((((xs (6 * n + 1)).toInt64) <<< ((32 : Int32).toInt64 &&& 63)) ||| (((xs (6 * n + 2)).toInt64) &&& 4294967295)) (fun u => u = x) _ _ _ _ (nf_x0 (fun sz => v_retain_y l (lS_tr hC) D dA sz h ad x ((((xs (6 * n + 1)).toInt64) <<< ((32 : Int32).toInt64 &&& 63)) ||| (((xs (6 * n + 2)).toInt64) &&& 4294967295)) hp ht) rfl (fun _ _ _ q => q))
      have M1 := fun sz => k_retain_2 l D dA sz mm mad M ((((xs (6 * n + 1)).toInt64) <<< ((32 : Int32).toInt64 &&& 63)) ||| (((xs (6 * n + 2)).toInt64) &&& 4294967295)) on hm0
      exact l9_12_x l hC (k9 := 2) hi hL ⟨by omega, by omega, by omega, by omega⟩ ⟨by omega, by omega⟩ rfl k_n2 W1 M1 hP hD hS hl (fun u H1 locs1 ls1 hf hP hD hS hl => cont u _ _ _ (by rw [show u = x from hf]; exact hr2) og H1 locs1 ls1 hP hD hS hl)
    · obtain ⟨u1, u2⟩ := not_or.mp ht
      have tm : isTm ((((xs (6 * n + 1)).toInt64) <<< ((32 : Int32).toInt64 &&& 63)) ||| (((xs (6 * n + 2)).toInt64) &&& 4294967295)) = true := by
        cases e : isTm ((((xs (6 * n + 1)).toInt64) <<< ((32 : Int32).toInt64 &&& 63)) ||| (((xs (6 * n + 2)).toInt64) &&& 4294967295)) with
        | true => rfl
        | false => exact absurd e u1
      obtain ⟨i1, i2⟩ := isTm_i tm
      have k3 : M.horizon ≤ ((((xs (6 * n + 1)).toInt64) <<< ((32 : Int32).toInt64 &&& 63)) ||| (((xs (6 * n + 2)).toInt64) &&& 4294967295)) := by rw [ehz]; exact Int64.not_lt.mp u2
      have k4 : ((((xs (6 * n + 1)).toInt64) <<< ((32 : Int32).toInt64 &&& 63)) ||| (((xs (6 * n + 2)).toInt64) &&& 4294967295)) ≤ 1099511627775 := Int64.not_lt.mp i2
      by_cases he : ((((xs (6 * n + 1)).toInt64) <<< ((32 : Int32).toInt64 &&& 63)) ||| (((xs (6 * n + 2)).toInt64) &&& 4294967295)) = x.nhor
      · have hr2 := rl_up (cs' := cs + 0 + 0 + 0) (ss' := ss + 0 + 0 + 0) hR (by omega) 0 (by omega) (by omega)
        have W1 := fun sz => k8_retain l D dA sz h ad o og x ((((xs (6 * n + 1)).toInt64) <<< ((32 : Int32).toInt64 &&& 63)) ||| (((xs (6 * n + 2)).toInt64) &&& 4294967295)) 0 (fun u => u = x) _ _ _ _ (nf_i (fun sz => v_retain_0 l D dA sz h ad x ((((xs (6 * n + 1)).toInt64) <<< ((32 : Int32).toInt64 &&& 63)) ||| (((xs (6 * n + 2)).toInt64) &&& 4294967295)) hp tm he) (fun r u q => ⟨q, rfl⟩) (fun _ _ _ q => q))
        have M1 := fun sz => k_retain_n l D dA sz mm mad M ((((xs (6 * n + 1)).toInt64) <<< ((32 : Int32).toInt64 &&& 63)) ||| (((xs (6 * n + 2)).toInt64) &&& 4294967295)) on k3 k4 (by rw [ehz]; exact he)
        exact l9_12 l hC hi hL ⟨by omega, by omega, by omega, by omega⟩ ⟨by omega, by omega⟩ rfl rfl W1 M1 hP hD hS hl (fun u H1 locs1 ls1 hf hP hD hS hl => cont u _ _ _ (by rw [show u = x from hf]; exact hr2) _ H1 locs1 ls1 hP hD hS hl)
      · have hlt : x.nhor < ((((xs (6 * n + 1)).toInt64) <<< ((32 : Int32).toInt64 &&& 63)) ||| (((xs (6 * n + 2)).toInt64) &&& 4294967295)) := by
          have c1 := u2
          have c2 : ¬ (((((xs (6 * n + 1)).toInt64) <<< ((32 : Int32).toInt64 &&& 63)) ||| (((xs (6 * n + 2)).toInt64) &&& 4294967295))).toInt = x.nhor.toInt := fun z => he (Int64.toInt_inj.mp z)
          rw [Int64.lt_iff_toInt_lt] at c1 ⊢
          omega
        have k5 : ¬ ((((xs (6 * n + 1)).toInt64) <<< ((32 : Int32).toInt64 &&& 63)) ||| (((xs (6 * n + 2)).toInt64) &&& 4294967295)) = M.horizon := by rw [ehz]; exact he
        have hso : ∀ q : Nat, q < x.nsc → x.nsO q < 2 ^ 31 := fun q hq => by
          have := nsO_lt cj ck hq
          omega
        have rlt : rlT M x := ⟨⟨t1, t2, t3, t4⟩, ⟨t5, t6, t7⟩, ⟨t8, t9⟩, t10, t11, t12⟩
        have rls : rlS dA SS M x := ⟨sr1, sr2, sr3, sr4, sr5⟩
        have rla : rlA dA ad e0 M x gq rq la gk AT T := ⟨⟨r1, r2, r3, r4⟩, r5, ⟨r6, r7⟩, ⟨r8, r9⟩, r10⟩
        obtain ⟨y1, y2, y3⟩ := sy_eq (m := M) (x := x) ⟨g1, g2, g3, g4, g5, g6, g7, g8, g9, g10, g11⟩
        have fin : (x.jch = false ∨ ¬ x.cutLeft = 0) → ¬ x.wjC = 0 → W p l e room_1 s m #[Value.ref b] below meth c H locs cs ss (lw_Z below #[Value.ref b] s) (F0 m (tg9 12) ls []) := by
          intro hw hc
          have hc4 : ¬ x.wjS.cutLeft = 0 := by
            have e : x.wjS.cutLeft = x.wjC := by
              unfold VS.wjS VS.wjC
              split
              · rfl
              · rfl
            rw [e]
            exact hc
          have hr2 := rl_rt co rlt rls nr rla rr (by omega) i1 hlt
          have W1 := fun sz => k8_retain l D dA sz h ad o og x ((((xs (6 * n + 1)).toInt64) <<< ((32 : Int32).toInt64 &&& 63)) ||| (((xs (6 * n + 2)).toInt64) &&& 4294967295)) (nI (sumN x.npc (x.sbN PS (((((xs (6 * n + 1)).toInt64) <<< ((32 : Int32).toInt64 &&& 63)) ||| (((xs (6 * n + 2)).toInt64) &&& 4294967295)) - 1)) + cnt x.hsize (x.hBl ((((xs (6 * n + 1)).toInt64) <<< ((32 : Int32).toInt64 &&& 63)) ||| (((xs (6 * n + 2)).toInt64) &&& 4294967295))))) (fun u => u = ((x.wjS.wb1).mhS PS ((((xs (6 * n + 1)).toInt64) <<< ((32 : Int32).toInt64 &&& 63)) ||| (((xs (6 * n + 2)).toInt64) &&& 4294967295))).kmS (tdT (mhC PS ((((xs (6 * n + 1)).toInt64) <<< ((32 : Int32).toInt64 &&& 63)) ||| (((xs (6 * n + 2)).toInt64) &&& 4294967295))) PS x.npc)) _ _ _ _ (nf_i (w := fun u => u) (fun sz => v_retain_1 l D dA sz h ad x PS ((((xs (6 * n + 1)).toInt64) <<< ((32 : Int32).toInt64 &&& 63)) ||| (((xs (6 * n + 2)).toInt64) &&& 4294967295)) hp tm hlt n4 n2 n3 hso n11 (by omega) hw hc4) (fun r u q => q) (fun _ _ _ q => q))
          have M1 := nm_i (M1 := M.rtS ((((xs (6 * n + 1)).toInt64) <<< ((32 : Int32).toInt64 &&& 63)) ||| (((xs (6 * n + 2)).toInt64) &&& 4294967295))) (b := nI (cnt M.points (M.rtC ((((xs (6 * n + 1)).toInt64) <<< ((32 : Int32).toInt64 &&& 63)) ||| (((xs (6 * n + 2)).toInt64) &&& 4294967295))))) (Pc2 := fun sz => pC D dA [.ref mm, .long ((((xs (6 * n + 1)).toInt64) <<< ((32 : Int32).toInt64 &&& 63)) ||| (((xs (6 * n + 2)).toInt64) &&& 4294967295))] (MW dA mm mad M) sz) (fun sz => k_retain_0 l D dA sz mm mad M ((((xs (6 * n + 1)).toInt64) <<< ((32 : Int32).toInt64 &&& 63)) ||| (((xs (6 * n + 2)).toInt64) &&& 4294967295)) on k3 k4 k5 (by rw [g5, g6]; exact hw) (by rw [y1]; exact hc) (by omega) (by rw [cp.1.2.1]; omega)) (fun r u q => ⟨q.1, q.2⟩) (fun _ _ _ q => q)
          exact l9_12 l hC hi hL ⟨by omega, by omega, by omega, by omega⟩ ⟨by omega, by omega⟩ (rt_cod M _) (by rw [rt_cnt cp i1]) W1 M1 hP hD hS hl (fun u H1 locs1 ls1 hf hP hD hS hl => cont u _ _ _ (by rw [show u = _ from hf]; exact hr2) _ H1 locs1 ls1 hP hD hS hl)
        cases hj : x.jch with
        | false =>
          have eC : x.wjC = x.cutLeft := if_neg (by rw [hj]; decide)
          have eW : M.syWr = M.written := by
            rw [y2, g7]
            exact if_neg (by rw [hj]; decide)
          by_cases hc : x.cutLeft = 0
          · have hr2 := rl_sp0 (cs' := cs + 1 + 0 + 0) (ss' := ss + 6 + 0 + 0) hR (by omega) hj (by omega) (by omega)
            obtain ⟨rn1, rn2⟩ := rl_room hr2
            have W1 := fun sz => k8_retain_1 l D dA sz h ad o og x ((((xs (6 * n + 1)).toInt64) <<< ((32 : Int32).toInt64 &&& 63)) ||| (((xs (6 * n + 2)).toInt64) &&& 4294967295)) (fun u => u = VS.s_cutLeft (VS.s_powered x false) (-1)) _ _ _ _ (nf_x0 (fun sz => v_retain_j l (lS_tr hC) D dA sz h ad x PS ((((xs (6 * n + 1)).toInt64) <<< ((32 : Int32).toInt64 &&& 63)) ||| (((xs (6 * n + 2)).toInt64) &&& 4294967295)) hp tm hlt n4 n2 n3 hso n11 (by omega) hj hc) rfl (fun _ _ _ q => q))
            have M1 := nm_i (M1 := MS.s_fresh (MS.s_kept (MS.s_written (MS.s_cutLeft (MS.s_on (MS.s_cod M 1) false) (-1)) M.written) M.records) false) (b := 0) (Pc2 := fun sz => pC D dA [.ref mm, .long ((((xs (6 * n + 1)).toInt64) <<< ((32 : Int32).toInt64 &&& 63)) ||| (((xs (6 * n + 2)).toInt64) &&& 4294967295))] (MW dA mm mad M) sz) (fun sz => k_retain_5b l D dA sz mm mad M ((((xs (6 * n + 1)).toInt64) <<< ((32 : Int32).toInt64 &&& 63)) ||| (((xs (6 * n + 2)).toInt64) &&& 4294967295)) on k3 k4 k5 (Or.inl (g5.trans hj)) (by rw [y1, eC]; exact hc)) (fun r u q => ⟨q, by rw [eW]⟩) (fun _ _ _ q => q)
            exact l9_12_x l hC (k9 := 1) hi hL ⟨by omega, by omega, by omega, by omega⟩ ⟨by omega, by omega⟩ rfl k_n1 W1 M1 hP hD hS hl (fun u H1 locs1 ls1 hf hP hD hS hl => cont u _ _ _ (by rw [show u = _ from hf]; exact hr2) og H1 locs1 ls1 hP hD hS hl)
          · exact fin (Or.inl hj) (by rw [eC]; exact hc)
        | true =>
          have eC : x.wjC = cutF x.cutLeft := if_pos hj
          have eW : M.syWr = M.written + 1 := by
            rw [y2, g7]
            exact if_pos hj
          by_cases hc : x.cutLeft = 0
          · have hr2 := rl_pw (cs' := cs + 1 + 0 + 0) (ss' := ss + 6 + 0 + 0) hR (by omega) 1 (by omega) (by omega)
            obtain ⟨rn1, rn2⟩ := rl_room hr2
            have W1 := fun sz => k8_retain_1 l D dA sz h ad o og x ((((xs (6 * n + 1)).toInt64) <<< ((32 : Int32).toInt64 &&& 63)) ||| (((xs (6 * n + 2)).toInt64) &&& 4294967295)) (fun u => u = VS.s_cutLeft (VS.s_powered x false) (-1)) _ _ _ _ (nf_x0 (fun sz => v_retain_i l (lS_tr hC) D dA sz h ad x PS ((((xs (6 * n + 1)).toInt64) <<< ((32 : Int32).toInt64 &&& 63)) ||| (((xs (6 * n + 2)).toInt64) &&& 4294967295)) hp tm hlt n4 n2 n3 hso n11 (by omega) hj hc) rfl (fun _ _ _ q => q))
            have M1 := fun sz => k_retain_5a l D dA sz mm mad M ((((xs (6 * n + 1)).toInt64) <<< ((32 : Int32).toInt64 &&& 63)) ||| (((xs (6 * n + 2)).toInt64) &&& 4294967295)) on k3 k4 k5 (g5.trans hj) (g6.trans hc)
            exact l9_12_x l hC (k9 := 1) hi hL ⟨by omega, by omega, by omega, by omega⟩ ⟨by omega, by omega⟩ rfl k_n1 W1 M1 hP hD hS hl (fun u H1 locs1 ls1 hf hP hD hS hl => cont u _ _ _ (by rw [show u = _ from hf]; exact hr2) og H1 locs1 ls1 hP hD hS hl)
          · by_cases hc3 : cutF x.cutLeft = 0
            · have hr2 := rl_sp1 (cs' := cs + 1 + 0 + 0) (ss' := ss + 6 + 0 + 0) hR (by omega) (by omega) (by omega)
              obtain ⟨rn1, rn2⟩ := rl_room hr2
              have W1 := fun sz => k8_retain_1 l D dA sz h ad o og x ((((xs (6 * n + 1)).toInt64) <<< ((32 : Int32).toInt64 &&& 63)) ||| (((xs (6 * n + 2)).toInt64) &&& 4294967295)) (fun u => u = VS.s_jch (VS.s_jkept (VS.s_writes (VS.s_cutLeft (VS.s_powered x false) (-1)) (x.writes + 1)) x.jsize) false) _ _ _ _ (nf_x0 (fun sz => v_retain_k l (lS_tr hC) D dA sz h ad x PS ((((xs (6 * n + 1)).toInt64) <<< ((32 : Int32).toInt64 &&& 63)) ||| (((xs (6 * n + 2)).toInt64) &&& 4294967295)) hp tm hlt n4 n2 n3 hso n11 (by omega) hj hc hc3) rfl (fun _ _ _ q => q))
              have M1 := nm_i (M1 := MS.s_fresh (MS.s_kept (MS.s_written (MS.s_cutLeft (MS.s_on (MS.s_cod M 1) false) (-1)) (M.written + 1)) M.records) false) (b := 0) (Pc2 := fun sz => pC D dA [.ref mm, .long ((((xs (6 * n + 1)).toInt64) <<< ((32 : Int32).toInt64 &&& 63)) ||| (((xs (6 * n + 2)).toInt64) &&& 4294967295))] (MW dA mm mad M) sz) (fun sz => k_retain_5b l D dA sz mm mad M ((((xs (6 * n + 1)).toInt64) <<< ((32 : Int32).toInt64 &&& 63)) ||| (((xs (6 * n + 2)).toInt64) &&& 4294967295)) on k3 k4 k5 (Or.inr (by rw [g6]; exact hc)) (by rw [y1, eC]; exact hc3)) (fun r u q => ⟨q, by rw [eW]⟩) (fun _ _ _ q => q)
              exact l9_12_x l hC (k9 := 1) hi hL ⟨by omega, by omega, by omega, by omega⟩ ⟨by omega, by omega⟩ rfl k_n1 W1 M1 hP hD hS hl (fun u H1 locs1 ls1 hf hP hD hS hl => cont u _ _ _ (by rw [show u = _ from hf]; exact hr2) og H1 locs1 ls1 hP hD hS hl)
            · exact fin (Or.inr hc) (by rw [eC]; exact hc3)

end CJ
end
section
/-! A compact: what it counts. -/
theorem td_F (m0 : MS) (hs : ∀ q, q < m0.points → m0.pointSeries q < 256) : m0.tidS.shoS.points ≤ m0.points ∧ (∀ q, q < m0.tidS.shoS.points → ¬ m0.tidS.shoS.places q = -2) ∧ (∀ q, q < m0.tidS.shoS.points → m0.tidS.shoS.pointSeries q < 256) ∧ m0.tidS.shoS.deletes = m0.deletes ∧ m0.tidS.shoS.parcelNumber = m0.parcelNumber ∧ cnt m0.tidS.shoS.points m0.tidS.shoS.pkd = cnt m0.points m0.pkd := by
  have f1 : m0.tidS.shoS.points = cnt m0.points m0.stay := rfl
  have f2 : m0.tidS.shoS.places = tdT m0.stay m0.places m0.points := rfl
  have f3 : m0.tidS.shoS.pointSeries = tdT m0.stay m0.pointSeries m0.points := rfl
  refine ⟨by rw [f1]; exact cnt_le _ _, fun q hq => ?_, fun q hq => ?_, rfl, rfl, ?_⟩
  · rw [f1] at hq
    obtain ⟨j, hj, c, ej⟩ := cnt_at hq
    rw [f2, ← ej, tdT_get hj c]
    have c : (!decide (m0.places j = -2)) = true := c
    intro z
    rw [decide_eq_true z] at c
    cases c
  · rw [f1] at hq
    obtain ⟨j, hj, c, ej⟩ := cnt_at hq
    rw [f3, ← ej, tdT_get hj c]
    exact hs j hj
  · rw [f1]
    refine td_cnt (st := m0.stay) (c := m0.pkd) (fun q hq hp => ?_) (fun q hq hst => ?_) m0.points (Nat.le_refl _)
    · have hp : (!decide (m0.places q < 0)) = true := hp
      show (!decide (m0.places q = -2)) = true
      by_cases d : m0.places q = -2
      · rw [d] at hp
        cases hp
      · rw [decide_eq_false d]
        rfl
    · show (!decide (m0.tidS.shoS.places (cnt q m0.stay) < 0)) = !decide (m0.places q < 0)
      rw [f2, tdT_get hq hst]
theorem cm_F (M : MS) (d : Nat) (hs : ∀ q, q < M.points → M.pointSeries q < 256) (h12 : ∀ q, q < M.points → M.is12 d q = true → M.pkd q = true) : (M.cmS d).points ≤ M.points ∧ (∀ q, q < (M.cmS d).points → ¬ (M.cmS d).places q = -2) ∧ (∀ q, q < (M.cmS d).points → (M.cmS d).pointSeries q < 256) ∧ (M.cmS d).deletes = M.deletes ∧ (M.cmS d).parcelNumber = M.parcelNumber + 1 ∧ cnt (M.cmS d).points (M.cmS d).pkd ≤ cnt M.points M.pkd := by
  have core : ∀ m0 : MS, m0.points = M.points → m0.pointSeries = M.pointSeries → m0.deletes = M.deletes → m0.parcelNumber = M.parcelNumber + 1 → m0.places = mapT M.points (M.is12 d) M.flP M.places → (m0.tidS.shoS.points ≤ M.points ∧ (∀ q, q < m0.tidS.shoS.points → ¬ m0.tidS.shoS.places q = -2) ∧ (∀ q, q < m0.tidS.shoS.points → m0.tidS.shoS.pointSeries q < 256) ∧ m0.tidS.shoS.deletes = M.deletes ∧ m0.tidS.shoS.parcelNumber = M.parcelNumber + 1 ∧ cnt m0.tidS.shoS.points m0.tidS.shoS.pkd ≤ cnt M.points M.pkd) := by
    intro m0 e1 e2 e3 e4 e5
    obtain ⟨f1, f2, f3, f4, f5, f6⟩ := td_F m0 (fun q hq => by rw [e2]; exact hs q (by omega))
    refine ⟨by omega, f2, f3, f4.trans e3, f5.trans e4, ?_⟩
    rw [f6, e1]
    refine cnt_le2 (fun q hq hp => ?_)
    by_cases c : M.is12 d q = true
    · exact h12 q hq c
    · have hp : (!decide (m0.places q < 0)) = true := hp
      show (!decide (M.places q < 0)) = true
      rw [e5, mapT_v hq, if_neg c] at hp
      exact hp
  unfold MS.cmS
  cases decide (M.cmN d = 0) with
  | true => exact core ((((M.cm1 d).cm2 d (M.cmN d)).rmS (d + 1)).rmS d) rfl rfl rfl rfl rfl
  | false => exact core (((M.cm1 d).cm2 d (M.cmN d)).rmS (d + 1)) rfl rfl rfl rfl rfl
theorem cms_j (M : MS) (d : Nat) : (M.cmS d).firsts = M.firsts ∧ (M.cmS d).textLengths = M.textLengths ∧ (M.cmS d).recordSeries = M.recordSeries := by
  unfold MS.cmS
  cases decide (M.cmN d = 0) with
  | true => exact ⟨rfl, rfl, rfl⟩
  | false => exact ⟨rfl, rfl, rfl⟩
theorem ft_cm {M : MS} {x : VS} (d : Nat) (h : ftM M x) : ftM (M.cmS d) x := by
  obtain ⟨j1, j2, j3⟩ := cms_j M d
  unfold ftM
  rw [j1, j2, j3]
  exact h
theorem cm_cod (M : MS) (d : Nat) : (M.cmS d).cod = 0 := by
  unfold MS.cmS
  cases decide (M.cmN d = 0) with
  | true => rfl
  | false => rfl
section CM9
variable {dA : Nat → ClassId} {ad : Nat → Nat} {e0 : Nat} {x : VS} {M : MS} {SS : Nat → List LB} {gq : LI} {rq : va_W} {la : Nat → Nat} {gk : LI} {AT : Nat → Nat → Nat} {T : Nat → TB}
theorem cms_keep (d : Nat) (h : rlT M x ∧ rlS dA SS M x ∧ rlA dA ad e0 M x gq rq la gk AT T) : rlT (M.cmS d) x ∧ rlS dA SS (M.cmS d) x ∧ rlA dA ad e0 (M.cmS d) x gq rq la gk AT T := by
  unfold MS.cmS
  cases decide (M.cmN d = 0) with
  | true => exact h
  | false => exact h
end CM9
theorem is12_pk {m : MS} {x : VS} {PS : Nat → PT} {dn : Nat → Nat} {d : Nat} (h : ptR m x PS dn) (hd : d + 2 ≤ x.npc) : ∀ q, q < m.points → m.is12 d q = true → m.pkd q = true := by
  intro q hq c
  have h4 := h.2.2.1.2.2.2
  have n1 : ¬ nI (m.parcels d) < 0 := nI_nn (by have := h.2.2.1.2.2.1 d (by omega); omega)
  have n2 : ¬ nI (m.parcels (d + 1)) < 0 := nI_nn (by have := h.2.2.1.2.2.1 (d + 1) (by omega); omega)
  unfold MS.is12 at c
  rw [Bool.or_eq_true, decide_eq_true_eq, decide_eq_true_eq] at c
  show (!decide (m.places q < 0)) = true
  rcases c with e | e
  · rw [e, decide_eq_false n1]
    rfl
  · rw [e, decide_eq_false n2]
    rfl
end
section
/-! A compact: parcels taken out, room for what is gathered. -/
theorem capR_b (N s : Nat) : ∀ k, capR N s k ≤ max N (2 * (s + k))
  | 0 => Nat.le_max_left _ _
  | k + 1 => by
    have h := capR_b N s k
    show (if s + k = capR N s k then 2 * (s + k) else capR N s k) ≤ max N (2 * (s + (k + 1)))
    split
    · omega
    · omega
theorem capR_2 {N a b : Nat} (hN : N ≤ 8192) (h : a + b ≤ 4096) : capR (capR N 0 a) a b ≤ 8192 := by
  have h1 := capR_b N 0 a
  have h2 := capR_b (capR N 0 a) a b
  omega
theorem capR_ge (N s k : Nat) : N ≤ capR N s k := capR_m N s (Nat.zero_le k)
theorem sum_pl (f : Nat → Nat) (a : Nat) : ∀ b, sumN (a + b) f = sumN a f + sumN b (fun j => f (a + j))
  | 0 => rfl
  | b + 1 => by
    show sumN (a + b) f + f (a + b) = sumN a f + (sumN b (fun j => f (a + j)) + f (a + b))
    rw [sum_pl f a b]
    omega
theorem sf_lo {α : Type} {g : Nat → α} {st d n z : Nat} (h : z < st) : sfT g st d n z = g z := if_neg (by omega)
theorem sf_in {α : Type} {g : Nat → α} {st d n z : Nat} (h : st ≤ z ∧ z < st + n) : sfT g st d n z = g (z + d) := if_pos h
theorem sum_sf2 {PS : Nat → PT} {d npc : Nat} (h : d + 2 ≤ npc) : sumN (npc - 2) (blN (sfT PS d 2 (npc - (d + 2)))) ≤ sumN npc (blN PS) := by
  obtain ⟨r, er⟩ : ∃ r, npc = d + (2 + r) := ⟨npc - (d + 2), by omega⟩
  have e1 : npc - 2 = d + r := by omega
  have e2 : npc - (d + 2) = r := by omega
  rw [e1, e2, er, sum_pl _ d r, sum_pl (blN PS) d (2 + r), sum_pl (fun j => blN PS (d + j)) 2 r]
  have a1 : sumN d (blN (sfT PS d 2 r)) = sumN d (blN PS) := sumN_ext (fun k hk => by
    show (sfT PS d 2 r k).bl = (PS k).bl
    rw [sf_lo hk])
  have a2 : sumN r (fun j => blN (sfT PS d 2 r) (d + j)) = sumN r (fun j => blN PS (d + (2 + j))) := sumN_ext (fun k hk => by
    show (sfT PS d 2 r (d + k)).bl = (PS (d + (2 + k))).bl
    rw [sf_in (by omega)]
    congr 2
    omega)
  rw [a1, a2]
  omega
theorem sum_sf1 {PS : Nat → PT} {P : PT} {d npc : Nat} (h : d + 2 ≤ npc) : sumN (npc - 1) (blN (sfT (va_up PS d P) (d + 1) 1 (npc - (d + 2)))) ≤ sumN npc (blN PS) + P.bl := by
  obtain ⟨r, er⟩ : ∃ r, npc = d + (2 + r) := ⟨npc - (d + 2), by omega⟩
  have e1 : npc - 1 = d + (1 + r) := by omega
  have e2 : npc - (d + 2) = r := by omega
  rw [e1, e2, er, sum_pl _ d (1 + r), sum_pl (fun j => blN (sfT (va_up PS d P) (d + 1) 1 r) (d + j)) 1 r, sum_pl (blN PS) d (2 + r), sum_pl (fun j => blN PS (d + j)) 2 r]
  have a1 : sumN d (blN (sfT (va_up PS d P) (d + 1) 1 r)) = sumN d (blN PS) := sumN_ext (fun k hk => by
    show (sfT (va_up PS d P) (d + 1) 1 r k).bl = (PS k).bl
    rw [sf_lo (by omega), va_up_ne _ _ (by omega)])
  have a2 : sumN 1 (fun j => blN (sfT (va_up PS d P) (d + 1) 1 r) (d + j)) = P.bl := by
    show 0 + (sfT (va_up PS d P) (d + 1) 1 r (d + 0)).bl = P.bl
    rw [sf_lo (by omega), Nat.add_zero, va_up_self, Nat.zero_add]
  have a3 : sumN r (fun j => blN (sfT (va_up PS d P) (d + 1) 1 r) (d + (1 + j))) = sumN r (fun j => blN PS (d + (2 + j))) := sumN_ext (fun k hk => by
    show (sfT (va_up PS d P) (d + 1) 1 r (d + (1 + k))).bl = (PS (d + (2 + k))).bl
    rw [sf_in (by omega), va_up_ne _ _ (by omega)]
    congr 2
    omega)
  rw [a1, a2, a3]
  omega
theorem psOk_sf {dA : Nat → ClassId} {nP : Nat → Option Nat} {N N' st d n : Nat} {pl : va_W} {PS : Nat → PT} (h : psOk dA nP N pl PS) (hz : ∀ z, z < N' → (st ≤ z ∧ z < st + n → z + d < N) ∧ (¬ (st ≤ z ∧ z < st + n) → z < N)) : psOk dA (sfT nP st d n) N' pl (sfT PS st d n) := by
  intro k hk
  obtain ⟨h1, h2⟩ := hz k hk
  by_cases c : st ≤ k ∧ k < st + n
  · rw [sf_in c, sf_in c]
    exact h (k + d) (h1 c)
  · have e1 : sfT nP st d n k = nP k := if_neg c
    have e2 : sfT PS st d n k = PS k := if_neg c
    rw [e1, e2]
    exact h k (h2 c)
theorem psOk_up {dA : Nat → ClassId} {nP : Nat → Option Nat} {N d mp : Nat} {pl : va_W} {PS : Nat → PT} {P : PT} (h : psOk dA nP N pl PS) (hp : isPc dA pl mp P) (ho : pcOk P) : psOk dA (va_up nP d (some mp)) N pl (va_up PS d P) := by
  intro k hk
  by_cases c : k = d
  · rw [c, va_up_self, va_up_self]
    exact ⟨mp, rfl, hp, ho⟩
  · rw [va_up_ne _ _ c, va_up_ne _ _ c]
    exact h k hk
end
section
/-! A compact: the sizes. -/
theorem pc2_le {m : MS} {x : VS} {PS : Nat → PT} {dn : Nat → Nat} {d : Nat} (h : ptR m x PS dn) (hd : d + 2 ≤ x.npc) : cnt (PS d).n (x.sePc (PS d)) + cnt (PS (d + 1)).n (x.sePc (PS (d + 1))) ≤ m.points := by
  have e1 : (PS d).n = cnt m.points (m.inpc d) := (h.1.2.2.2 d (by omega)).1.1
  have e2 : (PS (d + 1)).n = cnt m.points (m.inpc (d + 1)) := (h.1.2.2.2 (d + 1) (by omega)).1.1
  have c1 := cnt_le (PS d).n (x.sePc (PS d))
  have c2 := cnt_le (PS (d + 1)).n (x.sePc (PS (d + 1)))
  have e3 : cnt m.points (fun q => m.inpc d q || m.inpc (d + 1) q) = cnt m.points (m.inpc d) + cnt m.points (m.inpc (d + 1)) := cnt_add (fun q hq => by
    refine ⟨by rw [Bool.or_eq_true], fun z => ?_⟩
    have z1 : m.places q = nI (m.parcels d) := of_decide_eq_true z.1
    have z2 : m.places q = nI (m.parcels (d + 1)) := of_decide_eq_true z.2
    have h3 := h.2.2.1.2.2.1 d (by omega)
    have h4 := h.2.2.1.2.2.1 (d + 1) (by omega)
    have h5 := h.2.2.1.2.2.2
    have e := nI_inj (by omega) (by omega) (z1.symm.trans z2)
    have := h.2.2.1.2.1 d (d + 1) (by omega) (by omega) e
    omega)
  have c3 := cnt_le m.points (fun q => m.inpc d q || m.inpc (d + 1) q)
  omega
section RC
variable {dA : Nat → ClassId} {ad : Nat → Nat} {e0 n : Nat} {x : VS} {M : MS} {cs ss : Nat} {PS : Nat → PT} {SS : Nat → List LB} {dn bn : Nat → Nat} {gq : LI} {rq : va_W} {la : Nat → Nat} {gk : LI} {AT : Nat → Nat → Nat} {T : Nat → TB} {d : Nat}
theorem wjW_l2 (x : VS) : x.wjW ≤ x.writes + 1 := by
  unfold VS.wjW
  split
  · exact Nat.le_refl _
  · exact Nat.le_succ _
theorem rl_c0 (a1 : coR M x PS dn bn) (a2 : rlT M x) (a3 : rlS dA SS M x) (a4 : rlN dA PS M x n) (a5 : rlA dA ad e0 M x gq rq la gk AT T) (ar : rlR x gk T n cs ss) (hn : n + 1 ≤ 512) (hd : d + 2 ≤ x.npc) (hz : cnt (PS d).n (x.sePc (PS d)) + cnt (PS (d + 1)).n (x.sePc (PS (d + 1))) = 0) (ga2 go2 : Nat → Nat) (gt2 gv2 : Nat → Int64) : Rl dA ad e0 (n + 1) ((x.cp0 PS d ga2 go2 gt2 gv2).kmS (sfT PS d 2 (x.npc - (d + 2)))) (M.cmS d) (cs + 3 * (capR (capR x.gN 0 (cnt (PS d).n (x.sePc (PS d)))) (cnt (PS d).n (x.sePc (PS d))) (cnt (PS (d + 1)).n (x.sePc (PS (d + 1)))) - x.gN) + 0 + 0) (ss + 6 * (capR (capR x.gN 0 (cnt (PS d).n (x.sePc (PS d)))) (cnt (PS d).n (x.sePc (PS d))) (cnt (PS (d + 1)).n (x.sePc (PS (d + 1)))) - x.gN) + 0 + 0) := by
  obtain ⟨a6, a7, a8⟩ := ar
  obtain ⟨⟨n1, n2, n3, n4⟩, ⟨n5, n6, n7⟩, ⟨n8, n9, n10, n11, n12, n13, n14, n15⟩, ⟨n16, n17, n18, n19⟩, ⟨n20, n21, n22, n23⟩, n24⟩ := a4
  obtain ⟨d', co'⟩ := cms_co0 (ga2 := ga2) (go2 := go2) (gt2 := gt2) (gv2 := gv2) a1 hd n3 (by omega) hz
  obtain ⟨f1, f2, f3, f4, f5, f6⟩ := cm_F M d n23 (is12_pk a1.1 hd)
  have pa := pt_all co'.1 f2
  have hle := hs_le a1.2.2.2.2.1
  have pa : (M.cmS d).points = cnt (M.cmS d).points (M.cmS d).pkd + x.hsize := pa
  obtain ⟨k1, k2, k3⟩ := cms_keep d ⟨a2, a3, a5⟩
  have hp2 := pc2_le a1.1 hd
  have hg := capR_2 (N := x.gN) (a := cnt (PS d).n (x.sePc (PS d))) (b := cnt (PS (d + 1)).n (x.sePc (PS (d + 1)))) n15 (by omega)
  have hge := capR_ge (capR x.gN 0 (cnt (PS d).n (x.sePc (PS d)))) (cnt (PS d).n (x.sePc (PS d))) (cnt (PS (d + 1)).n (x.sePc (PS (d + 1))))
  have hge2 := capR_ge x.gN 0 (cnt (PS d).n (x.sePc (PS d)))
  have hsum := sum_sf2 (PS := PS) hd
  have hw := wjW_l2 x
  have hnc : ((x.cp0 PS d ga2 go2 gt2 gv2).kmS (sfT PS d 2 (x.npc - (d + 2)))).nsc ≤ x.nsc := cnt_le _ _
  refine ⟨_, SS, d', d', gq, rq, la, gk, AT, T, co', k1, k2, ⟨⟨n1, ?_, ?_, ?_⟩, ⟨?_, n6, n7⟩, ⟨n8, n9, n10, n11, n12, n13, ?_, ?_⟩, ⟨?_, ?_, ?_, ?_⟩, ⟨?_, by omega, by omega, f3⟩, ⟨n24.1.1, ft_cm d n24.1.2⟩, n24.2⟩, k3, hn, ?_, ?_⟩
  · show x.npc - 2 ≤ 32
    omega
  · omega
  · show psOk dA (sfT x.nP d 2 (x.npc - (d + 2))) (x.npc - 2) x.pl (sfT PS d 2 (x.npc - (d + 2)))
    exact psOk_sf n4 (fun z hz => ⟨fun c => by omega, fun c => by omega⟩)
  · show x.jlimit + 2 + (x.ncat + sumN (x.npc - 2) (blN (sfT PS d 2 (x.npc - (d + 2))))) ≤ x.diskBlocks
    omega
  · show 0 < capR (capR x.gN 0 (cnt (PS d).n (x.sePc (PS d)))) (cnt (PS d).n (x.sePc (PS d))) (cnt (PS (d + 1)).n (x.sePc (PS (d + 1))))
    omega
  · show capR (capR x.gN 0 (cnt (PS d).n (x.sePc (PS d)))) (cnt (PS d).n (x.sePc (PS d))) (cnt (PS (d + 1)).n (x.sePc (PS (d + 1)))) ≤ 8192
    omega
  · show 16 * x.jsize + x.tapeLength ≤ 32 * (n + 1)
    omega
  · show 16 * x.hsize + x.tapeLength ≤ 32 * (n + 1)
    omega
  · show 16 * (cnt (M.cmS d).points (M.cmS d).pkd + cnt x.jsize (fun r => decide (x.jK r = 1))) + x.tapeLength ≤ 32 * (n + 1)
    omega
  · show (M.cmS d).points ≤ cnt (M.cmS d).points (M.cmS d).pkd + cnt x.jsize (fun r => decide (x.jK r = 1))
    omega
  · show x.wjW + (0 + 1) ≤ 300 * (n + 1)
    omega
  · show cs + 3 * (capR (capR x.gN 0 (cnt (PS d).n (x.sePc (PS d)))) (cnt (PS d).n (x.sePc (PS d))) (cnt (PS (d + 1)).n (x.sePc (PS (d + 1)))) - x.gN) + 0 + 0 + 17 * x.tapeLength ≤ 2000 + 400 * (n + 1) + 6 * x.jN + 3 * x.hN + 3 * (capR (capR x.gN 0 (cnt (PS d).n (x.sePc (PS d)))) (cnt (PS d).n (x.sePc (PS d))) (cnt (PS (d + 1)).n (x.sePc (PS (d + 1))))) + x.tpN
    omega
  · show ss + 6 * (capR (capR x.gN 0 (cnt (PS d).n (x.sePc (PS d)))) (cnt (PS d).n (x.sePc (PS d))) (cnt (PS (d + 1)).n (x.sePc (PS (d + 1)))) - x.gN) + 0 + 0 + 70 * x.tapeLength ≤ 1177800 + 6000 * (n + 1) + 12 * x.jN + 6 * x.hN + 6 * (capR (capR x.gN 0 (cnt (PS d).n (x.sePc (PS d)))) (cnt (PS d).n (x.sePc (PS d))) (cnt (PS (d + 1)).n (x.sePc (PS (d + 1))))) + 2 * x.tpN + (700 * gk.sz + 2 * sumN gk.sz (fun tb => (T tb).cN) + 4 * x.bN)
    omega
end RC
end
section
/-! A compact of points that are seen: the sizes. -/
theorem sf_Q {PS : Nat → PT} {P : PT} {d npc : Nat} (h : d + 2 ≤ npc) : ∀ j, j < npc - 1 → sfT (va_up PS d P) (d + 1) 1 (npc - (d + 2)) j = if j = d then P else if j < d then PS j else PS (j + 1) := by
  intro j hj
  by_cases c : j = d
  · rw [if_pos c, sf_lo (by omega), c, va_up_self]
  · rw [if_neg c]
    by_cases c2 : j < d
    · rw [if_pos c2, sf_lo (by omega), va_up_ne _ _ c]
    · rw [if_neg c2, sf_in (by omega), va_up_ne _ _ (by omega)]
section RD
variable {dA : Nat → ClassId} {ad : Nat → Nat} {e0 n : Nat} {x : VS} {M : MS} {cs ss : Nat} {PS : Nat → PT} {SS : Nat → List LB} {dn bn : Nat → Nat} {gq : LI} {rq : va_W} {la : Nat → Nat} {gk : LI} {AT : Nat → Nat → Nat} {T : Nat → TB} {d : Nat}
theorem rl_c1 {ga2 go2 O : Nat → Nat} {gt2 gv2 TT V : Nat → Int64} {nb mp N : Nat} {pl1 : va_W} {Q : Nat → PT} {P : PT} (a1 : coR M x PS dn bn) (a2 : rlT M x) (a3 : rlS dA SS M x) (a4 : rlN dA PS M x n) (a5 : rlA dA ad e0 M x gq rq la gk AT T) (ar : rlR x gk T n cs ss) (hn : n + 1 ≤ 512) (hd : d + 2 ≤ x.npc) (hN : N = cnt (PS d).n (x.sePc (PS d)) + cnt (PS (d + 1)).n (x.sePc (PS (d + 1)))) (hz : 0 < N) (ha : gat2 (x.sePc (PS d)) (x.sePc (PS (d + 1))) (PS d) (PS (d + 1)) go2 gt2 gv2) (l1 : laid go2 N N go2 O) (l2 : laid go2 N N gt2 TT) (l3 : laid go2 N N gv2 V) (hP : P = mkP N O TT V) (hb : P.bl = nb) (hQ : Q = sfT (va_up PS d P) (d + 1) 1 (x.npc - (d + 2))) (hpc : isPc dA pl1 mp P) (hok : pcOk P) (hs : ∀ c, c ∈ x.pl → c ∈ pl1) (hf : nb ≤ x.fr PS) : Rl dA ad e0 (n + 1) ((x.cp1 PS d nb mp pl1 ga2 go2 gt2 gv2).kmS Q) (M.cmS d) (cs + (3 * (capR (capR x.gN 0 (cnt (PS d).n (x.sePc (PS d)))) (cnt (PS d).n (x.sePc (PS d))) (cnt (PS (d + 1)).n (x.sePc (PS (d + 1)))) - x.gN) + 5) + 0 + 0) (ss + (6 * (capR (capR x.gN 0 (cnt (PS d).n (x.sePc (PS d)))) (cnt (PS d).n (x.sePc (PS d))) (cnt (PS (d + 1)).n (x.sePc (PS (d + 1)))) - x.gN) + (8 + (3 * (cnt (PS d).n (x.sePc (PS d)) + cnt (PS (d + 1)).n (x.sePc (PS (d + 1)))) + x.nser + 1))) + 0 + 0) := by
  obtain ⟨a6, a7, a8⟩ := ar
  obtain ⟨⟨n1, n2, n3, n4⟩, ⟨n5, n6, n7⟩, ⟨n8, n9, n10, n11, n12, n13, n14, n15⟩, ⟨n16, n17, n18, n19⟩, ⟨n20, n21, n22, n23⟩, n24⟩ := a4
  obtain ⟨d', co'⟩ := cms_co1 (nb := nb) (mp := mp) (pl1 := pl1) (Q := Q) (ga2 := ga2) a1 hd n3 (by omega) hN hz ha l1 l2 l3 (by rw [← hP]; exact hb) (fun j hj => by rw [hQ, ← hP]; exact sf_Q hd j hj)
  obtain ⟨f1, f2, f3, f4, f5, f6⟩ := cm_F M d n23 (is12_pk a1.1 hd)
  have pa := pt_all co'.1 f2
  have hle := hs_le a1.2.2.2.2.1
  have pa : (M.cmS d).points = cnt (M.cmS d).points (M.cmS d).pkd + x.hsize := pa
  obtain ⟨k1, k2, k3⟩ := cms_keep d ⟨a2, a3, a5⟩
  have hp2 := pc2_le a1.1 hd
  have hg := capR_2 (N := x.gN) (a := cnt (PS d).n (x.sePc (PS d))) (b := cnt (PS (d + 1)).n (x.sePc (PS (d + 1)))) n15 (by omega)
  have hge := capR_ge (capR x.gN 0 (cnt (PS d).n (x.sePc (PS d)))) (cnt (PS d).n (x.sePc (PS d))) (cnt (PS (d + 1)).n (x.sePc (PS (d + 1))))
  have hge2 := capR_ge x.gN 0 (cnt (PS d).n (x.sePc (PS d)))
  have hsum : sumN (x.npc - 1) (blN Q) ≤ sumN x.npc (blN PS) + nb := by
    rw [hQ, ← hb]
    exact sum_sf1 hd
  have hw := wjW_l2 x
  have t11 := a2.2.2.2.2.1
  have hf : nb ≤ x.diskBlocks - 2 - x.jlimit - (x.ncat + sumN x.npc (blN PS)) := hf
  have hnc : ((x.cp1 PS d nb mp pl1 ga2 go2 gt2 gv2).kmS Q).nsc ≤ x.nsc := cnt_le _ _
  have hpq : psOk dA (sfT (va_up x.nP d (some mp)) (d + 1) 1 (x.npc - (d + 2))) (x.npc - 1) pl1 Q := by
    rw [hQ]
    exact psOk_sf (psOk_up (psOk_m hs n4) hpc hok) (fun z hz => ⟨fun c => by omega, fun c => by omega⟩)
  refine ⟨_, SS, d', d', gq, rq, la, gk, AT, T, co', k1, rlS_m (x := x) hs k2, ⟨⟨n1, ?_, ?_, hpq⟩, ⟨?_, n6, n7⟩, ⟨n8, n9, n10, n11, n12, n13, ?_, ?_⟩, ⟨?_, ?_, ?_, ?_⟩, ⟨?_, by omega, by omega, f3⟩, ⟨n24.1.1, ft_cm d n24.1.2⟩, n24.2⟩, rlA_m (x := x) hs k3, hn, ?_, ?_⟩
  · show x.npc - 1 ≤ 32
    omega
  · omega
  · show x.jlimit + 2 + (x.ncat + sumN (x.npc - 1) (blN Q)) ≤ x.diskBlocks
    omega
  · show 0 < capR (capR x.gN 0 (cnt (PS d).n (x.sePc (PS d)))) (cnt (PS d).n (x.sePc (PS d))) (cnt (PS (d + 1)).n (x.sePc (PS (d + 1))))
    omega
  · show capR (capR x.gN 0 (cnt (PS d).n (x.sePc (PS d)))) (cnt (PS d).n (x.sePc (PS d))) (cnt (PS (d + 1)).n (x.sePc (PS (d + 1)))) ≤ 8192
    omega
  · show 16 * x.jsize + x.tapeLength ≤ 32 * (n + 1)
    omega
  · show 16 * x.hsize + x.tapeLength ≤ 32 * (n + 1)
    omega
  · show 16 * (cnt (M.cmS d).points (M.cmS d).pkd + cnt x.jsize (fun r => decide (x.jK r = 1))) + x.tapeLength ≤ 32 * (n + 1)
    omega
  · show (M.cmS d).points ≤ cnt (M.cmS d).points (M.cmS d).pkd + cnt x.jsize (fun r => decide (x.jK r = 1))
    omega
  · show x.wjW + (nb + 1) ≤ 300 * (n + 1)
    omega
  · show cs + (3 * (capR (capR x.gN 0 (cnt (PS d).n (x.sePc (PS d)))) (cnt (PS d).n (x.sePc (PS d))) (cnt (PS (d + 1)).n (x.sePc (PS (d + 1)))) - x.gN) + 5) + 0 + 0 + 17 * x.tapeLength ≤ 2000 + 400 * (n + 1) + 6 * x.jN + 3 * x.hN + 3 * (capR (capR x.gN 0 (cnt (PS d).n (x.sePc (PS d)))) (cnt (PS d).n (x.sePc (PS d))) (cnt (PS (d + 1)).n (x.sePc (PS (d + 1))))) + x.tpN
    omega
  · show ss + (6 * (capR (capR x.gN 0 (cnt (PS d).n (x.sePc (PS d)))) (cnt (PS d).n (x.sePc (PS d))) (cnt (PS (d + 1)).n (x.sePc (PS (d + 1)))) - x.gN) + (8 + (3 * (cnt (PS d).n (x.sePc (PS d)) + cnt (PS (d + 1)).n (x.sePc (PS (d + 1)))) + x.nser + 1))) + 0 + 0 + 70 * x.tapeLength ≤ 1177800 + 6000 * (n + 1) + 12 * x.jN + 6 * x.hN + 6 * (capR (capR x.gN 0 (cnt (PS d).n (x.sePc (PS d)))) (cnt (PS d).n (x.sePc (PS d))) (cnt (PS (d + 1)).n (x.sePc (PS (d + 1))))) + 2 * x.tpN + (700 * gk.sz + 2 * sumN gk.sz (fun tb => (T tb).cN) + 4 * x.bN)
    omega
end RD
end
