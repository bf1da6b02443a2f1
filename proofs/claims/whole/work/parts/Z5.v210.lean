/-! A retain: the sizes. -/
theorem sub1_lt {a t : Int64} (h : ¬ a < 0) : (a - 1 < t) ↔ a ≤ t := by
  have e0 : (0 : Int64).toInt = 0 := by decide
  have e1 : (1 : Int64).toInt = 1 := by decide
  rw [Int64.lt_iff_toInt_lt, e0] at h
  have h2 := a.toInt_lt
  have e : (a - 1).toInt = a.toInt - 1 := by
    rw [Int64.toInt_sub, e1]
    exact Int.bmod_eq_of_le (by omega) (by omega)
  rw [Int64.lt_iff_toInt_lt, Int64.le_iff_toInt_le, e]
  omega
theorem rt_cnt {m : MS} {x : VS} {PS : Nat → PT} {dn : Nat → Nat} (h : ptR m x PS dn) {a : Int64} (ha : ¬ a < 0) : cnt m.points (m.rtC a) = sumN x.npc (x.sbN PS (a - 1)) + cnt x.hsize (x.hBl a) := by
  have e := seen_sum h (fun q => !decide (a ≤ m.pointTimes q))
  have e1 : cnt m.points (m.rtC a) = cnt m.points (fun q => m.seen q && !decide (a ≤ m.pointTimes q)) := rfl
  have e2 : cnt x.hsize (x.hBl a) = cnt m.points (fun q => m.hdd q && !decide (a ≤ m.pointTimes q)) := hd_cnt h (fun q hq hc => by
    obtain ⟨a1, a2, -⟩ := h.1.1.2 q hq hc
    unfold VS.hBl
    rw [a2])
  rw [e1, e, e2, pk_sum h]
  congr 1
  refine sumN_ext (fun k hk => ?_)
  refine (pc_cnt h hk (F := x.siPc (PS k) (a - 1)) (fun q hq hc => ?_)).symm
  unfold VS.siPc
  rw [see_eq h hk hq hc, ((h.1.2.2.2 k hk).1.2 q hq hc).2.1, decide_eq_decide.mpr (sub1_lt ha)]
  exact Bool.and_comm _ _
section RU
variable {dA : Nat → ClassId} {ad : Nat → Nat} {e0 n : Nat} {x y z : VS} {m M : MS} {cs ss : Nat} {PS : Nat → PT} {SS : Nat → List LB} {dn bn : Nat → Nat} {gq : LI} {rq : va_W} {la : Nat → Nat} {gk : LI} {AT : Nat → Nat → Nat} {T : Nat → TB} {a : Int64}
theorem wj_keep (h : rlT m x ∧ rlS dA SS m x ∧ rlA dA ad e0 m x gq rq la gk AT T) : rlT m x.wjS ∧ rlS dA SS m x.wjS ∧ rlA dA ad e0 m x.wjS gq rq la gk AT T := by
  unfold VS.wjS
  split
  · exact h
  · exact h
theorem wj_same (x : VS) : (x.wjS.nser = x.nser ∧ x.wjS.npc = x.npc ∧ x.wjS.nsc = x.nsc ∧ x.wjS.nP = x.nP ∧ x.wjS.pl = x.pl ∧ x.wjS.ncat = x.ncat ∧ x.wjS.diskBlocks = x.diskBlocks ∧ x.wjS.gN = x.gN ∧ x.wjS.tapeLength = x.tapeLength ∧ x.wjS.tpN = x.tpN ∧ x.wjS.bN = x.bN ∧ x.wjS.jlimit = x.jlimit) ∧ (x.wjS.jsize = x.jsize ∧ x.wjS.jN = x.jN ∧ x.wjS.jfill = x.jfill ∧ x.wjS.jblock = x.jblock ∧ x.wjS.jK = x.jK ∧ x.wjS.jU = x.jU ∧ x.wjS.jB = x.jB ∧ x.wjS.jO = x.jO) ∧ x.wjS.hsize = x.hsize ∧ x.wjS.hN = x.hN ∧ x.wjS.writes ≤ x.writes + 1 := by
  unfold VS.wjS
  split
  · exact ⟨⟨rfl, rfl, rfl, rfl, rfl, rfl, rfl, rfl, rfl, rfl, rfl, rfl⟩, ⟨rfl, rfl, rfl, rfl, rfl, rfl, rfl, rfl⟩, rfl, rfl, Nat.le_refl _⟩
  · exact ⟨⟨rfl, rfl, rfl, rfl, rfl, rfl, rfl, rfl, rfl, rfl, rfl, rfl⟩, ⟨rfl, rfl, rfl, rfl, rfl, rfl, rfl, rfl⟩, rfl, rfl, Nat.le_succ _⟩
theorem rl_rt (a1 : coR M x PS dn bn) (a2 : rlT M x) (a3 : rlS dA SS M x) (a4 : rlN dA PS M x n) (a5 : rlA dA ad e0 M x gq rq la gk AT T) (ar : rlR x gk T n cs ss) (hn : n + 1 ≤ 512) (h0 : ¬ a < 0) (hh : x.nhor < a) : Rl dA ad e0 (n + 1) (((x.wjS.wb1).mhS PS a).kmS (tdT (mhC PS a) PS x.npc)) (M.rtS a) (cs + 0 + 0 + 0) (ss + 0 + 0 + 0) := by
  obtain ⟨a6, a7, a8⟩ := ar
  obtain ⟨⟨n1, n2, n3, n4⟩, ⟨n5, n6, n7⟩, ⟨n8, n9, n10, n11, n12, n13, n14, n15⟩, ⟨n16, n17, n18, n19⟩, ⟨n20, n21, n22, n23⟩, n24⟩ := a4
  have hm1 : (-1 : Int64) < a := by
    have e0 : (0 : Int64).toInt = 0 := by decide
    have e1 : (-1 : Int64).toInt = -1 := by decide
    rw [Int64.lt_iff_toInt_lt, e0] at h0
    rw [Int64.lt_iff_toInt_lt, e1]
    omega
  obtain ⟨d', co'⟩ := rts_co a1 hm1 hh n3
  obtain ⟨f1, f2, f3, f4, f5, f6⟩ := rt_F M a n23
  have pa := pt_all co'.1 f2
  obtain ⟨k1, k2, k3⟩ := rts_keep a (wj_keep ⟨a2, a3, a5⟩)
  obtain ⟨⟨s1, s2, s3, s4, s5, s6, s7, s8, s9, s10, s11, s12⟩, ⟨s13, s14, s15, s16, s18, s19, s20, s21⟩, s22, s23, s24⟩ := wj_same x
  obtain ⟨y, ey⟩ : ∃ y, y = x.wjS := ⟨_, rfl⟩
  rw [← ey] at co' pa k1 k2 k3 s1 s2 s3 s4 s5 s6 s7 s8 s9 s10 s11 s12 s13 s14 s15 s16 s18 s19 s20 s21 s22 s23 s24 ⊢
  have hle := hs_le co'.2.2.2.2.1
  have hsz : (((y.wb1).mhS PS a).kmS (tdT (mhC PS a) PS x.npc)).hsize ≤ y.hsize := cnt_le _ _
  have hnc : (((y.wb1).mhS PS a).kmS (tdT (mhC PS a) PS x.npc)).nsc ≤ y.nsc := cnt_le _ _
  have hnp : cnt x.npc (mhC PS a) ≤ x.npc := cnt_le _ _
  have hsum := sum_td (c := mhC PS a) (PS := PS) x.npc
  have hck : cnt y.jsize (fun r => decide (y.jK r = 1)) = cnt x.jsize (fun r => decide (x.jK r = 1)) := by rw [s13, s18]
  have hle : (((y.wb1).mhS PS a).kmS (tdT (mhC PS a) PS x.npc)).hsize ≤ cnt y.jsize (fun r => decide (y.jK r = 1)) := hle
  have k3' : rlA dA ad e0 (M.rtS a) (((y.wb1).mhS PS a).kmS (tdT (mhC PS a) PS x.npc)) gq rq la gk AT T := ⟨k3.1, k3.2.1, k3.2.2.1, k3.2.2.2.1, k3.2.2.2.2.1, h0⟩
  refine ⟨_, SS, d', d', gq, rq, la, gk, AT, T, co', k1, k2, ⟨⟨?_, ?_, ?_, ?_⟩, ⟨?_, ?_, ?_⟩, ⟨?_, ?_, ?_, ?_, ?_, ?_, ?_, ?_⟩, ⟨?_, ?_, ?_, ?_⟩, ⟨?_, by omega, by omega, f3⟩, fun q hq => ?_⟩, k3', hn, ?_, ?_⟩
  · show y.nser ≤ 256
    omega
  · show cnt y.npc (mhC PS a) ≤ 32
    rw [s2]
    omega
  · omega
  · show psOk dA (tdT (mhC PS a) y.nP y.npc) (cnt y.npc (mhC PS a)) y.pl (tdT (mhC PS a) PS x.npc)
    rw [s2, s4, s5]
    exact psOk_td n4
  · show y.jlimit + 2 + (y.ncat + sumN (cnt y.npc (mhC PS a)) (blN (tdT (mhC PS a) PS x.npc))) ≤ y.diskBlocks
    rw [s2]
    omega
  · show y.jfill ≤ 126
    omega
  · show y.jblock < y.jlimit
    omega
  · show y.jsize ≤ y.jN
    omega
  · show 0 < y.jN
    omega
  · show y.jN ≤ 4096
    omega
  · show (((y.wb1).mhS PS a).kmS (tdT (mhC PS a) PS x.npc)).hsize ≤ y.hN
    omega
  · show 0 < y.hN
    omega
  · show y.hN ≤ 4096
    omega
  · show 0 < y.gN
    omega
  · show y.gN ≤ 8192
    omega
  · show 16 * y.jsize + y.tapeLength ≤ 36 * (n + 1)
    omega
  · show 16 * (((y.wb1).mhS PS a).kmS (tdT (mhC PS a) PS x.npc)).hsize + y.tapeLength ≤ 36 * (n + 1)
    omega
  · show 16 * (cnt (M.rtS a).points (M.rtS a).pkd + cnt y.jsize (fun r => decide (y.jK r = 1))) + y.tapeLength ≤ 36 * (n + 1)
    omega
  · show (M.rtS a).points ≤ cnt (M.rtS a).points (M.rtS a).pkd + cnt y.jsize (fun r => decide (y.jK r = 1))
    omega
  · show y.writes + 1 ≤ 300 * (n + 1)
    omega
  · have hq : q < y.jsize := hq
    show y.jU q ≤ 126 ∧ y.jB q < 65536 ∧ y.jO q < 256
    rw [s19, s20, s21]
    exact n24 q (by omega)
  · show cs + 0 + 0 + 0 + 17 * y.tapeLength ≤ 2000 + 400 * (n + 1) + 6 * y.jN + 3 * y.hN + 3 * y.gN + y.tpN
    omega
  · show ss + 0 + 0 + 0 + 70 * y.tapeLength ≤ 1177800 + 6000 * (n + 1) + 12 * y.jN + 6 * y.hN + 6 * y.gN + 2 * y.tpN + (700 * gk.sz + 2 * sumN gk.sz (fun tb => (T tb).cN) + 4 * y.bN)
    omega
end RU
