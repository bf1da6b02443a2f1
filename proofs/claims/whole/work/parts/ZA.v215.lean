/-! A compact of points that are seen: the sizes. -/
theorem sf_Q {PS : Nat → PT} {P : PT} {d npc : Nat} (h : d + 2 ≤ npc) : ∀ j, j < npc - 1 → sfT (va_up PS d P) (d + 1) 1 (npc - (d + 2)) j = if j = d then P else if j < d then PS j else PS (j + 1) := by
  intro j hj
  by_cases c : j = d
  · rw [if_pos c, sf_lo (by omega), c, va_up_self]
  · rw [if_neg c]
    by_cases c2 : j < d
    · rw [if_pos c2, sf_lo (by omega), va_up_ne _ _ c]
    · rw [if_neg c2, sf_in (by omega), va_up_ne _ _ (by omega)]
section RD
variable {dA : Nat → ClassId} {ad : Nat → Nat} {e0 n : Nat} {x : VS} {M : MS} {cs ss : Nat} {PS : Nat → PT} {SS : Nat → List LB} {dn bn : Nat → Nat} {gq : LI} {rq : va_W} {la : Nat → Nat} {gk : LI} {AT : Nat → Nat → Nat} {T : Nat → TB} {d : Nat}
theorem rl_c1 {ga2 go2 O : Nat → Nat} {gt2 gv2 TT V : Nat → Int64} {nb mp N : Nat} {pl1 : va_W} {Q : Nat → PT} {P : PT} (a1 : coR M x PS dn bn) (a2 : rlT M x) (a3 : rlS dA SS M x) (a4 : rlN dA PS M x n) (a5 : rlA dA ad e0 M x gq rq la gk AT T) (ar : rlR x gk T n cs ss) (hn : n + 1 ≤ 512) (hd : d + 2 ≤ x.npc) (hN : N = cnt (PS d).n (x.sePc (PS d)) + cnt (PS (d + 1)).n (x.sePc (PS (d + 1)))) (hz : 0 < N) (ha : gat2 (x.sePc (PS d)) (x.sePc (PS (d + 1))) (PS d) (PS (d + 1)) go2 gt2 gv2) (l1 : laid go2 N N go2 O) (l2 : laid go2 N N gt2 TT) (l3 : laid go2 N N gv2 V) (hP : P = mkP N O TT V) (hb : P.bl = nb) (hQ : Q = sfT (va_up PS d P) (d + 1) 1 (x.npc - (d + 2))) (hpc : isPc dA pl1 mp P) (hok : pcOk P) (hs : ∀ c, c ∈ x.pl → c ∈ pl1) (hf : nb ≤ x.fr PS) : Rl dA ad e0 (n + 1) ((x.cp1 PS d nb mp pl1 ga2 go2 gt2 gv2).kmS Q) (M.cmS d) (cs + (3 * (capR (capR x.gN 0 (cnt (PS d).n (x.sePc (PS d)))) (cnt (PS d).n (x.sePc (PS d))) (cnt (PS (d + 1)).n (x.sePc (PS (d + 1)))) - x.gN) + 5) + 0 + 0) (ss + (6 * (capR (capR x.gN 0 (cnt (PS d).n (x.sePc (PS d)))) (cnt (PS d).n (x.sePc (PS d))) (cnt (PS (d + 1)).n (x.sePc (PS (d + 1)))) - x.gN) + (8 + (3 * (cnt (PS d).n (x.sePc (PS d)) + cnt (PS (d + 1)).n (x.sePc (PS (d + 1)))) + x.nser + 1))) + 0 + 0) := by
  obtain ⟨a6, a7, a8⟩ := ar
  obtain ⟨⟨n1, n2, n3, n4⟩, ⟨n5, n6, n7⟩, ⟨n8, n9, n10, n11, n12, n13, n14, n15⟩, ⟨n16, n17, n18, n19⟩, ⟨n20, n21, n22, n23⟩, n24⟩ := a4
  obtain ⟨d', co'⟩ := cms_co1 (nb := nb) (mp := mp) (pl1 := pl1) (Q := Q) (ga2 := ga2) a1 hd n3 (by omega) hN hz ha l1 l2 l3 (by rw [← hP]; exact hb) (fun j hj => by rw [hQ, ← hP]; exact sf_Q hd j hj)
  obtain ⟨f1, f2, f3, f4, f5, f6⟩ := cm_F M d n23 (is12_pk a1.1 hd)
  have pa := pt_all co'.1 f2
  have hle := hs_le a1.2.2.2.2.1
  have pa : (M.cmS d).points = cnt (M.cmS d).points (M.cmS d).pkd + x.hsize := pa
  obtain ⟨k1, k2, k3⟩ := cms_keep d ⟨a2, a3, a5⟩
  have hp2 := pc2_le a1.1 hd
  have hg := capR_2 (N := x.gN) (a := cnt (PS d).n (x.sePc (PS d))) (b := cnt (PS (d + 1)).n (x.sePc (PS (d + 1)))) n15 (by omega)
  have hge := capR_ge (capR x.gN 0 (cnt (PS d).n (x.sePc (PS d)))) (cnt (PS d).n (x.sePc (PS d))) (cnt (PS (d + 1)).n (x.sePc (PS (d + 1))))
  have hge2 := capR_ge x.gN 0 (cnt (PS d).n (x.sePc (PS d)))
  have hsum : sumN (x.npc - 1) (blN Q) ≤ sumN x.npc (blN PS) + nb := by
    rw [hQ, ← hb]
    exact sum_sf1 hd
  have hw := wjW_l2 x
  have t11 := a2.2.2.2.2.1
  have hf : nb ≤ x.diskBlocks - 2 - x.jlimit - (x.ncat + sumN x.npc (blN PS)) := hf
  have hnc : ((x.cp1 PS d nb mp pl1 ga2 go2 gt2 gv2).kmS Q).nsc ≤ x.nsc := cnt_le _ _
  have hpq : psOk dA (sfT (va_up x.nP d (some mp)) (d + 1) 1 (x.npc - (d + 2))) (x.npc - 1) pl1 Q := by
    rw [hQ]
    exact psOk_sf (psOk_up (psOk_m hs n4) hpc hok) (fun z hz => ⟨fun c => by omega, fun c => by omega⟩)
  refine ⟨_, SS, d', d', gq, rq, la, gk, AT, T, co', k1, rlS_m (x := x) hs k2, ⟨⟨n1, ?_, ?_, hpq⟩, ⟨?_, n6, n7⟩, ⟨n8, n9, n10, n11, n12, n13, ?_, ?_⟩, ⟨?_, ?_, ?_, ?_⟩, ⟨?_, by omega, by omega, f3⟩, n24⟩, rlA_m (x := x) hs k3, hn, ?_, ?_⟩
  · show x.npc - 1 ≤ 32
    omega
  · omega
  · show x.jlimit + 2 + (x.ncat + sumN (x.npc - 1) (blN Q)) ≤ x.diskBlocks
    omega
  · show 0 < capR (capR x.gN 0 (cnt (PS d).n (x.sePc (PS d)))) (cnt (PS d).n (x.sePc (PS d))) (cnt (PS (d + 1)).n (x.sePc (PS (d + 1))))
    omega
  · show capR (capR x.gN 0 (cnt (PS d).n (x.sePc (PS d)))) (cnt (PS d).n (x.sePc (PS d))) (cnt (PS (d + 1)).n (x.sePc (PS (d + 1)))) ≤ 8192
    omega
  · show 16 * x.jsize + x.tapeLength ≤ 36 * (n + 1)
    omega
  · show 16 * x.hsize + x.tapeLength ≤ 36 * (n + 1)
    omega
  · show 16 * (cnt (M.cmS d).points (M.cmS d).pkd + cnt x.jsize (fun r => decide (x.jK r = 1))) + x.tapeLength ≤ 36 * (n + 1)
    omega
  · show (M.cmS d).points ≤ cnt (M.cmS d).points (M.cmS d).pkd + cnt x.jsize (fun r => decide (x.jK r = 1))
    omega
  · show x.wjW + (nb + 1) ≤ 300 * (n + 1)
    omega
  · show cs + (3 * (capR (capR x.gN 0 (cnt (PS d).n (x.sePc (PS d)))) (cnt (PS d).n (x.sePc (PS d))) (cnt (PS (d + 1)).n (x.sePc (PS (d + 1)))) - x.gN) + 5) + 0 + 0 + 17 * x.tapeLength ≤ 2000 + 400 * (n + 1) + 6 * x.jN + 3 * x.hN + 3 * (capR (capR x.gN 0 (cnt (PS d).n (x.sePc (PS d)))) (cnt (PS d).n (x.sePc (PS d))) (cnt (PS (d + 1)).n (x.sePc (PS (d + 1))))) + x.tpN
    omega
  · show ss + (6 * (capR (capR x.gN 0 (cnt (PS d).n (x.sePc (PS d)))) (cnt (PS d).n (x.sePc (PS d))) (cnt (PS (d + 1)).n (x.sePc (PS (d + 1)))) - x.gN) + (8 + (3 * (cnt (PS d).n (x.sePc (PS d)) + cnt (PS (d + 1)).n (x.sePc (PS (d + 1)))) + x.nser + 1))) + 0 + 0 + 70 * x.tapeLength ≤ 1177800 + 6000 * (n + 1) + 12 * x.jN + 6 * x.hN + 6 * (capR (capR x.gN 0 (cnt (PS d).n (x.sePc (PS d)))) (cnt (PS d).n (x.sePc (PS d))) (cnt (PS (d + 1)).n (x.sePc (PS (d + 1))))) + 2 * x.tpN + (700 * gk.sz + 2 * sumN gk.sz (fun tb => (T tb).cN) + 4 * x.bN)
    omega
end RD
