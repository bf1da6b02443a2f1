/-! A compact: the sizes. -/
theorem pc2_le {m : MS} {x : VS} {PS : Nat → PT} {dn : Nat → Nat} {d : Nat} (h : ptR m x PS dn) (hd : d + 2 ≤ x.npc) : cnt (PS d).n (x.sePc (PS d)) + cnt (PS (d + 1)).n (x.sePc (PS (d + 1))) ≤ m.points := by
  have e1 : (PS d).n = cnt m.points (m.inpc d) := (h.1.2.2.2 d (by omega)).1.1
  have e2 : (PS (d + 1)).n = cnt m.points (m.inpc (d + 1)) := (h.1.2.2.2 (d + 1) (by omega)).1.1
  have c1 := cnt_le (PS d).n (x.sePc (PS d))
  have c2 := cnt_le (PS (d + 1)).n (x.sePc (PS (d + 1)))
  have e3 : cnt m.points (fun q => m.inpc d q || m.inpc (d + 1) q) = cnt m.points (m.inpc d) + cnt m.points (m.inpc (d + 1)) := cnt_add (fun q hq => by
    refine ⟨by rw [Bool.or_eq_true], fun z => ?_⟩
    have z1 : m.places q = nI (m.parcels d) := of_decide_eq_true z.1
    have z2 : m.places q = nI (m.parcels (d + 1)) := of_decide_eq_true z.2
    have h3 := h.2.2.1.2.2.1 d (by omega)
    have h4 := h.2.2.1.2.2.1 (d + 1) (by omega)
    have h5 := h.2.2.1.2.2.2
    have e := nI_inj (by omega) (by omega) (z1.symm.trans z2)
    have := h.2.2.1.2.1 d (d + 1) (by omega) (by omega) e
    omega)
  have c3 := cnt_le m.points (fun q => m.inpc d q || m.inpc (d + 1) q)
  omega
section RC
variable {dA : Nat → ClassId} {ad : Nat → Nat} {e0 n : Nat} {x : VS} {M : MS} {cs ss : Nat} {PS : Nat → PT} {SS : Nat → List LB} {dn bn : Nat → Nat} {gq : LI} {rq : va_W} {la : Nat → Nat} {gk : LI} {AT : Nat → Nat → Nat} {T : Nat → TB} {d : Nat}
theorem wjW_l2 (x : VS) : x.wjW ≤ x.writes + 1 := by
  unfold VS.wjW
  split
  · exact Nat.le_refl _
  · exact Nat.le_succ _
theorem rl_c0 (a1 : coR M x PS dn bn) (a2 : rlT M x) (a3 : rlS dA SS M x) (a4 : rlN dA PS M x n) (a5 : rlA dA ad e0 M x gq rq la gk AT T) (ar : rlR x gk T n cs ss) (hn : n + 1 ≤ 512) (hd : d + 2 ≤ x.npc) (hz : cnt (PS d).n (x.sePc (PS d)) + cnt (PS (d + 1)).n (x.sePc (PS (d + 1))) = 0) (ga2 go2 : Nat → Nat) (gt2 gv2 : Nat → Int64) : Rl dA ad e0 (n + 1) ((x.cp0 PS d ga2 go2 gt2 gv2).kmS (sfT PS d 2 (x.npc - (d + 2)))) (M.cmS d) (cs + 3 * (capR (capR x.gN 0 (cnt (PS d).n (x.sePc (PS d)))) (cnt (PS d).n (x.sePc (PS d))) (cnt (PS (d + 1)).n (x.sePc (PS (d + 1)))) - x.gN) + 0 + 0) (ss + 6 * (capR (capR x.gN 0 (cnt (PS d).n (x.sePc (PS d)))) (cnt (PS d).n (x.sePc (PS d))) (cnt (PS (d + 1)).n (x.sePc (PS (d + 1)))) - x.gN) + 0 + 0) := by
  obtain ⟨a6, a7, a8⟩ := ar
  obtain ⟨⟨n1, n2, n3, n4⟩, ⟨n5, n6, n7⟩, ⟨n8, n9, n10, n11, n12, n13, n14, n15⟩, ⟨n16, n17, n18, n19⟩, ⟨n20, n21, n22, n23⟩, n24⟩ := a4
  obtain ⟨d', co'⟩ := cms_co0 (ga2 := ga2) (go2 := go2) (gt2 := gt2) (gv2 := gv2) a1 hd n3 (by omega) hz
  obtain ⟨f1, f2, f3, f4, f5, f6⟩ := cm_F M d n23 (is12_pk a1.1 hd)
  have pa := pt_all co'.1 f2
  have hle := hs_le a1.2.2.2.2.1
  have pa : (M.cmS d).points = cnt (M.cmS d).points (M.cmS d).pkd + x.hsize := pa
  obtain ⟨k1, k2, k3⟩ := cms_keep d ⟨a2, a3, a5⟩
  have hp2 := pc2_le a1.1 hd
  have hg := capR_2 (N := x.gN) (a := cnt (PS d).n (x.sePc (PS d))) (b := cnt (PS (d + 1)).n (x.sePc (PS (d + 1)))) n15 (by omega)
  have hge := capR_ge (capR x.gN 0 (cnt (PS d).n (x.sePc (PS d)))) (cnt (PS d).n (x.sePc (PS d))) (cnt (PS (d + 1)).n (x.sePc (PS (d + 1))))
  have hge2 := capR_ge x.gN 0 (cnt (PS d).n (x.sePc (PS d)))
  have hsum := sum_sf2 (PS := PS) hd
  have hw := wjW_l2 x
  have hnc : ((x.cp0 PS d ga2 go2 gt2 gv2).kmS (sfT PS d 2 (x.npc - (d + 2)))).nsc ≤ x.nsc := cnt_le _ _
  refine ⟨_, SS, d', d', gq, rq, la, gk, AT, T, co', k1, k2, ⟨⟨n1, ?_, ?_, ?_⟩, ⟨?_, n6, n7⟩, ⟨n8, n9, n10, n11, n12, n13, ?_, ?_⟩, ⟨?_, ?_, ?_, ?_⟩, ⟨?_, by omega, by omega, f3⟩, n24⟩, k3, hn, ?_, ?_⟩
  · show x.npc - 2 ≤ 32
    omega
  · omega
  · show psOk dA (sfT x.nP d 2 (x.npc - (d + 2))) (x.npc - 2) x.pl (sfT PS d 2 (x.npc - (d + 2)))
    exact psOk_sf n4 (fun z hz => ⟨fun c => by omega, fun c => by omega⟩)
  · show x.jlimit + 2 + (x.ncat + sumN (x.npc - 2) (blN (sfT PS d 2 (x.npc - (d + 2))))) ≤ x.diskBlocks
    omega
  · show 0 < capR (capR x.gN 0 (cnt (PS d).n (x.sePc (PS d)))) (cnt (PS d).n (x.sePc (PS d))) (cnt (PS (d + 1)).n (x.sePc (PS (d + 1))))
    omega
  · show capR (capR x.gN 0 (cnt (PS d).n (x.sePc (PS d)))) (cnt (PS d).n (x.sePc (PS d))) (cnt (PS (d + 1)).n (x.sePc (PS (d + 1)))) ≤ 8192
    omega
  · show 16 * x.jsize + x.tapeLength ≤ 36 * (n + 1)
    omega
  · show 16 * x.hsize + x.tapeLength ≤ 36 * (n + 1)
    omega
  · show 16 * (cnt (M.cmS d).points (M.cmS d).pkd + cnt x.jsize (fun r => decide (x.jK r = 1))) + x.tapeLength ≤ 36 * (n + 1)
    omega
  · show (M.cmS d).points ≤ cnt (M.cmS d).points (M.cmS d).pkd + cnt x.jsize (fun r => decide (x.jK r = 1))
    omega
  · show x.wjW + (0 + 1) ≤ 300 * (n + 1)
    omega
  · show cs + 3 * (capR (capR x.gN 0 (cnt (PS d).n (x.sePc (PS d)))) (cnt (PS d).n (x.sePc (PS d))) (cnt (PS (d + 1)).n (x.sePc (PS (d + 1)))) - x.gN) + 0 + 0 + 17 * x.tapeLength ≤ 2000 + 400 * (n + 1) + 6 * x.jN + 3 * x.hN + 3 * (capR (capR x.gN 0 (cnt (PS d).n (x.sePc (PS d)))) (cnt (PS d).n (x.sePc (PS d))) (cnt (PS (d + 1)).n (x.sePc (PS (d + 1))))) + x.tpN
    omega
  · show ss + 6 * (capR (capR x.gN 0 (cnt (PS d).n (x.sePc (PS d)))) (cnt (PS d).n (x.sePc (PS d))) (cnt (PS (d + 1)).n (x.sePc (PS (d + 1)))) - x.gN) + 0 + 0 + 70 * x.tapeLength ≤ 1177800 + 6000 * (n + 1) + 12 * x.jN + 6 * x.hN + 6 * (capR (capR x.gN 0 (cnt (PS d).n (x.sePc (PS d)))) (cnt (PS d).n (x.sePc (PS d))) (cnt (PS (d + 1)).n (x.sePc (PS (d + 1))))) + 2 * x.tpN + (700 * gk.sz + 2 * sumN gk.sz (fun tb => (T tb).cN) + 4 * x.bN)
    omega
end RC
