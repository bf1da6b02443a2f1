/-! The points gathered, and the power fails as a journal and blocks are written: the sizes. -/
theorem cm_le {M : MS} (d : Nat) (h : M.points ≤ 12000) (h2 : M.seriesCount ≤ 256) : M.cmN d ≤ 20000 := by
  have := bA_le M (nI (M.parcels d)) (nI (M.parcels (d + 1))) true h M.seriesCount
  unfold MS.cmN
  omega
theorem po_lt {m : MS} {x : VS} {PS : Nat → PT} {dn : Nat → Nat} (h : ptR m x PS dn) (hn : m.seriesCount = x.nser) : ∀ j : Nat, j < x.npc → ∀ i : Nat, i < (PS j).n → (PS j).o i < x.nser := by
  intro j hj i hi
  obtain ⟨q, q1, q2, q3, -⟩ := arr_ix (h.1.2.2.2 j hj).1 (W := m.seriesCount) (fun q hq hc => in_se h hj hq hc) hi
  rw [q3, ← hn]
  exact in_se h hj q1 q2
section GP
variable {dA : Nat → ClassId} {ad : Nat → Nat} {e0 n : Nat} {x : VS} {M : MS} {cs ss cs' ss' : Nat} {pl1 : va_W}
/-- points were gathered, more never changes -/
theorem rl_gp (h : Rl dA ad e0 n x M cs ss) (hs : ∀ c, c ∈ x.pl → c ∈ pl1) (ga go : Nat → Nat) (gt gv : Nat → Int64) (gs : Nat) {g : Nat} (hg : x.gN ≤ g) (hg2 : g ≤ 8192) (hc : cs' ≤ cs + 3 * (g - x.gN)) (hs' : ss' ≤ ss + 6 * (g - x.gN)) : Rl dA ad e0 n (VS.s_pl (VS.s_gsize (VS.s_gV (VS.s_gT (VS.s_gO (VS.s_gN (VS.s_gA x ga) g) go) gt) gv) gs) pl1) M cs' ss' := by
  obtain ⟨PS, SS, dn, bn, gq, rq, la, gk, AT, T, a1, a2, a3, a4, a5, a6, a7, a8⟩ := h
  have b4 := rlN_m hs a4
  obtain ⟨b1, b2, ⟨b3, b4, b5, b6, b7, b8, b9, b10⟩, b11⟩ := b4
  have b9 : 0 < x.gN := b9
  exact ⟨PS, SS, dn, bn, gq, rq, la, gk, AT, T, a1, a2, rlS_m hs a3, ⟨b1, b2, ⟨b3, b4, b5, b6, b7, b8, by show 0 < g; omega, hg2⟩, b11⟩, rlA_m hs a5, a6, by show cs' + 17 * x.tapeLength ≤ 2000 + 400 * n + 6 * x.jN + 3 * x.hN + 3 * g + x.tpN; omega, by show ss' + 70 * x.tapeLength ≤ 1177800 + 6000 * n + 12 * x.jN + 6 * x.hN + 6 * g + 2 * x.tpN + (700 * gk.sz + 2 * sumN gk.sz (fun tb => (T tb).cN) + 4 * x.bN); omega⟩
theorem rl_sk0 (h : Rl dA ad e0 n x M cs ss) (hn : n + 1 ≤ 512) (k : Nat) (hk : k ≤ 290) (hf : x.jch = false) (hc : cs' ≤ cs + 100) (hs : ss' ≤ ss + 5000) : Rl dA ad e0 (n + 1) (VS.s_writes (VS.s_cutLeft (VS.s_powered x false) (-1)) (x.writes + k)) (MS.s_fresh (MS.s_kept (MS.s_written (MS.s_cutLeft (MS.s_on (MS.s_cod M 1) false) (-1)) (M.written + k)) M.records) false) cs' ss' := by
  obtain ⟨PS, SS, dn, bn, gq, rq, la, gk, AT, T, a1, ⟨t1, t2, t3, t4, t5, t6⟩, a3, a4, a5, a6, a7, a8⟩ := h
  obtain ⟨n1, n2, n3, ⟨n4, n5, n6, n7⟩, ⟨n8, n9, n10, n11⟩, n12⟩ := a4
  exact ⟨PS, SS, dn, bn, gq, rq, la, gk, AT, T, pw_co (sy_co0 a1 hf) 1 false false (-1) k, ⟨t1, t2, t3, t4, t5, rfl⟩, a3, ⟨n1, n2, n3, ⟨by show 16 * x.jsize + x.tapeLength ≤ 36 * (n + 1); omega, by show 16 * x.hsize + x.tapeLength ≤ 36 * (n + 1); omega, by show 16 * (cnt M.points M.pkd + cnt x.jsize (fun r => decide (x.jK r = 1))) + x.tapeLength ≤ 36 * (n + 1); omega, n7⟩, ⟨by show x.writes + k ≤ 300 * (n + 1); omega, by show M.deletes ≤ 1300 * (n + 1); omega, by show M.parcelNumber ≤ n + 1; omega, n11⟩, n12⟩, a5, hn, by show cs' + 17 * x.tapeLength ≤ 2000 + 400 * (n + 1) + 6 * x.jN + 3 * x.hN + 3 * x.gN + x.tpN; omega, by show ss' + 70 * x.tapeLength ≤ 1177800 + 6000 * (n + 1) + 12 * x.jN + 6 * x.hN + 6 * x.gN + 2 * x.tpN + (700 * gk.sz + 2 * sumN gk.sz (fun tb => (T tb).cN) + 4 * x.bN); omega⟩
theorem rl_sk1 (h : Rl dA ad e0 n x M cs ss) (hn : n + 1 ≤ 512) (k : Nat) (hk : k ≤ 290) (hc : cs' ≤ cs + 100) (hs : ss' ≤ ss + 5000) : Rl dA ad e0 (n + 1) (VS.s_jch (VS.s_jkept (VS.s_writes (VS.s_cutLeft (VS.s_powered x false) (-1)) (x.writes + 1 + k)) x.jsize) false) (MS.s_fresh (MS.s_kept (MS.s_written (MS.s_cutLeft (MS.s_on (MS.s_cod M 1) false) (-1)) (M.written + 1 + k)) M.records) false) cs' ss' := by
  obtain ⟨PS, SS, dn, bn, gq, rq, la, gk, AT, T, a1, ⟨t1, t2, t3, t4, t5, t6⟩, a3, a4, a5, a6, a7, a8⟩ := h
  obtain ⟨n1, n2, n3, ⟨n4, n5, n6, n7⟩, ⟨n8, n9, n10, n11⟩, n12⟩ := a4
  exact ⟨PS, SS, dn, bn, gq, rq, la, gk, AT, T, pw_co (sy_co1 a1) 1 false false (-1) k, ⟨t1, t2, t3, t4, t5, rfl⟩, a3, ⟨n1, n2, n3, ⟨by show 16 * x.jsize + x.tapeLength ≤ 36 * (n + 1); omega, by show 16 * x.hsize + x.tapeLength ≤ 36 * (n + 1); omega, by show 16 * (cnt M.points M.pkd + cnt x.jsize (fun r => decide (x.jK r = 1))) + x.tapeLength ≤ 36 * (n + 1); omega, n7⟩, ⟨by show x.writes + 1 + k ≤ 300 * (n + 1); omega, by show M.deletes ≤ 1300 * (n + 1); omega, by show M.parcelNumber ≤ n + 1; omega, n11⟩, n12⟩, a5, hn, by show cs' + 17 * x.tapeLength ≤ 2000 + 400 * (n + 1) + 6 * x.jN + 3 * x.hN + 3 * x.gN + x.tpN; omega, by show ss' + 70 * x.tapeLength ≤ 1177800 + 6000 * (n + 1) + 12 * x.jN + 6 * x.hN + 6 * x.gN + 2 * x.tpN + (700 * gk.sz + 2 * sumN gk.sz (fun tb => (T tb).cN) + 4 * x.bN); omega⟩
/-- the journal is kept, k blocks are written, the power fails -/
theorem rl_sj (h : Rl dA ad e0 n x M cs ss) (hy : M.syWr = x.wjW) (hw : M.written = x.writes) (hn : n + 1 ≤ 512) (k : Nat) (hk : k ≤ 290) (hc : cs' ≤ cs + 100) (hs : ss' ≤ ss + 5000) : Rl dA ad e0 (n + 1) (VS.s_jch (VS.s_jkept (VS.s_writes (VS.s_cutLeft (VS.s_powered x false) (-1)) (x.wjW + k)) x.wjK) false) (MS.s_fresh (MS.s_kept (MS.s_written (MS.s_cutLeft (MS.s_on (MS.s_cod M 1) false) (-1)) (M.syWr + k)) M.records) false) cs' ss' := by
  cases hj : x.jch with
  | false =>
    have eW : x.wjW = x.writes := if_neg (by rw [hj]; decide)
    have eK : x.wjK = x.jkept := if_neg (by rw [hj]; decide)
    have ex : VS.s_jch x false = x := by
      have e : VS.s_jch x x.jch = x := rfl
      rw [hj] at e
      exact e
    have h' : Rl dA ad e0 n (VS.s_jch x false) M cs ss := by
      rw [ex]
      exact h
    rw [hy, eW, eK, ← hw]
    have r := rl_sk0 h' hn k hk rfl hc hs
    rw [hw] at r ⊢
    exact r
  | true =>
    have eW : x.wjW = x.writes + 1 := if_pos hj
    have eK : x.wjK = x.jsize := if_pos hj
    rw [hy, eW, eK]
    have r := rl_sk1 h hn k hk hc hs
    rw [hw] at r
    exact r
end GP
