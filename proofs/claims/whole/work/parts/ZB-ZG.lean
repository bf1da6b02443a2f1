section
/-! The points gathered, and the power fails as a journal and blocks are written: the sizes. -/
theorem cm_le {M : MS} (d : Nat) (h : M.points ≤ 12000) (h2 : M.seriesCount ≤ 256) : M.cmN d ≤ 20000 := by
  have := bA_le M (nI (M.parcels d)) (nI (M.parcels (d + 1))) true h M.seriesCount
  unfold MS.cmN
  omega
theorem po_lt {m : MS} {x : VS} {PS : Nat → PT} {dn : Nat → Nat} (h : ptR m x PS dn) (hn : m.seriesCount = x.nser) : ∀ j : Nat, j < x.npc → ∀ i : Nat, i < (PS j).n → (PS j).o i < x.nser := by
  intro j hj i hi
  obtain ⟨q, q1, q2, q3, -⟩ := arr_ix (h.1.2.2.2 j hj).1 (W := m.seriesCount) (fun q hq hc => in_se h hj hq hc) hi
  rw [q3, ← hn]
  exact in_se h hj q1 q2
section GP
variable {dA : Nat → ClassId} {ad : Nat → Nat} {e0 n : Nat} {x : VS} {M : MS} {cs ss cs' ss' : Nat} {pl1 : va_W}
/-- points were gathered, more never changes -/
theorem rl_gp (h : Rl dA ad e0 n x M cs ss) (hs : ∀ c, c ∈ x.pl → c ∈ pl1) (ga go : Nat → Nat) (gt gv : Nat → Int64) (gs : Nat) {g : Nat} (hg : x.gN ≤ g) (hg2 : g ≤ 8192) (hc : cs' ≤ cs + 3 * (g - x.gN)) (hs' : ss' ≤ ss + 6 * (g - x.gN)) : Rl dA ad e0 n (VS.s_pl (VS.s_gsize (VS.s_gV (VS.s_gT (VS.s_gO (VS.s_gN (VS.s_gA x ga) g) go) gt) gv) gs) pl1) M cs' ss' := by
  obtain ⟨PS, SS, dn, bn, gq, rq, la, gk, AT, T, a1, a2, a3, a4, a5, a6, a7, a8⟩ := h
  have b4 := rlN_m hs a4
  obtain ⟨b1, b2, ⟨b3, b4, b5, b6, b7, b8, b9, b10⟩, b11⟩ := b4
  have b9 : 0 < x.gN := b9
  exact ⟨PS, SS, dn, bn, gq, rq, la, gk, AT, T, a1, a2, rlS_m hs a3, ⟨b1, b2, ⟨b3, b4, b5, b6, b7, b8, by show 0 < g; omega, hg2⟩, b11⟩, rlA_m hs a5, a6, by show cs' + 17 * x.tapeLength ≤ 2000 + 400 * n + 6 * x.jN + 3 * x.hN + 3 * g + x.tpN; omega, by show ss' + 70 * x.tapeLength ≤ 1177800 + 6000 * n + 12 * x.jN + 6 * x.hN + 6 * g + 2 * x.tpN + (700 * gk.sz + 2 * sumN gk.sz (fun tb => (T tb).cN) + 4 * x.bN); omega⟩
theorem rl_sk0 (h : Rl dA ad e0 n x M cs ss) (hn : n + 1 ≤ 512) (k : Nat) (hk : k ≤ 290) (hf : x.jch = false) (hc : cs' ≤ cs + 100) (hs : ss' ≤ ss + 5000) : Rl dA ad e0 (n + 1) (VS.s_writes (VS.s_cutLeft (VS.s_powered x false) (-1)) (x.writes + k)) (MS.s_fresh (MS.s_kept (MS.s_written (MS.s_cutLeft (MS.s_on (MS.s_cod M 1) false) (-1)) (M.written + k)) M.records) false) cs' ss' := by
  obtain ⟨PS, SS, dn, bn, gq, rq, la, gk, AT, T, a1, ⟨t1, t2, t3, t4, t5, t6⟩, a3, a4, a5, a6, a7, a8⟩ := h
  obtain ⟨n1, n2, n3, ⟨n4, n5, n6, n7⟩, ⟨n8, n9, n10, n11⟩, n12⟩ := a4
  exact ⟨PS, SS, dn, bn, gq, rq, la, gk, AT, T, pw_co (sy_co0 a1 hf) 1 false false (-1) k, ⟨t1, t2, t3, t4, t5, rfl⟩, a3, ⟨n1, n2, n3, ⟨by show 16 * x.jsize + x.tapeLength ≤ 32 * (n + 1); omega, by show 16 * x.hsize + x.tapeLength ≤ 32 * (n + 1); omega, by show 16 * (cnt M.points M.pkd + cnt x.jsize (fun r => decide (x.jK r = 1))) + x.tapeLength ≤ 32 * (n + 1); omega, n7⟩, ⟨by show x.writes + k ≤ 300 * (n + 1); omega, by show M.deletes ≤ 1300 * (n + 1); omega, by show M.parcelNumber ≤ n + 1; omega, n11⟩, n12⟩, a5, hn, by show cs' + 17 * x.tapeLength ≤ 2000 + 400 * (n + 1) + 6 * x.jN + 3 * x.hN + 3 * x.gN + x.tpN; omega, by show ss' + 70 * x.tapeLength ≤ 1177800 + 6000 * (n + 1) + 12 * x.jN + 6 * x.hN + 6 * x.gN + 2 * x.tpN + (700 * gk.sz + 2 * sumN gk.sz (fun tb => (T tb).cN) + 4 * x.bN); omega⟩
theorem rl_sk1 (h : Rl dA ad e0 n x M cs ss) (hn : n + 1 ≤ 512) (k : Nat) (hk : k ≤ 290) (hc : cs' ≤ cs + 100) (hs : ss' ≤ ss + 5000) : Rl dA ad e0 (n + 1) (VS.s_jch (VS.s_jkept (VS.s_writes (VS.s_cutLeft (VS.s_powered x false) (-1)) (x.writes + 1 + k)) x.jsize) false) (MS.s_fresh (MS.s_kept (MS.s_written (MS.s_cutLeft (MS.s_on (MS.s_cod M 1) false) (-1)) (M.written + 1 + k)) M.records) false) cs' ss' := by
  obtain ⟨PS, SS, dn, bn, gq, rq, la, gk, AT, T, a1, ⟨t1, t2, t3, t4, t5, t6⟩, a3, a4, a5, a6, a7, a8⟩ := h
  obtain ⟨n1, n2, n3, ⟨n4, n5, n6, n7⟩, ⟨n8, n9, n10, n11⟩, n12⟩ := a4
  exact ⟨PS, SS, dn, bn, gq, rq, la, gk, AT, T, pw_co (sy_co1 a1) 1 false false (-1) k, ⟨t1, t2, t3, t4, t5, rfl⟩, a3, ⟨n1, n2, n3, ⟨by show 16 * x.jsize + x.tapeLength ≤ 32 * (n + 1); omega, by show 16 * x.hsize + x.tapeLength ≤ 32 * (n + 1); omega, by show 16 * (cnt M.points M.pkd + cnt x.jsize (fun r => decide (x.jK r = 1))) + x.tapeLength ≤ 32 * (n + 1); omega, n7⟩, ⟨by show x.writes + 1 + k ≤ 300 * (n + 1); omega, by show M.deletes ≤ 1300 * (n + 1); omega, by show M.parcelNumber ≤ n + 1; omega, n11⟩, n12⟩, a5, hn, by show cs' + 17 * x.tapeLength ≤ 2000 + 400 * (n + 1) + 6 * x.jN + 3 * x.hN + 3 * x.gN + x.tpN; omega, by show ss' + 70 * x.tapeLength ≤ 1177800 + 6000 * (n + 1) + 12 * x.jN + 6 * x.hN + 6 * x.gN + 2 * x.tpN + (700 * gk.sz + 2 * sumN gk.sz (fun tb => (T tb).cN) + 4 * x.bN); omega⟩
/-- the journal is kept, k blocks are written, the power fails -/
theorem rl_sj (h : Rl dA ad e0 n x M cs ss) (hy : M.syWr = x.wjW) (hw : M.written = x.writes) (hn : n + 1 ≤ 512) (k : Nat) (hk : k ≤ 290) (hc : cs' ≤ cs + 100) (hs : ss' ≤ ss + 5000) : Rl dA ad e0 (n + 1) (VS.s_jch (VS.s_jkept (VS.s_writes (VS.s_cutLeft (VS.s_powered x false) (-1)) (x.wjW + k)) x.wjK) false) (MS.s_fresh (MS.s_kept (MS.s_written (MS.s_cutLeft (MS.s_on (MS.s_cod M 1) false) (-1)) (M.syWr + k)) M.records) false) cs' ss' := by
  cases hj : x.jch with
  | false =>
    have eW : x.wjW = x.writes := if_neg (by rw [hj]; decide)
    have eK : x.wjK = x.jkept := if_neg (by rw [hj]; decide)
    have ex : VS.s_jch x false = x := by
      have e : VS.s_jch x x.jch = x := rfl
      rw [hj] at e
      exact e
    have h' : Rl dA ad e0 n (VS.s_jch x false) M cs ss := by
      rw [ex]
      exact h
    rw [hy, eW, eK]
    have r := rl_sk0 h' hn k hk rfl hc hs
    rw [hw] at r
    exact r
  | true =>
    have eW : x.wjW = x.writes + 1 := if_pos hj
    have eK : x.wjK = x.jsize := if_pos hj
    rw [hy, eW, eK]
    have r := rl_sk1 h hn k hk hc hs
    rw [hw] at r
    exact r
end GP
end
section
/-! A compact: the call. -/
section CK11
variable {p : Program} {e : Env} {s : State} {m : MethodId} {below : List Frame} {meth : Method} {c : Code} {b L : Nat} {xs : Nat → Int32} {D : va_G} {dA : Nat → ClassId} {e0 : Nat} {A : Nat → Prop} {h : Nat} {ad : Nat → Nat} {mm : Nat} {mad : Nat → Nat} {o : Nat} {n : Nat} {x : VS} {M : MS} {cs ss : Nat}
theorem call_11 (l : Launch) (hC : lS p l s m meth c b L xs D dA e0 A) (hL : L ≤ 3072) (hi : 6 * n + 6 ≤ L) (hR : Rl dA ad e0 n x M cs ss) (cont : ∀ x' M' cs' ss', Rl dA ad e0 (n + 1) x' M' cs' ss' → At9 p l e s m below meth c b D dA A h ad mm mad o 23 (6 * n + 6) x' M' cs' ss') : At9 p l e s m below meth c b D dA A h ad mm mad o (tg9 11) (6 * n) x M cs ss := by
  intro og H locs ls hP hD hS hl
  obtain ⟨rm1, rm2⟩ := rl_room (rl_skip hR (by omega))
  obtain ⟨PS, SS, dn, bn, gq, rq, la, gk, AT, T, co, ⟨⟨t1, t2, t3, t4⟩, ⟨t5, t6, t7⟩, ⟨t8, t9⟩, t10, t11, t12⟩, ⟨sr1, sr2, sr3, sr4, sr5⟩, nr, ⟨⟨r1, r2, r3, r4⟩, r5, ⟨r6, r7⟩, ⟨r8, r9⟩, r10⟩, rr⟩ := id hR
  obtain ⟨cp, cb, ⟨se1, se2⟩, ⟨g1, g2, g3, g4, g5, g6, g7, g8, g9, g10, g11⟩, cj, ck, cc⟩ := id co
  obtain ⟨⟨n1, n2, n3, n4⟩, ⟨n5, n6, n7⟩, ⟨n8, n9, n10, n11, n12, n13, n14, n15⟩, ⟨n16, n17, n18, n19⟩, ⟨n20, n21, n22, n23⟩, n24⟩ := id nr
  cases hp : x.powered with
  | false =>
    have hr2 := rl_up (cs' := cs + 1 + 0 + 0) (ss' := ss + 6 + 0 + 0) hR (by omega) 1 (by omega) (by omega)
    obtain ⟨rn1, rn2⟩ := rl_room hr2
    have W1 := fun sz => k8_compact_1 l D dA sz h ad o og x (xs (6 * n + 1)) (fun u => u = x) _ _ _ _ (nf_x0 (fun sz => v_compact_x l (lS_tr hC) D dA sz h ad x (xs (6 * n + 1)) hp) rfl (fun _ _ _ q => q))
    have M1 := fun sz => k_compact_1 l D dA sz mm mad M (xs (6 * n + 1)) (t12.trans hp)
    exact l9_11_x l hC (k9 := 1) hi hL ⟨by omega, by omega, by omega, by omega⟩ ⟨by omega, by omega⟩ rfl k_n1 W1 M1 hP hD hS hl (fun u H1 locs1 ls1 hf hP hD hS hl => cont u _ _ _ (by rw [show u = x from hf]; exact hr2) og H1 locs1 ls1 hP hD hS hl)
  | true =>
    have on : M.on = true := t12.trans hp
    have epc : M.parcelCount = x.npc := cp.1.2.1
    by_cases hv : (xs (6 * n + 1)) < 0
    · have hr2 := rl_up (cs' := cs + 1 + 0 + 0) (ss' := ss + 6 + 0 + 0) hR (by omega) 2 (by omega) (by omega)
      obtain ⟨rn1, rn2⟩ := rl_room hr2
      have W1 := fun sz => k8_compact_2 l D dA sz h ad o og x (xs (6 * n + 1)) (fun u => u = x) _ _ _ _ (nf_x0 (fun sz => v_compact_y l (lS_tr hC) D dA sz h ad x (xs (6 * n + 1)) hp hv) rfl (fun _ _ _ q => q))
      have M1 := fun sz => k_compact_2 l D dA sz mm mad M (xs (6 * n + 1)) on (Or.inl hv)
      exact l9_11_x l hC (k9 := 2) hi hL ⟨by omega, by omega, by omega, by omega⟩ ⟨by omega, by omega⟩ rfl k_n2 W1 M1 hP hD hS hl (fun u H1 locs1 ls1 hf hP hD hS hl => cont u _ _ _ (by rw [show u = x from hf]; exact hr2) og H1 locs1 ls1 hP hD hS hl)
    · obtain ⟨d, hd31, ed⟩ := i32_n0 hv
      by_cases hd : x.npc ≤ d + 1
      · have hM : xs (6 * n + 1) < 0 ∨ nI M.parcelCount - 1 ≤ xs (6 * n + 1) := by
          refine Or.inr ?_
          rw [ed, epc, Int32.le_iff_toInt_le, nI_toInt (by omega), Int32.toInt_sub, nI_toInt (by omega)]
          have e1 : (1 : Int32).toInt = 1 := by decide
          rw [e1, Int.bmod_eq_of_le (by omega) (by omega)]
          omega
        by_cases h0 : x.npc = 0
        · have hr2 := rl_up (cs' := cs + 1 + 0 + 0) (ss' := ss + 6 + 0 + 0) hR (by omega) 2 (by omega) (by omega)
          obtain ⟨rn1, rn2⟩ := rl_room hr2
          have W1 := fun sz => k8_compact_2 l D dA sz h ad o og x (xs (6 * n + 1)) (fun u => u = x) _ _ _ _ (nf_x0 (fun sz => v_compact_w l (lS_tr hC) D dA sz h ad x d hp h0 hd31) rfl (fun _ _ _ q => by rw [ed] at q; exact q))
          have M1 := fun sz => k_compact_2 l D dA sz mm mad M (xs (6 * n + 1)) on hM
          exact l9_11_x l hC (k9 := 2) hi hL ⟨by omega, by omega, by omega, by omega⟩ ⟨by omega, by omega⟩ rfl k_n2 W1 M1 hP hD hS hl (fun u H1 locs1 ls1 hf hP hD hS hl => cont u _ _ _ (by rw [show u = x from hf]; exact hr2) og H1 locs1 ls1 hP hD hS hl)
        · have hr2 := rl_up (cs' := cs + 1 + 0 + 0) (ss' := ss + 6 + 0 + 0) hR (by omega) 2 (by omega) (by omega)
          obtain ⟨rn1, rn2⟩ := rl_room hr2
          have W1 := fun sz => k8_compact_2 l D dA sz h ad o og x (xs (6 * n + 1)) (fun u => u = x) _ _ _ _ (nf_x0 (fun sz => v_compact_z l (lS_tr hC) D dA sz h ad x d hp (by omega) hd n2 hd31) rfl (fun _ _ _ q => by rw [ed] at q; exact q))
          have M1 := fun sz => k_compact_2 l D dA sz mm mad M (xs (6 * n + 1)) on hM
          exact l9_11_x l hC (k9 := 2) hi hL ⟨by omega, by omega, by omega, by omega⟩ ⟨by omega, by omega⟩ rfl k_n2 W1 M1 hP hD hS hl (fun u H1 locs1 ls1 hf hP hD hS hl => cont u _ _ _ (by rw [show u = x from hf]; exact hr2) og H1 locs1 ls1 hP hD hS hl)
      · have hd2 : d + 2 ≤ x.npc := by omega
        have hdM : d < M.parcelCount - 1 := by omega
        have pts1 : M.points ≤ 12000 := by omega
        have hsc : M.seriesCount ≤ 256 := by omega
        have eb : sumN M.parcelCount M.parcelBlocks = sumN x.npc (blN PS) := by
          rw [cp.1.2.1]
          exact sumN_ext (fun k hk => (cp.1.2.2.2 k hk).2.2)
        have f1 : M.parcelCount ≤ 40 := by omega
        have f2 : 2 + M.journal + M.catalogBlocks + sumN M.parcelCount M.parcelBlocks ≤ M.blocks := by omega
        have f3 : M.blocks ≤ 256 := by omega
        have efr : M.freeN = x.fr PS := fr_eq cp t10 g8 cc
        have hfr256 : x.fr PS ≤ 256 := by
          show x.diskBlocks - 2 - x.jlimit - (x.ncat + sumN x.npc (blN PS)) ≤ 256
          omega
        have rlt : rlT M x := ⟨⟨t1, t2, t3, t4⟩, ⟨t5, t6, t7⟩, ⟨t8, t9⟩, t10, t11, t12⟩
        have rls : rlS dA SS M x := ⟨sr1, sr2, sr3, sr4, sr5⟩
        have rla : rlA dA ad e0 M x gq rq la gk AT T := ⟨⟨r1, r2, r3, r4⟩, r5, ⟨r6, r7⟩, ⟨r8, r9⟩, r10⟩
        obtain ⟨y1, y2, y3⟩ := sy_eq (m := M) (x := x) ⟨g1, g2, g3, g4, g5, g6, g7, g8, g9, g10, g11⟩
        have hso : ∀ q : Nat, q < x.nsc → x.nsO q < 2 ^ 31 := fun q hq => by
          have := nsO_lt cj ck hq
          omega
        have hp2 := pc2_le cp hd2
        have hg := capR_2 (N := x.gN) (a := cnt (PS d).n (x.sePc (PS d))) (b := cnt (PS (d + 1)).n (x.sePc (PS (d + 1)))) n15 (by omega)
        have hge := capR_ge (capR x.gN 0 (cnt (PS d).n (x.sePc (PS d)))) (cnt (PS d).n (x.sePc (PS d))) (cnt (PS (d + 1)).n (x.sePc (PS (d + 1))))
        have hge2 := capR_ge x.gN 0 (cnt (PS d).n (x.sePc (PS d)))
        have hg1 : (capR (capR x.gN 0 (cnt (PS d).n (x.sePc (PS d)))) (cnt (PS d).n (x.sePc (PS d))) (cnt (PS (d + 1)).n (x.sePc (PS (d + 1))))) ≤ 32768 := by omega
        have hgN : x.gN ≤ (capR (capR x.gN 0 (cnt (PS d).n (x.sePc (PS d)))) (cnt (PS d).n (x.sePc (PS d))) (cnt (PS (d + 1)).n (x.sePc (PS (d + 1))))) := by omega
        have eval : ∀ b : Nat, nI (x.wjW + (b + 1) - x.writes) = nI ((if M.fresh = true then 1 else 0) + b + 1) := fun b => by
          cases hj : x.jch with
          | false =>
            have e1 : x.wjW = x.writes := if_neg (by rw [hj]; decide)
            have e2 : (if M.fresh = true then 1 else 0) = 0 := if_neg (by rw [g5, hj]; decide)
            rw [e1, e2]
            congr 1
            omega
          | true =>
            have e1 : x.wjW = x.writes + 1 := if_pos hj
            have e2 : (if M.fresh = true then 1 else 0) = 1 := if_pos (by rw [g5, hj])
            rw [e1, e2]
            congr 1
            omega
        by_cases hz : cnt (PS d).n (x.sePc (PS d)) + cnt (PS (d + 1)).n (x.sePc (PS (d + 1))) = 0
        · have ecm : M.cmN d = 0 := cmN_0 cp hd2 hz
          have hcm : M.cmN d ≤ M.freeN := by omega
          by_cases hjc : x.jch = true ∧ x.cutLeft = 0
          · obtain ⟨hj, hc⟩ := hjc
            have hr2 : ∀ u : VS, (∃ (ga2 go2 : Nat → Nat) (gt2 gv2 : Nat → Int64), u = x.cpI PS d ga2 go2 gt2 gv2 x.pl) → Rl dA ad e0 (n + 1) u (MS.s_cutLeft (MS.s_on (MS.s_cod M 1) false) (-1)) (cs + (3 * ((capR (capR x.gN 0 (cnt (PS d).n (x.sePc (PS d)))) (cnt (PS d).n (x.sePc (PS d))) (cnt (PS (d + 1)).n (x.sePc (PS (d + 1))))) - x.gN) + 1) + 0 + 0) (ss + (6 * ((capR (capR x.gN 0 (cnt (PS d).n (x.sePc (PS d)))) (cnt (PS d).n (x.sePc (PS d))) (cnt (PS (d + 1)).n (x.sePc (PS (d + 1))))) - x.gN) + 6) + 0 + 0) := fun u hk => by
                obtain ⟨a1, a2, a3, a4, z1⟩ := hk
                rw [z1]
                exact rl_gp (rl_pw (cs' := cs + 6) (ss' := ss + 6) hR (by omega) 1 (by omega) (by omega)) (fun _ z => z) a1 a2 a3 a4 _ hgN hg (by show _ ≤ cs + 6 + 3 * ((capR (capR x.gN 0 (cnt (PS d).n (x.sePc (PS d)))) (cnt (PS d).n (x.sePc (PS d))) (cnt (PS (d + 1)).n (x.sePc (PS (d + 1))))) - x.gN); omega) (by show _ ≤ ss + 6 + 6 * ((capR (capR x.gN 0 (cnt (PS d).n (x.sePc (PS d)))) (cnt (PS d).n (x.sePc (PS d))) (cnt (PS (d + 1)).n (x.sePc (PS (d + 1))))) - x.gN); omega)
            have rn1 : cs + (3 * ((capR (capR x.gN 0 (cnt (PS d).n (x.sePc (PS d)))) (cnt (PS d).n (x.sePc (PS d))) (cnt (PS (d + 1)).n (x.sePc (PS (d + 1))))) - x.gN) + 1) + 0 + 0 ≤ 601024 ∧ ss + (6 * ((capR (capR x.gN 0 (cnt (PS d).n (x.sePc (PS d)))) (cnt (PS d).n (x.sePc (PS d))) (cnt (PS (d + 1)).n (x.sePc (PS (d + 1))))) - x.gN) + 6) + 0 + 0 ≤ 7293034 := rl_room (hr2 _ ⟨fun _ => 0, fun _ => 0, fun _ => 0, fun _ => 0, rfl⟩)
            obtain ⟨rn1, rn2⟩ := rn1
            have W1 := fun sz => k8_compact_1 l D dA sz h ad o og x (xs (6 * n + 1)) (fun u => ∃ (ga2 go2 : Nat → Nat) (gt2 gv2 : Nat → Int64), u = x.cpI PS d ga2 go2 gt2 gv2 x.pl) _ _ _ _ (nf_x1 (w := fun u => u) (fun sz => v_compact_i0 l (lS_tr hC) D dA sz h ad x PS d hp hd2 n4 n2 n3 hso n5 n1 t11 n14 hg1 (by omega) hz hj hc) (fun u q => q) (fun _ _ _ q => by rw [ed] at q; exact q))
            have M1 := nm_i (M1 := MS.s_cutLeft (MS.s_on (MS.s_cod M 1) false) (-1)) (b := 0) (Pc2 := fun sz => pC D dA [.ref mm, .int (xs (6 * n + 1))] (MW dA mm mad M) sz) (fun sz => k_compact_5a l D dA sz mm mad M d on hdM pts1 hsc n23 f1 f2 f3 hcm (g5.trans hj) (g6.trans hc)) (fun r u q => ⟨q, rfl⟩) (fun _ _ _ q => by rw [ed] at q; exact q)
            exact l9_11_x l hC (k9 := 1) hi hL ⟨by omega, by omega, by omega, by omega⟩ ⟨by omega, by omega⟩ rfl k_n1 W1 M1 hP hD hS hl (fun u H1 locs1 ls1 hf hP hD hS hl => cont u _ _ _ (hr2 u hf) og H1 locs1 ls1 hP hD hS hl)
          · have hw : x.jch = false ∨ ¬ x.cutLeft = 0 := by
              cases hj : x.jch with
              | false => exact Or.inl rfl
              | true => exact Or.inr (fun z => hjc ⟨hj, z⟩)
            have hwM : M.fresh = false ∨ ¬ M.cutLeft = 0 := by rw [g5, g6]; exact hw
            rcases first_or (fun j => cutN x.wjC j = 0) (0 + 1) with ⟨k0, u1, u2, u3⟩ | hcz
            · have hr2 : ∀ u : VS, (∃ (ga2 go2 : Nat → Nat) (gt2 gv2 : Nat → Int64), u = x.cpJ PS d ga2 go2 gt2 gv2 x.pl k0) → Rl dA ad e0 (n + 1) u (MS.s_fresh (MS.s_kept (MS.s_written (MS.s_cutLeft (MS.s_on (MS.s_cod M 1) false) (-1)) (M.syWr + k0)) M.records) false) (cs + (3 * ((capR (capR x.gN 0 (cnt (PS d).n (x.sePc (PS d)))) (cnt (PS d).n (x.sePc (PS d))) (cnt (PS (d + 1)).n (x.sePc (PS (d + 1))))) - x.gN) + 1) + 0 + 0) (ss + (6 * ((capR (capR x.gN 0 (cnt (PS d).n (x.sePc (PS d)))) (cnt (PS d).n (x.sePc (PS d))) (cnt (PS (d + 1)).n (x.sePc (PS (d + 1))))) - x.gN) + 6) + 0 + 0) := fun u hk => by
                  obtain ⟨a1, a2, a3, a4, z1⟩ := hk
                  rw [z1]
                  exact rl_gp (rl_sj (cs' := cs + 6) (ss' := ss + 6) hR y2 g7 (by omega) k0 (by omega) (by omega) (by omega)) (fun _ z => z) a1 a2 a3 a4 _ hgN hg (by show _ ≤ cs + 6 + 3 * ((capR (capR x.gN 0 (cnt (PS d).n (x.sePc (PS d)))) (cnt (PS d).n (x.sePc (PS d))) (cnt (PS (d + 1)).n (x.sePc (PS (d + 1))))) - x.gN); omega) (by show _ ≤ ss + 6 + 6 * ((capR (capR x.gN 0 (cnt (PS d).n (x.sePc (PS d)))) (cnt (PS d).n (x.sePc (PS d))) (cnt (PS (d + 1)).n (x.sePc (PS (d + 1))))) - x.gN); omega)
              have rn1 : cs + (3 * ((capR (capR x.gN 0 (cnt (PS d).n (x.sePc (PS d)))) (cnt (PS d).n (x.sePc (PS d))) (cnt (PS (d + 1)).n (x.sePc (PS (d + 1))))) - x.gN) + 1) + 0 + 0 ≤ 601024 ∧ ss + (6 * ((capR (capR x.gN 0 (cnt (PS d).n (x.sePc (PS d)))) (cnt (PS d).n (x.sePc (PS d))) (cnt (PS (d + 1)).n (x.sePc (PS (d + 1))))) - x.gN) + 6) + 0 + 0 ≤ 7293034 := rl_room (hr2 _ ⟨fun _ => 0, fun _ => 0, fun _ => 0, fun _ => 0, rfl⟩)
              obtain ⟨rn1, rn2⟩ := rn1
              have W1 := fun sz => k8_compact_1 l D dA sz h ad o og x (xs (6 * n + 1)) (fun u => ∃ (ga2 go2 : Nat → Nat) (gt2 gv2 : Nat → Int64), u = x.cpJ PS d ga2 go2 gt2 gv2 x.pl k0) _ _ _ _ (nf_x1 (w := fun u => u) (fun sz => v_compact_j0 l (lS_tr hC) D dA sz h ad x PS d k0 hp hd2 n4 n2 n3 hso n5 n1 t11 n14 hg1 (by omega) hz hw u1 u3 u2) (fun u q => q) (fun _ _ _ q => by rw [ed] at q; exact q))
              have M1 := nm_i (M1 := MS.s_fresh (MS.s_kept (MS.s_written (MS.s_cutLeft (MS.s_on (MS.s_cod M 1) false) (-1)) (M.syWr + k0)) M.records) false) (b := 0) (Pc2 := fun sz => pC D dA [.ref mm, .int (xs (6 * n + 1))] (MW dA mm mad M) sz) (fun sz => k_compact_5b l D dA sz mm mad M d k0 on hdM pts1 hsc n23 f1 f2 f3 hcm hwM (by omega) (by rw [y1]; exact u2) (fun i hi => by rw [y1]; exact u3 i hi)) (fun r u q => ⟨q, rfl⟩) (fun _ _ _ q => by rw [ed] at q; exact q)
              exact l9_11_x l hC (k9 := 1) hi hL ⟨by omega, by omega, by omega, by omega⟩ ⟨by omega, by omega⟩ rfl k_n1 W1 M1 hP hD hS hl (fun u H1 locs1 ls1 hf hP hD hS hl => cont u _ _ _ (hr2 u hf) og H1 locs1 ls1 hP hD hS hl)
            · have rn1 : cs + (3 * ((capR (capR x.gN 0 (cnt (PS d).n (x.sePc (PS d)))) (cnt (PS d).n (x.sePc (PS d))) (cnt (PS (d + 1)).n (x.sePc (PS (d + 1))))) - x.gN)) + 0 + 0 ≤ 601024 ∧ ss + (6 * ((capR (capR x.gN 0 (cnt (PS d).n (x.sePc (PS d)))) (cnt (PS d).n (x.sePc (PS d))) (cnt (PS (d + 1)).n (x.sePc (PS (d + 1))))) - x.gN)) + 0 + 0 ≤ 7293034 := rl_room (rl_gp (rl_up (cs' := cs + 6) (ss' := ss + 6) hR (by omega) 0 (by omega) (by omega)) (fun _ z => z) (fun _ => 0) (fun _ => 0) (fun _ => 0) (fun _ => 0) 0 hgN hg (by show _ ≤ cs + 6 + 3 * ((capR (capR x.gN 0 (cnt (PS d).n (x.sePc (PS d)))) (cnt (PS d).n (x.sePc (PS d))) (cnt (PS (d + 1)).n (x.sePc (PS (d + 1))))) - x.gN); omega) (by show _ ≤ ss + 6 + 6 * ((capR (capR x.gN 0 (cnt (PS d).n (x.sePc (PS d)))) (cnt (PS d).n (x.sePc (PS d))) (cnt (PS (d + 1)).n (x.sePc (PS (d + 1))))) - x.gN); omega))
              obtain ⟨rn1, rn2⟩ := rn1
              have W1 := fun sz => k8_compact l D dA sz h ad o og x (xs (6 * n + 1)) (nI (x.wjW + (0 + 1) - x.writes)) (fun u => ∃ (ga2 go2 : Nat → Nat) (gt2 gv2 : Nat → Int64), u = (x.cp0 PS d ga2 go2 gt2 gv2).kmS (sfT PS d 2 (x.npc - (d + 2)))) _ _ _ _ (nf_i (w := fun u => u) (fun sz => v_compact_0 l D dA sz h ad x PS d hp hd2 n4 n2 n3 hso n5 n1 t11 n14 hg1 (by omega) hz hw hcz) (fun r u q => q) (fun _ _ _ q => by rw [ed] at q; exact q))
              have M1 := nm_i (M1 := M.cmS d) (b := nI ((if M.fresh = true then 1 else 0) + M.cmN d + 1)) (Pc2 := fun sz => pC D dA [.ref mm, .int (xs (6 * n + 1))] (MW dA mm mad M) sz) (fun sz => k_compact_0 l D dA sz mm mad M d on hdM pts1 hsc n23 f1 f2 f3 hcm hwM (fun i hi => by rw [y1]; exact hcz i (by omega))) (fun r u q => ⟨q.1, q.2⟩) (fun _ _ _ q => by rw [ed] at q; exact q)
              exact l9_11 l hC hi hL ⟨by omega, by omega, by omega, by omega⟩ ⟨by omega, by omega⟩ (cm_cod M d) (by rw [eval, ecm]) W1 M1 hP hD hS hl (fun u H1 locs1 ls1 hf2 hP hD hS hl => by
                obtain ⟨a1, a2, a3, a4, z1⟩ := hf2
                refine cont u _ _ _ ?_ _ H1 locs1 ls1 hP hD hS hl
                rw [z1]
                exact rl_c0 co rlt rls nr rla rr (by omega) hd2 hz a1 a2 a3 a4)
        · have hz : 0 < cnt (PS d).n (x.sePc (PS d)) + cnt (PS (d + 1)).n (x.sePc (PS (d + 1))) := Nat.pos_of_ne_zero hz
          have hcl := cm_le d pts1 hsc
          obtain ⟨nb, enb⟩ : ∃ nb, nb = M.cmN d := ⟨_, rfl⟩
          have ecm : M.cmN d = nb := enb.symm
          have hc12 : (cnt (PS d).n (x.sePc (PS d)) + cnt (PS (d + 1)).n (x.sePc (PS (d + 1)))) ≤ 12000 := by omega
          have hpo := po_lt cp se1
          have hbl : ∀ (gO O : Nat → Nat) (gT gV T V : Nat → Int64), gat2 (x.sePc (PS d)) (x.sePc (PS (d + 1))) (PS d) (PS (d + 1)) gO gT gV → laid gO (cnt (PS d).n (x.sePc (PS d)) + cnt (PS (d + 1)).n (x.sePc (PS (d + 1)))) (cnt (PS d).n (x.sePc (PS d)) + cnt (PS (d + 1)).n (x.sePc (PS (d + 1)))) gO O → laid gO (cnt (PS d).n (x.sePc (PS d)) + cnt (PS (d + 1)).n (x.sePc (PS (d + 1)))) (cnt (PS d).n (x.sePc (PS d)) + cnt (PS (d + 1)).n (x.sePc (PS (d + 1)))) gT T → laid gO (cnt (PS d).n (x.sePc (PS d)) + cnt (PS (d + 1)).n (x.sePc (PS (d + 1)))) (cnt (PS d).n (x.sePc (PS d)) + cnt (PS (d + 1)).n (x.sePc (PS (d + 1)))) gV V → (mkP (cnt (PS d).n (x.sePc (PS d)) + cnt (PS (d + 1)).n (x.sePc (PS (d + 1)))) O T V).bl = nb := fun gO O gT gV T V b1 l1 l2 l3 => by
            rw [enb]
            exact (cmN_eq cp hd2 b1 l1 l2 l3).symm
          by_cases hfr : nb ≤ x.fr PS
          · have hcm : M.cmN d ≤ M.freeN := by omega
            by_cases hjc : x.jch = true ∧ x.cutLeft = 0
            · obtain ⟨hj, hc⟩ := hjc
              have hr2 : ∀ u : VS, (∃ (ga2 go2 : Nat → Nat) (gt2 gv2 : Nat → Int64) (pl1 : va_W), (∀ c, c ∈ x.pl → c ∈ pl1) ∧ u = x.cpI PS d ga2 go2 gt2 gv2 pl1) → Rl dA ad e0 (n + 1) u (MS.s_cutLeft (MS.s_on (MS.s_cod M 1) false) (-1)) (cs + (3 * ((capR (capR x.gN 0 (cnt (PS d).n (x.sePc (PS d)))) (cnt (PS d).n (x.sePc (PS d))) (cnt (PS (d + 1)).n (x.sePc (PS (d + 1))))) - x.gN) + 6) + 0 + 0) (ss + (6 * ((capR (capR x.gN 0 (cnt (PS d).n (x.sePc (PS d)))) (cnt (PS d).n (x.sePc (PS d))) (cnt (PS (d + 1)).n (x.sePc (PS (d + 1))))) - x.gN) + (14 + (3 * (cnt (PS d).n (x.sePc (PS d)) + cnt (PS (d + 1)).n (x.sePc (PS (d + 1)))) + x.nser + 1))) + 0 + 0) := fun u hk => by
                  obtain ⟨a1, a2, a3, a4, pl1, z2, z1⟩ := hk
                  rw [z1]
                  exact rl_gp (rl_pw (cs' := cs + 6) (ss' := ss + (14 + (3 * (cnt (PS d).n (x.sePc (PS d)) + cnt (PS (d + 1)).n (x.sePc (PS (d + 1)))) + x.nser + 1))) hR (by omega) 1 (by omega) (by omega)) z2 a1 a2 a3 a4 _ hgN hg (by show _ ≤ cs + 6 + 3 * ((capR (capR x.gN 0 (cnt (PS d).n (x.sePc (PS d)))) (cnt (PS d).n (x.sePc (PS d))) (cnt (PS (d + 1)).n (x.sePc (PS (d + 1))))) - x.gN); omega) (by show _ ≤ ss + (14 + (3 * (cnt (PS d).n (x.sePc (PS d)) + cnt (PS (d + 1)).n (x.sePc (PS (d + 1)))) + x.nser + 1)) + 6 * ((capR (capR x.gN 0 (cnt (PS d).n (x.sePc (PS d)))) (cnt (PS d).n (x.sePc (PS d))) (cnt (PS (d + 1)).n (x.sePc (PS (d + 1))))) - x.gN); omega)
              have rn1 : cs + (3 * ((capR (capR x.gN 0 (cnt (PS d).n (x.sePc (PS d)))) (cnt (PS d).n (x.sePc (PS d))) (cnt (PS (d + 1)).n (x.sePc (PS (d + 1))))) - x.gN) + 6) + 0 + 0 ≤ 601024 ∧ ss + (6 * ((capR (capR x.gN 0 (cnt (PS d).n (x.sePc (PS d)))) (cnt (PS d).n (x.sePc (PS d))) (cnt (PS (d + 1)).n (x.sePc (PS (d + 1))))) - x.gN) + (14 + (3 * (cnt (PS d).n (x.sePc (PS d)) + cnt (PS (d + 1)).n (x.sePc (PS (d + 1)))) + x.nser + 1))) + 0 + 0 ≤ 7293034 := rl_room (hr2 _ ⟨fun _ => 0, fun _ => 0, fun _ => 0, fun _ => 0, x.pl, fun _ z => z, rfl⟩)
              obtain ⟨rn1, rn2⟩ := rn1
              have W1 := fun sz => k8_compact_1 l D dA sz h ad o og x (xs (6 * n + 1)) (fun u => ∃ (ga2 go2 : Nat → Nat) (gt2 gv2 : Nat → Int64) (pl1 : va_W), (∀ c, c ∈ x.pl → c ∈ pl1) ∧ u = x.cpI PS d ga2 go2 gt2 gv2 pl1) _ _ _ _ (nf_x1 (w := fun u => u) (fun sz => v_compact_i1 l (lS_tr hC) D dA sz h ad x PS d nb hp hd2 n4 n2 n3 hso n5 n1 t11 n14 hg1 (by omega) hpo hz hc12 hbl hfr hj hc) (fun u q => q) (fun _ _ _ q => by rw [ed] at q; exact q))
              have M1 := nm_i (M1 := MS.s_cutLeft (MS.s_on (MS.s_cod M 1) false) (-1)) (b := 0) (Pc2 := fun sz => pC D dA [.ref mm, .int (xs (6 * n + 1))] (MW dA mm mad M) sz) (fun sz => k_compact_5a l D dA sz mm mad M d on hdM pts1 hsc n23 f1 f2 f3 hcm (g5.trans hj) (g6.trans hc)) (fun r u q => ⟨q, rfl⟩) (fun _ _ _ q => by rw [ed] at q; exact q)
              exact l9_11_x l hC (k9 := 1) hi hL ⟨by omega, by omega, by omega, by omega⟩ ⟨by omega, by omega⟩ rfl k_n1 W1 M1 hP hD hS hl (fun u H1 locs1 ls1 hf hP hD hS hl => cont u _ _ _ (hr2 u hf) og H1 locs1 ls1 hP hD hS hl)
            · have hw : x.jch = false ∨ ¬ x.cutLeft = 0 := by
                cases hj : x.jch with
                | false => exact Or.inl rfl
                | true => exact Or.inr (fun z => hjc ⟨hj, z⟩)
              have hwM : M.fresh = false ∨ ¬ M.cutLeft = 0 := by rw [g5, g6]; exact hw
              rcases first_or (fun j => cutN x.wjC j = 0) (nb + 1) with ⟨k0, u1, u2, u3⟩ | hcz
              · have hr2 : ∀ u : VS, (∃ (ga2 go2 : Nat → Nat) (gt2 gv2 : Nat → Int64) (pl1 : va_W), (∀ c, c ∈ x.pl → c ∈ pl1) ∧ u = x.cpJ PS d ga2 go2 gt2 gv2 pl1 k0) → Rl dA ad e0 (n + 1) u (MS.s_fresh (MS.s_kept (MS.s_written (MS.s_cutLeft (MS.s_on (MS.s_cod M 1) false) (-1)) (M.syWr + k0)) M.records) false) (cs + (3 * ((capR (capR x.gN 0 (cnt (PS d).n (x.sePc (PS d)))) (cnt (PS d).n (x.sePc (PS d))) (cnt (PS (d + 1)).n (x.sePc (PS (d + 1))))) - x.gN) + 6) + 0 + 0) (ss + (6 * ((capR (capR x.gN 0 (cnt (PS d).n (x.sePc (PS d)))) (cnt (PS d).n (x.sePc (PS d))) (cnt (PS (d + 1)).n (x.sePc (PS (d + 1))))) - x.gN) + (14 + (3 * (cnt (PS d).n (x.sePc (PS d)) + cnt (PS (d + 1)).n (x.sePc (PS (d + 1)))) + x.nser + 1))) + 0 + 0) := fun u hk => by
                    obtain ⟨a1, a2, a3, a4, pl1, z2, z1⟩ := hk
                    rw [z1]
                    exact rl_gp (rl_sj (cs' := cs + 6) (ss' := ss + (14 + (3 * (cnt (PS d).n (x.sePc (PS d)) + cnt (PS (d + 1)).n (x.sePc (PS (d + 1)))) + x.nser + 1))) hR y2 g7 (by omega) k0 (by omega) (by omega) (by omega)) z2 a1 a2 a3 a4 _ hgN hg (by show _ ≤ cs + 6 + 3 * ((capR (capR x.gN 0 (cnt (PS d).n (x.sePc (PS d)))) (cnt (PS d).n (x.sePc (PS d))) (cnt (PS (d + 1)).n (x.sePc (PS (d + 1))))) - x.gN); omega) (by show _ ≤ ss + (14 + (3 * (cnt (PS d).n (x.sePc (PS d)) + cnt (PS (d + 1)).n (x.sePc (PS (d + 1)))) + x.nser + 1)) + 6 * ((capR (capR x.gN 0 (cnt (PS d).n (x.sePc (PS d)))) (cnt (PS d).n (x.sePc (PS d))) (cnt (PS (d + 1)).n (x.sePc (PS (d + 1))))) - x.gN); omega)
                have rn1 : cs + (3 * ((capR (capR x.gN 0 (cnt (PS d).n (x.sePc (PS d)))) (cnt (PS d).n (x.sePc (PS d))) (cnt (PS (d + 1)).n (x.sePc (PS (d + 1))))) - x.gN) + 6) + 0 + 0 ≤ 601024 ∧ ss + (6 * ((capR (capR x.gN 0 (cnt (PS d).n (x.sePc (PS d)))) (cnt (PS d).n (x.sePc (PS d))) (cnt (PS (d + 1)).n (x.sePc (PS (d + 1))))) - x.gN) + (14 + (3 * (cnt (PS d).n (x.sePc (PS d)) + cnt (PS (d + 1)).n (x.sePc (PS (d + 1)))) + x.nser + 1))) + 0 + 0 ≤ 7293034 := rl_room (hr2 _ ⟨fun _ => 0, fun _ => 0, fun _ => 0, fun _ => 0, x.pl, fun _ z => z, rfl⟩)
                obtain ⟨rn1, rn2⟩ := rn1
                have W1 := fun sz => k8_compact_1 l D dA sz h ad o og x (xs (6 * n + 1)) (fun u => ∃ (ga2 go2 : Nat → Nat) (gt2 gv2 : Nat → Int64) (pl1 : va_W), (∀ c, c ∈ x.pl → c ∈ pl1) ∧ u = x.cpJ PS d ga2 go2 gt2 gv2 pl1 k0) _ _ _ _ (nf_x1 (w := fun u => u) (fun sz => v_compact_j1 l (lS_tr hC) D dA sz h ad x PS d nb k0 hp hd2 n4 n2 n3 hso n5 n1 t11 n14 hg1 (by omega) hpo hz hc12 hbl hfr hw u1 u3 u2) (fun u q => q) (fun _ _ _ q => by rw [ed] at q; exact q))
                have M1 := nm_i (M1 := MS.s_fresh (MS.s_kept (MS.s_written (MS.s_cutLeft (MS.s_on (MS.s_cod M 1) false) (-1)) (M.syWr + k0)) M.records) false) (b := 0) (Pc2 := fun sz => pC D dA [.ref mm, .int (xs (6 * n + 1))] (MW dA mm mad M) sz) (fun sz => k_compact_5b l D dA sz mm mad M d k0 on hdM pts1 hsc n23 f1 f2 f3 hcm hwM (by omega) (by rw [y1]; exact u2) (fun i hi => by rw [y1]; exact u3 i hi)) (fun r u q => ⟨q, rfl⟩) (fun _ _ _ q => by rw [ed] at q; exact q)
                exact l9_11_x l hC (k9 := 1) hi hL ⟨by omega, by omega, by omega, by omega⟩ ⟨by omega, by omega⟩ rfl k_n1 W1 M1 hP hD hS hl (fun u H1 locs1 ls1 hf hP hD hS hl => cont u _ _ _ (hr2 u hf) og H1 locs1 ls1 hP hD hS hl)
              · have rn1 : cs + (3 * ((capR (capR x.gN 0 (cnt (PS d).n (x.sePc (PS d)))) (cnt (PS d).n (x.sePc (PS d))) (cnt (PS (d + 1)).n (x.sePc (PS (d + 1))))) - x.gN) + 5) + 0 + 0 ≤ 601024 ∧ ss + (6 * ((capR (capR x.gN 0 (cnt (PS d).n (x.sePc (PS d)))) (cnt (PS d).n (x.sePc (PS d))) (cnt (PS (d + 1)).n (x.sePc (PS (d + 1))))) - x.gN) + (8 + (3 * (cnt (PS d).n (x.sePc (PS d)) + cnt (PS (d + 1)).n (x.sePc (PS (d + 1)))) + x.nser + 1))) + 0 + 0 ≤ 7293034 := rl_room (rl_gp (rl_up (cs' := cs + 6) (ss' := ss + (14 + (3 * (cnt (PS d).n (x.sePc (PS d)) + cnt (PS (d + 1)).n (x.sePc (PS (d + 1)))) + x.nser + 1))) hR (by omega) 0 (by omega) (by omega)) (fun _ z => z) (fun _ => 0) (fun _ => 0) (fun _ => 0) (fun _ => 0) 0 hgN hg (by show _ ≤ cs + 6 + 3 * ((capR (capR x.gN 0 (cnt (PS d).n (x.sePc (PS d)))) (cnt (PS d).n (x.sePc (PS d))) (cnt (PS (d + 1)).n (x.sePc (PS (d + 1))))) - x.gN); omega) (by show _ ≤ ss + (14 + (3 * (cnt (PS d).n (x.sePc (PS d)) + cnt (PS (d + 1)).n (x.sePc (PS (d + 1)))) + x.nser + 1)) + 6 * ((capR (capR x.gN 0 (cnt (PS d).n (x.sePc (PS d)))) (cnt (PS d).n (x.sePc (PS d))) (cnt (PS (d + 1)).n (x.sePc (PS (d + 1))))) - x.gN); omega))
                obtain ⟨rn1, rn2⟩ := rn1
                have W1 := fun sz => k8_compact l D dA sz h ad o og x (xs (6 * n + 1)) (nI (x.wjW + (nb + 1) - x.writes)) (fun u => ∃ (ga2 go2 : Nat → Nat) (gt2 gv2 : Nat → Int64) (O : Nat → Nat) (T V : Nat → Int64) (mp : Nat) (pl1 : va_W), gat2 (x.sePc (PS d)) (x.sePc (PS (d + 1))) (PS d) (PS (d + 1)) go2 gt2 gv2 ∧ laid go2 (cnt (PS d).n (x.sePc (PS d)) + cnt (PS (d + 1)).n (x.sePc (PS (d + 1)))) (cnt (PS d).n (x.sePc (PS d)) + cnt (PS (d + 1)).n (x.sePc (PS (d + 1)))) go2 O ∧ laid go2 (cnt (PS d).n (x.sePc (PS d)) + cnt (PS (d + 1)).n (x.sePc (PS (d + 1)))) (cnt (PS d).n (x.sePc (PS d)) + cnt (PS (d + 1)).n (x.sePc (PS (d + 1)))) gt2 T ∧ laid go2 (cnt (PS d).n (x.sePc (PS d)) + cnt (PS (d + 1)).n (x.sePc (PS (d + 1)))) (cnt (PS d).n (x.sePc (PS d)) + cnt (PS (d + 1)).n (x.sePc (PS (d + 1)))) gv2 V ∧ (∀ q, O q < 256) ∧ isPc dA pl1 mp (mkP (cnt (PS d).n (x.sePc (PS d)) + cnt (PS (d + 1)).n (x.sePc (PS (d + 1)))) O T V) ∧ (∀ c, c ∈ x.pl → c ∈ pl1) ∧ u = (x.cp1 PS d nb mp pl1 ga2 go2 gt2 gv2).kmS (sfT (va_up PS d (mkP (cnt (PS d).n (x.sePc (PS d)) + cnt (PS (d + 1)).n (x.sePc (PS (d + 1)))) O T V)) (d + 1) 1 (x.npc - (d + 2)))) _ _ _ _ (nf_i (w := fun u => u) (fun sz => v_compact_1 l D dA sz h ad x PS d nb hp hd2 n4 n2 n3 hso n5 n1 t11 n14 hg1 (by omega) hpo hz hc12 hbl hfr hw hcz) (fun r u q => q) (fun _ _ _ q => by rw [ed] at q; exact q))
                have M1 := nm_i (M1 := M.cmS d) (b := nI ((if M.fresh = true then 1 else 0) + M.cmN d + 1)) (Pc2 := fun sz => pC D dA [.ref mm, .int (xs (6 * n + 1))] (MW dA mm mad M) sz) (fun sz => k_compact_0 l D dA sz mm mad M d on hdM pts1 hsc n23 f1 f2 f3 hcm hwM (fun i hi => by rw [y1]; exact hcz i (by omega))) (fun r u q => ⟨q.1, q.2⟩) (fun _ _ _ q => by rw [ed] at q; exact q)
                exact l9_11 l hC hi hL ⟨by omega, by omega, by omega, by omega⟩ ⟨by omega, by omega⟩ (cm_cod M d) (by rw [eval, ecm]) W1 M1 hP hD hS hl (fun u H1 locs1 ls1 hf2 hP hD hS hl => by
                  obtain ⟨a1, a2, a3, a4, O, TT, V, mp, pl1, b1, l1, l2, l3, l4, l5, l6, l7⟩ := hf2
                  refine cont u _ _ _ ?_ _ H1 locs1 ls1 hP hD hS hl
                  rw [l7]
                  exact rl_c1 (P := mkP (cnt (PS d).n (x.sePc (PS d)) + cnt (PS (d + 1)).n (x.sePc (PS (d + 1)))) O TT V) co rlt rls nr rla rr (by omega) hd2 rfl hz b1 l1 l2 l3 rfl (hbl a2 O a3 a4 TT V b1 l1 l2 l3) rfl l5 ⟨hc12, fun i _ => l4 i⟩ l6 hfr)
          · have hr2 : ∀ u : VS, (∃ (ga2 go2 : Nat → Nat) (gt2 gv2 : Nat → Int64) (pl1 : va_W), (∀ c, c ∈ x.pl → c ∈ pl1) ∧ u = x.cpU PS d ga2 go2 gt2 gv2 pl1) → Rl dA ad e0 (n + 1) u (MS.s_cod M 3) (cs + (3 * ((capR (capR x.gN 0 (cnt (PS d).n (x.sePc (PS d)))) (cnt (PS d).n (x.sePc (PS d))) (cnt (PS (d + 1)).n (x.sePc (PS (d + 1))))) - x.gN) + 6) + 0 + 0) (ss + (6 * ((capR (capR x.gN 0 (cnt (PS d).n (x.sePc (PS d)))) (cnt (PS d).n (x.sePc (PS d))) (cnt (PS (d + 1)).n (x.sePc (PS (d + 1))))) - x.gN) + (14 + (3 * (cnt (PS d).n (x.sePc (PS d)) + cnt (PS (d + 1)).n (x.sePc (PS (d + 1)))) + x.nser + 1))) + 0 + 0) := fun u hk => by
              obtain ⟨a1, a2, a3, a4, pl1, z2, z1⟩ := hk
              rw [z1]
              exact rl_gp (rl_up (cs' := cs + 6) (ss' := ss + (14 + (3 * (cnt (PS d).n (x.sePc (PS d)) + cnt (PS (d + 1)).n (x.sePc (PS (d + 1)))) + x.nser + 1))) hR (by omega) 3 (by omega) (by omega)) z2 a1 a2 a3 a4 _ hgN hg (by show _ ≤ cs + 6 + 3 * ((capR (capR x.gN 0 (cnt (PS d).n (x.sePc (PS d)))) (cnt (PS d).n (x.sePc (PS d))) (cnt (PS (d + 1)).n (x.sePc (PS (d + 1))))) - x.gN); omega) (by show _ ≤ ss + (14 + (3 * (cnt (PS d).n (x.sePc (PS d)) + cnt (PS (d + 1)).n (x.sePc (PS (d + 1)))) + x.nser + 1)) + 6 * ((capR (capR x.gN 0 (cnt (PS d).n (x.sePc (PS d)))) (cnt (PS d).n (x.sePc (PS d))) (cnt (PS (d + 1)).n (x.sePc (PS (d + 1))))) - x.gN); omega)
            obtain ⟨rn1, rn2⟩ := rl_room (hr2 _ ⟨fun _ => 0, fun _ => 0, fun _ => 0, fun _ => 0, x.pl, fun _ z => z, rfl⟩)
            have W1 := fun sz => k8_compact_3 l D dA sz h ad o og x (xs (6 * n + 1)) (fun u => ∃ (ga2 go2 : Nat → Nat) (gt2 gv2 : Nat → Int64) (pl1 : va_W), (∀ c, c ∈ x.pl → c ∈ pl1) ∧ u = x.cpU PS d ga2 go2 gt2 gv2 pl1) _ _ _ _ (nf_x1 (w := fun u => u) (fun sz => v_compact_u1 l (lS_tr hC) D dA sz h ad x PS d nb hp hd2 n4 n2 n3 hso n5 n1 t11 n14 hg1 (by omega) hpo hz hc12 hbl (by omega) (by omega)) (fun u q => q) (fun _ _ _ q => by rw [ed] at q; exact q))
            have M1 := nm_i (M1 := MS.s_cod M 3) (b := 0) (Pc2 := fun sz => pC D dA [.ref mm, .int (xs (6 * n + 1))] (MW dA mm mad M) sz) (fun sz => k_compact_3 l D dA sz mm mad M d on hdM pts1 hsc n23 f1 f2 f3 (by omega)) (fun r u q => ⟨q, rfl⟩) (fun _ _ _ q => by rw [ed] at q; exact q)
            exact l9_11_x l hC (k9 := 3) hi hL ⟨by omega, by omega, by omega, by omega⟩ ⟨by omega, by omega⟩ rfl k_n3 W1 M1 hP hD hS hl (fun u H1 locs1 ls1 hf hP hD hS hl => cont u _ _ _ (hr2 u hf) og H1 locs1 ls1 hP hD hS hl)
end CK11
end
section
/-! A start: the journal done again, what it wants of each record. -/
section RP
variable (PS : Nat → PT) (npc : Nat) (hor : Int64) (st : AS4) (jK jO : Nat → Nat) (jF jS : Nat → Int64)
theorem rp_up1 (r : Nat) : (rpF PS npc hor st jK jO jF jS r).1 ≤ (rpF PS npc hor st jK jO jF jS (r + 1)).1 ∧ ∃ t, (rpF PS npc hor st jK jO jF jS (r + 1)).2.2.2 = (rpF PS npc hor st jK jO jF jS r).2.2.2 ++ t := by
  show (rpF PS npc hor st jK jO jF jS r).1 ≤ (rpS PS npc hor (rpF PS npc hor st jK jO jF jS r) (jK r) (jO r) (jF r) (jS r)).1 ∧ ∃ t, (rpS PS npc hor (rpF PS npc hor st jK jO jF jS r) (jK r) (jO r) (jF r) (jS r)).2.2.2 = (rpF PS npc hor st jK jO jF jS r).2.2.2 ++ t
  obtain ⟨u, eu⟩ : ∃ u, u = rpF PS npc hor st jK jO jF jS r := ⟨_, rfl⟩
  rw [← eu]
  unfold rpS
  split
  · exact ⟨Nat.le_succ _, [], (List.append_nil _).symm⟩
  · split
    · exact ⟨Nat.le_refl _, [], (List.append_nil _).symm⟩
    · refine ⟨Nat.le_refl _, ?_⟩
      show ∃ t, (if hitB PS npc hor u.2.2.2 (jO r) (jF r) (jS r) = true then u.2.2.2 ++ [(jO r, maxL (jF r) hor, minL (jS r) (u.2.1 (jO r)))] else u.2.2.2) = u.2.2.2 ++ t
      split
      · exact ⟨_, rfl⟩
      · exact ⟨[], (List.append_nil _).symm⟩
theorem rp_up (a : Nat) : ∀ d, (rpF PS npc hor st jK jO jF jS a).1 ≤ (rpF PS npc hor st jK jO jF jS (a + d)).1 ∧ ∃ t, (rpF PS npc hor st jK jO jF jS (a + d)).2.2.2 = (rpF PS npc hor st jK jO jF jS a).2.2.2 ++ t
  | 0 => ⟨Nat.le_refl _, [], (List.append_nil _).symm⟩
  | d + 1 => by
    obtain ⟨h1, t, h2⟩ := rp_up a d
    obtain ⟨h3, t2, h4⟩ := rp_up1 PS npc hor st jK jO jF jS (a + d)
    refine ⟨Nat.le_trans h1 h3, t ++ t2, ?_⟩
    have h4 : (rpF PS npc hor st jK jO jF jS (a + (d + 1))).2.2.2 = (rpF PS npc hor st jK jO jF jS (a + d)).2.2.2 ++ t2 := h4
    rw [h4, h2, List.append_assoc]
theorem rp_hd {K : Nat} (h0 : st.2.2.1 = []) (hk : ∀ r, r < K → ¬ jK r = 0 → jO r < (rpF PS npc hor st jK jO jF jS r).1) : ∀ r, r ≤ K → ∀ p, p ∈ (rpF PS npc hor st jK jO jF jS r).2.2.1 → p.1 < (rpF PS npc hor st jK jO jF jS r).1
  | 0, _, p, hp => by
    have hp : p ∈ st.2.2.1 := hp
    rw [h0] at hp
    exact absurd hp List.not_mem_nil
  | r + 1, hr, p, hp => by
    have ih := rp_hd h0 hk r (by omega) p
    have hkr := hk r (by omega)
    have hp : p ∈ (rpS PS npc hor (rpF PS npc hor st jK jO jF jS r) (jK r) (jO r) (jF r) (jS r)).2.2.1 := hp
    show p.1 < (rpS PS npc hor (rpF PS npc hor st jK jO jF jS r) (jK r) (jO r) (jF r) (jS r)).1
    obtain ⟨u, eu⟩ : ∃ u, u = rpF PS npc hor st jK jO jF jS r := ⟨_, rfl⟩
    rw [← eu] at ih hkr hp ⊢
    unfold rpS at hp ⊢
    by_cases c0 : jK r = 0
    · rw [if_pos c0] at hp ⊢
      have hp : p ∈ u.2.2.1 := hp
      exact Nat.lt_succ_of_lt (ih hp)
    · rw [if_neg c0] at hp ⊢
      by_cases c1 : jK r = 1
      · rw [if_pos c1] at hp ⊢
        have hp : p ∈ (if jF r < hor then u.2.2.1 else u.2.2.1 ++ [(jO r, jF r, jS r)]) := hp
        show p.1 < u.1
        by_cases c2 : jF r < hor
        · rw [if_pos c2] at hp
          exact ih hp
        · rw [if_neg c2] at hp
          rcases List.mem_append.mp hp with z | z
          · exact ih z
          · rw [List.mem_singleton.mp z]
            exact hkr c0
      · rw [if_neg c1] at hp ⊢
        have hp : p ∈ u.2.2.1.filter (fun p => !wiB (jO r) (jF r) (jS r) p) := hp
        exact ih (List.mem_filter.mp hp).1
end RP
/-- how far the head's room grows -/
def hcF (len kd : Nat → Nat) (ea : Nat → Bool) (N : Nat) : Nat → Nat
  | 0 => N
  | i + 1 => if kd i = 1 ∧ ea i = false ∧ len i = hcF len kd ea N i then 2 * len i else hcF len kd ea N i
theorem hcF_1 (len kd : Nat → Nat) (ea : Nat → Bool) (N i : Nat) : hcF len kd ea N i ≤ hcF len kd ea N (i + 1) := by
  show hcF len kd ea N i ≤ if kd i = 1 ∧ ea i = false ∧ len i = hcF len kd ea N i then 2 * len i else hcF len kd ea N i
  split
  · next c => omega
  · exact Nat.le_refl _
theorem hcF_m (len kd : Nat → Nat) (ea : Nat → Bool) (N i : Nat) : ∀ d, hcF len kd ea N i ≤ hcF len kd ea N (i + d)
  | 0 => Nat.le_refl _
  | d + 1 => Nat.le_trans (hcF_m len kd ea N i d) (hcF_1 len kd ea N (i + d))
theorem hcF_b {len kd : Nat → Nat} {ea : Nat → Bool} {N B K : Nat} (h : ∀ i, i < K → len i ≤ B) : ∀ i, i ≤ K → hcF len kd ea N i ≤ max N (2 * B)
  | 0, _ => Nat.le_max_left _ _
  | i + 1, hi => by
    have ih := hcF_b (kd := kd) (ea := ea) (N := N) h i (by omega)
    have hl := h i (by omega)
    show (if kd i = 1 ∧ ea i = false ∧ len i = hcF len kd ea N i then 2 * len i else hcF len kd ea N i) ≤ max N (2 * B)
    split
    · omega
    · exact ih
theorem dg_hN {PS : Nat → PT} {x0 : VS} {st : AS4} {K : Nat} (h : inA st x0) (h0 : x0.hsize ≤ x0.hN ∧ 0 < x0.hN) (hk : ∀ r, r < K → ¬ x0.jK r = 0 → x0.jO r < (rpF PS x0.npc x0.nhor st x0.jK x0.jO x0.jF x0.jS r).1) : ∀ {r : Nat} {z : VS}, r ≤ K → dgR PS x0 r z → z.hN = hcF (fun i => (rpF PS x0.npc x0.nhor st x0.jK x0.jO x0.jF x0.jS i).2.2.1.length) x0.jK (fun i => decide (x0.jF i < x0.nhor)) x0.hN r
  | 0, z, _, e => by
    rw [show z = x0 from e]
    rfl
  | r + 1, z, hr, e => by
    obtain ⟨y, e1, e2⟩ := e
    have ih := dg_hN h h0 hk (r := r) (z := y) (by omega) e1
    obtain ⟨⟨k1, k2, k3, k4, k5, k6⟩, s1, ia⟩ := dg_A h h0 hk (r := r) (z := y) (by omega) e1
    have el : (rpF PS x0.npc x0.nhor st x0.jK x0.jO x0.jF x0.jS r).2.2.1.length = y.hsize := by
      rw [ia.2.2.1]
      exact lsF_l _ _
    obtain ⟨F, eF⟩ : ∃ F, F = hcF (fun i => (rpF PS x0.npc x0.nhor st x0.jK x0.jO x0.jF x0.jS i).2.2.1.length) x0.jK (fun i => decide (x0.jF i < x0.nhor)) x0.hN r := ⟨_, rfl⟩
    have es : hcF (fun i => (rpF PS x0.npc x0.nhor st x0.jK x0.jO x0.jF x0.jS i).2.2.1.length) x0.jK (fun i => decide (x0.jF i < x0.nhor)) x0.hN (r + 1) = if x0.jK r = 1 ∧ decide (x0.jF r < x0.nhor) = false ∧ y.hsize = F then 2 * y.hsize else F := by
      rw [eF, ← el]
      rfl
    rw [← eF] at ih
    rw [es]
    unfold dgS at e2
    rw [k1, k2, k3, k4] at e2
    rcases e2 with ⟨q1, q2⟩ | ⟨q1, pa, q2⟩ | ⟨q1, q3, q2⟩ | ⟨q1, q3, q2⟩
    · rw [if_neg (fun c => by omega), ← ih, q2]
      rfl
    · rw [q2, cmF_N, ← ih]
      unfold VS.cmcap VS.hcap
      rw [k6]
      by_cases c : x0.jF r < x0.nhor
      · rw [if_pos c, if_neg (fun d => by rw [decide_eq_true c] at d; exact absurd d.2.1 (by decide))]
      · rw [if_neg c]
        by_cases d : y.hsize = y.hN
        · rw [if_pos d, if_pos ⟨q1, decide_eq_false c, d⟩]
        · rw [if_neg d, if_neg (fun z => d z.2.2)]
    · rw [if_neg (fun c => by omega), ← ih, q2]
      rfl
    · rw [if_neg (fun c => by omega), ← ih, q2]
      rfl
section SG
variable {dA : Nat → ClassId} {m : MS} {x : VS} {PS : Nat → PT} {dn bn : Nat → Nat} {a9 b9 u9n : Nat}
theorem st_pre (h : ptR m x PS dn) (hb : bsR m x bn) : ((x.stS a9 b9 u9n).nhor = x.nhor ∧ (x.stS a9 b9 u9n).npc = x.npc ∧ ∀ k, k < x.npc → (x.stS a9 b9 u9n).nP k = x.nP k) ∧ inA (svA x) (x.stS a9 b9 u9n) ∧ ∀ r, rpF PS (x.stS a9 b9 u9n).npc (x.stS a9 b9 u9n).nhor (svA x) (x.stS a9 b9 u9n).jK (x.stS a9 b9 u9n).jO (x.stS a9 b9 u9n).jF (x.stS a9 b9 u9n).jS r = rpV PS x r := by
  obtain ⟨-, ⟨i1, i2, i3, i4⟩, ⟨-, j2, j3, -, j5⟩⟩ := hb
  have hho : m.horizon = x.nhor := h.1.2.2.1
  have nh : (x.stS a9 b9 u9n).nhor = x.nhor := by rw [← hho, ← i2, i1]; rfl
  have np : (x.stS a9 b9 u9n).npc = x.npc := i3
  refine ⟨⟨nh, np, fun k hk => ?_⟩, ⟨rfl, fun s hs => (cpy_00 _ _ hs).symm, rfl, lsF_e (fun i hi => ?_)⟩, fun r => ?_⟩
  · rw [← i4 k hk]
    exact cpy_00 _ _ (show k < x.spc by rw [i3]; exact hk)
  · have y1 : (x.stS a9 b9 u9n).nsO i = x.ssO i := cpy_00 _ _ hi
    have y2 : (x.stS a9 b9 u9n).nsF i = x.ssF i := cpy_00 _ _ hi
    have y3 : (x.stS a9 b9 u9n).nsT i = x.ssT i := cpy_00 _ _ hi
    unfold tr3
    rw [y1, y2, y3]
  · unfold rpV
    rw [np, nh]
    rfl
/-- what a start wants of each state that it reaches -/
theorem st_dg (h : coR m x PS dn bn) (hps : psOk dA x.nP x.npc x.pl PS) (hp : x.npc ≤ 32) (hs : x.nsc ≤ 64) (hn : x.nser ≤ 256) (hN : 0 < x.hN ∧ x.hN ≤ 4096) (hO : ∀ q, q < x.jsize → x.jO q < 256) (hB : x.jsize ≤ 2000) : ∃ HB, HB ≤ 4096 ∧ x.hN ≤ HB ∧ ∀ (i : Nat) (z : VS), i ≤ x.jkept → dgR PS (x.stS a9 b9 u9n) i z → (z.jsize = x.jkept ∧ z.jN = x.jN ∧ x.hN ≤ z.hN ∧ z.hN ≤ HB) ∧ (i < x.jkept → dgO dA PS z i) ∧ z.nser ≤ x.nser ∧ z.nsc ≤ 64 ∧ (z.hsize ≤ z.hN ∧ 0 < z.hN) ∧ (i = x.jkept → z.hN = HB) ∧ psOk dA z.nP z.npc z.pl PS ∧ z.npc = x.npc := by
  obtain ⟨h1, h2, h3, h4, ⟨o1, o2, o3⟩, h6, h7⟩ := h
  obtain ⟨⟨nh, np, nP⟩, ia, er⟩ := st_pre (PS := PS) (a9 := a9) (b9 := b9) (u9n := u9n) h1 h2
  have mk : min x.jsize x.jkept = x.jkept := Nat.min_eq_right h6
  have hh0 : (x.stS a9 b9 u9n).hsize ≤ (x.stS a9 b9 u9n).hN ∧ 0 < (x.stS a9 b9 u9n).hN := ⟨Nat.zero_le _, hN.1⟩
  have hk : ∀ r, r < x.jkept → ¬ (x.stS a9 b9 u9n).jK r = 0 → (x.stS a9 b9 u9n).jO r < (rpF PS (x.stS a9 b9 u9n).npc (x.stS a9 b9 u9n).nhor (svA x) (x.stS a9 b9 u9n).jK (x.stS a9 b9 u9n).jO (x.stS a9 b9 u9n).jF (x.stS a9 b9 u9n).jS r).1 := fun r hr q => by
    rw [er r]
    exact (o2 r (by omega)).2.2.1 q
  have ups : ∀ i j, i ≤ j → (rpV PS x i).1 ≤ (rpV PS x j).1 ∧ ∃ t, (rpV PS x j).2.2.2 = (rpV PS x i).2.2.2 ++ t := fun i j hij => by
    have u := rp_up PS x.npc x.nhor (svA x) x.jK x.jO x.jF x.jS i (j - i)
    rw [show i + (j - i) = j by omega] at u
    exact u
  have el : (scL x).length = x.nsc := lsF_l _ _
  refine ⟨hcF (fun i => (rpF PS (x.stS a9 b9 u9n).npc (x.stS a9 b9 u9n).nhor (svA x) (x.stS a9 b9 u9n).jK (x.stS a9 b9 u9n).jO (x.stS a9 b9 u9n).jF (x.stS a9 b9 u9n).jS i).2.2.1.length) (x.stS a9 b9 u9n).jK (fun i => decide ((x.stS a9 b9 u9n).jF i < (x.stS a9 b9 u9n).nhor)) (x.stS a9 b9 u9n).hN x.jkept, ?_, ?_, fun i z hi hz => ?_⟩
  · refine Nat.le_trans (hcF_b (B := 2000) (K := x.jkept) (fun i hi => ?_) x.jkept (Nat.le_refl _)) ?_
    · have u := rp_len PS (x.stS a9 b9 u9n).npc (x.stS a9 b9 u9n).nhor (svA x) (x.stS a9 b9 u9n).jK (x.stS a9 b9 u9n).jO (x.stS a9 b9 u9n).jF (x.stS a9 b9 u9n).jS i
      have u2 := cnt_le i (fun r => decide ((x.stS a9 b9 u9n).jK r = 1))
      have u3 : (svA x).2.2.1.length = 0 := rfl
      show (rpF PS (x.stS a9 b9 u9n).npc (x.stS a9 b9 u9n).nhor (svA x) (x.stS a9 b9 u9n).jK (x.stS a9 b9 u9n).jO (x.stS a9 b9 u9n).jF (x.stS a9 b9 u9n).jS i).2.2.1.length ≤ 2000
      omega
    · have : (x.stS a9 b9 u9n).hN = x.hN := rfl
      omega
  · have z := hcF_m (fun i => (rpF PS (x.stS a9 b9 u9n).npc (x.stS a9 b9 u9n).nhor (svA x) (x.stS a9 b9 u9n).jK (x.stS a9 b9 u9n).jO (x.stS a9 b9 u9n).jF (x.stS a9 b9 u9n).jS i).2.2.1.length) (x.stS a9 b9 u9n).jK (fun i => decide ((x.stS a9 b9 u9n).jF i < (x.stS a9 b9 u9n).nhor)) (x.stS a9 b9 u9n).hN 0 x.jkept
    rw [Nat.zero_add] at z
    exact z
  · have eN := dg_hN ia hh0 hk hi hz
    obtain ⟨⟨k1, k2, k3, k4, k5, k6⟩, ⟨s1, s2⟩, iz⟩ := dg_A ia hh0 hk hi hz
    rw [er] at iz
    have dk := dg_k hz
    have e1 : z.jsize = min x.jsize x.jkept := (congrArg VS.jsize dk).trans rfl
    have e2 : z.jN = x.jN := (congrArg VS.jN dk).trans rfl
    have e3 : z.nP = (x.stS a9 b9 u9n).nP := (congrArg VS.nP dk).trans rfl
    have e4 : z.pl = x.pl := (congrArg VS.pl dk).trans rfl
    have e5 : z.npc = x.npc := k5.trans np
    rw [mk] at e1
    have hm1 := hcF_m (fun i => (rpF PS (x.stS a9 b9 u9n).npc (x.stS a9 b9 u9n).nhor (svA x) (x.stS a9 b9 u9n).jK (x.stS a9 b9 u9n).jO (x.stS a9 b9 u9n).jF (x.stS a9 b9 u9n).jS i).2.2.1.length) (x.stS a9 b9 u9n).jK (fun i => decide ((x.stS a9 b9 u9n).jF i < (x.stS a9 b9 u9n).nhor)) (x.stS a9 b9 u9n).hN 0 i
    have hm2 := hcF_m (fun i => (rpF PS (x.stS a9 b9 u9n).npc (x.stS a9 b9 u9n).nhor (svA x) (x.stS a9 b9 u9n).jK (x.stS a9 b9 u9n).jO (x.stS a9 b9 u9n).jF (x.stS a9 b9 u9n).jS i).2.2.1.length) (x.stS a9 b9 u9n).jK (fun i => decide ((x.stS a9 b9 u9n).jF i < (x.stS a9 b9 u9n).nhor)) (x.stS a9 b9 u9n).hN i (x.jkept - i)
    rw [Nat.zero_add] at hm1
    rw [show i + (x.jkept - i) = x.jkept by omega] at hm2
    rw [← eN] at hm1 hm2
    have hm1 : x.hN ≤ z.hN := hm1
    have hb := hcF_b (len := fun i => (rpF PS (x.stS a9 b9 u9n).npc (x.stS a9 b9 u9n).nhor (svA x) (x.stS a9 b9 u9n).jK (x.stS a9 b9 u9n).jO (x.stS a9 b9 u9n).jF (x.stS a9 b9 u9n).jS i).2.2.1.length) (kd := (x.stS a9 b9 u9n).jK) (ea := fun i => decide ((x.stS a9 b9 u9n).jF i < (x.stS a9 b9 u9n).nhor)) (N := (x.stS a9 b9 u9n).hN) (B := 2000) (K := x.jkept) (fun i hi => by
      have u := rp_len PS (x.stS a9 b9 u9n).npc (x.stS a9 b9 u9n).nhor (svA x) (x.stS a9 b9 u9n).jK (x.stS a9 b9 u9n).jO (x.stS a9 b9 u9n).jF (x.stS a9 b9 u9n).jS i
      have u2 := cnt_le i (fun r => decide ((x.stS a9 b9 u9n).jK r = 1))
      have u3 : (svA x).2.2.1.length = 0 := rfl
      show (rpF PS (x.stS a9 b9 u9n).npc (x.stS a9 b9 u9n).nhor (svA x) (x.stS a9 b9 u9n).jK (x.stS a9 b9 u9n).jO (x.stS a9 b9 u9n).jF (x.stS a9 b9 u9n).jS i).2.2.1.length ≤ 2000
      omega) i hi
    rw [← eN] at hb
    have hb : z.hN ≤ 4096 := by
      have : (x.stS a9 b9 u9n).hN = x.hN := rfl
      omega
    have hser : z.nser ≤ x.nser := by
      have u := (ups i x.jsize (by omega)).1
      rw [iz.1, o1.1] at u
      exact u
    have elz : (scL z).length = z.nsc := lsF_l _ _
    have hnsc : z.nsc ≤ 64 := by
      obtain ⟨t, u⟩ := (ups i x.jsize (by omega)).2
      have u2 := congrArg List.length u
      rw [List.length_append, iz.2.2.2, o1.2.2.2, el, elz] at u2
      omega
    have hpsz : psOk dA z.nP z.npc z.pl PS := by
      rw [e4, e5, e3]
      intro k hkk
      rw [nP k hkk]
      exact hps k hkk
    refine ⟨⟨e1, e2, hm1, hm2⟩, fun hlt => ?_, hser, hnsc, ⟨s1, s2⟩, fun ei => by rw [eN, ei], hpsz, e5⟩
    obtain ⟨y1, y2, y3, y4, y5⟩ := o2 i (by omega)
    have ejK : z.jK i = x.jK i := congrFun k1 i
    have ejO : z.jO i = x.jO i := congrFun k2 i
    have hOi := hO i (by omega)
    by_cases c0 : x.jK i = 0
    · refine Or.inl ⟨ejK.trans c0, ?_⟩
      have u := y2 c0
      rw [iz.1] at u
      omega
    · by_cases c1 : x.jK i = 1
      · exact Or.inr (Or.inl ⟨ejK.trans c1, by omega, s1, s2, by omega⟩)
      · have c2 : z.jK i = 2 := by omega
        have hnsO : ∀ q : Nat, q < z.nsc → z.nsO q < 2 ^ 31 := fun q hq => by
          have mem : (z.nsO q, z.nsF q, z.nsT q) ∈ (rpV PS x i).2.2.2 := by
            rw [iz.2.2.2]
            unfold scL lsF
            exact List.mem_map.mpr ⟨q, List.mem_range.mpr hq, rfl⟩
          obtain ⟨t, u⟩ := (ups i x.jkept hi).2
          have mem2 : (z.nsO q, z.nsF q, z.nsT q) ∈ (rpV PS x x.jkept).2.2.2 := by
            rw [u]
            exact List.mem_append_left _ mem
          have u2 := ((o3 x.jkept (Nat.le_refl _) h6).2 _ mem2).1
          have u3 := (ups x.jkept x.jsize h6).1
          rw [o1.1] at u3
          have u2 : z.nsO q < (rpV PS x x.jkept).1 := u2
          omega
        have hhO : ∀ q : Nat, q < z.hsize → z.hO q < 2 ^ 31 := fun q hq => by
          have mem : (z.hO q, z.hT q, z.hV q) ∈ (rpV PS x i).2.2.1 := by
            rw [iz.2.2.1]
            unfold hdL lsF
            exact List.mem_map.mpr ⟨q, List.mem_range.mpr hq, rfl⟩
          have u := rp_hd PS x.npc x.nhor (svA x) x.jK x.jO x.jF x.jS (K := x.jkept) rfl (fun r hr q => (o2 r (by omega)).2.2.1 q) i hi _ mem
          have u : z.hO q < (rpV PS x i).1 := u
          rw [iz.1] at u
          omega
        have hdB : dgB dA PS z i := ⟨hpsz, by omega, hnsc, hnsO, s1, by omega, by omega, hhO⟩
        by_cases cs : sumN z.npc (z.soN PS (z.jO i) (z.jF i) (z.jS i)) = 0
        · exact Or.inr (Or.inr (Or.inl ⟨c2, hdB, cs⟩))
        · have cs : 0 < sumN z.npc (z.soN PS (z.jO i) (z.jF i) (z.jS i)) := Nat.pos_of_ne_zero cs
          refine Or.inr (Or.inr (Or.inr ⟨c2, hdB, cs, ?_⟩))
          have hz2 : dgR PS (x.stS a9 b9 u9n) (i + 1) ((z.dwS (z.jO i) (z.jF i) (z.jS i)).asS (z.jO i) (z.jF i) (z.jS i)) := ⟨z, hz, Or.inr (Or.inr (Or.inr ⟨c2, cs, rfl⟩))⟩
          obtain ⟨-, -, iy⟩ := dg_A ia hh0 hk hlt hz2
          rw [er] at iy
          obtain ⟨t, u⟩ := (ups (i + 1) x.jsize (by omega)).2
          have u2 := congrArg List.length u
          rw [List.length_append, iy.2.2.2, o1.2.2.2, el] at u2
          have ely : (scL ((z.dwS (z.jO i) (z.jF i) (z.jS i)).asS (z.jO i) (z.jF i) (z.jS i))).length = z.nsc + 1 := lsF_l _ _
          omega
end SG
end
section
/-! A start: the reference's points, what it keeps; the sizes. -/
theorem rp1_F (u : MS) (fN : Nat → Nat) (r : Nat) : ((u.rp1 fN r).kinds = u.kinds ∧ (u.rp1 fN r).recordSeries = u.recordSeries ∧ (u.rp1 fN r).firsts = u.firsts ∧ (u.rp1 fN r).parcelNumber = u.parcelNumber ∧ (u.rp1 fN r).texts = u.texts ∧ (u.rp1 fN r).cod = u.cod) ∧ cnt (u.rp1 fN r).points (u.rp1 fN r).pkd = cnt u.points u.pkd ∧ (u.rp1 fN r).points ≤ u.points + (if u.kinds r = 1 then 1 else 0) ∧ (∀ q, q < (u.rp1 fN r).points → (q < u.points ∧ (u.rp1 fN r).pointSeries q = u.pointSeries q) ∨ (u.rp1 fN r).pointSeries q = u.recordSeries r) ∧ (u.rp1 fN r).textLengths = (if u.kinds r = 0 then va_up u.textLengths (u.recordSeries r) (fN r) else u.textLengths) := by
  by_cases c0 : u.kinds r = 0
  · have e : u.rp1 fN r = (u.rp0 r).nwS (u.recordSeries r) (fN r) := if_pos c0
    rw [e, if_pos c0]
    exact ⟨⟨rfl, rfl, rfl, rfl, rfl, rfl⟩, rfl, Nat.le_add_right _ _, fun q hq => Or.inl ⟨hq, rfl⟩, rfl⟩
  · by_cases c1 : u.kinds r = 1
    · rw [if_neg c0, if_pos c1]
      by_cases c2 : u.firsts r < u.horizon
      · have e : u.rp1 fN r = (u.rp0 r).com0S (u.recordSeries r) (u.firsts r) := (if_neg c0).trans ((if_pos c1).trans (if_pos c2))
        rw [e]
        exact ⟨⟨rfl, rfl, rfl, rfl, rfl, rfl⟩, rfl, Nat.le_add_right _ _, fun q hq => Or.inl ⟨hq, rfl⟩, rfl⟩
      · have e : u.rp1 fN r = (u.rp0 r).comS (u.recordSeries r) (u.firsts r) (u.seconds r) := (if_neg c0).trans ((if_pos c1).trans (if_neg c2))
        rw [e]
        refine ⟨⟨rfl, rfl, rfl, rfl, rfl, rfl⟩, ?_, Nat.le_refl _, fun q hq => ?_, rfl⟩
        · show cnt (u.points + 1) (fun q => !decide (va_up u.places u.points (-1) q < 0)) = cnt u.points (fun q => !decide (u.places q < 0))
          rw [cnt_f (by
            show (!decide (va_up u.places u.points (-1) u.points < 0)) = false
            rw [va_up_self]
            rfl)]
          exact cnt_ext (fun q hq => by
            show (!decide (va_up u.places u.points (-1) q < 0)) = !decide (u.places q < 0)
            rw [va_up_ne _ _ (by omega)])
        · show (q < u.points ∧ va_up u.pointSeries u.points (u.recordSeries r) q = u.pointSeries q) ∨ va_up u.pointSeries u.points (u.recordSeries r) q = u.recordSeries r
          have hq : q < u.points + 1 := hq
          by_cases c : q = u.points
          · rw [c, va_up_self]
            exact Or.inr rfl
          · rw [va_up_ne _ _ c]
            exact Or.inl ⟨by omega, rfl⟩
    · have e : u.rp1 fN r = (u.rp0 r).goS (u.recordSeries r) (u.firsts r) (u.seconds r) := (if_neg c0).trans (if_neg c1)
      rw [e, if_neg c0, if_neg c1]
      refine ⟨⟨rfl, rfl, rfl, rfl, rfl, rfl⟩, ?_, Nat.le_add_right _ _, fun q hq => Or.inl ⟨hq, rfl⟩, rfl⟩
      obtain ⟨v, ev⟩ : ∃ v, v = u.rp0 r := ⟨_, rfl⟩
      have e1 : v.points = u.points := by rw [ev]; rfl
      have e2 : v.places = u.places := by rw [ev]; rfl
      have e3 : (v.goS (u.recordSeries r) (u.firsts r) (u.seconds r)).places = mapT v.points (v.hit (u.recordSeries r) (u.firsts r) (u.seconds r)) v.gP v.places := rfl
      have e4 : (v.goS (u.recordSeries r) (u.firsts r) (u.seconds r)).points = v.points := rfl
      rw [← ev, e4, e1]
      refine cnt_ext (fun q hq => ?_)
      show (!decide ((v.goS (u.recordSeries r) (u.firsts r) (u.seconds r)).places q < 0)) = !decide (u.places q < 0)
      rw [e3, mapT_v (by omega), ← e2]
      by_cases c : v.hit (u.recordSeries r) (u.firsts r) (u.seconds r) q = true
      · rw [if_pos c]
        unfold MS.gP
        by_cases d : v.places q < 0
        · rw [if_pos d, decide_eq_true d]
          rfl
        · rw [if_neg d]
      · rw [if_neg c]
theorem rp_F (m : MS) (fN : Nat → Nat) (hp : ∀ q, q < m.points → m.pointSeries q < 256) (K : Nat) (hr : ∀ i, i < K → m.recordSeries i < 256) (hf : ∀ i, i < K → m.kinds i = 0 → fN i = m.textLengths (m.recordSeries i)) : ∀ r, r ≤ K → ((m.rpS fN r).kinds = m.kinds ∧ (m.rpS fN r).recordSeries = m.recordSeries ∧ (m.rpS fN r).firsts = m.firsts ∧ (m.rpS fN r).parcelNumber = m.parcelNumber ∧ (m.rpS fN r).texts = m.texts ∧ (m.rpS fN r).cod = m.cod) ∧ cnt (m.rpS fN r).points (m.rpS fN r).pkd = cnt m.points m.pkd ∧ (m.rpS fN r).points ≤ m.points + cnt r (fun i => decide (m.kinds i = 1)) ∧ (∀ q, q < (m.rpS fN r).points → (m.rpS fN r).pointSeries q < 256) ∧ (m.rpS fN r).textLengths = m.textLengths
  | 0, _ => ⟨⟨rfl, rfl, rfl, rfl, rfl, rfl⟩, rfl, Nat.le_add_right _ _, hp, rfl⟩
  | r + 1, h => by
    obtain ⟨⟨i1, i2, i3, i4, i5, i6⟩, i7, i8, i9, i10⟩ := rp_F m fN hp K hr hf r (by omega)
    obtain ⟨⟨j1, j2, j3, j4, j5, j6⟩, j7, j8, j9, j10⟩ := rp1_F (m.rpS fN r) fN r
    rw [rpS_s]
    refine ⟨⟨j1.trans i1, j2.trans i2, j3.trans i3, j4.trans i4, j5.trans i5, j6.trans i6⟩, j7.trans i7, ?_, fun q hq => ?_, ?_⟩
    · rw [i1] at j8
      by_cases c : m.kinds r = 1
      · rw [cnt_t (f := fun i => decide (m.kinds i = 1)) (decide_eq_true c)]
        rw [if_pos c] at j8
        omega
      · rw [cnt_f (f := fun i => decide (m.kinds i = 1)) (decide_eq_false c)]
        rw [if_neg c] at j8
        omega
    · rcases j9 q hq with ⟨c1, c2⟩ | c
      · rw [c2]
        exact i9 q c1
      · rw [c, i2]
        exact hr r (by omega)
    · rw [j10, i1, i2, i10]
      by_cases c : m.kinds r = 0
      · rw [if_pos c, hf r (by omega) c]
        funext q
        by_cases d : q = m.recordSeries r
        · rw [d, va_up_self]
        · rw [va_up_ne _ _ d]
      · rw [if_neg c]
theorem rp_cod (m : MS) (fN : Nat → Nat) : ∀ r, (m.rpS fN r).cod = m.cod
  | 0 => rfl
  | r + 1 => by
    rw [rpS_s]
    exact (rp1_F (m.rpS fN r) fN r).1.2.2.2.2.2.trans (rp_cod m fN r)
section RK
variable {dA : Nat → ClassId} {ad : Nat → Nat} {e0 n : Nat} {x y z : VS} {m M : MS} {cs ss : Nat} {PS : Nat → PT} {SS : Nat → List LB} {dn bn : Nat → Nat} {gq : LI} {rq : va_W} {la : Nat → Nat} {gk : LI} {AT : Nat → Nat → Nat} {T : Nat → TB} {a9 b9 u9n : Nat}
theorem rp_keep (fN : Nat → Nat) (h : rlT m x ∧ rlA dA ad e0 m x gq rq la gk AT T) : ∀ r, rlT (m.rpS fN r) x ∧ rlA dA ad e0 (m.rpS fN r) x gq rq la gk AT T
  | 0 => h
  | r + 1 => by
    have ih := rp_keep fN h r
    rw [rpS_s]
    obtain ⟨u, eu⟩ : ∃ u, u = m.rpS fN r := ⟨_, rfl⟩
    rw [← eu] at ih ⊢
    unfold MS.rp1
    split
    · exact ih
    · split
      · split
        · exact ih
        · exact ih
      · exact ih
theorem rl_st {HB : Nat} (a1 : coR M x PS dn bn) (a2 : rlT M x) (a3 : rlS dA SS M x) (a4 : rlN dA PS M x n) (a5 : rlA dA ad e0 M x gq rq la gk AT T) (ar : rlR x gk T n cs ss) (hn : n + 1 ≤ 512) (hfg : fgG x.jB x.jU x.jkept = (a9, b9, u9n)) (hz : dgR PS (x.stS a9 b9 u9n) x.jkept z) (hHB : HB ≤ 4096 ∧ x.hN ≤ HB) (hzs : z.nser ≤ x.nser ∧ z.nsc ≤ 64 ∧ (z.hsize ≤ z.hN ∧ 0 < z.hN) ∧ z.hN = HB ∧ psOk dA z.nP z.npc z.pl PS ∧ z.npc = x.npc) : Rl dA ad e0 (n + 1) z (M.st2.rpS (fun r => M.textLengths (M.recordSeries r)) M.kept) (cs + 3 * (HB - x.hN) + 0 + 0) (ss + 6 * (HB - x.hN) + 0 + 0) := by
  obtain ⟨a6, a7, a8⟩ := ar
  obtain ⟨⟨n1, n2, n3, n4⟩, ⟨n5, n6, n7⟩, ⟨n8, n9, n10, n11, n12, n13, n14, n15⟩, ⟨n16, n17, n18, n19⟩, ⟨n20, n21, n22, n23⟩, ⟨⟨⟨f1, f2⟩, f3⟩, f4⟩, n24⟩ := a4
  obtain ⟨z1, z2, ⟨z3, z4⟩, z5, z6, z7⟩ := hzs
  obtain ⟨⟨d', co'⟩, hde⟩ := st_co (fN := fun r => M.textLengths (M.recordSeries r)) a1 n12 (by
    have := a1.2.2.2.2.2.1
    omega) hfg hz
  obtain ⟨cp, cb, ⟨se1, se2⟩, ⟨g1, g2, g3, g4, g5, g6, g7, g8, g9, g10, g11⟩, cj, ck, cc⟩ := id a1
  obtain ⟨⟨t1, t2, t3, t4⟩, ⟨t5, t6, t7⟩, ⟨t8, t9⟩, t10, t11, t12⟩ := id a2
  obtain ⟨⟨nh, np, -⟩, -, -⟩ := st_pre (PS := PS) (a9 := a9) (b9 := b9) (u9n := u9n) cp cb
  have mk : min x.jsize x.jkept = x.jkept := Nat.min_eq_right ck
  -- the reference's points
  obtain ⟨d1, d2, d3, d4, d5, d6⟩ := td_F M.st1 n23
  have q1 : M.st2.points = M.st1.tidS.shoS.points := rfl
  have q2 : M.st2.pkd = M.st1.tidS.shoS.pkd := rfl
  have q3 : M.st2.pointSeries = M.st1.tidS.shoS.pointSeries := rfl
  have q4 : M.st2.places = M.st1.tidS.shoS.places := rfl
  have c1 : cnt M.st1.points M.st1.pkd = cnt M.points M.pkd := cnt_ext (fun q hq => by
    show (!decide (mapT M.points M.isM1 m2F M.places q < 0)) = !decide (M.places q < 0)
    have e1 : (-1 : Int32) < 0 := by decide
    have e2 : (-2 : Int32) < 0 := by decide
    have hq : q < M.points := hq
    rw [mapT_v hq]
    by_cases c : M.isM1 q = true
    · have c' : M.places q = -1 := of_decide_eq_true c
      rw [if_pos c, c']
      show (!decide ((-2 : Int32) < 0)) = !decide ((-1 : Int32) < 0)
      rw [decide_eq_true e1, decide_eq_true e2]
    · rw [if_neg c])
  have p1 : ptR M.st2 (x.stS a9 b9 u9n) PS bn := st2_pt cp cb ⟨rfl, rfl, rfl, fun j hj => ⟨cpy_00 _ _ hj, cpy_00 _ _ hj, cpy_00 _ _ hj⟩, rfl⟩
  have p2 : cnt M.st2.points M.st2.pkd = M.st2.points := pk_all p1 rfl (fun q hq => by rw [q4]; exact d2 q hq)
  have p3 : cnt M.st2.points M.st2.pkd = cnt M.points M.pkd := by
    rw [q1, q2, d6]
    exact c1
  obtain ⟨⟨r1, r2, r3, r4, r5, r6⟩, r7, r8, r9, r10⟩ := rp_F M.st2 (fun r => M.textLengths (M.recordSeries r)) (fun q hq => by rw [q3]; exact d3 q hq) M.kept (fun i hi => by
    show M.recordSeries i < 256
    rw [(g11 i (by omega)).2.1]
    exact (n24 i (by omega)).2.2) (fun i hi _ => rfl) M.kept (Nat.le_refl _)
  -- what is kept
  have k0 : rlT M.st2 (x.stS a9 b9 u9n) ∧ rlA dA ad e0 M.st2 (x.stS a9 b9 u9n) gq rq la gk AT T := ⟨⟨⟨t1, t2, t3, t4⟩, ⟨t5, t6, t7⟩, ⟨t8, t9⟩, t10, t11, rfl⟩, ⟨a5.1, a5.2.1, a5.2.2.1, a5.2.2.2.1, a5.2.2.2.2.1, by rw [nh]; exact a5.2.2.2.2.2⟩⟩
  obtain ⟨k1, k2⟩ := rp_keep (fun r => M.textLengths (M.recordSeries r)) k0 M.kept
  have hdec : ∀ i, i < x.jkept → decide (M.st2.kinds i = 1) = decide (x.jK i = 1) := fun i hi => by
    have e1 : M.kinds i = nI (x.jK i) := (g11 i (by omega)).1
    have e2 : x.jK i ≤ 2 := (cj.2.1 i (by omega)).1
    show decide (M.kinds i = 1) = decide (x.jK i = 1)
    rw [e1]
    refine decide_eq_decide.mpr ⟨fun q => nI_inj (b := 1) (by omega) (by decide) q, fun q => by rw [q]; rfl⟩
  have hck : cnt M.kept (fun i => decide (M.st2.kinds i = 1)) = cnt x.jkept (fun i => decide (x.jK i = 1)) := by
    rw [g2]
    exact cnt_ext hdec
  have hcm : cnt x.jkept (fun i => decide (x.jK i = 1)) ≤ cnt x.jsize (fun i => decide (x.jK i = 1)) := cnt_mono ck
  obtain ⟨M', eM⟩ : ∃ M', M' = M.st2.rpS (fun r => M.textLengths (M.recordSeries r)) M.kept := ⟨_, rfl⟩
  rw [← eM] at co' hde r1 r2 r3 r4 r5 r6 r7 r8 r9 r10 k1 k2 ⊢
  have hse := co'.2.2.1.1
  have hle := hs_le co'.2.2.2.2.1
  -- the class
  have dk := dg_k hz
  have e1 : z.jsize = min x.jsize x.jkept := (congrArg VS.jsize dk).trans rfl
  rw [mk] at e1
  have e2 : z.jN = x.jN := (congrArg VS.jN dk).trans rfl
  have e3 : z.jK = x.jK := (congrArg VS.jK dk).trans rfl
  have e4 : z.jU = x.jU := (congrArg VS.jU dk).trans rfl
  have e5 : z.jB = x.jB := (congrArg VS.jB dk).trans rfl
  have e6 : z.jO = x.jO := (congrArg VS.jO dk).trans rfl
  have e7 : z.jblock = a9 := (congrArg VS.jblock dk).trans rfl
  have e8 : z.jfill = b9 := (congrArg VS.jfill dk).trans rfl
  have e9 : z.jlimit = x.jlimit := (congrArg VS.jlimit dk).trans rfl
  have e10 : z.ncat = x.scat := (congrArg VS.ncat dk).trans rfl
  have e11 : z.diskBlocks = x.diskBlocks := (congrArg VS.diskBlocks dk).trans rfl
  have e12 : z.tapeLength = x.tapeLength := (congrArg VS.tapeLength dk).trans rfl
  have e13 : z.tpN = x.tpN := (congrArg VS.tpN dk).trans rfl
  have e14 : z.gN = x.gN := (congrArg VS.gN dk).trans rfl
  have e15 : z.bN = x.bN := (congrArg VS.bN dk).trans rfl
  have e16 : z.writes = x.writes := (congrArg VS.writes dk).trans rfl
  have e17 : z.kn = x.kn := (congrArg VS.kn dk).trans rfl
  have e18 : z.pl = x.pl := (congrArg VS.pl dk).trans rfl
  have ecat : x.scat = x.ncat := cb.2.2.2.2.2.2
  have fa : (fgG x.jB x.jU x.jkept).1 = a9 := by rw [hfg]
  have fb : (fgG x.jB x.jU x.jkept).2.1 = b9 := by rw [hfg]
  have hab : a9 < x.jlimit ∧ b9 ≤ 126 := by
    cases hk : x.jkept with
    | zero =>
      rw [hk] at fa fb
      have fa : 0 = a9 := fa
      have fb : 0 = b9 := fb
      omega
    | succ j =>
      rw [hk] at fa fb
      obtain ⟨v1, v2⟩ := f3 j (by omega)
      have fa : x.jB j = a9 := fa
      omega
  have hckz : cnt z.jsize (fun r => decide (z.jK r = 1)) = cnt x.jkept (fun i => decide (x.jK i = 1)) := by rw [e1, e3]
  have kz1 : rlT M' z := by
    have w : rlT M' ((x.stS a9 b9 u9n).dkS z) := k1
    rw [dk]
    exact w
  have kz2 : rlA dA ad e0 M' z gq rq la gk AT T := by
    have w : rlA dA ad e0 M' ((x.stS a9 b9 u9n).dkS z) gq rq la gk AT T := k2
    rw [dk]
    exact w
  have kz3 : rlS dA SS M' z := by
    obtain ⟨s1, s2, s3, s4, s5⟩ := a3
    refine ⟨?_, fun q hq => s2 q (by omega), ?_, ?_, fun q hq => ?_⟩
    · rw [r5, r10]
      exact fun s hs => s1 s (by omega)
    · rw [e17, e18]
      exact fun k hk => s3 k (by omega)
    · rw [r5]
      exact s4
    · obtain ⟨w1, w2⟩ := s5 q (by omega)
      refine ⟨?_, w2⟩
      unfold MS.tOK
      rw [r5, r10]
      exact w1
  refine ⟨PS, SS, d', bn, gq, rq, la, gk, AT, T, co', kz1, kz3, ⟨⟨by omega, by omega, z2, z6⟩, ⟨?_, by omega, by omega⟩, ⟨by omega, by omega, by omega, z3, z4, by omega, by omega, by omega⟩, ⟨by omega, by omega, ?_, ?_⟩, ⟨by omega, by omega, ?_, r9⟩, ⟨⟨⟨?_, ?_⟩, fun r hr => ?_⟩, fun r hr hr2 => ?_⟩, fun q hq => ?_⟩, kz2, hn, ?_, ?_⟩
  · rw [e9, e10, ecat, z7, e11]
    exact n5
  · rw [r7, p3, hckz, e12]
    omega
  · rw [r7, hckz]
    omega
  · rw [r4]
    show M.parcelNumber ≤ n + 1
    omega
  · rw [e5, e4, e1, e7]
    exact fa
  · rw [e5, e4, e1, e8]
    exact fb
  · rw [e5, e4, e9]
    exact f3 r (by omega)
  · rw [r3, r10, r2]
    rw [e3] at hr2
    exact f4 r (by omega) hr2
  · rw [e4, e5, e6]
    exact n24 q (by omega)
  · rw [e12, e2, z5, e14, e13]
    omega
  · rw [e12, e2, z5, e14, e13, e15]
    omega
/-- more room for heads -/
theorem rl_hN {HB cs' ss' : Nat} (h : Rl dA ad e0 n x M cs ss) (h1 : x.hN ≤ HB) (h2 : HB ≤ 4096) (hc : cs' ≤ cs + 3 * (HB - x.hN)) (hs : ss' ≤ ss + 6 * (HB - x.hN)) : Rl dA ad e0 n (VS.s_hN x HB) M cs' ss' := by
  obtain ⟨PS, SS, dn, bn, gq, rq, la, gk, AT, T, a1, a2, a3, ⟨n1, n2, ⟨n8, n9, n10, n11, n12, n13, n14, n15⟩, n16⟩, a5, a6, a7, a8⟩ := h
  exact ⟨PS, SS, dn, bn, gq, rq, la, gk, AT, T, a1, a2, a3, ⟨n1, n2, ⟨n8, n9, n10, by show x.hsize ≤ HB; omega, by show 0 < HB; omega, h2, n14, n15⟩, n16⟩, a5, a6, by show cs' + 17 * x.tapeLength ≤ 2000 + 400 * n + 6 * x.jN + 3 * HB + 3 * x.gN + x.tpN; omega, by show ss' + 70 * x.tapeLength ≤ 1177800 + 6000 * n + 12 * x.jN + 6 * HB + 6 * x.gN + 2 * x.tpN + (700 * gk.sz + 2 * sumN gk.sz (fun tb => (T tb).cN) + 4 * x.bN); omega⟩
end RK
end
section
/-! A start: the call. -/
section CK24
variable {p : Program} {e : Env} {s : State} {m : MethodId} {below : List Frame} {meth : Method} {c : Code} {b L : Nat} {xs : Nat → Int32} {D : va_G} {dA : Nat → ClassId} {e0 : Nat} {A : Nat → Prop} {h : Nat} {ad : Nat → Nat} {mm : Nat} {mad : Nat → Nat} {o : Nat} {n : Nat} {x : VS} {M : MS} {cs ss : Nat}
theorem call_24 (l : Launch) (hC : lS p l s m meth c b L xs D dA e0 A) (hL : L ≤ 3072) (hi : 6 * n + 6 ≤ L) (hR : Rl dA ad e0 n x M cs ss) (cont : ∀ x' M' cs' ss', Rl dA ad e0 (n + 1) x' M' cs' ss' → At9 p l e s m below meth c b D dA A h ad mm mad o 23 (6 * n + 6) x' M' cs' ss') : At9 p l e s m below meth c b D dA A h ad mm mad o (tg9 24) (6 * n) x M cs ss := by
  intro og H locs ls hP hD hS hl
  obtain ⟨rm1, rm2⟩ := rl_room (rl_skip hR (by omega))
  obtain ⟨PS, SS, dn, bn, gq, rq, la, gk, AT, T, co, ⟨⟨t1, t2, t3, t4⟩, ⟨t5, t6, t7⟩, ⟨t8, t9⟩, t10, t11, t12⟩, ⟨sr1, sr2, sr3, sr4, sr5⟩, nr, ⟨⟨r1, r2, r3, r4⟩, r5, ⟨r6, r7⟩, ⟨r8, r9⟩, r10⟩, rr⟩ := id hR
  obtain ⟨cp, cb, ⟨se1, se2⟩, ⟨g1, g2, g3, g4, g5, g6, g7, g8, g9, g10, g11⟩, cj, ck, cc⟩ := id co
  obtain ⟨⟨n1, n2, n3, n4⟩, ⟨n5, n6, n7⟩, ⟨n8, n9, n10, n11, n12, n13, n14, n15⟩, ⟨n16, n17, n18, n19⟩, ⟨n20, n21, n22, n23⟩, n24⟩ := id nr
  cases hp : x.powered with
  | true =>
    have hr2 := rl_up (cs' := cs + 1 + 0 + 0) (ss' := ss + 6 + 0 + 0) hR (by omega) 1 (by omega) (by omega)
    obtain ⟨rn1, rn2⟩ := rl_room hr2
    have W1 := fun sz => k8_start_1 l D dA sz h ad o og x (fun u => u = x) _ _ _ _ (nf_x0 (fun sz => v_start_x l (lS_tr hC) D dA sz h ad x hp) rfl (fun _ _ _ q => q))
    have M1 := fun sz => k_start_1 l D dA sz mm mad M (t12.trans hp)
    exact l9_24_x l hC (k9 := 1) hi hL ⟨by omega, by omega, by omega, by omega⟩ ⟨by omega, by omega⟩ rfl k_n1 W1 M1 hP hD hS hl (fun u H1 locs1 ls1 hf hP hD hS hl => cont u _ _ _ (by rw [show u = x from hf]; exact hr2) og H1 locs1 ls1 hP hD hS hl)
  | false =>
    have rlt : rlT M x := ⟨⟨t1, t2, t3, t4⟩, ⟨t5, t6, t7⟩, ⟨t8, t9⟩, t10, t11, t12⟩
    have rls : rlS dA SS M x := ⟨sr1, sr2, sr3, sr4, sr5⟩
    have rla : rlA dA ad e0 M x gq rq la gk AT T := ⟨⟨r1, r2, r3, r4⟩, r5, ⟨r6, r7⟩, ⟨r8, r9⟩, r10⟩
    have mk : min x.jsize x.jkept = x.jkept := Nat.min_eq_right ck
    obtain ⟨a9, b9, u9n, hfg⟩ : ∃ a9 b9 u9n, fgG x.jB x.jU x.jkept = (a9, b9, u9n) := ⟨_, _, _, rfl⟩
    obtain ⟨HB, hB1, hB2, hgo⟩ := st_dg (a9 := a9) (b9 := b9) (u9n := u9n) co n4 n2 n3 n1 ⟨n12, n13⟩ (fun q hq => (n24.2 q hq).2.2) (by omega)
    obtain ⟨-, ⟨-, -, i3, i4⟩, ⟨-, j2, -, j4, -⟩⟩ := id cb
    have ssc0 : x.ssc ≤ 64 := (hgo 0 (x.stS a9 b9 u9n) (Nat.zero_le _) rfl).2.2.2.1
    have hps : psOk dA x.sP x.spc x.pl PS := fun k hk => by
      rw [i4 k (by omega)]
      exact n4 k (by omega)
    have hr2 : ∀ u : VS, dgR PS (x.stS a9 b9 u9n) x.jkept u → Rl dA ad e0 (n + 1) u (M.st2.rpS (fun r => M.textLengths (M.recordSeries r)) M.kept) (cs + 3 * (HB - x.hN) + 0 + 0) (ss + 6 * (HB - x.hN) + 0 + 0) := fun u hz => by
      obtain ⟨-, -, u1, u2, u3, u4, u5, u6⟩ := hgo x.jkept u (Nat.le_refl _) hz
      exact rl_st co rlt rls nr rla rr (by omega) hfg hz ⟨hB1, hB2⟩ ⟨u1, u2, u3, u4 rfl, u5, u6⟩
    have W1 := fun sz => k8_start l D dA sz h ad o og x (nI x.jkept) (fun u => dgR PS (x.stS a9 b9 u9n) x.jkept u) _ _ _ _ (nf_i (w := fun u => u) (fun sz => v_start l D dA sz h ad x PS a9 b9 u9n HB hp hps (by omega) ssc0 (by omega) n8 (by omega) (by omega) (fun q hq => ⟨(n24.2 q hq).1, (n24.2 q hq).2.1⟩) (by rw [mk]; exact hfg) (fun i z hi hz => by
      rw [mk] at hi ⊢
      obtain ⟨⟨w1, w2, w3, w4⟩, w5, -⟩ := hgo i z hi hz
      exact ⟨w1, w2, w3, w4, w5⟩)) (fun r u q => by rw [mk] at q; exact q) (fun _ _ _ q => q))
    have M1 := nm_i (M1 := M.st2.rpS (fun r => M.textLengths (M.recordSeries r)) M.kept) (b := nI M.kept) (Pc2 := fun sz => pC D dA [.ref mm] (MW dA mm mad M) sz) (fun sz => k_start_0 l D dA sz mm mad M (fun r => M.textLengths (M.recordSeries r)) (t12.trans hp) (by omega) (by omega) (by omega) (by omega) n23 (fun r hr => by
      obtain ⟨y1, y2, y3, y4, y5⟩ := g11 r (by omega)
      obtain ⟨v1, v2, v3⟩ := n24.2 r (by omega)
      have e2 : x.jK r ≤ 2 := (cj.2.1 r (by omega)).1
      refine ⟨by rw [y2]; exact v3, by rw [y3]; exact v1, by rw [y4]; omega, fun q => ?_⟩
      rw [y1] at q
      exact n24.1.2 r (by omega) (nI_inj (b := 0) (by omega) (by decide) q))) (fun r u q => ⟨q.1, q.2⟩) (fun _ _ _ q => q)
    obtain ⟨rn1, rn2⟩ := rl_room (rl_hN (cs' := cs + 3 * (HB - x.hN) + 0 + 0) (ss' := ss + 6 * (HB - x.hN) + 0 + 0) hR hB2 hB1 (by omega) (by omega))
    exact l9_24 l hC hi hL ⟨by omega, by omega, by omega, by omega⟩ ⟨by omega, by omega⟩ ((rp_cod M.st2 (fun r => M.textLengths (M.recordSeries r)) M.kept).trans rfl) (by rw [g2]) W1 M1 hP hD hS hl (fun u H1 locs1 ls1 hf2 hP hD hS hl => cont u _ _ _ (hr2 u hf2) _ H1 locs1 ls1 hP hD hS hl)
end CK24
end
section
/-! Many points come: the sizes. -/
theorem ok_eq {m : MS} {z : VS} {PS : Nat → PT} {dn bn : Nat → Nat} {w : Nat} {a : Int64} (h : coR m z PS dn bn) (hw : w < z.nser) : m.okS w a ↔ (z.may w a = true ∧ z.room 1 = true) := by
  have elw : m.lasts w = z.nlast w := h.2.2.1.2 w hw
  have ehz : m.horizon = z.nhor := h.1.1.2.2.1
  have erm : m.room 1 = z.room 1 := room_eq h.2.2.2.1 1
  unfold MS.okS MS.okT
  rw [elw, ehz, erm]
  constructor
  · intro q
    obtain ⟨⟨c1, c2, c3, c4⟩, c5⟩ := q
    refine ⟨?_, c5⟩
    cases hm : z.may w a with
    | true => rfl
    | false =>
      rcases may_f hm with d | d | d | d
      · exact absurd d c1
      · exact absurd d c2
      · exact absurd d c3
      · exact absurd d (Int64.not_lt.mpr c4)
  · intro q
    obtain ⟨c1, c5⟩ := q
    obtain ⟨y1, y2, y3, y4⟩ := may_t c1
    exact ⟨⟨y1, y2, y3, Int64.not_lt.mp y4⟩, c5⟩
theorem can_eq {m : MS} {z : VS} {PS : Nat → PT} {dn bn : Nat → Nat} (h : coR m z PS dn bn) : m.canR 1 ↔ (z.jfill + 1 ≤ 126 ∨ z.jch = false ∨ ¬ z.cutLeft = 0) := by
  obtain ⟨-, -, -, ⟨g1, g2, g3, g4, g5, g6, -⟩, -⟩ := h
  unfold MS.canR
  rw [g4, g5, g6]
theorem blk_cod (m : MS) (w : Nat) : ∀ i, (m.blkS w i).cod = m.cod
  | 0 => rfl
  | i + 1 => by
    have ih := blk_cod m w i
    show (((m.blkS w i).recS 1 w (numB m.tape (16 * i) 8) (numB m.tape (16 * i + 8) 8) 1).comS w (numB m.tape (16 * i) 8) (numB m.tape (16 * i + 8) 8)).cod = m.cod
    exact ih
theorem wr_w (x : VS) (ja : Nat → Nat) (kd w : Nat) (a b : Int64) (h0 : x.jsize ≤ x.jN) (h1 : 0 < x.jN) : 126 * (x.wrF ja kd w 1 a b).writes + (x.wrF ja kd w 1 a b).jfill ≤ 126 * x.writes + x.jfill + 1 := by
  obtain ⟨k1, k2, k3, k4, k5, k6⟩ := wrB_k x 1
  obtain ⟨u1, u2, u3⟩ := wrB_u x 1
  obtain ⟨b1, b2, b3, b4, b5, b6, b7⟩ := wrB_b x 1
  obtain ⟨p1, -, p3, p4, p5, p6, p7, p8, p9, p10⟩ := jad_at (x.wrB 1) ja kd w 1 a b (by rw [k5, k6]; exact h0) (by rw [k6]; exact h1)
  have p6 : (x.wrF ja kd w 1 a b).jfill = (x.wrB 1).jfill + 1 := p6
  have p9 : (x.wrF ja kd w 1 a b).writes = (x.wrB 1).writes := p9
  rw [p6, p9]
  by_cases c : x.jfill + 1 ≤ 126
  · have e : x.wrB 1 = x := if_pos c
    rw [e]
    omega
  · rcases b7 with ⟨z1, z2, z3⟩ | ⟨z1, z2⟩
    · exact absurd z2 c
    · rw [z1]
      omega
section AF
variable {dA : Nat → ClassId} {ad : Nat → Nat} {e0 n : Nat} {x z : VS} {m M : MS} {cs ss cs' ss' : Nat} {PS : Nat → PT} {SS : Nat → List LB} {dn bn : Nat → Nat} {gq : LI} {rq : va_W} {la : Nat → Nat} {gk : LI} {AT : Nat → Nat → Nat} {T : Nat → TB} {ja pa : Nat → Nat} {w k : Nat} {a b : Int64}
theorem ap_ea (hm : x.may w a = true) : x.apF ja pa w a b = (VS.s_nlast (x.wrF ja 1 w 1 a b) (va_up (x.wrF ja 1 w 1 a b).nlast w a)).haF pa w a b := by
  have hnh : (x.wrF ja 1 w 1 a b).nhor = x.nhor := (wrF_h x ja 1 w 1 a b).2.2.1
  unfold VS.apF VS.cmF
  rw [if_neg (show ¬ a < (x.wrF ja 1 w 1 a b).nhor by rw [hnh]; exact may_h hm)]
theorem ap_keep (hm : x.may w a = true) (h : rlT m x ∧ rlS dA SS m x ∧ rlA dA ad e0 m x gq rq la gk AT T) : rlT m (x.apF ja pa w a b) ∧ rlS dA SS m (x.apF ja pa w a b) ∧ rlA dA ad e0 m (x.apF ja pa w a b) gq rq la gk AT T := by
  rw [ap_ea hm]
  exact ha_keep (wr_keep h)
theorem ap_F (hm : x.may w a = true) (h0 : x.jsize ≤ x.jN) (h1 : 0 < x.jN) (hb : x.jblock < x.jlimit) (hro : x.room 1 = true) (ez : z = x.apF ja pa w a b) : (z.nser = x.nser ∧ z.npc = x.npc ∧ z.nsc = x.nsc ∧ z.nP = x.nP ∧ z.pl = x.pl ∧ z.ncat = x.ncat ∧ z.diskBlocks = x.diskBlocks ∧ z.gN = x.gN ∧ z.tapeLength = x.tapeLength ∧ z.tpN = x.tpN ∧ z.bN = x.bN ∧ z.jlimit = x.jlimit) ∧ (z.jblock < x.jlimit ∧ z.jsize = x.jsize + 1 ∧ 126 * z.writes + z.jfill ≤ 126 * x.writes + x.jfill + 1) ∧ (fgX x → fgX z) ∧ (∀ q, q < x.jsize → z.jK q = x.jK q ∧ z.jU q = x.jU q ∧ z.jB q = x.jB q ∧ z.jO q = x.jO q) ∧ z.jK x.jsize = 1 ∧ z.jU x.jsize = 1 ∧ z.jB x.jsize < x.jlimit ∧ z.jO x.jsize = w := by
  have wf := wr_F x ja 1 w 1 a b h0 h1 hb hro (by decide)
  have ws := wr_same x ja 1 w 1 a b
  have ww := wr_w x ja 1 w a b h0 h1
  have wg := wr_fg x ja 1 w 1 a b h0 h1 hb hro (by decide)
  rw [ap_ea hm] at ez
  obtain ⟨y, ey⟩ : ∃ y, y = x.wrF ja 1 w 1 a b := ⟨_, rfl⟩
  rw [← ey] at wf ws ww wg ez
  obtain ⟨⟨s1, s2, s3, s4, s5, s6, s7, s8, s9, s10, s11, s12⟩, s13, s14⟩ := ws
  obtain ⟨⟨f1, f2, f3, f4, f5⟩, f6, f7, f8, f9, f10⟩ := wf
  obtain ⟨⟨h1, h2, h3, h4, h5, h6, h7, h8, h9, h10, h11, h12⟩, h13, h14, h15, h16, h17, h18, h19, h20, h21⟩ := ha_same (VS.s_nlast y (va_up y.nlast w a)) pa w a b
  rw [← ez] at h1 h2 h3 h4 h5 h6 h7 h8 h9 h10 h11 h12 h13 h14 h15 h16 h17 h18 h19 h20 h21
  have h1 : z.nser = y.nser := h1
  have h2 : z.npc = y.npc := h2
  have h3 : z.nsc = y.nsc := h3
  have h4 : z.nP = y.nP := h4
  have h5 : z.pl = y.pl := h5
  have h6 : z.ncat = y.ncat := h6
  have h7 : z.diskBlocks = y.diskBlocks := h7
  have h8 : z.gN = y.gN := h8
  have h9 : z.tapeLength = y.tapeLength := h9
  have h10 : z.tpN = y.tpN := h10
  have h11 : z.bN = y.bN := h11
  have h12 : z.jlimit = y.jlimit := h12
  have h13 : z.jsize = y.jsize := h13
  have h15 : z.jfill = y.jfill := h15
  have h16 : z.jblock = y.jblock := h16
  have h17 : z.writes = y.writes := h17
  have h18 : z.jK = y.jK := h18
  have h19 : z.jU = y.jU := h19
  have h20 : z.jB = y.jB := h20
  have h21 : z.jO = y.jO := h21
  refine ⟨⟨h1.trans s1, h2.trans s2, h3.trans s3, h4.trans s4, h5.trans s5, h6.trans s6, h7.trans s7, h8.trans s8, h9.trans s9, h10.trans s10, h11.trans s11, h12.trans s12⟩, ⟨by omega, by omega, by omega⟩, fun q => fgX_c (wg q) ⟨h20, h19, h13, h16, h15, h12⟩, fun q hq => ?_, ?_, ?_, ?_, ?_⟩
  · rw [h18, h19, h20, h21]
    exact f6 q hq
  · rw [h18]
    exact f7
  · rw [h19]
    exact f8
  · rw [h20]
    exact f9
  · rw [h21]
    exact f10
/-- i points have come -/
theorem bk_F (a1 : coR M x PS dn bn) (a2 : rlT M x) (a3 : rlS dA SS M x) (a4 : rlN dA PS M x n) (a5 : rlA dA ad e0 M x gq rq la gk AT T) (hw : w < x.nser) (hro : ∀ (i : Nat) (z : VS), i < k → bkR x w i z → z.room 1 = true) : ∀ {i : Nat} {z : VS}, i ≤ k → bkR x w i z → (rlT (((M.s_cod 0).blkS w i).s_length 0) z ∧ rlS dA SS (((M.s_cod 0).blkS w i).s_length 0) z ∧ rlA dA ad e0 (((M.s_cod 0).blkS w i).s_length 0) z gq rq la gk AT T) ∧ (z.nser = x.nser ∧ z.npc = x.npc ∧ z.nsc = x.nsc ∧ z.nP = x.nP ∧ z.pl = x.pl ∧ z.ncat = x.ncat ∧ z.diskBlocks = x.diskBlocks ∧ z.gN = x.gN ∧ z.tapeLength = 0 ∧ z.tpN = x.tpN ∧ z.bN = x.bN ∧ z.jlimit = x.jlimit) ∧ (z.jblock < x.jlimit ∧ z.jsize = x.jsize + i ∧ 126 * z.writes + z.jfill ≤ 126 * x.writes + x.jfill + i) ∧ (fgX z ∧ ftM ((M.s_cod 0).blkS w i) z ∧ ∀ q, q < z.jsize → z.jU q ≤ 126 ∧ z.jB q < 65536 ∧ z.jO q < 256) ∧ (cnt ((M.s_cod 0).blkS w i).points ((M.s_cod 0).blkS w i).pkd = cnt M.points M.pkd ∧ ((M.s_cod 0).blkS w i).points = M.points + i ∧ cnt z.jsize (fun r => decide (z.jK r = 1)) = cnt x.jsize (fun r => decide (x.jK r = 1)) + i ∧ ((M.s_cod 0).blkS w i).deletes = M.deletes ∧ ((M.s_cod 0).blkS w i).parcelNumber = M.parcelNumber ∧ ∀ q, q < ((M.s_cod 0).blkS w i).points → ((M.s_cod 0).blkS w i).pointSeries q < 256)
  | 0, z, _, e => by
    obtain ⟨⟨n1, n2, n3, n4⟩, ⟨n5, n6, n7⟩, ⟨n8, n9, n10, n11, n12, n13, n14, n15⟩, ⟨n16, n17, n18, n19⟩, ⟨n20, n21, n22, n23⟩, n24⟩ := a4
    obtain ⟨⟨t1, t2, t3, t4⟩, ⟨t5, t6, t7⟩, t8⟩ := a2
    rw [show z = VS.s_tapeLength x 0 from e]
    exact ⟨⟨⟨⟨t1, rfl, t3, t4⟩, ⟨Nat.zero_le _, t6, t7⟩, t8⟩, a3, a5⟩, ⟨rfl, rfl, rfl, rfl, rfl, rfl, rfl, rfl, rfl, rfl, rfl, rfl⟩, ⟨n7, rfl, Nat.le_refl _⟩, ⟨n24.1.1, n24.1.2, n24.2⟩, rfl, rfl, rfl, rfl, rfl, n23⟩
  | i + 1, z, hi, e => by
    have cz := (bk_co a1 a2.1.1 hw a4.2.1.2.1 ⟨a4.2.2.1.1, a4.2.2.1.2.1⟩ ⟨a4.2.2.1.2.2.2.1, a4.2.2.1.2.2.2.2.1⟩ e).1
    obtain ⟨y, ja, pa, e1, e2, e3⟩ := e
    have cy := (bk_co a1 a2.1.1 hw a4.2.1.2.1 ⟨a4.2.2.1.1, a4.2.2.1.2.1⟩ ⟨a4.2.2.1.2.2.2.1, a4.2.2.1.2.2.2.2.1⟩ e1).1
    obtain ⟨-, -, q3, q4, -, q6, q7, q8, q9, q10, q11, q12, q13⟩ := bk_i a4.2.1.2.1 a4.2.2.1.1 a4.2.2.1.2.1 a4.2.2.1.2.2.2.1 a4.2.2.1.2.2.2.2.1 e1
    obtain ⟨ik, ⟨i1, i2, i3, i4, i5, i6, i7, i8, i9, i10, i11, i12⟩, ⟨i13, i14, i15⟩, ⟨i16, i17, i18⟩, i19, i20, i21, i22, i23, i24⟩ := bk_F a1 a2 a3 a4 a5 hw hro (i := i) (z := y) (by omega) e1
    have hry := hro i y (by omega) e1
    obtain ⟨⟨s1, s2, s3, s4, s5, s6, s7, s8, s9, s10, s11, s12⟩, ⟨s13, s14, s15⟩, s16, s17, s18, s19, s20, s21⟩ := ap_F e2 q8 q9 (by rw [i12]; exact i13) hry e3
    have kz := ap_keep (ja := ja) (pa := pa) (b := vlB x i) e2 ik
    rw [← e3] at kz
    have hrec : ((M.s_cod 0).blkS w i).records = y.jsize := cy.2.2.2.1.1
    obtain ⟨M', A, B, eM, eM2⟩ : ∃ M' A B, M' = (M.s_cod 0).blkS w (i + 1) ∧ M' = (((M.s_cod 0).blkS w i).recS 1 w A B 1).comS w A B := ⟨_, _, _, rfl, rfl⟩
    rw [← eM]
    obtain ⟨u, eu⟩ : ∃ u, u = (M.s_cod 0).blkS w i := ⟨_, rfl⟩
    rw [← eu] at ik kz i17 i19 i20 i22 i23 i24 hrec eM2
    have m1 : M'.points = u.points + 1 := by rw [eM2]; rfl
    have m2 : M'.places = va_up u.places u.points (-1) := by rw [eM2]; rfl
    have m3 : M'.deletes = u.deletes := by rw [eM2]; rfl
    have m4 : M'.parcelNumber = u.parcelNumber := by rw [eM2]; rfl
    have m5 : M'.pointSeries = va_up u.pointSeries u.points w := by rw [eM2]; rfl
    have hw256 : w < 256 := by
      have := a4.1.1
      omega
    have hlm : x.jlimit ≤ 256 := by
      have h1 := a2.2.2.2.2.1
      have h2 := a4.2.1.1
      omega
    refine ⟨?_, ⟨s1.trans i1, s2.trans i2, s3.trans i3, s4.trans i4, s5.trans i5, s6.trans i6, s7.trans i7, s8.trans i8, s9.trans i9, s10.trans i10, s11.trans i11, s12.trans i12⟩, ⟨by omega, by omega, by omega⟩, ⟨s16 i16, ?_, fun q hq => ?_⟩, ?_, ?_, ?_, m3.trans i22, m4.trans i23, fun q hq => ?_⟩
    · rw [eM2]
      exact kz
    · exact ft_rec (w := w) (a := A) i17 hrec (show ¬ 1 = 0 by decide) (by rw [eM2]; exact ⟨rfl, rfl, rfl⟩) s14 ⟨fun q hq => (s17 q hq).1, s18⟩
    · by_cases c : q = y.jsize
      · rw [c, s19, s21]
        exact ⟨by decide, by omega, hw256⟩
      · obtain ⟨v1, v2, v3, v4⟩ := s17 q (by omega)
        rw [v2, v3, v4]
        exact i18 q (by omega)
    · rw [m1, cnt_f (by
        show (!decide (M'.places u.points < 0)) = false
        rw [m2, va_up_self]
        rfl), ← i19]
      exact cnt_ext (fun q hq => by
        show (!decide (M'.places q < 0)) = !decide (u.places q < 0)
        rw [m2, va_up_ne _ _ (by omega)])
    · omega
    · have c2 := cnt_kd (fun q hq => (s17 q hq).1) s18
      rw [if_pos rfl] at c2
      rw [s14, c2, i21]
      rfl
    · rw [m5]
      by_cases c : q = u.points
      · rw [c, va_up_self]
        exact hw256
      · rw [va_up_ne _ _ c]
        exact i24 q (by omega)
theorem rl_bk (a1 : coR M x PS dn bn) (a2 : rlT M x) (a3 : rlS dA SS M x) (a4 : rlN dA PS M x n) (a5 : rlA dA ad e0 M x gq rq la gk AT T) (ar : rlR x gk T n cs ss) (hn : n + 1 ≤ 512) (hw : w < x.nser) (hk : 16 * k ≤ x.tapeLength) (hro : ∀ (i : Nat) (z : VS), i < k → bkR x w i z → z.room 1 = true) (hz : bkR x w k z) (hc : cs' ≤ cs + (6 * (capR x.jN x.jsize k - x.jN) + 3 * (capR x.hN x.hsize k - x.hN)) + 100) (hs : ss' ≤ ss + (12 * (capR x.jN x.jsize k - x.jN) + 6 * (capR x.hN x.hsize k - x.hN)) + 5000) : Rl dA ad e0 (n + 1) z (((M.s_cod 0).blkS w k).s_length 0) cs' ss' := by
  have cz := (bk_co a1 a2.1.1 hw a4.2.1.2.1 ⟨a4.2.2.1.1, a4.2.2.1.2.1⟩ ⟨a4.2.2.1.2.2.2.1, a4.2.2.1.2.2.2.2.1⟩ hz).1
  obtain ⟨-, -, q3, q4, -, q6, q7, q8, q9, q10, q11, q12, q13⟩ := bk_i a4.2.1.2.1 a4.2.2.1.1 a4.2.2.1.2.1 a4.2.2.1.2.2.2.1 a4.2.2.1.2.2.2.2.1 hz
  obtain ⟨⟨k1, k2, k3⟩, ⟨i1, i2, i3, i4, i5, i6, i7, i8, i9, i10, i11, i12⟩, ⟨i13, i14, i15⟩, ⟨i16, i17, i18⟩, i19, i20, i21, i22, i23, i24⟩ := bk_F a1 a2 a3 a4 a5 hw hro (Nat.le_refl k) hz
  obtain ⟨a6, a7, a8⟩ := ar
  obtain ⟨⟨n1, n2, n3, n4⟩, ⟨n5, n6, n7⟩, ⟨n8, n9, n10, n11, n12, n13, n14, n15⟩, ⟨n16, n17, n18, n19⟩, ⟨n20, n21, n22, n23⟩, n24⟩ := a4
  have b1 := capR_b x.jN x.jsize k
  have b2 := capR_b x.hN x.hsize k
  have b3 := capR_ge x.jN x.jsize k
  have b4 := capR_ge x.hN x.hsize k
  refine ⟨PS, SS, dn, bn, gq, rq, la, gk, AT, T, cz, k1, k2, ⟨⟨by omega, by omega, by omega, ?_⟩, ⟨?_, q4, by omega⟩, ⟨q8, q9, by omega, q12, q13, by omega, by omega, by omega⟩, ⟨by omega, by omega, ?_, ?_⟩, ⟨by omega, ?_, ?_, i24⟩, ⟨i16, i17⟩, i18⟩, k3, hn, ?_, ?_⟩
  · rw [i4, i2, i5]
    exact n4
  · rw [i12, i6, i2, i7]
    exact n5
  · show 16 * (cnt ((M.s_cod 0).blkS w k).points ((M.s_cod 0).blkS w k).pkd + cnt z.jsize (fun r => decide (z.jK r = 1))) + z.tapeLength ≤ 32 * (n + 1)
    omega
  · show ((M.s_cod 0).blkS w k).points ≤ cnt ((M.s_cod 0).blkS w k).points ((M.s_cod 0).blkS w k).pkd + cnt z.jsize (fun r => decide (z.jK r = 1))
    omega
  · show ((M.s_cod 0).blkS w k).deletes ≤ 1300 * (n + 1)
    omega
  · show ((M.s_cod 0).blkS w k).parcelNumber ≤ n + 1
    omega
  · rw [i9, i8, i10, q7, q11]
    omega
  · rw [i9, i8, i10, i11, q7, q11]
    omega
/-- the power fails -/
theorem rl_pwn (h : Rl dA ad e0 n x M cs ss) (cd : Int32) : Rl dA ad e0 n (VS.s_cutLeft (VS.s_powered x false) (-1)) (MS.s_cutLeft (MS.s_on (MS.s_cod M cd) false) (-1)) cs ss := by
  obtain ⟨PS, SS, dn, bn, gq, rq, la, gk, AT, T, a1, ⟨t1, t2, t3, t4, t5, t6⟩, a3, a4, a5, a6⟩ := h
  exact ⟨PS, SS, dn, bn, gq, rq, la, gk, AT, T, pw_co a1 cd false false (-1) 0, ⟨t1, t2, t3, t4, t5, rfl⟩, a3, a4, a5, a6⟩
/-- more room for records and heads -/
theorem rl_jh {JB HB : Nat} (h : Rl dA ad e0 n x M cs ss) (h1 : x.jN ≤ JB) (h2 : JB ≤ 4096) (h3 : x.hN ≤ HB) (h4 : HB ≤ 4096) (hc : cs' ≤ cs + (6 * (JB - x.jN) + 3 * (HB - x.hN))) (hs : ss' ≤ ss + (12 * (JB - x.jN) + 6 * (HB - x.hN))) : Rl dA ad e0 n (VS.s_jN (VS.s_hN x HB) JB) M cs' ss' := by
  obtain ⟨PS, SS, dn, bn, gq, rq, la, gk, AT, T, a1, a2, a3, ⟨n1, n2, ⟨n8, n9, n10, n11, n12, n13, n14, n15⟩, n16⟩, a5, a6, a7, a8⟩ := h
  exact ⟨PS, SS, dn, bn, gq, rq, la, gk, AT, T, a1, a2, a3, ⟨n1, n2, ⟨by show x.jsize ≤ JB; omega, by show 0 < JB; omega, h2, by show x.hsize ≤ HB; omega, by show 0 < HB; omega, h4, n14, n15⟩, n16⟩, a5, a6, by show cs' + 17 * x.tapeLength ≤ 2000 + 400 * n + 6 * JB + 3 * HB + 3 * x.gN + x.tpN; omega, by show ss' + 70 * x.tapeLength ≤ 1177800 + 6000 * n + 12 * JB + 6 * HB + 6 * x.gN + 2 * x.tpN + (700 * gk.sz + 2 * sumN gk.sz (fun tb => (T tb).cN) + 4 * x.bN); omega⟩
end AF
end
