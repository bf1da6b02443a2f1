/-! A compact: the call. -/
section CK11
variable {p : Program} {e : Env} {s : State} {m : MethodId} {below : List Frame} {meth : Method} {c : Code} {b L : Nat} {xs : Nat → Int32} {D : va_G} {dA : Nat → ClassId} {e0 : Nat} {A : Nat → Prop} {h : Nat} {ad : Nat → Nat} {mm : Nat} {mad : Nat → Nat} {o : Nat} {n : Nat} {x : VS} {M : MS} {cs ss : Nat}
theorem call_11 (l : Launch) (hC : lS p l s m meth c b L xs D dA e0 A) (hL : L ≤ 3072) (hi : 6 * n + 6 ≤ L) (hR : Rl dA ad e0 n x M cs ss) (cont : ∀ x' M' cs' ss', Rl dA ad e0 (n + 1) x' M' cs' ss' → At9 p l e s m below meth c b D dA A h ad mm mad o 23 (6 * n + 6) x' M' cs' ss') : At9 p l e s m below meth c b D dA A h ad mm mad o (tg9 11) (6 * n) x M cs ss := by
  intro og H locs ls hP hD hS hl
  obtain ⟨rm1, rm2⟩ := rl_room (rl_skip hR (by omega))
  obtain ⟨PS, SS, dn, bn, gq, rq, la, gk, AT, T, co, ⟨⟨t1, t2, t3, t4⟩, ⟨t5, t6, t7⟩, ⟨t8, t9⟩, t10, t11, t12⟩, ⟨sr1, sr2, sr3, sr4, sr5⟩, nr, ⟨⟨r1, r2, r3, r4⟩, r5, ⟨r6, r7⟩, ⟨r8, r9⟩, r10⟩, rr⟩ := id hR
  obtain ⟨cp, cb, ⟨se1, se2⟩, ⟨g1, g2, g3, g4, g5, g6, g7, g8, g9, g10, g11⟩, cj, ck, cc⟩ := id co
  obtain ⟨⟨n1, n2, n3, n4⟩, ⟨n5, n6, n7⟩, ⟨n8, n9, n10, n11, n12, n13, n14, n15⟩, ⟨n16, n17, n18, n19⟩, ⟨n20, n21, n22, n23⟩, n24⟩ := id nr
  cases hp : x.powered with
  | false =>
    have hr2 := rl_up (cs' := cs + 1 + 0 + 0) (ss' := ss + 6 + 0 + 0) hR (by omega) 1 (by omega) (by omega)
    obtain ⟨rn1, rn2⟩ := rl_room hr2
    have W1 := fun sz => k8_compact_1 l D dA sz h ad o og x (xs (6 * n + 1)) (fun u => u = x) _ _ _ _ (nf_x0 (fun sz => v_compact_x l (lS_tr hC) D dA sz h ad x (xs (6 * n + 1)) hp) rfl (fun _ _ _ q => q))
    have M1 := fun sz => k_compact_1 l D dA sz mm mad M (xs (6 * n + 1)) (t12.trans hp)
    exact l9_11_x l hC (k9 := 1) hi hL ⟨by omega, by omega, by omega, by omega⟩ ⟨by omega, by omega⟩ rfl k_n1 W1 M1 hP hD hS hl (fun u H1 locs1 ls1 hf hP hD hS hl => cont u _ _ _ (by rw [show u = x from hf]; exact hr2) og H1 locs1 ls1 hP hD hS hl)
  | true =>
    have on : M.on = true := t12.trans hp
    have epc : M.parcelCount = x.npc := cp.1.2.1
    by_cases hv : (xs (6 * n + 1)) < 0
    · have hr2 := rl_up (cs' := cs + 1 + 0 + 0) (ss' := ss + 6 + 0 + 0) hR (by omega) 2 (by omega) (by omega)
      obtain ⟨rn1, rn2⟩ := rl_room hr2
      have W1 := fun sz => k8_compact_2 l D dA sz h ad o og x (xs (6 * n + 1)) (fun u => u = x) _ _ _ _ (nf_x0 (fun sz => v_compact_y l (lS_tr hC) D dA sz h ad x (xs (6 * n + 1)) hp hv) rfl (fun _ _ _ q => q))
      have M1 := fun sz => k_compact_2 l D dA sz mm mad M (xs (6 * n + 1)) on (Or.inl hv)
      exact l9_11_x l hC (k9 := 2) hi hL ⟨by omega, by omega, by omega, by omega⟩ ⟨by omega, by omega⟩ rfl k_n2 W1 M1 hP hD hS hl (fun u H1 locs1 ls1 hf hP hD hS hl => cont u _ _ _ (by rw [show u = x from hf]; exact hr2) og H1 locs1 ls1 hP hD hS hl)
    · obtain ⟨d, hd31, ed⟩ := i32_n0 hv
      by_cases hd : x.npc ≤ d + 1
      · have hM : xs (6 * n + 1) < 0 ∨ nI M.parcelCount - 1 ≤ xs (6 * n + 1) := by
          refine Or.inr ?_
          rw [ed, epc, Int32.le_iff_toInt_le, nI_toInt (by omega), Int32.toInt_sub, nI_toInt (by omega)]
          have e1 : (1 : Int32).toInt = 1 := by decide
          rw [e1, Int.bmod_eq_of_le (by omega) (by omega)]
          omega
        by_cases h0 : x.npc = 0
        · have hr2 := rl_up (cs' := cs + 1 + 0 + 0) (ss' := ss + 6 + 0 + 0) hR (by omega) 2 (by omega) (by omega)
          obtain ⟨rn1, rn2⟩ := rl_room hr2
          have W1 := fun sz => k8_compact_2 l D dA sz h ad o og x (xs (6 * n + 1)) (fun u => u = x) _ _ _ _ (nf_x0 (fun sz => v_compact_w l (lS_tr hC) D dA sz h ad x d hp h0 hd31) rfl (fun _ _ _ q => by rw [ed] at q; exact q))
          have M1 := fun sz => k_compact_2 l D dA sz mm mad M (xs (6 * n + 1)) on hM
          exact l9_11_x l hC (k9 := 2) hi hL ⟨by omega, by omega, by omega, by omega⟩ ⟨by omega, by omega⟩ rfl k_n2 W1 M1 hP hD hS hl (fun u H1 locs1 ls1 hf hP hD hS hl => cont u _ _ _ (by rw [show u = x from hf]; exact hr2) og H1 locs1 ls1 hP hD hS hl)
        · have hr2 := rl_up (cs' := cs + 1 + 0 + 0) (ss' := ss + 6 + 0 + 0) hR (by omega) 2 (by omega) (by omega)
          obtain ⟨rn1, rn2⟩ := rl_room hr2
          have W1 := fun sz => k8_compact_2 l D dA sz h ad o og x (xs (6 * n + 1)) (fun u => u = x) _ _ _ _ (nf_x0 (fun sz => v_compact_z l (lS_tr hC) D dA sz h ad x d hp (by omega) hd n2 hd31) rfl (fun _ _ _ q => by rw [ed] at q; exact q))
          have M1 := fun sz => k_compact_2 l D dA sz mm mad M (xs (6 * n + 1)) on hM
          exact l9_11_x l hC (k9 := 2) hi hL ⟨by omega, by omega, by omega, by omega⟩ ⟨by omega, by omega⟩ rfl k_n2 W1 M1 hP hD hS hl (fun u H1 locs1 ls1 hf hP hD hS hl => cont u _ _ _ (by rw [show u = x from hf]; exact hr2) og H1 locs1 ls1 hP hD hS hl)
      · have hd2 : d + 2 ≤ x.npc := by omega
        have hdM : d < M.parcelCount - 1 := by omega
        have pts1 : M.points ≤ 12000 := by omega
        have hsc : M.seriesCount ≤ 256 := by omega
        have eb : sumN M.parcelCount M.parcelBlocks = sumN x.npc (blN PS) := by
          rw [cp.1.2.1]
          exact sumN_ext (fun k hk => (cp.1.2.2.2 k hk).2.2)
        have f1 : M.parcelCount ≤ 40 := by omega
        have f2 : 2 + M.journal + M.catalogBlocks + sumN M.parcelCount M.parcelBlocks ≤ M.blocks := by omega
        have f3 : M.blocks ≤ 256 := by omega
        have efr : M.freeN = x.fr PS := fr_eq cp t10 g8 cc
        have hfr256 : x.fr PS ≤ 256 := by
          show x.diskBlocks - 2 - x.jlimit - (x.ncat + sumN x.npc (blN PS)) ≤ 256
          omega
        have rlt : rlT M x := ⟨⟨t1, t2, t3, t4⟩, ⟨t5, t6, t7⟩, ⟨t8, t9⟩, t10, t11, t12⟩
        have rls : rlS dA SS M x := ⟨sr1, sr2, sr3, sr4, sr5⟩
        have rla : rlA dA ad e0 M x gq rq la gk AT T := ⟨⟨r1, r2, r3, r4⟩, r5, ⟨r6, r7⟩, ⟨r8, r9⟩, r10⟩
        obtain ⟨y1, y2, y3⟩ := sy_eq (m := M) (x := x) ⟨g1, g2, g3, g4, g5, g6, g7, g8, g9, g10, g11⟩
        have hso : ∀ q : Nat, q < x.nsc → x.nsO q < 2 ^ 31 := fun q hq => by
          have := nsO_lt cj ck hq
          omega
        have hp2 := pc2_le cp hd2
        have hg := capR_2 (N := x.gN) (a := cnt (PS d).n (x.sePc (PS d))) (b := cnt (PS (d + 1)).n (x.sePc (PS (d + 1)))) n15 (by omega)
        have hge := capR_ge (capR x.gN 0 (cnt (PS d).n (x.sePc (PS d)))) (cnt (PS d).n (x.sePc (PS d))) (cnt (PS (d + 1)).n (x.sePc (PS (d + 1))))
        have hge2 := capR_ge x.gN 0 (cnt (PS d).n (x.sePc (PS d)))
        have hg1 : (capR (capR x.gN 0 (cnt (PS d).n (x.sePc (PS d)))) (cnt (PS d).n (x.sePc (PS d))) (cnt (PS (d + 1)).n (x.sePc (PS (d + 1))))) ≤ 32768 := by omega
        have hgN : x.gN ≤ (capR (capR x.gN 0 (cnt (PS d).n (x.sePc (PS d)))) (cnt (PS d).n (x.sePc (PS d))) (cnt (PS (d + 1)).n (x.sePc (PS (d + 1))))) := by omega
        have eval : ∀ b : Nat, nI (x.wjW + (b + 1) - x.writes) = nI ((if M.fresh = true then 1 else 0) + b + 1) := fun b => by
          cases hj : x.jch with
          | false =>
            have e1 : x.wjW = x.writes := if_neg (by rw [hj]; decide)
            have e2 : (if M.fresh = true then 1 else 0) = 0 := if_neg (by rw [g5, hj]; decide)
            rw [e1, e2]
            congr 1
            omega
          | true =>
            have e1 : x.wjW = x.writes + 1 := if_pos hj
            have e2 : (if M.fresh = true then 1 else 0) = 1 := if_pos (by rw [g5, hj])
            rw [e1, e2]
            congr 1
            omega
        by_cases hz : cnt (PS d).n (x.sePc (PS d)) + cnt (PS (d + 1)).n (x.sePc (PS (d + 1))) = 0
        · have ecm : M.cmN d = 0 := cmN_0 cp hd2 hz
          have hcm : M.cmN d ≤ M.freeN := by omega
          by_cases hjc : x.jch = true ∧ x.cutLeft = 0
          · obtain ⟨hj, hc⟩ := hjc
            have hr2 : ∀ u : VS, (∃ (ga2 go2 : Nat → Nat) (gt2 gv2 : Nat → Int64), u = x.cpI PS d ga2 go2 gt2 gv2 x.pl) → Rl dA ad e0 (n + 1) u (MS.s_cutLeft (MS.s_on (MS.s_cod M 1) false) (-1)) (cs + (3 * ((capR (capR x.gN 0 (cnt (PS d).n (x.sePc (PS d)))) (cnt (PS d).n (x.sePc (PS d))) (cnt (PS (d + 1)).n (x.sePc (PS (d + 1))))) - x.gN) + 1) + 0 + 0) (ss + (6 * ((capR (capR x.gN 0 (cnt (PS d).n (x.sePc (PS d)))) (cnt (PS d).n (x.sePc (PS d))) (cnt (PS (d + 1)).n (x.sePc (PS (d + 1))))) - x.gN) + 6) + 0 + 0) := fun u hk => by
                obtain ⟨a1, a2, a3, a4, z1⟩ := hk
                rw [z1]
                exact rl_gp (rl_pw (cs' := cs + 6) (ss' := ss + 6) hR (by omega) 1 (by omega) (by omega)) (fun _ z => z) a1 a2 a3 a4 _ hgN hg (by show _ ≤ cs + 6 + 3 * ((capR (capR x.gN 0 (cnt (PS d).n (x.sePc (PS d)))) (cnt (PS d).n (x.sePc (PS d))) (cnt (PS (d + 1)).n (x.sePc (PS (d + 1))))) - x.gN); omega) (by show _ ≤ ss + 6 + 6 * ((capR (capR x.gN 0 (cnt (PS d).n (x.sePc (PS d)))) (cnt (PS d).n (x.sePc (PS d))) (cnt (PS (d + 1)).n (x.sePc (PS (d + 1))))) - x.gN); omega)
            have rn1 : cs + (3 * ((capR (capR x.gN 0 (cnt (PS d).n (x.sePc (PS d)))) (cnt (PS d).n (x.sePc (PS d))) (cnt (PS (d + 1)).n (x.sePc (PS (d + 1))))) - x.gN) + 1) + 0 + 0 ≤ 601024 ∧ ss + (6 * ((capR (capR x.gN 0 (cnt (PS d).n (x.sePc (PS d)))) (cnt (PS d).n (x.sePc (PS d))) (cnt (PS (d + 1)).n (x.sePc (PS (d + 1))))) - x.gN) + 6) + 0 + 0 ≤ 7293034 := rl_room (hr2 _ ⟨fun _ => 0, fun _ => 0, fun _ => 0, fun _ => 0, rfl⟩)
            obtain ⟨rn1, rn2⟩ := rn1
            have W1 := fun sz => k8_compact_1 l D dA sz h ad o og x (xs (6 * n + 1)) (fun u => ∃ (ga2 go2 : Nat → Nat) (gt2 gv2 : Nat → Int64), u = x.cpI PS d ga2 go2 gt2 gv2 x.pl) _ _ _ _ (nf_x1 (w := fun u => u) (fun sz => v_compact_i0 l (lS_tr hC) D dA sz h ad x PS d hp hd2 n4 n2 n3 hso n5 n1 t11 n14 hg1 (by omega) hz hj hc) (fun u q => q) (fun _ _ _ q => by rw [ed] at q; exact q))
            have M1 := nm_i (M1 := MS.s_cutLeft (MS.s_on (MS.s_cod M 1) false) (-1)) (b := 0) (Pc2 := fun sz => pC D dA [.ref mm, .int (xs (6 * n + 1))] (MW dA mm mad M) sz) (fun sz => k_compact_5a l D dA sz mm mad M d on hdM pts1 hsc n23 f1 f2 f3 hcm (g5.trans hj) (g6.trans hc)) (fun r u q => ⟨q, rfl⟩) (fun _ _ _ q => by rw [ed] at q; exact q)
            exact l9_11_x l hC (k9 := 1) hi hL ⟨by omega, by omega, by omega, by omega⟩ ⟨by omega, by omega⟩ rfl k_n1 W1 M1 hP hD hS hl (fun u H1 locs1 ls1 hf hP hD hS hl => cont u _ _ _ (hr2 u hf) og H1 locs1 ls1 hP hD hS hl)
          · have hw : x.jch = false ∨ ¬ x.cutLeft = 0 := by
              cases hj : x.jch with
              | false => exact Or.inl rfl
              | true => exact Or.inr (fun z => hjc ⟨hj, z⟩)
            have hwM : M.fresh = false ∨ ¬ M.cutLeft = 0 := by rw [g5, g6]; exact hw
            rcases first_or (fun j => cutN x.wjC j = 0) (0 + 1) with ⟨k0, u1, u2, u3⟩ | hcz
            · have hr2 : ∀ u : VS, (∃ (ga2 go2 : Nat → Nat) (gt2 gv2 : Nat → Int64), u = x.cpJ PS d ga2 go2 gt2 gv2 x.pl k0) → Rl dA ad e0 (n + 1) u (MS.s_fresh (MS.s_kept (MS.s_written (MS.s_cutLeft (MS.s_on (MS.s_cod M 1) false) (-1)) (M.syWr + k0)) M.records) false) (cs + (3 * ((capR (capR x.gN 0 (cnt (PS d).n (x.sePc (PS d)))) (cnt (PS d).n (x.sePc (PS d))) (cnt (PS (d + 1)).n (x.sePc (PS (d + 1))))) - x.gN) + 1) + 0 + 0) (ss + (6 * ((capR (capR x.gN 0 (cnt (PS d).n (x.sePc (PS d)))) (cnt (PS d).n (x.sePc (PS d))) (cnt (PS (d + 1)).n (x.sePc (PS (d + 1))))) - x.gN) + 6) + 0 + 0) := fun u hk => by
                  obtain ⟨a1, a2, a3, a4, z1⟩ := hk
                  rw [z1]
                  exact rl_gp (rl_sj (cs' := cs + 6) (ss' := ss + 6) hR y2 g7 (by omega) k0 (by omega) (by omega) (by omega)) (fun _ z => z) a1 a2 a3 a4 _ hgN hg (by show _ ≤ cs + 6 + 3 * ((capR (capR x.gN 0 (cnt (PS d).n (x.sePc (PS d)))) (cnt (PS d).n (x.sePc (PS d))) (cnt (PS (d + 1)).n (x.sePc (PS (d + 1))))) - x.gN); omega) (by show _ ≤ ss + 6 + 6 * ((capR (capR x.gN 0 (cnt (PS d).n (x.sePc (PS d)))) (cnt (PS d).n (x.sePc (PS d))) (cnt (PS (d + 1)).n (x.sePc (PS (d + 1))))) - x.gN); omega)
              have rn1 : cs + (3 * ((capR (capR x.gN 0 (cnt (PS d).n (x.sePc (PS d)))) (cnt (PS d).n (x.sePc (PS d))) (cnt (PS (d + 1)).n (x.sePc (PS (d + 1))))) - x.gN) + 1) + 0 + 0 ≤ 601024 ∧ ss + (6 * ((capR (capR x.gN 0 (cnt (PS d).n (x.sePc (PS d)))) (cnt (PS d).n (x.sePc (PS d))) (cnt (PS (d + 1)).n (x.sePc (PS (d + 1))))) - x.gN) + 6) + 0 + 0 ≤ 7293034 := rl_room (hr2 _ ⟨fun _ => 0, fun _ => 0, fun _ => 0, fun _ => 0, rfl⟩)
              obtain ⟨rn1, rn2⟩ := rn1
              have W1 := fun sz => k8_compact_1 l D dA sz h ad o og x (xs (6 * n + 1)) (fun u => ∃ (ga2 go2 : Nat → Nat) (gt2 gv2 : Nat → Int64), u = x.cpJ PS d ga2 go2 gt2 gv2 x.pl k0) _ _ _ _ (nf_x1 (w := fun u => u) (fun sz => v_compact_j0 l (lS_tr hC) D dA sz h ad x PS d k0 hp hd2 n4 n2 n3 hso n5 n1 t11 n14 hg1 (by omega) hz hw u1 u3 u2) (fun u q => q) (fun _ _ _ q => by rw [ed] at q; exact q))
              have M1 := nm_i (M1 := MS.s_fresh (MS.s_kept (MS.s_written (MS.s_cutLeft (MS.s_on (MS.s_cod M 1) false) (-1)) (M.syWr + k0)) M.records) false) (b := 0) (Pc2 := fun sz => pC D dA [.ref mm, .int (xs (6 * n + 1))] (MW dA mm mad M) sz) (fun sz => k_compact_5b l D dA sz mm mad M d k0 on hdM pts1 hsc n23 f1 f2 f3 hcm hwM (by omega) (by rw [y1]; exact u2) (fun i hi => by rw [y1]; exact u3 i hi)) (fun r u q => ⟨q, rfl⟩) (fun _ _ _ q => by rw [ed] at q; exact q)
              exact l9_11_x l hC (k9 := 1) hi hL ⟨by omega, by omega, by omega, by omega⟩ ⟨by omega, by omega⟩ rfl k_n1 W1 M1 hP hD hS hl (fun u H1 locs1 ls1 hf hP hD hS hl => cont u _ _ _ (hr2 u hf) og H1 locs1 ls1 hP hD hS hl)
            · have rn1 : cs + (3 * ((capR (capR x.gN 0 (cnt (PS d).n (x.sePc (PS d)))) (cnt (PS d).n (x.sePc (PS d))) (cnt (PS (d + 1)).n (x.sePc (PS (d + 1))))) - x.gN)) + 0 + 0 ≤ 601024 ∧ ss + (6 * ((capR (capR x.gN 0 (cnt (PS d).n (x.sePc (PS d)))) (cnt (PS d).n (x.sePc (PS d))) (cnt (PS (d + 1)).n (x.sePc (PS (d + 1))))) - x.gN)) + 0 + 0 ≤ 7293034 := rl_room (rl_gp (rl_up (cs' := cs + 6) (ss' := ss + 6) hR (by omega) 0 (by omega) (by omega)) (fun _ z => z) (fun _ => 0) (fun _ => 0) (fun _ => 0) (fun _ => 0) 0 hgN hg (by show _ ≤ cs + 6 + 3 * ((capR (capR x.gN 0 (cnt (PS d).n (x.sePc (PS d)))) (cnt (PS d).n (x.sePc (PS d))) (cnt (PS (d + 1)).n (x.sePc (PS (d + 1))))) - x.gN); omega) (by show _ ≤ ss + 6 + 6 * ((capR (capR x.gN 0 (cnt (PS d).n (x.sePc (PS d)))) (cnt (PS d).n (x.sePc (PS d))) (cnt (PS (d + 1)).n (x.sePc (PS (d + 1))))) - x.gN); omega))
              obtain ⟨rn1, rn2⟩ := rn1
              have W1 := fun sz => k8_compact l D dA sz h ad o og x (xs (6 * n + 1)) (nI (x.wjW + (0 + 1) - x.writes)) (fun u => ∃ (ga2 go2 : Nat → Nat) (gt2 gv2 : Nat → Int64), u = (x.cp0 PS d ga2 go2 gt2 gv2).kmS (sfT PS d 2 (x.npc - (d + 2)))) _ _ _ _ (nf_i (w := fun u => u) (fun sz => v_compact_0 l D dA sz h ad x PS d hp hd2 n4 n2 n3 hso n5 n1 t11 n14 hg1 (by omega) hz hw hcz) (fun r u q => q) (fun _ _ _ q => by rw [ed] at q; exact q))
              have M1 := nm_i (M1 := M.cmS d) (b := nI ((if M.fresh = true then 1 else 0) + M.cmN d + 1)) (Pc2 := fun sz => pC D dA [.ref mm, .int (xs (6 * n + 1))] (MW dA mm mad M) sz) (fun sz => k_compact_0 l D dA sz mm mad M d on hdM pts1 hsc n23 f1 f2 f3 hcm hwM (fun i hi => by rw [y1]; exact hcz i (by omega))) (fun r u q => ⟨q.1, q.2⟩) (fun _ _ _ q => by rw [ed] at q; exact q)
              exact l9_11 l hC hi hL ⟨by omega, by omega, by omega, by omega⟩ ⟨by omega, by omega⟩ (cm_cod M d) (by rw [eval, ecm]) W1 M1 hP hD hS hl (fun u H1 locs1 ls1 hf2 hP hD hS hl => by
                obtain ⟨a1, a2, a3, a4, z1⟩ := hf2
                refine cont u _ _ _ ?_ _ H1 locs1 ls1 hP hD hS hl
                rw [z1]
                exact rl_c0 co rlt rls nr rla rr (by omega) hd2 hz a1 a2 a3 a4)
        · have hz : 0 < cnt (PS d).n (x.sePc (PS d)) + cnt (PS (d + 1)).n (x.sePc (PS (d + 1))) := Nat.pos_of_ne_zero hz
          have hcl := cm_le d pts1 hsc
          obtain ⟨nb, enb⟩ : ∃ nb, nb = M.cmN d := ⟨_, rfl⟩
          have ecm : M.cmN d = nb := enb.symm
          have hc12 : (cnt (PS d).n (x.sePc (PS d)) + cnt (PS (d + 1)).n (x.sePc (PS (d + 1)))) ≤ 12000 := by omega
          have hpo := po_lt cp se1
          have hbl : ∀ (gO O : Nat → Nat) (gT gV T V : Nat → Int64), gat2 (x.sePc (PS d)) (x.sePc (PS (d + 1))) (PS d) (PS (d + 1)) gO gT gV → laid gO (cnt (PS d).n (x.sePc (PS d)) + cnt (PS (d + 1)).n (x.sePc (PS (d + 1)))) (cnt (PS d).n (x.sePc (PS d)) + cnt (PS (d + 1)).n (x.sePc (PS (d + 1)))) gO O → laid gO (cnt (PS d).n (x.sePc (PS d)) + cnt (PS (d + 1)).n (x.sePc (PS (d + 1)))) (cnt (PS d).n (x.sePc (PS d)) + cnt (PS (d + 1)).n (x.sePc (PS (d + 1)))) gT T → laid gO (cnt (PS d).n (x.sePc (PS d)) + cnt (PS (d + 1)).n (x.sePc (PS (d + 1)))) (cnt (PS d).n (x.sePc (PS d)) + cnt (PS (d + 1)).n (x.sePc (PS (d + 1)))) gV V → (mkP (cnt (PS d).n (x.sePc (PS d)) + cnt (PS (d + 1)).n (x.sePc (PS (d + 1)))) O T V).bl = nb := fun gO O gT gV T V b1 l1 l2 l3 => by
            rw [enb]
            exact (cmN_eq cp hd2 b1 l1 l2 l3).symm
          by_cases hfr : nb ≤ x.fr PS
          · have hcm : M.cmN d ≤ M.freeN := by omega
            by_cases hjc : x.jch = true ∧ x.cutLeft = 0
            · obtain ⟨hj, hc⟩ := hjc
              have hr2 : ∀ u : VS, (∃ (ga2 go2 : Nat → Nat) (gt2 gv2 : Nat → Int64) (pl1 : va_W), (∀ c, c ∈ x.pl → c ∈ pl1) ∧ u = x.cpI PS d ga2 go2 gt2 gv2 pl1) → Rl dA ad e0 (n + 1) u (MS.s_cutLeft (MS.s_on (MS.s_cod M 1) false) (-1)) (cs + (3 * ((capR (capR x.gN 0 (cnt (PS d).n (x.sePc (PS d)))) (cnt (PS d).n (x.sePc (PS d))) (cnt (PS (d + 1)).n (x.sePc (PS (d + 1))))) - x.gN) + 6) + 0 + 0) (ss + (6 * ((capR (capR x.gN 0 (cnt (PS d).n (x.sePc (PS d)))) (cnt (PS d).n (x.sePc (PS d))) (cnt (PS (d + 1)).n (x.sePc (PS (d + 1))))) - x.gN) + (14 + (3 * (cnt (PS d).n (x.sePc (PS d)) + cnt (PS (d + 1)).n (x.sePc (PS (d + 1)))) + x.nser + 1))) + 0 + 0) := fun u hk => by
                  obtain ⟨a1, a2, a3, a4, pl1, z2, z1⟩ := hk
                  rw [z1]
                  exact rl_gp (rl_pw (cs' := cs + 6) (ss' := ss + (14 + (3 * (cnt (PS d).n (x.sePc (PS d)) + cnt (PS (d + 1)).n (x.sePc (PS (d + 1)))) + x.nser + 1))) hR (by omega) 1 (by omega) (by omega)) z2 a1 a2 a3 a4 _ hgN hg (by show _ ≤ cs + 6 + 3 * ((capR (capR x.gN 0 (cnt (PS d).n (x.sePc (PS d)))) (cnt (PS d).n (x.sePc (PS d))) (cnt (PS (d + 1)).n (x.sePc (PS (d + 1))))) - x.gN); omega) (by show _ ≤ ss + (14 + (3 * (cnt (PS d).n (x.sePc (PS d)) + cnt (PS (d + 1)).n (x.sePc (PS (d + 1)))) + x.nser + 1)) + 6 * ((capR (capR x.gN 0 (cnt (PS d).n (x.sePc (PS d)))) (cnt (PS d).n (x.sePc (PS d))) (cnt (PS (d + 1)).n (x.sePc (PS (d + 1))))) - x.gN); omega)
              have rn1 : cs + (3 * ((capR (capR x.gN 0 (cnt (PS d).n (x.sePc (PS d)))) (cnt (PS d).n (x.sePc (PS d))) (cnt (PS (d + 1)).n (x.sePc (PS (d + 1))))) - x.gN) + 6) + 0 + 0 ≤ 601024 ∧ ss + (6 * ((capR (capR x.gN 0 (cnt (PS d).n (x.sePc (PS d)))) (cnt (PS d).n (x.sePc (PS d))) (cnt (PS (d + 1)).n (x.sePc (PS (d + 1))))) - x.gN) + (14 + (3 * (cnt (PS d).n (x.sePc (PS d)) + cnt (PS (d + 1)).n (x.sePc (PS (d + 1)))) + x.nser + 1))) + 0 + 0 ≤ 7293034 := rl_room (hr2 _ ⟨fun _ => 0, fun _ => 0, fun _ => 0, fun _ => 0, x.pl, fun _ z => z, rfl⟩)
              obtain ⟨rn1, rn2⟩ := rn1
              have W1 := fun sz => k8_compact_1 l D dA sz h ad o og x (xs (6 * n + 1)) (fun u => ∃ (ga2 go2 : Nat → Nat) (gt2 gv2 : Nat → Int64) (pl1 : va_W), (∀ c, c ∈ x.pl → c ∈ pl1) ∧ u = x.cpI PS d ga2 go2 gt2 gv2 pl1) _ _ _ _ (nf_x1 (w := fun u => u) (fun sz => v_compact_i1 l (lS_tr hC) D dA sz h ad x PS d nb hp hd2 n4 n2 n3 hso n5 n1 t11 n14 hg1 (by omega) hpo hz hc12 hbl hfr hj hc) (fun u q => q) (fun _ _ _ q => by rw [ed] at q; exact q))
              have M1 := nm_i (M1 := MS.s_cutLeft (MS.s_on (MS.s_cod M 1) false) (-1)) (b := 0) (Pc2 := fun sz => pC D dA [.ref mm, .int (xs (6 * n + 1))] (MW dA mm mad M) sz) (fun sz => k_compact_5a l D dA sz mm mad M d on hdM pts1 hsc n23 f1 f2 f3 hcm (g5.trans hj) (g6.trans hc)) (fun r u q => ⟨q, rfl⟩) (fun _ _ _ q => by rw [ed] at q; exact q)
              exact l9_11_x l hC (k9 := 1) hi hL ⟨by omega, by omega, by omega, by omega⟩ ⟨by omega, by omega⟩ rfl k_n1 W1 M1 hP hD hS hl (fun u H1 locs1 ls1 hf hP hD hS hl => cont u _ _ _ (hr2 u hf) og H1 locs1 ls1 hP hD hS hl)
            · have hw : x.jch = false ∨ ¬ x.cutLeft = 0 := by
                cases hj : x.jch with
                | false => exact Or.inl rfl
                | true => exact Or.inr (fun z => hjc ⟨hj, z⟩)
              have hwM : M.fresh = false ∨ ¬ M.cutLeft = 0 := by rw [g5, g6]; exact hw
              rcases first_or (fun j => cutN x.wjC j = 0) (nb + 1) with ⟨k0, u1, u2, u3⟩ | hcz
              · have hr2 : ∀ u : VS, (∃ (ga2 go2 : Nat → Nat) (gt2 gv2 : Nat → Int64) (pl1 : va_W), (∀ c, c ∈ x.pl → c ∈ pl1) ∧ u = x.cpJ PS d ga2 go2 gt2 gv2 pl1 k0) → Rl dA ad e0 (n + 1) u (MS.s_fresh (MS.s_kept (MS.s_written (MS.s_cutLeft (MS.s_on (MS.s_cod M 1) false) (-1)) (M.syWr + k0)) M.records) false) (cs + (3 * ((capR (capR x.gN 0 (cnt (PS d).n (x.sePc (PS d)))) (cnt (PS d).n (x.sePc (PS d))) (cnt (PS (d + 1)).n (x.sePc (PS (d + 1))))) - x.gN) + 6) + 0 + 0) (ss + (6 * ((capR (capR x.gN 0 (cnt (PS d).n (x.sePc (PS d)))) (cnt (PS d).n (x.sePc (PS d))) (cnt (PS (d + 1)).n (x.sePc (PS (d + 1))))) - x.gN) + (14 + (3 * (cnt (PS d).n (x.sePc (PS d)) + cnt (PS (d + 1)).n (x.sePc (PS (d + 1)))) + x.nser + 1))) + 0 + 0) := fun u hk => by
                    obtain ⟨a1, a2, a3, a4, pl1, z2, z1⟩ := hk
                    rw [z1]
                    exact rl_gp (rl_sj (cs' := cs + 6) (ss' := ss + (14 + (3 * (cnt (PS d).n (x.sePc (PS d)) + cnt (PS (d + 1)).n (x.sePc (PS (d + 1)))) + x.nser + 1))) hR y2 g7 (by omega) k0 (by omega) (by omega) (by omega)) z2 a1 a2 a3 a4 _ hgN hg (by show _ ≤ cs + 6 + 3 * ((capR (capR x.gN 0 (cnt (PS d).n (x.sePc (PS d)))) (cnt (PS d).n (x.sePc (PS d))) (cnt (PS (d + 1)).n (x.sePc (PS (d + 1))))) - x.gN); omega) (by show _ ≤ ss + (14 + (3 * (cnt (PS d).n (x.sePc (PS d)) + cnt (PS (d + 1)).n (x.sePc (PS (d + 1)))) + x.nser + 1)) + 6 * ((capR (capR x.gN 0 (cnt (PS d).n (x.sePc (PS d)))) (cnt (PS d).n (x.sePc (PS d))) (cnt (PS (d + 1)).n (x.sePc (PS (d + 1))))) - x.gN); omega)
                have rn1 : cs + (3 * ((capR (capR x.gN 0 (cnt (PS d).n (x.sePc (PS d)))) (cnt (PS d).n (x.sePc (PS d))) (cnt (PS (d + 1)).n (x.sePc (PS (d + 1))))) - x.gN) + 6) + 0 + 0 ≤ 601024 ∧ ss + (6 * ((capR (capR x.gN 0 (cnt (PS d).n (x.sePc (PS d)))) (cnt (PS d).n (x.sePc (PS d))) (cnt (PS (d + 1)).n (x.sePc (PS (d + 1))))) - x.gN) + (14 + (3 * (cnt (PS d).n (x.sePc (PS d)) + cnt (PS (d + 1)).n (x.sePc (PS (d + 1)))) + x.nser + 1))) + 0 + 0 ≤ 7293034 := rl_room (hr2 _ ⟨fun _ => 0, fun _ => 0, fun _ => 0, fun _ => 0, x.pl, fun _ z => z, rfl⟩)
                obtain ⟨rn1, rn2⟩ := rn1
                have W1 := fun sz => k8_compact_1 l D dA sz h ad o og x (xs (6 * n + 1)) (fun u => ∃ (ga2 go2 : Nat → Nat) (gt2 gv2 : Nat → Int64) (pl1 : va_W), (∀ c, c ∈ x.pl → c ∈ pl1) ∧ u = x.cpJ PS d ga2 go2 gt2 gv2 pl1 k0) _ _ _ _ (nf_x1 (w := fun u => u) (fun sz => v_compact_j1 l (lS_tr hC) D dA sz h ad x PS d nb k0 hp hd2 n4 n2 n3 hso n5 n1 t11 n14 hg1 (by omega) hpo hz hc12 hbl hfr hw u1 u3 u2) (fun u q => q) (fun _ _ _ q => by rw [ed] at q; exact q))
                have M1 := nm_i (M1 := MS.s_fresh (MS.s_kept (MS.s_written (MS.s_cutLeft (MS.s_on (MS.s_cod M 1) false) (-1)) (M.syWr + k0)) M.records) false) (b := 0) (Pc2 := fun sz => pC D dA [.ref mm, .int (xs (6 * n + 1))] (MW dA mm mad M) sz) (fun sz => k_compact_5b l D dA sz mm mad M d k0 on hdM pts1 hsc n23 f1 f2 f3 hcm hwM (by omega) (by rw [y1]; exact u2) (fun i hi => by rw [y1]; exact u3 i hi)) (fun r u q => ⟨q, rfl⟩) (fun _ _ _ q => by rw [ed] at q; exact q)
                exact l9_11_x l hC (k9 := 1) hi hL ⟨by omega, by omega, by omega, by omega⟩ ⟨by omega, by omega⟩ rfl k_n1 W1 M1 hP hD hS hl (fun u H1 locs1 ls1 hf hP hD hS hl => cont u _ _ _ (hr2 u hf) og H1 locs1 ls1 hP hD hS hl)
              · have rn1 : cs + (3 * ((capR (capR x.gN 0 (cnt (PS d).n (x.sePc (PS d)))) (cnt (PS d).n (x.sePc (PS d))) (cnt (PS (d + 1)).n (x.sePc (PS (d + 1))))) - x.gN) + 5) + 0 + 0 ≤ 601024 ∧ ss + (6 * ((capR (capR x.gN 0 (cnt (PS d).n (x.sePc (PS d)))) (cnt (PS d).n (x.sePc (PS d))) (cnt (PS (d + 1)).n (x.sePc (PS (d + 1))))) - x.gN) + (8 + (3 * (cnt (PS d).n (x.sePc (PS d)) + cnt (PS (d + 1)).n (x.sePc (PS (d + 1)))) + x.nser + 1))) + 0 + 0 ≤ 7293034 := rl_room (rl_gp (rl_up (cs' := cs + 6) (ss' := ss + (14 + (3 * (cnt (PS d).n (x.sePc (PS d)) + cnt (PS (d + 1)).n (x.sePc (PS (d + 1)))) + x.nser + 1))) hR (by omega) 0 (by omega) (by omega)) (fun _ z => z) (fun _ => 0) (fun _ => 0) (fun _ => 0) (fun _ => 0) 0 hgN hg (by show _ ≤ cs + 6 + 3 * ((capR (capR x.gN 0 (cnt (PS d).n (x.sePc (PS d)))) (cnt (PS d).n (x.sePc (PS d))) (cnt (PS (d + 1)).n (x.sePc (PS (d + 1))))) - x.gN); omega) (by show _ ≤ ss + (14 + (3 * (cnt (PS d).n (x.sePc (PS d)) + cnt (PS (d + 1)).n (x.sePc (PS (d + 1)))) + x.nser + 1)) + 6 * ((capR (capR x.gN 0 (cnt (PS d).n (x.sePc (PS d)))) (cnt (PS d).n (x.sePc (PS d))) (cnt (PS (d + 1)).n (x.sePc (PS (d + 1))))) - x.gN); omega))
                obtain ⟨rn1, rn2⟩ := rn1
                have W1 := fun sz => k8_compact l D dA sz h ad o og x (xs (6 * n + 1)) (nI (x.wjW + (nb + 1) - x.writes)) (fun u => ∃ (ga2 go2 : Nat → Nat) (gt2 gv2 : Nat → Int64) (O : Nat → Nat) (T V : Nat → Int64) (mp : Nat) (pl1 : va_W), gat2 (x.sePc (PS d)) (x.sePc (PS (d + 1))) (PS d) (PS (d + 1)) go2 gt2 gv2 ∧ laid go2 (cnt (PS d).n (x.sePc (PS d)) + cnt (PS (d + 1)).n (x.sePc (PS (d + 1)))) (cnt (PS d).n (x.sePc (PS d)) + cnt (PS (d + 1)).n (x.sePc (PS (d + 1)))) go2 O ∧ laid go2 (cnt (PS d).n (x.sePc (PS d)) + cnt (PS (d + 1)).n (x.sePc (PS (d + 1)))) (cnt (PS d).n (x.sePc (PS d)) + cnt (PS (d + 1)).n (x.sePc (PS (d + 1)))) gt2 T ∧ laid go2 (cnt (PS d).n (x.sePc (PS d)) + cnt (PS (d + 1)).n (x.sePc (PS (d + 1)))) (cnt (PS d).n (x.sePc (PS d)) + cnt (PS (d + 1)).n (x.sePc (PS (d + 1)))) gv2 V ∧ (∀ q, O q < 256) ∧ isPc dA pl1 mp (mkP (cnt (PS d).n (x.sePc (PS d)) + cnt (PS (d + 1)).n (x.sePc (PS (d + 1)))) O T V) ∧ (∀ c, c ∈ x.pl → c ∈ pl1) ∧ u = (x.cp1 PS d nb mp pl1 ga2 go2 gt2 gv2).kmS (sfT (va_up PS d (mkP (cnt (PS d).n (x.sePc (PS d)) + cnt (PS (d + 1)).n (x.sePc (PS (d + 1)))) O T V)) (d + 1) 1 (x.npc - (d + 2)))) _ _ _ _ (nf_i (w := fun u => u) (fun sz => v_compact_1 l D dA sz h ad x PS d nb hp hd2 n4 n2 n3 hso n5 n1 t11 n14 hg1 (by omega) hpo hz hc12 hbl hfr hw hcz) (fun r u q => q) (fun _ _ _ q => by rw [ed] at q; exact q))
                have M1 := nm_i (M1 := M.cmS d) (b := nI ((if M.fresh = true then 1 else 0) + M.cmN d + 1)) (Pc2 := fun sz => pC D dA [.ref mm, .int (xs (6 * n + 1))] (MW dA mm mad M) sz) (fun sz => k_compact_0 l D dA sz mm mad M d on hdM pts1 hsc n23 f1 f2 f3 hcm hwM (fun i hi => by rw [y1]; exact hcz i (by omega))) (fun r u q => ⟨q.1, q.2⟩) (fun _ _ _ q => by rw [ed] at q; exact q)
                exact l9_11 l hC hi hL ⟨by omega, by omega, by omega, by omega⟩ ⟨by omega, by omega⟩ (cm_cod M d) (by rw [eval, ecm]) W1 M1 hP hD hS hl (fun u H1 locs1 ls1 hf2 hP hD hS hl => by
                  obtain ⟨a1, a2, a3, a4, O, TT, V, mp, pl1, b1, l1, l2, l3, l4, l5, l6, l7⟩ := hf2
                  refine cont u _ _ _ ?_ _ H1 locs1 ls1 hP hD hS hl
                  rw [l7]
                  exact rl_c1 (P := mkP (cnt (PS d).n (x.sePc (PS d)) + cnt (PS (d + 1)).n (x.sePc (PS (d + 1)))) O TT V) co rlt rls nr rla rr (by omega) hd2 rfl hz b1 l1 l2 l3 rfl (hbl a2 O a3 a4 TT V b1 l1 l2 l3) rfl l5 ⟨hc12, fun i _ => l4 i⟩ l6 hfr)
          · have hr2 : ∀ u : VS, (∃ (ga2 go2 : Nat → Nat) (gt2 gv2 : Nat → Int64) (pl1 : va_W), (∀ c, c ∈ x.pl → c ∈ pl1) ∧ u = x.cpU PS d ga2 go2 gt2 gv2 pl1) → Rl dA ad e0 (n + 1) u (MS.s_cod M 3) (cs + (3 * ((capR (capR x.gN 0 (cnt (PS d).n (x.sePc (PS d)))) (cnt (PS d).n (x.sePc (PS d))) (cnt (PS (d + 1)).n (x.sePc (PS (d + 1))))) - x.gN) + 6) + 0 + 0) (ss + (6 * ((capR (capR x.gN 0 (cnt (PS d).n (x.sePc (PS d)))) (cnt (PS d).n (x.sePc (PS d))) (cnt (PS (d + 1)).n (x.sePc (PS (d + 1))))) - x.gN) + (14 + (3 * (cnt (PS d).n (x.sePc (PS d)) + cnt (PS (d + 1)).n (x.sePc (PS (d + 1)))) + x.nser + 1))) + 0 + 0) := fun u hk => by
              obtain ⟨a1, a2, a3, a4, pl1, z2, z1⟩ := hk
              rw [z1]
              exact rl_gp (rl_up (cs' := cs + 6) (ss' := ss + (14 + (3 * (cnt (PS d).n (x.sePc (PS d)) + cnt (PS (d + 1)).n (x.sePc (PS (d + 1)))) + x.nser + 1))) hR (by omega) 3 (by omega) (by omega)) z2 a1 a2 a3 a4 _ hgN hg (by show _ ≤ cs + 6 + 3 * ((capR (capR x.gN 0 (cnt (PS d).n (x.sePc (PS d)))) (cnt (PS d).n (x.sePc (PS d))) (cnt (PS (d + 1)).n (x.sePc (PS (d + 1))))) - x.gN); omega) (by show _ ≤ ss + (14 + (3 * (cnt (PS d).n (x.sePc (PS d)) + cnt (PS (d + 1)).n (x.sePc (PS (d + 1)))) + x.nser + 1)) + 6 * ((capR (capR x.gN 0 (cnt (PS d).n (x.sePc (PS d)))) (cnt (PS d).n (x.sePc (PS d))) (cnt (PS (d + 1)).n (x.sePc (PS (d + 1))))) - x.gN); omega)
            obtain ⟨rn1, rn2⟩ := rl_room (hr2 _ ⟨fun _ => 0, fun _ => 0, fun _ => 0, fun _ => 0, x.pl, fun _ z => z, rfl⟩)
            have W1 := fun sz => k8_compact_3 l D dA sz h ad o og x (xs (6 * n + 1)) (fun u => ∃ (ga2 go2 : Nat → Nat) (gt2 gv2 : Nat → Int64) (pl1 : va_W), (∀ c, c ∈ x.pl → c ∈ pl1) ∧ u = x.cpU PS d ga2 go2 gt2 gv2 pl1) _ _ _ _ (nf_x1 (w := fun u => u) (fun sz => v_compact_u1 l (lS_tr hC) D dA sz h ad x PS d nb hp hd2 n4 n2 n3 hso n5 n1 t11 n14 hg1 (by omega) hpo hz hc12 hbl (by omega) (by omega)) (fun u q => q) (fun _ _ _ q => by rw [ed] at q; exact q))
            have M1 := nm_i (M1 := MS.s_cod M 3) (b := 0) (Pc2 := fun sz => pC D dA [.ref mm, .int (xs (6 * n + 1))] (MW dA mm mad M) sz) (fun sz => k_compact_3 l D dA sz mm mad M d on hdM pts1 hsc n23 f1 f2 f3 (by omega)) (fun r u q => ⟨q, rfl⟩) (fun _ _ _ q => by rw [ed] at q; exact q)
            exact l9_11_x l hC (k9 := 3) hi hL ⟨by omega, by omega, by omega, by omega⟩ ⟨by omega, by omega⟩ rfl k_n3 W1 M1 hP hD hS hl (fun u H1 locs1 ls1 hf hP hD hS hl => cont u _ _ _ (hr2 u hf) og H1 locs1 ls1 hP hD hS hl)
end CK11
