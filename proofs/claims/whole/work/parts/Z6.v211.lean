/-! A retain: the call. -/
theorem rtJ_cod (M : MS) (t : Int64) (n : Nat) : ∀ i, (M.rtJ t n i).cod = M.cod
  | 0 => rfl
  | i + 1 => by
    have ih := rtJ_cod M t n i
    show ((M.rtJ t n i).rtK t (n - 1 - i)).cod = M.cod
    obtain ⟨u, eu⟩ : ∃ u, u = M.rtJ t n i := ⟨_, rfl⟩
    rw [← eu] at ih ⊢
    unfold MS.rtK
    cases allB u.points (u.rtA t (n - 1 - i)) with
    | true => exact ih
    | false => exact ih
theorem rt_cod (M : MS) (t : Int64) : (M.rtS t).cod = 0 := (rtJ_cod (M.rt1 t) t M.parcelCount M.parcelCount).trans rfl
section SP
variable {dA : Nat → ClassId} {ad : Nat → Nat} {e0 n : Nat} {x : VS} {M : MS} {cs ss cs' ss' : Nat}
theorem rl_sp0 (h : Rl dA ad e0 n x M cs ss) (hn : n + 1 ≤ 512) (hf : x.jch = false) (hc : cs' ≤ cs + 100) (hs : ss' ≤ ss + 5000) : Rl dA ad e0 (n + 1) (VS.s_cutLeft (VS.s_powered x false) (-1)) (MS.s_fresh (MS.s_kept (MS.s_written (MS.s_cutLeft (MS.s_on (MS.s_cod M 1) false) (-1)) M.written) M.records) false) cs' ss' := by
  obtain ⟨PS, SS, dn, bn, gq, rq, la, gk, AT, T, a1, ⟨t1, t2, t3, t4, t5, t6⟩, a3, a4, a5, a6, a7, a8⟩ := h
  exact ⟨PS, SS, dn, bn, gq, rq, la, gk, AT, T, pw_co (sy_co0 a1 hf) 1 false false (-1) 0, ⟨t1, t2, t3, t4, t5, rfl⟩, a3, rlN_up a4, a5, hn, by show cs' + 17 * x.tapeLength ≤ 2000 + 400 * (n + 1) + 6 * x.jN + 3 * x.hN + 3 * x.gN + x.tpN; omega, by show ss' + 70 * x.tapeLength ≤ 1177800 + 6000 * (n + 1) + 12 * x.jN + 6 * x.hN + 6 * x.gN + 2 * x.tpN + (700 * gk.sz + 2 * sumN gk.sz (fun tb => (T tb).cN) + 4 * x.bN); omega⟩
theorem rl_sp1 (h : Rl dA ad e0 n x M cs ss) (hn : n + 1 ≤ 512) (hc : cs' ≤ cs + 100) (hs : ss' ≤ ss + 5000) : Rl dA ad e0 (n + 1) (VS.s_jch (VS.s_jkept (VS.s_writes (VS.s_cutLeft (VS.s_powered x false) (-1)) (x.writes + 1)) x.jsize) false) (MS.s_fresh (MS.s_kept (MS.s_written (MS.s_cutLeft (MS.s_on (MS.s_cod M 1) false) (-1)) (M.written + 1)) M.records) false) cs' ss' := by
  obtain ⟨PS, SS, dn, bn, gq, rq, la, gk, AT, T, a1, ⟨t1, t2, t3, t4, t5, t6⟩, a3, a4, a5, a6, a7, a8⟩ := h
  obtain ⟨n1, n2, n3, ⟨n4, n5, n6, n7⟩, ⟨n8, n9, n10, n11⟩, n12⟩ := a4
  exact ⟨PS, SS, dn, bn, gq, rq, la, gk, AT, T, pw_co (sy_co1 a1) 1 false false (-1) 0, ⟨t1, t2, t3, t4, t5, rfl⟩, a3, ⟨n1, n2, n3, ⟨by show 16 * x.jsize + x.tapeLength ≤ 36 * (n + 1); omega, by show 16 * x.hsize + x.tapeLength ≤ 36 * (n + 1); omega, by show 16 * (cnt M.points M.pkd + cnt x.jsize (fun r => decide (x.jK r = 1))) + x.tapeLength ≤ 36 * (n + 1); omega, n7⟩, ⟨by show x.writes + 1 ≤ 300 * (n + 1); omega, by show M.deletes ≤ 1300 * (n + 1); omega, by show M.parcelNumber ≤ n + 1; omega, n11⟩, n12⟩, a5, hn, by show cs' + 17 * x.tapeLength ≤ 2000 + 400 * (n + 1) + 6 * x.jN + 3 * x.hN + 3 * x.gN + x.tpN; omega, by show ss' + 70 * x.tapeLength ≤ 1177800 + 6000 * (n + 1) + 12 * x.jN + 6 * x.hN + 6 * x.gN + 2 * x.tpN + (700 * gk.sz + 2 * sumN gk.sz (fun tb => (T tb).cN) + 4 * x.bN); omega⟩
end SP
section CJ
variable {p : Program} {e : Env} {s : State} {m : MethodId} {below : List Frame} {meth : Method} {c : Code} {b L : Nat} {xs : Nat → Int32} {D : va_G} {dA : Nat → ClassId} {e0 : Nat} {A : Nat → Prop} {h : Nat} {ad : Nat → Nat} {mm : Nat} {mad : Nat → Nat} {o : Nat} {n : Nat} {x : VS} {M : MS} {cs ss : Nat}

theorem call_12 (l : Launch) (hC : lS p l s m meth c b L xs D dA e0 A) (hL : L ≤ 3072) (hi : 6 * n + 6 ≤ L) (hR : Rl dA ad e0 n x M cs ss) (cont : ∀ x' M' cs' ss', Rl dA ad e0 (n + 1) x' M' cs' ss' → At9 p l e s m below meth c b D dA A h ad mm mad o 23 (6 * n + 6) x' M' cs' ss') : At9 p l e s m below meth c b D dA A h ad mm mad o (tg9 12) (6 * n) x M cs ss := by
  intro og H locs ls hP hD hS hl
  obtain ⟨rm1, rm2⟩ := rl_room (rl_skip hR (by omega))
  obtain ⟨PS, SS, dn, bn, gq, rq, la, gk, AT, T, co, ⟨⟨t1, t2, t3, t4⟩, ⟨t5, t6, t7⟩, ⟨t8, t9⟩, t10, t11, t12⟩, ⟨sr1, sr2, sr3, sr4, sr5⟩, nr, ⟨⟨r1, r2, r3, r4⟩, r5, ⟨r6, r7⟩, ⟨r8, r9⟩, r10⟩, rr⟩ := id hR
  obtain ⟨cp, cb, ⟨se1, se2⟩, ⟨g1, g2, g3, g4, g5, g6, g7, g8, g9, g10, g11⟩, cj, ck, cc⟩ := id co
  obtain ⟨⟨n1, n2, n3, n4⟩, ⟨n5, n6, n7⟩, ⟨n8, n9, n10, n11, n12, n13, n14, n15⟩, ⟨n16, n17, n18, n19⟩, ⟨n20, n21, n22, n23⟩, n24⟩ := id nr
  have ehz : M.horizon = x.nhor := cp.1.2.2.1
  have z0 : (0 : Int64).toInt = 0 := by decide
  cases hp : x.powered with
  | false =>
    have hr2 := rl_up (cs' := cs + 1 + 0 + 0) (ss' := ss + 6 + 0 + 0) hR (by omega) 1 (by omega) (by omega)
    obtain ⟨rn1, rn2⟩ := rl_room hr2
    have W1 := fun sz => k8_retain_1 l D dA sz h ad o og x ((((xs (6 * n + 1)).toInt64) <<< ((32 : Int32).toInt64 &&& 63)) ||| (((xs (6 * n + 2)).toInt64) &&& 4294967295)) (fun u => u = x) _ _ _ _ (nf_x0 (fun sz => v_retain_x l (lS_tr hC) D dA sz h ad x ((((xs (6 * n + 1)).toInt64) <<< ((32 : Int32).toInt64 &&& 63)) ||| (((xs (6 * n + 2)).toInt64) &&& 4294967295)) hp) rfl (fun _ _ _ q => q))
    have M1 := fun sz => k_retain_1 l D dA sz mm mad M ((((xs (6 * n + 1)).toInt64) <<< ((32 : Int32).toInt64 &&& 63)) ||| (((xs (6 * n + 2)).toInt64) &&& 4294967295)) (t12.trans hp)
    exact l9_12_x l hC (k9 := 1) hi hL ⟨by omega, by omega, by omega, by omega⟩ ⟨by omega, by omega⟩ rfl k_n1 W1 M1 hP hD hS hl (fun u H1 locs1 ls1 hf hP hD hS hl => cont u _ _ _ (by rw [show u = x from hf]; exact hr2) og H1 locs1 ls1 hP hD hS hl)
  | true =>
    have on : M.on = true := t12.trans hp
    by_cases ht : isTm ((((xs (6 * n + 1)).toInt64) <<< ((32 : Int32).toInt64 &&& 63)) ||| (((xs (6 * n + 2)).toInt64) &&& 4294967295)) = false ∨ ((((xs (6 * n + 1)).toInt64) <<< ((32 : Int32).toInt64 &&& 63)) ||| (((xs (6 * n + 2)).toInt64) &&& 4294967295)) < x.nhor
    · have hm0 : ((((xs (6 * n + 1)).toInt64) <<< ((32 : Int32).toInt64 &&& 63)) ||| (((xs (6 * n + 2)).toInt64) &&& 4294967295)) < M.horizon ∨ 1099511627775 < ((((xs (6 * n + 1)).toInt64) <<< ((32 : Int32).toInt64 &&& 63)) ||| (((xs (6 * n + 2)).toInt64) &&& 4294967295)) := by
        rw [ehz]
        rcases ht with e | e
        · by_cases c1 : ((((xs (6 * n + 1)).toInt64) <<< ((32 : Int32).toInt64 &&& 63)) ||| (((xs (6 * n + 2)).toInt64) &&& 4294967295)) < 0
          · refine Or.inl ?_
            have nh := r10.2
            rw [Int64.lt_iff_toInt_lt] at c1 nh ⊢
            omega
          · by_cases c2 : 1099511627775 < ((((xs (6 * n + 1)).toInt64) <<< ((32 : Int32).toInt64 &&& 63)) ||| (((xs (6 * n + 2)).toInt64) &&& 4294967295))
            · exact Or.inr c2
            · refine absurd e ?_
              unfold isTm
              rw [decide_eq_false c1, decide_eq_false c2]
              decide
        · exact Or.inl e
      have hr2 := rl_up (cs' := cs + 1 + 0 + 0) (ss' := ss + 6 + 0 + 0) hR (by omega) 2 (by omega) (by omega)
      obtain ⟨rn1, rn2⟩ := rl_room hr2
      have W1 := fun sz => k8_retain_2 l D dA sz h ad o og x ((((xs (6 * n + 1)).toInt64) <<< ((32 : Int32).toInt64 &&& 63)) ||| (((xs (6 * n + 2)).toInt64) &&& 4294967295)) (fun u => u = x) _ _ _ _ (nf_x0 (fun sz => v_retain_y l (lS_tr hC) D dA sz h ad x ((((xs (6 * n + 1)).toInt64) <<< ((32 : Int32).toInt64 &&& 63)) ||| (((xs (6 * n + 2)).toInt64) &&& 4294967295)) hp ht) rfl (fun _ _ _ q => q))
      have M1 := fun sz => k_retain_2 l D dA sz mm mad M ((((xs (6 * n + 1)).toInt64) <<< ((32 : Int32).toInt64 &&& 63)) ||| (((xs (6 * n + 2)).toInt64) &&& 4294967295)) on hm0
      exact l9_12_x l hC (k9 := 2) hi hL ⟨by omega, by omega, by omega, by omega⟩ ⟨by omega, by omega⟩ rfl k_n2 W1 M1 hP hD hS hl (fun u H1 locs1 ls1 hf hP hD hS hl => cont u _ _ _ (by rw [show u = x from hf]; exact hr2) og H1 locs1 ls1 hP hD hS hl)
    · obtain ⟨u1, u2⟩ := not_or.mp ht
      have tm : isTm ((((xs (6 * n + 1)).toInt64) <<< ((32 : Int32).toInt64 &&& 63)) ||| (((xs (6 * n + 2)).toInt64) &&& 4294967295)) = true := by
        cases e : isTm ((((xs (6 * n + 1)).toInt64) <<< ((32 : Int32).toInt64 &&& 63)) ||| (((xs (6 * n + 2)).toInt64) &&& 4294967295)) with
        | true => rfl
        | false => exact absurd e u1
      obtain ⟨i1, i2⟩ := isTm_i tm
      have k3 : M.horizon ≤ ((((xs (6 * n + 1)).toInt64) <<< ((32 : Int32).toInt64 &&& 63)) ||| (((xs (6 * n + 2)).toInt64) &&& 4294967295)) := by rw [ehz]; exact Int64.not_lt.mp u2
      have k4 : ((((xs (6 * n + 1)).toInt64) <<< ((32 : Int32).toInt64 &&& 63)) ||| (((xs (6 * n + 2)).toInt64) &&& 4294967295)) ≤ 1099511627775 := Int64.not_lt.mp i2
      by_cases he : ((((xs (6 * n + 1)).toInt64) <<< ((32 : Int32).toInt64 &&& 63)) ||| (((xs (6 * n + 2)).toInt64) &&& 4294967295)) = x.nhor
      · have hr2 := rl_up (cs' := cs + 0 + 0 + 0) (ss' := ss + 0 + 0 + 0) hR (by omega) 0 (by omega) (by omega)
        have W1 := fun sz => k8_retain l D dA sz h ad o og x ((((xs (6 * n + 1)).toInt64) <<< ((32 : Int32).toInt64 &&& 63)) ||| (((xs (6 * n + 2)).toInt64) &&& 4294967295)) 0 (fun u => u = x) _ _ _ _ (nf_i (fun sz => v_retain_0 l D dA sz h ad x ((((xs (6 * n + 1)).toInt64) <<< ((32 : Int32).toInt64 &&& 63)) ||| (((xs (6 * n + 2)).toInt64) &&& 4294967295)) hp tm he) (fun r u q => ⟨q, rfl⟩) (fun _ _ _ q => q))
        have M1 := fun sz => k_retain_n l D dA sz mm mad M ((((xs (6 * n + 1)).toInt64) <<< ((32 : Int32).toInt64 &&& 63)) ||| (((xs (6 * n + 2)).toInt64) &&& 4294967295)) on k3 k4 (by rw [ehz]; exact he)
        exact l9_12 l hC hi hL ⟨by omega, by omega, by omega, by omega⟩ ⟨by omega, by omega⟩ rfl rfl W1 M1 hP hD hS hl (fun u H1 locs1 ls1 hf hP hD hS hl => cont u _ _ _ (by rw [show u = x from hf]; exact hr2) _ H1 locs1 ls1 hP hD hS hl)
      · have hlt : x.nhor < ((((xs (6 * n + 1)).toInt64) <<< ((32 : Int32).toInt64 &&& 63)) ||| (((xs (6 * n + 2)).toInt64) &&& 4294967295)) := by
          have c1 := u2
          have c2 : ¬ (((((xs (6 * n + 1)).toInt64) <<< ((32 : Int32).toInt64 &&& 63)) ||| (((xs (6 * n + 2)).toInt64) &&& 4294967295))).toInt = x.nhor.toInt := fun z => he (Int64.toInt_inj.mp z)
          rw [Int64.lt_iff_toInt_lt] at c1 ⊢
          omega
        have k5 : ¬ ((((xs (6 * n + 1)).toInt64) <<< ((32 : Int32).toInt64 &&& 63)) ||| (((xs (6 * n + 2)).toInt64) &&& 4294967295)) = M.horizon := by rw [ehz]; exact he
        have hso : ∀ q : Nat, q < x.nsc → x.nsO q < 2 ^ 31 := fun q hq => by
          have := nsO_lt cj ck hq
          omega
        have rlt : rlT M x := ⟨⟨t1, t2, t3, t4⟩, ⟨t5, t6, t7⟩, ⟨t8, t9⟩, t10, t11, t12⟩
        have rls : rlS dA SS M x := ⟨sr1, sr2, sr3, sr4, sr5⟩
        have rla : rlA dA ad e0 M x gq rq la gk AT T := ⟨⟨r1, r2, r3, r4⟩, r5, ⟨r6, r7⟩, ⟨r8, r9⟩, r10⟩
        obtain ⟨y1, y2, y3⟩ := sy_eq (m := M) (x := x) ⟨g1, g2, g3, g4, g5, g6, g7, g8, g9, g10, g11⟩
        have fin : (x.jch = false ∨ ¬ x.cutLeft = 0) → ¬ x.wjC = 0 → W p l e room_1 s m #[Value.ref b] below meth c H locs cs ss (lw_Z below #[Value.ref b] s) (F0 m (tg9 12) ls []) := by
          intro hw hc
          have hc4 : ¬ x.wjS.cutLeft = 0 := by
            have e : x.wjS.cutLeft = x.wjC := by
              unfold VS.wjS VS.wjC
              split
              · rfl
              · rfl
            rw [e]
            exact hc
          have hr2 := rl_rt co rlt rls nr rla rr (by omega) i1 hlt
          have W1 := fun sz => k8_retain l D dA sz h ad o og x ((((xs (6 * n + 1)).toInt64) <<< ((32 : Int32).toInt64 &&& 63)) ||| (((xs (6 * n + 2)).toInt64) &&& 4294967295)) (nI (sumN x.npc (x.sbN PS (((((xs (6 * n + 1)).toInt64) <<< ((32 : Int32).toInt64 &&& 63)) ||| (((xs (6 * n + 2)).toInt64) &&& 4294967295)) - 1)) + cnt x.hsize (x.hBl ((((xs (6 * n + 1)).toInt64) <<< ((32 : Int32).toInt64 &&& 63)) ||| (((xs (6 * n + 2)).toInt64) &&& 4294967295))))) (fun u => u = ((x.wjS.wb1).mhS PS ((((xs (6 * n + 1)).toInt64) <<< ((32 : Int32).toInt64 &&& 63)) ||| (((xs (6 * n + 2)).toInt64) &&& 4294967295))).kmS (tdT (mhC PS ((((xs (6 * n + 1)).toInt64) <<< ((32 : Int32).toInt64 &&& 63)) ||| (((xs (6 * n + 2)).toInt64) &&& 4294967295))) PS x.npc)) _ _ _ _ (nf_i (w := fun u => u) (fun sz => v_retain_1 l D dA sz h ad x PS ((((xs (6 * n + 1)).toInt64) <<< ((32 : Int32).toInt64 &&& 63)) ||| (((xs (6 * n + 2)).toInt64) &&& 4294967295)) hp tm hlt n4 n2 n3 hso n11 (by omega) hw hc4) (fun r u q => q) (fun _ _ _ q => q))
          have M1 := nm_i (M1 := M.rtS ((((xs (6 * n + 1)).toInt64) <<< ((32 : Int32).toInt64 &&& 63)) ||| (((xs (6 * n + 2)).toInt64) &&& 4294967295))) (b := nI (cnt M.points (M.rtC ((((xs (6 * n + 1)).toInt64) <<< ((32 : Int32).toInt64 &&& 63)) ||| (((xs (6 * n + 2)).toInt64) &&& 4294967295))))) (Pc2 := fun sz => pC D dA [.ref mm, .long ((((xs (6 * n + 1)).toInt64) <<< ((32 : Int32).toInt64 &&& 63)) ||| (((xs (6 * n + 2)).toInt64) &&& 4294967295))] (MW dA mm mad M) sz) (fun sz => k_retain_0 l D dA sz mm mad M ((((xs (6 * n + 1)).toInt64) <<< ((32 : Int32).toInt64 &&& 63)) ||| (((xs (6 * n + 2)).toInt64) &&& 4294967295)) on k3 k4 k5 (by rw [g5, g6]; exact hw) (by rw [y1]; exact hc) (by omega) (by rw [cp.1.2.1]; omega)) (fun r u q => ⟨q.1, q.2⟩) (fun _ _ _ q => q)
          exact l9_12 l hC hi hL ⟨by omega, by omega, by omega, by omega⟩ ⟨by omega, by omega⟩ (rt_cod M _) (by rw [rt_cnt cp i1]) W1 M1 hP hD hS hl (fun u H1 locs1 ls1 hf hP hD hS hl => cont u _ _ _ (by rw [show u = _ from hf]; exact hr2) _ H1 locs1 ls1 hP hD hS hl)
        cases hj : x.jch with
        | false =>
          have eC : x.wjC = x.cutLeft := if_neg (by rw [hj]; decide)
          have eW : M.syWr = M.written := by
            rw [y2, g7]
            exact if_neg (by rw [hj]; decide)
          by_cases hc : x.cutLeft = 0
          · have hr2 := rl_sp0 (cs' := cs + 1 + 0 + 0) (ss' := ss + 6 + 0 + 0) hR (by omega) hj (by omega) (by omega)
            obtain ⟨rn1, rn2⟩ := rl_room hr2
            have W1 := fun sz => k8_retain_1 l D dA sz h ad o og x ((((xs (6 * n + 1)).toInt64) <<< ((32 : Int32).toInt64 &&& 63)) ||| (((xs (6 * n + 2)).toInt64) &&& 4294967295)) (fun u => u = VS.s_cutLeft (VS.s_powered x false) (-1)) _ _ _ _ (nf_x0 (fun sz => v_retain_j l (lS_tr hC) D dA sz h ad x PS ((((xs (6 * n + 1)).toInt64) <<< ((32 : Int32).toInt64 &&& 63)) ||| (((xs (6 * n + 2)).toInt64) &&& 4294967295)) hp tm hlt n4 n2 n3 hso n11 (by omega) hj hc) rfl (fun _ _ _ q => q))
            have M1 := nm_i (M1 := MS.s_fresh (MS.s_kept (MS.s_written (MS.s_cutLeft (MS.s_on (MS.s_cod M 1) false) (-1)) M.written) M.records) false) (b := 0) (Pc2 := fun sz => pC D dA [.ref mm, .long ((((xs (6 * n + 1)).toInt64) <<< ((32 : Int32).toInt64 &&& 63)) ||| (((xs (6 * n + 2)).toInt64) &&& 4294967295))] (MW dA mm mad M) sz) (fun sz => k_retain_5b l D dA sz mm mad M ((((xs (6 * n + 1)).toInt64) <<< ((32 : Int32).toInt64 &&& 63)) ||| (((xs (6 * n + 2)).toInt64) &&& 4294967295)) on k3 k4 k5 (Or.inl (g5.trans hj)) (by rw [y1, eC]; exact hc)) (fun r u q => ⟨q, by rw [eW]⟩) (fun _ _ _ q => q)
            exact l9_12_x l hC (k9 := 1) hi hL ⟨by omega, by omega, by omega, by omega⟩ ⟨by omega, by omega⟩ rfl k_n1 W1 M1 hP hD hS hl (fun u H1 locs1 ls1 hf hP hD hS hl => cont u _ _ _ (by rw [show u = _ from hf]; exact hr2) og H1 locs1 ls1 hP hD hS hl)
          · exact fin (Or.inl hj) (by rw [eC]; exact hc)
        | true =>
          have eC : x.wjC = cutF x.cutLeft := if_pos hj
          have eW : M.syWr = M.written + 1 := by
            rw [y2, g7]
            exact if_pos hj
          by_cases hc : x.cutLeft = 0
          · have hr2 := rl_pw (cs' := cs + 1 + 0 + 0) (ss' := ss + 6 + 0 + 0) hR (by omega) 1 (by omega) (by omega)
            obtain ⟨rn1, rn2⟩ := rl_room hr2
            have W1 := fun sz => k8_retain_1 l D dA sz h ad o og x ((((xs (6 * n + 1)).toInt64) <<< ((32 : Int32).toInt64 &&& 63)) ||| (((xs (6 * n + 2)).toInt64) &&& 4294967295)) (fun u => u = VS.s_cutLeft (VS.s_powered x false) (-1)) _ _ _ _ (nf_x0 (fun sz => v_retain_i l (lS_tr hC) D dA sz h ad x PS ((((xs (6 * n + 1)).toInt64) <<< ((32 : Int32).toInt64 &&& 63)) ||| (((xs (6 * n + 2)).toInt64) &&& 4294967295)) hp tm hlt n4 n2 n3 hso n11 (by omega) hj hc) rfl (fun _ _ _ q => q))
            have M1 := fun sz => k_retain_5a l D dA sz mm mad M ((((xs (6 * n + 1)).toInt64) <<< ((32 : Int32).toInt64 &&& 63)) ||| (((xs (6 * n + 2)).toInt64) &&& 4294967295)) on k3 k4 k5 (g5.trans hj) (g6.trans hc)
            exact l9_12_x l hC (k9 := 1) hi hL ⟨by omega, by omega, by omega, by omega⟩ ⟨by omega, by omega⟩ rfl k_n1 W1 M1 hP hD hS hl (fun u H1 locs1 ls1 hf hP hD hS hl => cont u _ _ _ (by rw [show u = _ from hf]; exact hr2) og H1 locs1 ls1 hP hD hS hl)
          · by_cases hc3 : cutF x.cutLeft = 0
            · have hr2 := rl_sp1 (cs' := cs + 1 + 0 + 0) (ss' := ss + 6 + 0 + 0) hR (by omega) (by omega) (by omega)
              obtain ⟨rn1, rn2⟩ := rl_room hr2
              have W1 := fun sz => k8_retain_1 l D dA sz h ad o og x ((((xs (6 * n + 1)).toInt64) <<< ((32 : Int32).toInt64 &&& 63)) ||| (((xs (6 * n + 2)).toInt64) &&& 4294967295)) (fun u => u = VS.s_jch (VS.s_jkept (VS.s_writes (VS.s_cutLeft (VS.s_powered x false) (-1)) (x.writes + 1)) x.jsize) false) _ _ _ _ (nf_x0 (fun sz => v_retain_k l (lS_tr hC) D dA sz h ad x PS ((((xs (6 * n + 1)).toInt64) <<< ((32 : Int32).toInt64 &&& 63)) ||| (((xs (6 * n + 2)).toInt64) &&& 4294967295)) hp tm hlt n4 n2 n3 hso n11 (by omega) hj hc hc3) rfl (fun _ _ _ q => q))
              have M1 := nm_i (M1 := MS.s_fresh (MS.s_kept (MS.s_written (MS.s_cutLeft (MS.s_on (MS.s_cod M 1) false) (-1)) (M.written + 1)) M.records) false) (b := 0) (Pc2 := fun sz => pC D dA [.ref mm, .long ((((xs (6 * n + 1)).toInt64) <<< ((32 : Int32).toInt64 &&& 63)) ||| (((xs (6 * n + 2)).toInt64) &&& 4294967295))] (MW dA mm mad M) sz) (fun sz => k_retain_5b l D dA sz mm mad M ((((xs (6 * n + 1)).toInt64) <<< ((32 : Int32).toInt64 &&& 63)) ||| (((xs (6 * n + 2)).toInt64) &&& 4294967295)) on k3 k4 k5 (Or.inr (by rw [g6]; exact hc)) (by rw [y1, eC]; exact hc3)) (fun r u q => ⟨q, by rw [eW]⟩) (fun _ _ _ q => q)
              exact l9_12_x l hC (k9 := 1) hi hL ⟨by omega, by omega, by omega, by omega⟩ ⟨by omega, by omega⟩ rfl k_n1 W1 M1 hP hD hS hl (fun u H1 locs1 ls1 hf hP hD hS hl => cont u _ _ _ (by rw [show u = _ from hf]; exact hr2) og H1 locs1 ls1 hP hD hS hl)
            · exact fin (Or.inr hc) (by rw [eC]; exact hc3)

end CJ
