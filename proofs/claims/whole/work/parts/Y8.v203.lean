/-! What is written is kept: the call. -/
section SC
variable {dA : Nat → ClassId} {ad : Nat → Nat} {e0 n : Nat} {x : VS} {M : MS} {cs ss cs' ss' : Nat}
/-- the power fails -/
theorem rl_pw (h : Rl dA ad e0 n x M cs ss) (hn : n + 1 ≤ 512) (cd : Int32) (hc : cs' ≤ cs + 100) (hs : ss' ≤ ss + 5000) : Rl dA ad e0 (n + 1) (VS.s_cutLeft (VS.s_powered x false) (-1)) (MS.s_cutLeft (MS.s_on (MS.s_cod M cd) false) (-1)) cs' ss' := by
  obtain ⟨PS, SS, dn, bn, gq, rq, la, gk, AT, T, a1, ⟨t1, t2, t3, t4, t5, t6⟩, a3, a4, a5, a6, a7, a8⟩ := h
  exact ⟨PS, SS, dn, bn, gq, rq, la, gk, AT, T, pw_co a1 cd false false (-1) 0, ⟨t1, t2, t3, t4, t5, rfl⟩, a3, rlN_up a4, a5, hn, by show cs' + 17 * x.tapeLength ≤ 2000 + 400 * (n + 1) + 6 * x.jN + 3 * x.hN + 3 * x.gN + x.tpN; omega, by show ss' + 70 * x.tapeLength ≤ 1177800 + 6000 * (n + 1) + 12 * x.jN + 6 * x.hN + 6 * x.gN + 2 * x.tpN + (700 * gk.sz + 2 * sumN gk.sz (fun tb => (T tb).cN) + 4 * x.bN); omega⟩
theorem rl_sy0 (h : Rl dA ad e0 n x M cs ss) (hn : n + 1 ≤ 512) (hf : x.jch = false) : Rl dA ad e0 (n + 1) x (MS.s_fresh (MS.s_kept (MS.s_cod M 0) M.records) false) cs ss := by
  obtain ⟨PS, SS, dn, bn, gq, rq, la, gk, AT, T, a1, a2, a3, a4, a5, a6, a7, a8⟩ := h
  exact ⟨PS, SS, dn, bn, gq, rq, la, gk, AT, T, sy_co0 a1 hf, a2, a3, rlN_up a4, a5, hn, by omega, by omega⟩
theorem rl_sy1 (h : Rl dA ad e0 n x M cs ss) (hn : n + 1 ≤ 512) : Rl dA ad e0 (n + 1) (VS.s_jch (VS.s_jkept (VS.s_writes (VS.s_cutLeft x (cutF x.cutLeft)) (x.writes + 1)) x.jsize) false) (MS.s_fresh (MS.s_kept (MS.s_written (MS.s_cutLeft (MS.s_cod M 0) (cutF M.cutLeft)) (M.written + 1)) M.records) false) cs ss := by
  obtain ⟨PS, SS, dn, bn, gq, rq, la, gk, AT, T, a1, a2, a3, a4, a5, a6, a7, a8⟩ := h
  obtain ⟨n1, n2, n3, ⟨n4, n5, n6, n7⟩, ⟨n8, n9, n10, n11⟩, n12⟩ := a4
  exact ⟨PS, SS, dn, bn, gq, rq, la, gk, AT, T, sy_co1 a1, a2, a3, ⟨n1, n2, n3, ⟨by show 16 * x.jsize + x.tapeLength ≤ 36 * (n + 1); omega, by show 16 * x.hsize + x.tapeLength ≤ 36 * (n + 1); omega, by show 16 * (cnt M.points M.pkd + cnt x.jsize (fun r => decide (x.jK r = 1))) + x.tapeLength ≤ 36 * (n + 1); omega, n7⟩, ⟨by show x.writes + 1 ≤ 300 * (n + 1); omega, by show M.deletes ≤ 1300 * (n + 1); omega, by show M.parcelNumber ≤ n + 1; omega, n11⟩, n12⟩, a5, hn, by show cs + 17 * x.tapeLength ≤ 2000 + 400 * (n + 1) + 6 * x.jN + 3 * x.hN + 3 * x.gN + x.tpN; omega, by show ss + 70 * x.tapeLength ≤ 1177800 + 6000 * (n + 1) + 12 * x.jN + 6 * x.hN + 6 * x.gN + 2 * x.tpN + (700 * gk.sz + 2 * sumN gk.sz (fun tb => (T tb).cN) + 4 * x.bN); omega⟩
end SC
section CF
variable {p : Program} {e : Env} {s : State} {m : MethodId} {below : List Frame} {meth : Method} {c : Code} {b L : Nat} {xs : Nat → Int32} {D : va_G} {dA : Nat → ClassId} {e0 : Nat} {A : Nat → Prop} {h : Nat} {ad : Nat → Nat} {mm : Nat} {mad : Nat → Nat} {o : Nat} {n : Nat} {x : VS} {M : MS} {cs ss : Nat}

theorem call_9 (l : Launch) (hC : lS p l s m meth c b L xs D dA e0 A) (hL : L ≤ 3072) (hi : 6 * n + 6 ≤ L) (hR : Rl dA ad e0 n x M cs ss) (cont : ∀ x' M' cs' ss', Rl dA ad e0 (n + 1) x' M' cs' ss' → At9 p l e s m below meth c b D dA A h ad mm mad o 23 (6 * n + 6) x' M' cs' ss') : At9 p l e s m below meth c b D dA A h ad mm mad o (tg9 9) (6 * n) x M cs ss := by
  intro og H locs ls hP hD hS hl
  obtain ⟨rm1, rm2⟩ := rl_room (rl_skip hR (by omega))
  obtain ⟨PS, SS, dn, bn, gq, rq, la, gk, AT, T, co, ⟨⟨t1, t2, t3, t4⟩, ⟨t5, t6, t7⟩, ⟨t8, t9⟩, t10, t11, t12⟩, ⟨sr1, sr2, sr3, sr4, sr5⟩, nr, ⟨⟨r1, r2, r3, r4⟩, r5, ⟨r6, r7⟩, ⟨r8, r9⟩, r10⟩, rr⟩ := id hR
  obtain ⟨cp, cb, ⟨se1, se2⟩, ⟨g1, g2, g3, g4, g5, g6, g7, g8, g9, g10, g11⟩, cj, ck, cc⟩ := id co
  obtain ⟨⟨n1, n2, n3, n4⟩, ⟨n5, n6, n7⟩, ⟨n8, n9, n10, n11, n12, n13, n14, n15⟩, ⟨n16, n17, n18, n19⟩, ⟨n20, n21, n22, n23⟩, n24⟩ := id nr
  cases hp : x.powered with
  | false =>
    have hr2 := rl_up (cs' := cs + 1 + 0 + 0) (ss' := ss + 6 + 0 + 0) hR (by omega) 1 (by omega) (by omega)
    obtain ⟨rn1, rn2⟩ := rl_room hr2
    have W1 := fun sz => k8_sync_1 l D dA sz h ad o og x (fun u => u = x) _ _ _ _ (nf_x0 (fun sz => v_sync_x l (lS_tr hC) D dA sz h ad x hp) rfl (fun _ _ _ q => q))
    have M1 := fun sz => k_sync_1 l D dA sz mm mad M (t12.trans hp)
    exact l9_9_x l hC (k9 := 1) hi hL ⟨by omega, by omega, by omega, by omega⟩ ⟨by omega, by omega⟩ rfl k_n1 W1 M1 hP hD hS hl (fun u H1 locs1 ls1 hf hP hD hS hl => cont u _ _ _ (by rw [show u = x from hf]; exact hr2) og H1 locs1 ls1 hP hD hS hl)
  | true =>
    have on : M.on = true := t12.trans hp
    cases hf : x.jch with
    | false =>
      have hr2 := rl_sy0 hR (by omega) hf
      have W1 := fun sz => k8_sync_b0 l D dA sz h ad o og x (fun u => u = x) _ _ _ _ (nf_i (fun sz => v_sync_0 l D dA sz h ad x hp hf) (fun r u q => ⟨q, rfl⟩) (fun _ _ _ q => q))
      have M1 := nm_i (M1 := MS.s_fresh (MS.s_kept (MS.s_cod M 0) M.records) false) (b := 0) (Pc2 := fun sz => pC D dA [.ref mm] (MW dA mm mad M) sz) (fun sz => k_sync_0 l D dA sz mm mad M on (g5.trans hf)) (fun r u q => ⟨q, rfl⟩) (fun _ _ _ q => q)
      exact l9_9_0 l hC hi hL ⟨by omega, by omega, by omega, by omega⟩ ⟨by omega, by omega⟩ rfl rfl W1 M1 hP hD hS hl (fun u H1 locs1 ls1 hf hP hD hS hl => cont u _ _ _ (by rw [show u = x from hf]; exact hr2) _ H1 locs1 ls1 hP hD hS hl)
    | true =>
      by_cases hc : x.cutLeft = 0
      · have hr2 := rl_pw (cs' := cs + 1 + 0 + 0) (ss' := ss + 6 + 0 + 0) hR (by omega) 1 (by omega) (by omega)
        obtain ⟨rn1, rn2⟩ := rl_room hr2
        have W1 := fun sz => k8_sync_1 l D dA sz h ad o og x (fun u => u = VS.s_cutLeft (VS.s_powered x false) (-1)) _ _ _ _ (nf_x0 (fun sz => v_sync_c l (lS_tr hC) D dA sz h ad x hp hf hc) rfl (fun _ _ _ q => q))
        have M1 := fun sz => k_sync_5 l D dA sz mm mad M on (g5.trans hf) (g6.trans hc)
        exact l9_9_x l hC (k9 := 1) hi hL ⟨by omega, by omega, by omega, by omega⟩ ⟨by omega, by omega⟩ rfl k_n1 W1 M1 hP hD hS hl (fun u H1 locs1 ls1 hf hP hD hS hl => cont u _ _ _ (by rw [show u = _ from hf]; exact hr2) og H1 locs1 ls1 hP hD hS hl)
      · have hr2 := rl_sy1 hR (by omega)
        have W1 := fun sz => k8_sync_b1 l D dA sz h ad o og x (fun u => u = VS.s_jch (VS.s_jkept (VS.s_writes (VS.s_cutLeft x (cutF x.cutLeft)) (x.writes + 1)) x.jsize) false) _ _ _ _ (nf_i (fun sz => v_sync_1 l D dA sz h ad x hp hf hc) (fun r u q => ⟨q, rfl⟩) (fun _ _ _ q => q))
        have M1 := nm_i (M1 := MS.s_fresh (MS.s_kept (MS.s_written (MS.s_cutLeft (MS.s_cod M 0) (cutF M.cutLeft)) (M.written + 1)) M.records) false) (b := 1) (Pc2 := fun sz => pC D dA [.ref mm] (MW dA mm mad M) sz) (fun sz => k_sync_t l D dA sz mm mad M on (g5.trans hf) (by rw [g6]; exact hc)) (fun r u q => ⟨q, rfl⟩) (fun _ _ _ q => q)
        exact l9_9_1 l hC hi hL ⟨by omega, by omega, by omega, by omega⟩ ⟨by omega, by omega⟩ rfl rfl W1 M1 hP hD hS hl (fun u H1 locs1 ls1 hf hP hD hS hl => cont u _ _ _ (by rw [show u = _ from hf]; exact hr2) _ H1 locs1 ls1 hP hD hS hl)

end CF
