/-! The table shown: the calls. -/
theorem sk_all {dA : Nat → ClassId} {ad : Nat → Nat} {x : VS} {Q rq : va_W} {la : Nat → Nat} {g : LI} {AT : Nat → Nat → Nat} {T : Nat → TB} (h : skP dA ad [] (VS.s_ll x rq) la g AT T) (e : x.ll = Q ++ rq) : skP dA ad Q x la g AT T := by
  obtain ⟨k1, k2⟩ := h
  refine ⟨?_, k2⟩
  rw [e]
  have k1 : rq.Perm (LiW dA la g ++ (tbs dA AT T g.sz ++ [])) := k1
  rw [List.append_nil] at k1
  refine (List.Perm.append_left Q k1).trans ?_
  refine List.perm_append_comm.trans ?_
  rw [List.append_assoc]
theorem i32_n0 {z : Int32} (h1 : ¬ z < 0) : ∃ j : Nat, j < 2 ^ 31 ∧ z = nI j := by
  have e0 : (0 : Int32).toInt = 0 := by decide
  rw [Int32.lt_iff_toInt_lt, e0] at h1
  have h2 := z.toInt_lt
  have hlt : z.toInt.toNat < 2 ^ 31 := by omega
  refine ⟨z.toInt.toNat, hlt, ?_⟩
  apply Int32.toInt_inj.mp
  rw [nI_toInt hlt]
  omega
theorem nI_le_r {a r : Nat} (ha : a < 2 ^ 31) (hr : r < 2 ^ 31) (h : nI a ≤ nI r) : a ≤ r := by
  rw [Int32.le_iff_toInt_le, nI_toInt ha, nI_toInt hr] at h
  omega
section CD
variable {p : Program} {e : Env} {s : State} {m : MethodId} {below : List Frame} {meth : Method} {c : Code} {b L : Nat} {xs : Nat → Int32} {D : va_G} {dA : Nat → ClassId} {e0 : Nat} {A : Nat → Prop} {h : Nat} {ad : Nat → Nat} {mm : Nat} {mad : Nat → Nat} {o : Nat} {n : Nat} {x : VS} {M : MS} {cs ss : Nat}
theorem call_14 (l : Launch) (hC : lS p l s m meth c b L xs D dA e0 A) (hL : L ≤ 3072) (hi : 6 * n + 6 ≤ L) (hR : Rl dA ad e0 n x M cs ss) (cont : ∀ x' M' cs' ss', Rl dA ad e0 (n + 1) x' M' cs' ss' → At9 p l e s m below meth c b D dA A h ad mm mad o 23 (6 * n + 6) x' M' cs' ss') : At9 p l e s m below meth c b D dA A h ad mm mad o (tg9 14) (6 * n) x M cs ss := by
  intro og H locs ls hP hD hS hl
  obtain ⟨rm1, rm2⟩ := rl_room (rl_skip hR (by omega))
  obtain ⟨PS, SS, dn, bn, gq, rq, la, gk, AT, T, co, ⟨⟨t1, t2, t3, t4⟩, ⟨t5, t6, t7⟩, ⟨t8, t9⟩, t10, t11, t12⟩, ⟨sr1, sr2, sr3, sr4, sr5⟩, nr, ⟨⟨r1, r2, r3, r4⟩, r5, ⟨r6, r7⟩, ⟨r8, r9⟩, r10⟩, rr⟩ := id hR
  obtain ⟨cp, cb, ⟨se1, se2⟩, ⟨g1, g2, g3, g4, g5, g6, g7, g8, g9, g10, g11⟩, cj, ck, cc⟩ := id co
  obtain ⟨⟨n1, n2, n3, n4⟩, ⟨n5, n6, n7⟩, ⟨n8, n9, n10, n11, n12, n13, n14, n15⟩, ⟨n16, n17, n18, n19⟩, ⟨n20, n21, n22, n23⟩, n24⟩ := id nr
  cases ht : x.hasTable with
  | false =>
    have hr2 := rl_up (cs' := cs + 0 + 0) (ss' := ss + 0 + 0) hR (by omega) 0 (by omega) (by omega)
    have W1 := nf_i (v := -1) (F := fun u => u = x) (fun sz => v_names_0 l D dA sz h ad x ht) (fun r u q => ⟨q, rfl⟩) (fun _ _ _ q => q)
    have M1 := fun sz => k_names_0 l D dA sz mm mad M (r8.trans ht)
    exact l9_14 l hC hi hL ⟨by omega, by omega, by omega, by omega⟩ ⟨by omega, by omega⟩ W1 M1 hP hD hS hl (fun u H1 locs1 ls1 hf hP hD hS hl => cont u _ _ _ (by rw [show u = x from hf]; exact hr2) og H1 locs1 ls1 hP hD hS hl)
  | true =>
    obtain ⟨NL, RS, ⟨⟨w1, w2, w3, w4, w5, w6⟩, w7, w8⟩, w9⟩ := r9 ht
    have hk := sk_all r3 r1
    have hr2 := rl_up (cs' := cs + 0 + 0) (ss' := ss + 0 + 0) hR (by omega) 0 (by omega) (by omega)
    have W1 := nf_i (v := nI M.names) (F := fun u => u = x) (fun sz => v_names_1W l D dA sz h ad x la gk AT T _ hk r4 ht) (fun r u q => ⟨by rw [w1]; exact q, rfl⟩) (fun _ _ _ q => q)
    have M1 := fun sz => k_names l D dA sz mm mad M (r8.trans ht)
    exact l9_14 l hC hi hL ⟨by omega, by omega, by omega, by omega⟩ ⟨by omega, by omega⟩ W1 M1 hP hD hS hl (fun u H1 locs1 ls1 hf hP hD hS hl => cont u _ _ _ (by rw [show u = x from hf]; exact hr2) og H1 locs1 ls1 hP hD hS hl)
theorem call_16 (l : Launch) (hC : lS p l s m meth c b L xs D dA e0 A) (hL : L ≤ 3072) (hi : 6 * n + 6 ≤ L) (hR : Rl dA ad e0 n x M cs ss) (cont : ∀ x' M' cs' ss', Rl dA ad e0 (n + 1) x' M' cs' ss' → At9 p l e s m below meth c b D dA A h ad mm mad o 23 (6 * n + 6) x' M' cs' ss') : At9 p l e s m below meth c b D dA A h ad mm mad o (tg9 16) (6 * n) x M cs ss := by
  intro og H locs ls hP hD hS hl
  obtain ⟨rm1, rm2⟩ := rl_room (rl_skip hR (by omega))
  obtain ⟨PS, SS, dn, bn, gq, rq, la, gk, AT, T, co, ⟨⟨t1, t2, t3, t4⟩, ⟨t5, t6, t7⟩, ⟨t8, t9⟩, t10, t11, t12⟩, ⟨sr1, sr2, sr3, sr4, sr5⟩, nr, ⟨⟨r1, r2, r3, r4⟩, r5, ⟨r6, r7⟩, ⟨r8, r9⟩, r10⟩, rr⟩ := id hR
  obtain ⟨cp, cb, ⟨se1, se2⟩, ⟨g1, g2, g3, g4, g5, g6, g7, g8, g9, g10, g11⟩, cj, ck, cc⟩ := id co
  obtain ⟨⟨n1, n2, n3, n4⟩, ⟨n5, n6, n7⟩, ⟨n8, n9, n10, n11, n12, n13, n14, n15⟩, ⟨n16, n17, n18, n19⟩, ⟨n20, n21, n22, n23⟩, n24⟩ := id nr
  cases ht : x.hasTable with
  | false =>
    have hr2 := rl_up (cs' := cs + 1 + 0 + 0) (ss' := ss + 6 + 0 + 0) hR (by omega) 1 (by omega) (by omega)
    obtain ⟨rn1, rn2⟩ := rl_room hr2
    have W1 := fun sz => k8_isThere_1 l D dA sz h ad o og x (xs (6 * n + 1)) (xs (6 * n + 2)) (fun u => u = x) _ _ _ _ (nf_x1 (w := fun _ => x) (fun sz => v_isThere_xa l (lS_tr hC) D dA sz h ad x (xs (6 * n + 1)) (xs (6 * n + 2)) ht) (fun _ _ => rfl) (fun _ _ _ q => q))
    have M1 := fun sz => k_isThere_1 l D dA sz mm mad M (xs (6 * n + 1)) (xs (6 * n + 2)) (Or.inl (r8.trans ht))
    exact l9_16_x l hC (k9 := 1) hi hL ⟨by omega, by omega, by omega, by omega⟩ ⟨by omega, by omega⟩ rfl k_n1 W1 M1 hP hD hS hl (fun u H1 locs1 ls1 hf hP hD hS hl => cont u _ _ _ (by rw [show u = x from hf]; exact hr2) og H1 locs1 ls1 hP hD hS hl)
  | true =>
    obtain ⟨NL, RS, ⟨⟨w1, w2, w3, w4, w5, w6⟩, w7, w8⟩, w9⟩ := r9 ht
    have hk := sk_all r3 r1
    by_cases hv : xs (6 * n + 1) < 0
    · have hr2 := rl_up (cs' := cs + 1 + 0 + 0) (ss' := ss + 6 + 0 + 0) hR (by omega) 1 (by omega) (by omega)
      obtain ⟨rn1, rn2⟩ := rl_room hr2
      have W1 := fun sz => k8_isThere_1 l D dA sz h ad o og x (xs (6 * n + 1)) (xs (6 * n + 2)) (fun u => u = x) _ _ _ _ (nf_x1 (w := fun _ => x) (fun sz => v_isThere_xb l (lS_tr hC) D dA sz h ad x (xs (6 * n + 1)) (xs (6 * n + 2)) ht hv) (fun _ _ => rfl) (fun _ _ _ q => q))
      have M1 := fun sz => k_isThere_1 l D dA sz mm mad M (xs (6 * n + 1)) (xs (6 * n + 2)) (Or.inr (Or.inl hv))
      exact l9_16_x l hC (k9 := 1) hi hL ⟨by omega, by omega, by omega, by omega⟩ ⟨by omega, by omega⟩ rfl k_n1 W1 M1 hP hD hS hl (fun u H1 locs1 ls1 hf hP hD hS hl => cont u _ _ _ (by rw [show u = x from hf]; exact hr2) og H1 locs1 ls1 hP hD hS hl)
    · by_cases hv2 : nI (T 0).rc ≤ xs (6 * n + 1)
      · obtain ⟨r, hr, er⟩ : ∃ r : Nat, r < 2 ^ 31 ∧ xs (6 * n + 1) = nI r := i32_n0 hv
        have hr1 : (T 0).rc ≤ r := nI_le_r (by omega) hr (by rw [← er]; exact hv2)
        have hr2 := rl_up (cs' := cs + 1 + 0 + 0) (ss' := ss + 6 + 0 + 0) hR (by omega) 1 (by omega) (by omega)
        obtain ⟨rn1, rn2⟩ := rl_room hr2
        have W1 := fun sz => k8_isThere_1 l D dA sz h ad o og x (xs (6 * n + 1)) (xs (6 * n + 2)) (fun u => u = x) _ _ _ _ (nf_x1 (w := fun _ => x) (fun sz => v_isThere_xc l (lS_tr hC) D dA sz h ad x la gk AT T _ r (xs (6 * n + 2)) hk r4 ht hr1 w4 hr) (fun _ _ => rfl) (fun _ _ _ q => by rw [er] at q; exact q))
        have M1 := fun sz => k_isThere_1 l D dA sz mm mad M (xs (6 * n + 1)) (xs (6 * n + 2)) (Or.inr (Or.inr (by rw [w3]; exact hv2)))
        exact l9_16_x l hC (k9 := 1) hi hL ⟨by omega, by omega, by omega, by omega⟩ ⟨by omega, by omega⟩ rfl k_n1 W1 M1 hP hD hS hl (fun u H1 locs1 ls1 hf hP hD hS hl => cont u _ _ _ (by rw [show u = x from hf]; exact hr2) og H1 locs1 ls1 hP hD hS hl)
      · obtain ⟨r, hr, er⟩ := i32_lt (a := (T 0).rc) (by omega) hv hv2
        by_cases hu : xs (6 * n + 2) < 0
        · have hr2 := rl_up (cs' := cs + 1 + 0 + 0) (ss' := ss + 6 + 0 + 0) hR (by omega) 1 (by omega) (by omega)
          obtain ⟨rn1, rn2⟩ := rl_room hr2
          have W1 := fun sz => k8_isThere_1 l D dA sz h ad o og x (xs (6 * n + 1)) (xs (6 * n + 2)) (fun u => u = x) _ _ _ _ (nf_x1 (w := fun _ => x) (fun sz => v_isThere_xd l (lS_tr hC) D dA sz h ad x la gk AT T _ r (xs (6 * n + 2)) hk r4 ht hr w4 hu) (fun _ _ => rfl) (fun _ _ _ q => by rw [er] at q; exact q))
          have M1 := nm_i (M1 := MS.s_cod M 1) (b := bI false) (Pc2 := fun sz => pC D dA [.ref mm, .int (xs (6 * n + 1)), .int (xs (6 * n + 2))] (MW dA mm mad M) sz) (fun sz => k_isThere_2 l D dA sz mm mad M r (xs (6 * n + 2)) (r8.trans ht) (by omega) (by omega) (Or.inl hu)) (fun r u q => ⟨q, rfl⟩) (fun _ _ _ q => by rw [er] at q; exact q)
          exact l9_16_x l hC (k9 := 1) hi hL ⟨by omega, by omega, by omega, by omega⟩ ⟨by omega, by omega⟩ rfl k_n1 W1 M1 hP hD hS hl (fun u H1 locs1 ls1 hf hP hD hS hl => cont u _ _ _ (by rw [show u = x from hf]; exact hr2) og H1 locs1 ls1 hP hD hS hl)
        · by_cases hu2 : nI (T 0).wi ≤ xs (6 * n + 2)
          · obtain ⟨w, hw, ew⟩ : ∃ w : Nat, w < 2 ^ 31 ∧ xs (6 * n + 2) = nI w := i32_n0 hu
            have hw1 : (T 0).wi ≤ w := nI_le_r (by omega) hw (by rw [← ew]; exact hu2)
            have hr2 := rl_up (cs' := cs + 1 + 0 + 0) (ss' := ss + 6 + 0 + 0) hR (by omega) 1 (by omega) (by omega)
            obtain ⟨rn1, rn2⟩ := rl_room hr2
            have W1 := fun sz => k8_isThere_1 l D dA sz h ad o og x (xs (6 * n + 1)) (xs (6 * n + 2)) (fun u => u = x) _ _ _ _ (nf_x1 (w := fun _ => x) (fun sz => v_isThere_xe l (lS_tr hC) D dA sz h ad x la gk AT T _ r w hk r4 ht hr w4 hw1 w6 hw) (fun _ _ => rfl) (fun _ _ _ q => by rw [er, ew] at q; exact q))
            have M1 := nm_i (M1 := MS.s_cod M 1) (b := bI false) (Pc2 := fun sz => pC D dA [.ref mm, .int (xs (6 * n + 1)), .int (xs (6 * n + 2))] (MW dA mm mad M) sz) (fun sz => k_isThere_2 l D dA sz mm mad M r (xs (6 * n + 2)) (r8.trans ht) (by omega) (by omega) (Or.inr (by rw [w5]; exact hu2))) (fun r u q => ⟨q, rfl⟩) (fun _ _ _ q => by rw [er] at q; exact q)
            exact l9_16_x l hC (k9 := 1) hi hL ⟨by omega, by omega, by omega, by omega⟩ ⟨by omega, by omega⟩ rfl k_n1 W1 M1 hP hD hS hl (fun u H1 locs1 ls1 hf hP hD hS hl => cont u _ _ _ (by rw [show u = x from hf]; exact hr2) og H1 locs1 ls1 hP hD hS hl)
          · obtain ⟨w, hw, ew⟩ := i32_lt (a := (T 0).wi) (by omega) hu hu2
            obtain ⟨y1, y2⟩ := w7 r w hr hw
            have hr2 := rl_up (cs' := cs + 0 + 0 + 0) (ss' := ss + 0 + 0 + 0) hR (by omega) 0 (by omega) (by omega)
            cases hb : hasB ((T 0).th r) w with
            | true =>
              have W1 := fun sz => k8_isThere_b1 l D dA sz h ad o og x (xs (6 * n + 1)) (xs (6 * n + 2)) (fun u => u = x) _ _ _ _ (nf_i (fun sz => v_isThere_1W l D dA sz h ad x la gk AT T _ r w hk r4 ht hr w4 hw w6) (fun r u q => ⟨by rw [hb] at q; exact q, rfl⟩) (fun _ _ _ q => by rw [er, ew] at q; exact q))
              have M1 := nm_i (M1 := MS.s_cod M 0) (b := 1) (Pc2 := fun sz => pC D dA [.ref mm, .int (xs (6 * n + 1)), .int (xs (6 * n + 2))] (MW dA mm mad M) sz) (fun sz => k_isThere_t l D dA sz mm mad M r w (r8.trans ht) (by omega) (by omega) (by omega) (by omega) (by rw [y1]; exact hb)) (fun r u q => ⟨q, rfl⟩) (fun _ _ _ q => by rw [er, ew] at q; exact q)
              exact l9_16_1 l hC hi hL ⟨by omega, by omega, by omega, by omega⟩ ⟨by omega, by omega⟩ rfl rfl W1 M1 hP hD hS hl (fun u H1 locs1 ls1 hf hP hD hS hl => cont u _ _ _ (by rw [show u = x from hf]; exact hr2) _ H1 locs1 ls1 hP hD hS hl)
            | false =>
              have W1 := fun sz => k8_isThere_b0 l D dA sz h ad o og x (xs (6 * n + 1)) (xs (6 * n + 2)) (fun u => u = x) _ _ _ _ (nf_i (fun sz => v_isThere_1W l D dA sz h ad x la gk AT T _ r w hk r4 ht hr w4 hw w6) (fun r u q => ⟨by rw [hb] at q; exact q, rfl⟩) (fun _ _ _ q => by rw [er, ew] at q; exact q))
              have M1 := nm_i (M1 := MS.s_cod M 0) (b := 0) (Pc2 := fun sz => pC D dA [.ref mm, .int (xs (6 * n + 1)), .int (xs (6 * n + 2))] (MW dA mm mad M) sz) (fun sz => k_isThere_f l D dA sz mm mad M r w (r8.trans ht) (by omega) (by omega) (by omega) (by omega) (by rw [y1]; exact hb)) (fun r u q => ⟨q, rfl⟩) (fun _ _ _ q => by rw [er, ew] at q; exact q)
              exact l9_16_0 l hC hi hL ⟨by omega, by omega, by omega, by omega⟩ ⟨by omega, by omega⟩ rfl rfl W1 M1 hP hD hS hl (fun u H1 locs1 ls1 hf hP hD hS hl => cont u _ _ _ (by rw [show u = x from hf]; exact hr2) _ H1 locs1 ls1 hP hD hS hl)
theorem call_17 (l : Launch) (hC : lS p l s m meth c b L xs D dA e0 A) (hL : L ≤ 3072) (hi : 6 * n + 6 ≤ L) (hR : Rl dA ad e0 n x M cs ss) (cont : ∀ x' M' cs' ss', Rl dA ad e0 (n + 1) x' M' cs' ss' → At9 p l e s m below meth c b D dA A h ad mm mad o 23 (6 * n + 6) x' M' cs' ss') : At9 p l e s m below meth c b D dA A h ad mm mad o (tg9 17) (6 * n) x M cs ss := by
  intro og H locs ls hP hD hS hl
  obtain ⟨rm1, rm2⟩ := rl_room (rl_skip hR (by omega))
  obtain ⟨PS, SS, dn, bn, gq, rq, la, gk, AT, T, co, ⟨⟨t1, t2, t3, t4⟩, ⟨t5, t6, t7⟩, ⟨t8, t9⟩, t10, t11, t12⟩, ⟨sr1, sr2, sr3, sr4, sr5⟩, nr, ⟨⟨r1, r2, r3, r4⟩, r5, ⟨r6, r7⟩, ⟨r8, r9⟩, r10⟩, rr⟩ := id hR
  obtain ⟨cp, cb, ⟨se1, se2⟩, ⟨g1, g2, g3, g4, g5, g6, g7, g8, g9, g10, g11⟩, cj, ck, cc⟩ := id co
  obtain ⟨⟨n1, n2, n3, n4⟩, ⟨n5, n6, n7⟩, ⟨n8, n9, n10, n11, n12, n13, n14, n15⟩, ⟨n16, n17, n18, n19⟩, ⟨n20, n21, n22, n23⟩, n24⟩ := id nr
  cases ht : x.hasTable with
  | false =>
    have hr2 := rl_up (cs' := cs + 1 + 0 + 0) (ss' := ss + 6 + 0 + 0) hR (by omega) 1 (by omega) (by omega)
    obtain ⟨rn1, rn2⟩ := rl_room hr2
    have W1 := fun sz => k8_cell_1 l D dA sz h ad o og x (xs (6 * n + 1)) (xs (6 * n + 2)) (fun u => u = x) _ _ _ _ (nf_x1 (w := fun _ => x) (fun sz => v_cell_xa l (lS_tr hC) D dA sz h ad x (xs (6 * n + 1)) (xs (6 * n + 2)) ht) (fun _ _ => rfl) (fun _ _ _ q => q))
    have M1 := fun sz => k_cell_1 l D dA sz mm mad M (xs (6 * n + 1)) (xs (6 * n + 2)) (Or.inl (r8.trans ht))
    exact l9_17_x l hC (k9 := 1) hi hL ⟨by omega, by omega, by omega, by omega⟩ ⟨by omega, by omega⟩ rfl k_n1 W1 M1 hP hD hS hl (fun u H1 locs1 ls1 hf hP hD hS hl => cont u _ _ _ (by rw [show u = x from hf]; exact hr2) og H1 locs1 ls1 hP hD hS hl)
  | true =>
    obtain ⟨NL, RS, ⟨⟨w1, w2, w3, w4, w5, w6⟩, w7, w8⟩, w9⟩ := r9 ht
    have hk := sk_all r3 r1
    by_cases hv : xs (6 * n + 1) < 0
    · have hr2 := rl_up (cs' := cs + 1 + 0 + 0) (ss' := ss + 6 + 0 + 0) hR (by omega) 1 (by omega) (by omega)
      obtain ⟨rn1, rn2⟩ := rl_room hr2
      have W1 := fun sz => k8_cell_1 l D dA sz h ad o og x (xs (6 * n + 1)) (xs (6 * n + 2)) (fun u => u = x) _ _ _ _ (nf_x1 (w := fun _ => x) (fun sz => v_cell_xb l (lS_tr hC) D dA sz h ad x (xs (6 * n + 1)) (xs (6 * n + 2)) ht hv) (fun _ _ => rfl) (fun _ _ _ q => q))
      have M1 := fun sz => k_cell_1 l D dA sz mm mad M (xs (6 * n + 1)) (xs (6 * n + 2)) (Or.inr (Or.inl hv))
      exact l9_17_x l hC (k9 := 1) hi hL ⟨by omega, by omega, by omega, by omega⟩ ⟨by omega, by omega⟩ rfl k_n1 W1 M1 hP hD hS hl (fun u H1 locs1 ls1 hf hP hD hS hl => cont u _ _ _ (by rw [show u = x from hf]; exact hr2) og H1 locs1 ls1 hP hD hS hl)
    · by_cases hv2 : nI (T 0).rc ≤ xs (6 * n + 1)
      · obtain ⟨r, hr, er⟩ : ∃ r : Nat, r < 2 ^ 31 ∧ xs (6 * n + 1) = nI r := i32_n0 hv
        have hr1 : (T 0).rc ≤ r := nI_le_r (by omega) hr (by rw [← er]; exact hv2)
        have hr2 := rl_up (cs' := cs + 1 + 0 + 0) (ss' := ss + 6 + 0 + 0) hR (by omega) 1 (by omega) (by omega)
        obtain ⟨rn1, rn2⟩ := rl_room hr2
        have W1 := fun sz => k8_cell_1 l D dA sz h ad o og x (xs (6 * n + 1)) (xs (6 * n + 2)) (fun u => u = x) _ _ _ _ (nf_x1 (w := fun _ => x) (fun sz => v_cell_xc l (lS_tr hC) D dA sz h ad x la gk AT T _ r (xs (6 * n + 2)) hk r4 ht hr1 w4 hr) (fun _ _ => rfl) (fun _ _ _ q => by rw [er] at q; exact q))
        have M1 := fun sz => k_cell_1 l D dA sz mm mad M (xs (6 * n + 1)) (xs (6 * n + 2)) (Or.inr (Or.inr (by rw [w3]; exact hv2)))
        exact l9_17_x l hC (k9 := 1) hi hL ⟨by omega, by omega, by omega, by omega⟩ ⟨by omega, by omega⟩ rfl k_n1 W1 M1 hP hD hS hl (fun u H1 locs1 ls1 hf hP hD hS hl => cont u _ _ _ (by rw [show u = x from hf]; exact hr2) og H1 locs1 ls1 hP hD hS hl)
      · obtain ⟨r, hr, er⟩ := i32_lt (a := (T 0).rc) (by omega) hv hv2
        by_cases hu : xs (6 * n + 2) < 0
        · have hr2 := rl_up (cs' := cs + 1 + 0 + 0) (ss' := ss + 6 + 0 + 0) hR (by omega) 1 (by omega) (by omega)
          obtain ⟨rn1, rn2⟩ := rl_room hr2
          have W1 := fun sz => k8_cell_1 l D dA sz h ad o og x (xs (6 * n + 1)) (xs (6 * n + 2)) (fun u => u = x) _ _ _ _ (nf_x1 (w := fun _ => x) (fun sz => v_cell_xd l (lS_tr hC) D dA sz h ad x la gk AT T _ r (xs (6 * n + 2)) hk r4 ht hr w4 hu) (fun _ _ => rfl) (fun _ _ _ q => by rw [er] at q; exact q))
          have M1 := nm_l (M1 := MS.s_cod M 1) (b := 0) (Pc2 := fun sz => pC D dA [.ref mm, .int (xs (6 * n + 1)), .int (xs (6 * n + 2))] (MW dA mm mad M) sz) (fun sz => k_cell_2 l D dA sz mm mad M r (xs (6 * n + 2)) (r8.trans ht) (by omega) (by omega) (Or.inl hu)) (fun r u q => ⟨q, rfl⟩) (fun _ _ _ q => by rw [er] at q; exact q)
          exact l9_17_x l hC (k9 := 1) hi hL ⟨by omega, by omega, by omega, by omega⟩ ⟨by omega, by omega⟩ rfl k_n1 W1 M1 hP hD hS hl (fun u H1 locs1 ls1 hf hP hD hS hl => cont u _ _ _ (by rw [show u = x from hf]; exact hr2) og H1 locs1 ls1 hP hD hS hl)
        · by_cases hu2 : nI (T 0).wi ≤ xs (6 * n + 2)
          · obtain ⟨w, hw, ew⟩ : ∃ w : Nat, w < 2 ^ 31 ∧ xs (6 * n + 2) = nI w := i32_n0 hu
            have hw1 : (T 0).wi ≤ w := nI_le_r (by omega) hw (by rw [← ew]; exact hu2)
            have hr2 := rl_up (cs' := cs + 1 + 0 + 0) (ss' := ss + 6 + 0 + 0) hR (by omega) 1 (by omega) (by omega)
            obtain ⟨rn1, rn2⟩ := rl_room hr2
            have W1 := fun sz => k8_cell_1 l D dA sz h ad o og x (xs (6 * n + 1)) (xs (6 * n + 2)) (fun u => u = x) _ _ _ _ (nf_x1 (w := fun _ => x) (fun sz => v_cell_xe l (lS_tr hC) D dA sz h ad x la gk AT T _ r w hk r4 ht hr w4 hw1 w6 hw) (fun _ _ => rfl) (fun _ _ _ q => by rw [er, ew] at q; exact q))
            have M1 := nm_l (M1 := MS.s_cod M 1) (b := 0) (Pc2 := fun sz => pC D dA [.ref mm, .int (xs (6 * n + 1)), .int (xs (6 * n + 2))] (MW dA mm mad M) sz) (fun sz => k_cell_2 l D dA sz mm mad M r (xs (6 * n + 2)) (r8.trans ht) (by omega) (by omega) (Or.inr (by rw [w5]; exact hu2))) (fun r u q => ⟨q, rfl⟩) (fun _ _ _ q => by rw [er] at q; exact q)
            exact l9_17_x l hC (k9 := 1) hi hL ⟨by omega, by omega, by omega, by omega⟩ ⟨by omega, by omega⟩ rfl k_n1 W1 M1 hP hD hS hl (fun u H1 locs1 ls1 hf hP hD hS hl => cont u _ _ _ (by rw [show u = x from hf]; exact hr2) og H1 locs1 ls1 hP hD hS hl)
          · obtain ⟨w, hw, ew⟩ := i32_lt (a := (T 0).wi) (by omega) hu hu2
            obtain ⟨y1, y2⟩ := w7 r w hr hw
            have hr2 := rl_up (cs' := cs + 0 + 0 + 0) (ss' := ss + 0 + 0 + 0) hR (by omega) 0 (by omega) (by omega)
            cases hb : hasB ((T 0).th r) w with
            | true =>
              have W1 := fun sz => k8_cell l D dA sz h ad o og x (xs (6 * n + 1)) (xs (6 * n + 2)) ((T 0).ce (r * (T 0).wi + w)) (fun u => u = x) _ _ _ _ (nf_l (fun sz => v_cell_1W l D dA sz h ad x la gk AT T _ r w hk r4 ht hr w4 hw w6 w9.2.2.2.2.2.2.2.1 w9.2.2.2.2.2.2.1) (fun r u q => ⟨by rw [hb] at q; exact q, rfl⟩) (fun _ _ _ q => by rw [er, ew] at q; exact q))
              have M1 := nm_l (M1 := MS.s_cod M 0) (b := M.shown (64 * r + w)) (Pc2 := fun sz => pC D dA [.ref mm, .int (xs (6 * n + 1)), .int (xs (6 * n + 2))] (MW dA mm mad M) sz) (fun sz => k_cell_t l D dA sz mm mad M r w (r8.trans ht) (by omega) (by omega) (by omega) (by omega) (by rw [y1]; exact hb)) (fun r u q => ⟨q, rfl⟩) (fun _ _ _ q => by rw [er, ew] at q; exact q)
              exact l9_17 l hC hi hL ⟨by omega, by omega, by omega, by omega⟩ ⟨by omega, by omega⟩ rfl (y2 hb).symm W1 M1 hP hD hS hl (fun u H1 locs1 ls1 hf hP hD hS hl => cont u _ _ _ (by rw [show u = x from hf]; exact hr2) _ H1 locs1 ls1 hP hD hS hl)
            | false =>
              have W1 := fun sz => k8_cell l D dA sz h ad o og x (xs (6 * n + 1)) (xs (6 * n + 2)) (0) (fun u => u = x) _ _ _ _ (nf_l (fun sz => v_cell_1W l D dA sz h ad x la gk AT T _ r w hk r4 ht hr w4 hw w6 w9.2.2.2.2.2.2.2.1 w9.2.2.2.2.2.2.1) (fun r u q => ⟨by rw [hb] at q; exact q, rfl⟩) (fun _ _ _ q => by rw [er, ew] at q; exact q))
              have M1 := nm_l (M1 := MS.s_cod M 0) (b := 0) (Pc2 := fun sz => pC D dA [.ref mm, .int (xs (6 * n + 1)), .int (xs (6 * n + 2))] (MW dA mm mad M) sz) (fun sz => k_cell_f l D dA sz mm mad M r w (r8.trans ht) (by omega) (by omega) (by omega) (by omega) (by rw [y1]; exact hb)) (fun r u q => ⟨q, rfl⟩) (fun _ _ _ q => by rw [er, ew] at q; exact q)
              exact l9_17 l hC hi hL ⟨by omega, by omega, by omega, by omega⟩ ⟨by omega, by omega⟩ rfl rfl W1 M1 hP hD hS hl (fun u H1 locs1 ls1 hf hP hD hS hl => cont u _ _ _ (by rw [show u = x from hf]; exact hr2) _ H1 locs1 ls1 hP hD hS hl)
theorem call_15 (l : Launch) (hC : lS p l s m meth c b L xs D dA e0 A) (hL : L ≤ 3072) (hi : 6 * n + 6 ≤ L) (hR : Rl dA ad e0 n x M cs ss) (cont : ∀ x' M' cs' ss', Rl dA ad e0 (n + 1) x' M' cs' ss' → At9 p l e s m below meth c b D dA A h ad mm mad o 23 (6 * n + 6) x' M' cs' ss') : At9 p l e s m below meth c b D dA A h ad mm mad o (tg9 15) (6 * n) x M cs ss := by
  intro og H locs ls hP hD hS hl
  obtain ⟨rm1, rm2⟩ := rl_room (rl_skip hR (by omega))
  obtain ⟨PS, SS, dn, bn, gq, rq, la, gk, AT, T, co, ⟨⟨t1, t2, t3, t4⟩, ⟨t5, t6, t7⟩, ⟨t8, t9⟩, t10, t11, t12⟩, ⟨sr1, sr2, sr3, sr4, sr5⟩, nr, ⟨⟨r1, r2, r3, r4⟩, r5, ⟨r6, r7⟩, ⟨r8, r9⟩, r10⟩, rr⟩ := id hR
  obtain ⟨cp, cb, ⟨se1, se2⟩, ⟨g1, g2, g3, g4, g5, g6, g7, g8, g9, g10, g11⟩, cj, ck, cc⟩ := id co
  obtain ⟨⟨n1, n2, n3, n4⟩, ⟨n5, n6, n7⟩, ⟨n8, n9, n10, n11, n12, n13, n14, n15⟩, ⟨n16, n17, n18, n19⟩, ⟨n20, n21, n22, n23⟩, n24⟩ := id nr
  cases ht : x.hasTable with
  | false =>
    have hr2 := rl_up (cs' := cs + 1 + 0 + 0) (ss' := ss + 6 + 0 + 0) hR (by omega) 1 (by omega) (by omega)
    obtain ⟨rn1, rn2⟩ := rl_room hr2
    have W1 := fun sz => k8_text_1 l D dA sz h ad o og x (xs (6 * n + 1)) (xs (6 * n + 2)) (xs (6 * n + 3)) (fun u => u = x) _ _ _ _ (nf_x1 (w := fun _ => x) (fun sz => v_text_xa l (lS_tr hC) D dA sz h ad x (xs (6 * n + 1)) (xs (6 * n + 2)) (xs (6 * n + 3)) ht) (fun _ _ => rfl) (fun _ _ _ q => q))
    have M1 := fun sz => k_text_1 l D dA sz mm mad M (xs (6 * n + 1)) (xs (6 * n + 2)) (xs (6 * n + 3)) (Or.inl (r8.trans ht))
    exact l9_15_x l hC (k9 := 1) hi hL ⟨by omega, by omega, by omega, by omega⟩ ⟨by omega, by omega⟩ rfl k_n1 W1 M1 hP hD hS hl (fun u H1 locs1 ls1 hf hP hD hS hl => cont u _ _ _ (by rw [show u = x from hf]; exact hr2) og H1 locs1 ls1 hP hD hS hl)
  | true =>
    obtain ⟨NL, RS, ⟨⟨w1, w2, w3, w4, w5, w6⟩, w7, w8⟩, w9⟩ := r9 ht
    have hk := sk_all r3 r1
    by_cases hv : xs (6 * n + 1) < 0
    · have hr2 := rl_up (cs' := cs + 1 + 0 + 0) (ss' := ss + 6 + 0 + 0) hR (by omega) 1 (by omega) (by omega)
      obtain ⟨rn1, rn2⟩ := rl_room hr2
      have W1 := fun sz => k8_text_1 l D dA sz h ad o og x (xs (6 * n + 1)) (xs (6 * n + 2)) (xs (6 * n + 3)) (fun u => u = x) _ _ _ _ (nf_x1 (w := fun _ => x) (fun sz => v_text_xb l (lS_tr hC) D dA sz h ad x (xs (6 * n + 1)) (xs (6 * n + 2)) (xs (6 * n + 3)) ht hv) (fun _ _ => rfl) (fun _ _ _ q => q))
      have M1 := fun sz => k_text_1 l D dA sz mm mad M (xs (6 * n + 1)) (xs (6 * n + 2)) (xs (6 * n + 3)) (Or.inr (Or.inl hv))
      exact l9_15_x l hC (k9 := 1) hi hL ⟨by omega, by omega, by omega, by omega⟩ ⟨by omega, by omega⟩ rfl k_n1 W1 M1 hP hD hS hl (fun u H1 locs1 ls1 hf hP hD hS hl => cont u _ _ _ (by rw [show u = x from hf]; exact hr2) og H1 locs1 ls1 hP hD hS hl)
    · by_cases hv2 : nI (T 0).rc ≤ xs (6 * n + 1)
      · obtain ⟨r, hr, er⟩ : ∃ r : Nat, r < 2 ^ 31 ∧ xs (6 * n + 1) = nI r := i32_n0 hv
        have hr1 : (T 0).rc ≤ r := nI_le_r (by omega) hr (by rw [← er]; exact hv2)
        have hr2 := rl_up (cs' := cs + 1 + 0 + 0) (ss' := ss + 6 + 0 + 0) hR (by omega) 1 (by omega) (by omega)
        obtain ⟨rn1, rn2⟩ := rl_room hr2
        have W1 := fun sz => k8_text_1 l D dA sz h ad o og x (xs (6 * n + 1)) (xs (6 * n + 2)) (xs (6 * n + 3)) (fun u => u = x) _ _ _ _ (nf_x1 (w := fun _ => x) (fun sz => v_text_xc l (lS_tr hC) D dA sz h ad x la gk AT T _ r (xs (6 * n + 2)) (xs (6 * n + 3)) hk r4 ht hr1 w4 hr) (fun _ _ => rfl) (fun _ _ _ q => by rw [er] at q; exact q))
        have M1 := fun sz => k_text_1 l D dA sz mm mad M (xs (6 * n + 1)) (xs (6 * n + 2)) (xs (6 * n + 3)) (Or.inr (Or.inr (by rw [w3]; exact hv2)))
        exact l9_15_x l hC (k9 := 1) hi hL ⟨by omega, by omega, by omega, by omega⟩ ⟨by omega, by omega⟩ rfl k_n1 W1 M1 hP hD hS hl (fun u H1 locs1 ls1 hf hP hD hS hl => cont u _ _ _ (by rw [show u = x from hf]; exact hr2) og H1 locs1 ls1 hP hD hS hl)
      · obtain ⟨r, hr, er⟩ := i32_lt (a := (T 0).rc) (by omega) hv hv2
        have hr2 := rl_up (cs' := cs + 0 + 0 + 0) (ss' := ss + 0 + 0 + 0) hR (by omega) 0 (by omega) (by omega)
        by_cases hu : xs (6 * n + 2) < 0 ∨ nI (T 0).nc ≤ xs (6 * n + 2)
        · have W1 := fun sz => k8_text l D dA sz h ad o og x (xs (6 * n + 1)) (xs (6 * n + 2)) (xs (6 * n + 3)) (-1) (fun u => u = x) _ _ _ _ (nf_i (fun sz => v_text_nW l D dA sz h ad x la gk AT T _ r (xs (6 * n + 2)) (xs (6 * n + 3)) hk r4 ht hr w4 w2 hu) (fun r u q => ⟨q, rfl⟩) (fun _ _ _ q => by rw [er] at q; exact q))
          have M1 := nm_i (M1 := MS.s_cod M 0) (b := -1) (Pc2 := fun sz => pC D dA [.ref mm, .int (xs (6 * n + 1)), .int (xs (6 * n + 2)), .int (xs (6 * n + 3))] (MW dA mm mad M) sz) (fun sz => k_text_n l D dA sz mm mad M r (xs (6 * n + 2)) (xs (6 * n + 3)) (r8.trans ht) (by omega) (by omega) (by rw [w1]; exact hu)) (fun r u q => ⟨q, rfl⟩) (fun _ _ _ q => by rw [er] at q; exact q)
          exact l9_15 l hC hi hL ⟨by omega, by omega, by omega, by omega⟩ ⟨by omega, by omega⟩ rfl rfl W1 M1 hP hD hS hl (fun u H1 locs1 ls1 hf hP hD hS hl => cont u _ _ _ (by rw [show u = x from hf]; exact hr2) _ H1 locs1 ls1 hP hD hS hl)
        · obtain ⟨k, hkk, ek⟩ := i32_lt (a := (T 0).nc) (by omega) (fun z => hu (Or.inl z)) (fun z => hu (Or.inr z))
          obtain ⟨y1, y2, y3⟩ := w8 r k hr hkk
          have hrs := w9.2.2.1 (by omega)
          by_cases hj : xs (6 * n + 3) < 0 ∨ nI (valS (RS r) (NL k)).length ≤ xs (6 * n + 3)
          · have W1 := fun sz => k8_text l D dA sz h ad o og x (xs (6 * n + 1)) (xs (6 * n + 2)) (xs (6 * n + 3)) (-1) (fun u => u = x) _ _ _ _ (nf_i (fun sz => v_text_0W l D dA sz h ad x la gk AT T _ r NL RS k (xs (6 * n + 3)) hk r4 ht hr w4 w2 w9.1 hrs hkk hj) (fun r u q => ⟨q, rfl⟩) (fun _ _ _ q => by rw [er, ek] at q; exact q))
            have M1 := nm_i (M1 := MS.s_cod M 0) (b := -1) (Pc2 := fun sz => pC D dA [.ref mm, .int (xs (6 * n + 1)), .int (xs (6 * n + 2)), .int (xs (6 * n + 3))] (MW dA mm mad M) sz) (fun sz => k_text_m l D dA sz mm mad M r k (xs (6 * n + 3)) (r8.trans ht) (by omega) (by omega) (by omega) (by omega) (by rw [y1]; exact hj)) (fun r u q => ⟨q, rfl⟩) (fun _ _ _ q => by rw [er, ek] at q; exact q)
            exact l9_15 l hC hi hL ⟨by omega, by omega, by omega, by omega⟩ ⟨by omega, by omega⟩ rfl rfl W1 M1 hP hD hS hl (fun u H1 locs1 ls1 hf hP hD hS hl => cont u _ _ _ (by rw [show u = x from hf]; exact hr2) _ H1 locs1 ls1 hP hD hS hl)
          · obtain ⟨j, hjj, ej⟩ := i32_lt (a := (valS (RS r) (NL k)).length) (by omega) (fun z => hj (Or.inl z)) (fun z => hj (Or.inr z))
            have W1 := fun sz => k8_text l D dA sz h ad o og x (xs (6 * n + 1)) (xs (6 * n + 2)) (xs (6 * n + 3)) ((valS (RS r) (NL k)).getD j 0 &&& 255) (fun u => u = x) _ _ _ _ (nf_i (fun sz => v_text_1W l D dA sz h ad x la gk AT T _ r NL RS k j hk r4 ht hr w4 w2 w9.1 hrs hkk hjj) (fun r u q => ⟨q, rfl⟩) (fun _ _ _ q => by rw [er, ek, ej] at q; exact q))
            have M1 := nm_i (M1 := MS.s_cod M 0) (b := M.rowTexts ((6 * r + k) * 24 + j)) (Pc2 := fun sz => pC D dA [.ref mm, .int (xs (6 * n + 1)), .int (xs (6 * n + 2)), .int (xs (6 * n + 3))] (MW dA mm mad M) sz) (fun sz => k_text_0 l D dA sz mm mad M r k j (r8.trans ht) (by omega) (by omega) (by omega) (by omega) (by omega) (by omega)) (fun r u q => ⟨q, rfl⟩) (fun _ _ _ q => by rw [er, ek, ej] at q; exact q)
            exact l9_15 l hC hi hL ⟨by omega, by omega, by omega, by omega⟩ ⟨by omega, by omega⟩ rfl (by rw [y3 j hjj]) W1 M1 hP hD hS hl (fun u H1 locs1 ls1 hf hP hD hS hl => cont u _ _ _ (by rw [show u = x from hf]; exact hr2) _ H1 locs1 ls1 hP hD hS hl)
theorem call_5 (l : Launch) (hC : lS p l s m meth c b L xs D dA e0 A) (hL : L ≤ 3072) (hi : 6 * n + 6 ≤ L) (hR : Rl dA ad e0 n x M cs ss) (cont : ∀ x' M' cs' ss', Rl dA ad e0 (n + 1) x' M' cs' ss' → At9 p l e s m below meth c b D dA A h ad mm mad o 23 (6 * n + 6) x' M' cs' ss') : At9 p l e s m below meth c b D dA A h ad mm mad o (tg9 5) (6 * n) x M cs ss := by
  intro og H locs ls hP hD hS hl
  obtain ⟨rm1, rm2⟩ := rl_room (rl_skip hR (by omega))
  obtain ⟨PS, SS, dn, bn, gq, rq, la, gk, AT, T, co, ⟨⟨t1, t2, t3, t4⟩, ⟨t5, t6, t7⟩, ⟨t8, t9⟩, t10, t11, t12⟩, ⟨sr1, sr2, sr3, sr4, sr5⟩, nr, ⟨⟨r1, r2, r3, r4⟩, r5, ⟨r6, r7⟩, ⟨r8, r9⟩, r10⟩, rr⟩ := id hR
  obtain ⟨cp, cb, ⟨se1, se2⟩, ⟨g1, g2, g3, g4, g5, g6, g7, g8, g9, g10, g11⟩, cj, ck, cc⟩ := id co
  obtain ⟨⟨n1, n2, n3, n4⟩, ⟨n5, n6, n7⟩, ⟨n8, n9, n10, n11, n12, n13, n14, n15⟩, ⟨n16, n17, n18, n19⟩, ⟨n20, n21, n22, n23⟩, n24⟩ := id nr
  cases hp : x.powered with
  | false =>
    have hr2 := rl_up (cs' := cs + 1 + 0 + 0) (ss' := ss + 6 + 0 + 0) hR (by omega) 1 (by omega) (by omega)
    obtain ⟨rn1, rn2⟩ := rl_room hr2
    have W1 := fun sz => k8_letter_1 l D dA sz h ad o og x (xs (6 * n + 1)) (xs (6 * n + 2)) (fun u => u = x) _ _ _ _ (nf_x0 (fun sz => v_letter_1 l (lS_tr hC) D dA sz h ad x (xs (6 * n + 1)) (xs (6 * n + 2)) hp) rfl (fun _ _ _ q => q))
    have M1 := fun sz => k_letter_1 l D dA sz mm mad M (xs (6 * n + 1)) (xs (6 * n + 2)) (by rw [t12]; exact hp)
    exact l9_5_x l hC (k9 := 1) hi hL ⟨by omega, by omega, by omega, by omega⟩ ⟨by omega, by omega⟩ rfl k_n1 W1 M1 hP hD hS hl (fun u H1 locs1 ls1 hf hP hD hS hl => cont u _ _ _ (by rw [show u = x from hf]; exact hr2) og H1 locs1 ls1 hP hD hS hl)
  | true =>
    by_cases hv : xs (6 * n + 1) < 0 ∨ nI x.nser ≤ xs (6 * n + 1)
    · have hr2 := rl_up (cs' := cs + 1 + 0 + 0) (ss' := ss + 6 + 0 + 0) hR (by omega) 2 (by omega) (by omega)
      obtain ⟨rn1, rn2⟩ := rl_room hr2
      have W1 := fun sz => k8_letter_2 l D dA sz h ad o og x (xs (6 * n + 1)) (xs (6 * n + 2)) (fun u => u = x) _ _ _ _ (nf_x0 (fun sz => v_letter_2 l (lS_tr hC) D dA sz h ad x (xs (6 * n + 1)) (xs (6 * n + 2)) hp hv) rfl (fun _ _ _ q => q))
      have M1 := fun sz => k_letter_2 l D dA sz mm mad M (xs (6 * n + 1)) (xs (6 * n + 2)) (by rw [t12]; exact hp) (by rw [se1]; exact hv)
      exact l9_5_x l hC (k9 := 2) hi hL ⟨by omega, by omega, by omega, by omega⟩ ⟨by omega, by omega⟩ rfl k_n2 W1 M1 hP hD hS hl (fun u H1 locs1 ls1 hf hP hD hS hl => cont u _ _ _ (by rw [show u = x from hf]; exact hr2) og H1 locs1 ls1 hP hD hS hl)
    · obtain ⟨w, hw, ew⟩ := i32_lt (a := x.nser) (by omega) (fun z => hv (Or.inl z)) (fun z => hv (Or.inr z))
      have hr2 := rl_up (cs' := cs + 0 + 0 + 0) (ss' := ss + 0 + 0 + 0) hR (by omega) 0 (by omega) (by omega)
      obtain ⟨x1, x2, x3⟩ := sr1 w (by omega)
      have on : M.on = true := t12.trans hp
      by_cases hu : xs (6 * n + 2) < 0 ∨ nI (joinT (SS w)).length ≤ xs (6 * n + 2)
      · have W1 := fun sz => k8_letter l D dA sz h ad o og x (xs (6 * n + 1)) (xs (6 * n + 2)) (-1) (fun u => u = x) _ _ _ _ (nf_i (fun sz => v_letter_n l D dA sz h ad x SS w (xs (6 * n + 2)) sr3 n1 hp hw hu) (fun r u q => ⟨q, rfl⟩) (fun _ _ _ q => by rw [ew] at q; exact q))
        have M1 := nm_i (M1 := MS.s_cod M 0) (b := -1) (Pc2 := fun sz => pC D dA [.ref mm, .int (xs (6 * n + 1)), .int (xs (6 * n + 2))] (MW dA mm mad M) sz) (fun sz => k_letter_n l D dA sz mm mad M w (xs (6 * n + 2)) on (by omega) (by omega) (by rw [x1]; exact hu)) (fun r u q => ⟨q, rfl⟩) (fun _ _ _ q => by rw [ew] at q; exact q)
        exact l9_5 l hC hi hL ⟨by omega, by omega, by omega, by omega⟩ ⟨by omega, by omega⟩ rfl rfl W1 M1 hP hD hS hl (fun u H1 locs1 ls1 hf hP hD hS hl => cont u _ _ _ (by rw [show u = x from hf]; exact hr2) _ H1 locs1 ls1 hP hD hS hl)
      · obtain ⟨j, hj, ej⟩ := i32_lt (a := (joinT (SS w)).length) (by omega) (fun z => hu (Or.inl z)) (fun z => hu (Or.inr z))
        have ha : (joinT (SS w)).getD j 0 &&& 255 = M.texts (304 * w + j) := by
          rw [x3 j hj]
          exact getD_and (sr5 w (by omega)).2 hj
        have W1 := fun sz => k8_letter l D dA sz h ad o og x (xs (6 * n + 1)) (xs (6 * n + 2)) ((joinT (SS w)).getD j 0 &&& 255) (fun u => u = x) _ _ _ _ (nf_i (fun sz => v_letter_0 l D dA sz h ad x SS w j sr3 n1 hp hw hj) (fun r u q => ⟨q, rfl⟩) (fun _ _ _ q => by rw [ew, ej] at q; exact q))
        have M1 := nm_i (M1 := MS.s_cod M 0) (b := M.texts (304 * w + j)) (Pc2 := fun sz => pC D dA [.ref mm, .int (xs (6 * n + 1)), .int (xs (6 * n + 2))] (MW dA mm mad M) sz) (fun sz => k_letter_0 l D dA sz mm mad M w j on (by omega) (by omega) (by omega) (by omega)) (fun r u q => ⟨q, rfl⟩) (fun _ _ _ q => by rw [ew, ej] at q; exact q)
        exact l9_5 l hC hi hL ⟨by omega, by omega, by omega, by omega⟩ ⟨by omega, by omega⟩ rfl (by rw [ha]) W1 M1 hP hD hS hl (fun u H1 locs1 ls1 hf hP hD hS hl => cont u _ _ _ (by rw [show u = x from hf]; exact hr2) _ H1 locs1 ls1 hP hD hS hl)
end CD
