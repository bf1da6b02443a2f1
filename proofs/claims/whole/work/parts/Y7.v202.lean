/-! Counts, parcels, a new disk: the calls. -/
theorem nsO_lt {PS : Nat → PT} {x : VS} (hj : joR PS x) (hk : x.jkept ≤ x.jsize) {q : Nat} (hq : q < x.nsc) : x.nsO q < x.nser := by
  obtain ⟨⟨i1, i2, i3, i4⟩, -, h⟩ := hj
  have h2 := (h x.jsize hk (Nat.le_refl _)).2 (x.nsO q, x.nsF q, x.nsT q) (by
    rw [i4]
    unfold scL lsF
    exact List.mem_map.mpr ⟨q, List.mem_range.mpr hq, rfl⟩)
  rw [i1] at h2
  exact h2.1
section CE
variable {p : Program} {e : Env} {s : State} {m : MethodId} {below : List Frame} {meth : Method} {c : Code} {b L : Nat} {xs : Nat → Int32} {D : va_G} {dA : Nat → ClassId} {e0 : Nat} {A : Nat → Prop} {h : Nat} {ad : Nat → Nat} {mm : Nat} {mad : Nat → Nat} {o : Nat} {n : Nat} {x : VS} {M : MS} {cs ss : Nat}

theorem call_18 (l : Launch) (hC : lS p l s m meth c b L xs D dA e0 A) (hL : L ≤ 3072) (hi : 6 * n + 6 ≤ L) (hR : Rl dA ad e0 n x M cs ss) (cont : ∀ x' M' cs' ss', Rl dA ad e0 (n + 1) x' M' cs' ss' → At9 p l e s m below meth c b D dA A h ad mm mad o 23 (6 * n + 6) x' M' cs' ss') : At9 p l e s m below meth c b D dA A h ad mm mad o (tg9 18) (6 * n) x M cs ss := by
  intro og H locs ls hP hD hS hl
  obtain ⟨rm1, rm2⟩ := rl_room (rl_skip hR (by omega))
  obtain ⟨PS, SS, dn, bn, gq, rq, la, gk, AT, T, co, ⟨⟨t1, t2, t3, t4⟩, ⟨t5, t6, t7⟩, ⟨t8, t9⟩, t10, t11, t12⟩, ⟨sr1, sr2, sr3, sr4, sr5⟩, nr, ⟨⟨r1, r2, r3, r4⟩, r5, ⟨r6, r7⟩, ⟨r8, r9⟩, r10⟩, rr⟩ := id hR
  obtain ⟨cp, cb, ⟨se1, se2⟩, ⟨g1, g2, g3, g4, g5, g6, g7, g8, g9, g10, g11⟩, cj, ck, cc⟩ := id co
  obtain ⟨⟨n1, n2, n3, n4⟩, ⟨n5, n6, n7⟩, ⟨n8, n9, n10, n11, n12, n13, n14, n15⟩, ⟨n16, n17, n18, n19⟩, ⟨n20, n21, n22, n23⟩, n24⟩ := id nr
  have on8 : M.on = x.powered := t12
  cases hp : x.powered with
  | false =>
    have hr2 := rl_up (cs' := cs + 1 + 0 + 0) (ss' := ss + 6 + 0 + 0) hR (by omega) 1 (by omega) (by omega)
    obtain ⟨rn1, rn2⟩ := rl_room hr2
    have W1 := fun sz => k8_count_1 l D dA sz h ad o og x (xs (6 * n + 1)) (fun u => u = x) _ _ _ _ (nf_x0 (fun sz => v_count_x l (lS_tr hC) D dA sz h ad x (xs (6 * n + 1)) hp) rfl (fun _ _ _ q => q))
    have M1 := fun sz => k_count_1 l D dA sz mm mad M (xs (6 * n + 1)) (t12.trans hp)
    exact l9_18_x l hC (k9 := 1) hi hL ⟨by omega, by omega, by omega, by omega⟩ ⟨by omega, by omega⟩ rfl k_n1 W1 M1 hP hD hS hl (fun u H1 locs1 ls1 hf hP hD hS hl => cont u _ _ _ (by rw [show u = x from hf]; exact hr2) og H1 locs1 ls1 hP hD hS hl)
  | true =>
    have on : M.on = true := t12.trans hp
    by_cases hv : xs (6 * n + 1) < 0 ∨ 8 < xs (6 * n + 1)
    · have hr2 := rl_up (cs' := cs + 1 + 0 + 0) (ss' := ss + 6 + 0 + 0) hR (by omega) 2 (by omega) (by omega)
      obtain ⟨rn1, rn2⟩ := rl_room hr2
      have W1 := fun sz => k8_count_2 l D dA sz h ad o og x (xs (6 * n + 1)) (fun u => u = x) _ _ _ _ (nf_x0 (fun sz => v_count_y l (lS_tr hC) D dA sz h ad x (xs (6 * n + 1)) hp hv) rfl (fun _ _ _ q => q))
      have M1 := fun sz => k_count_2 l D dA sz mm mad M (xs (6 * n + 1)) on hv
      exact l9_18_x l hC (k9 := 2) hi hL ⟨by omega, by omega, by omega, by omega⟩ ⟨by omega, by omega⟩ rfl k_n2 W1 M1 hP hD hS hl (fun u H1 locs1 ls1 hf hP hD hS hl => cont u _ _ _ (by rw [show u = x from hf]; exact hr2) og H1 locs1 ls1 hP hD hS hl)
    · obtain ⟨w, hw, ew⟩ := i32_nat (a := 8) (by decide) (fun z => hv (Or.inl z)) (fun z => hv (Or.inr z))
      have hso : ∀ q : Nat, q < x.nsc → x.nsO q < 2 ^ 31 := fun q hq => by
        have := nsO_lt cj ck hq
        omega
      have ef := fr_eq cp t10 g8 cc
      have eb : sumN M.parcelCount M.parcelBlocks = sumN x.npc (blN PS) := by
        rw [cp.1.2.1]
        exact sumN_ext (fun k hk => (cp.1.2.2.2 k hk).2.2)
      have epc : M.parcelCount = x.npc := cp.1.2.1
      have rec1 : M.records ≤ 32000 := by omega
      have pts1 : M.points ≤ 12000 := by omega
      have hcs : w = 0 ∨ w = 1 ∨ w = 2 ∨ w = 3 ∨ w = 4 ∨ w = 5 ∨ w = 6 ∨ w = 7 ∨ w = 8 := by omega
      rcases hcs with z | z | z | z | z | z | z | z | z
      · have e1 : xs (6 * n + 1) = 0 := by rw [ew, z]; rfl
        have hr2 := rl_up (cs' := cs + 0 + 0 + 0) (ss' := ss + 0 + 0 + 0) hR (by omega) 0 (by omega) (by omega)
        have W1 := fun sz => k8_count l D dA sz h ad o og x (xs (6 * n + 1)) (nI x.nser) (fun u => u = x) _ _ _ _ (nf_i (fun sz => v_count_0 l D dA sz h ad x hp) (fun r u q => ⟨q, rfl⟩) (fun _ _ _ q => by rw [e1] at q; exact q))
        have M1 := nm_i (M1 := MS.s_cod M 0) (b := nI M.seriesCount) (Pc2 := fun sz => pC D dA [.ref mm, .int (xs (6 * n + 1))] (MW dA mm mad M) sz) (fun sz => k_count0_0 l D dA sz mm mad M on rec1 pts1) (fun r u q => ⟨q, rfl⟩) (fun _ _ _ q => by rw [e1] at q; exact q)
        exact l9_18 l hC hi hL ⟨by omega, by omega, by omega, by omega⟩ ⟨by omega, by omega⟩ rfl (by rw [se1]) W1 M1 hP hD hS hl (fun u H1 locs1 ls1 hf hP hD hS hl => cont u _ _ _ (by rw [show u = x from hf]; exact hr2) _ H1 locs1 ls1 hP hD hS hl)
      · have e1 : xs (6 * n + 1) = 1 := by rw [ew, z]; rfl
        have hr2 := rl_up (cs' := cs + 0 + 0 + 0) (ss' := ss + 0 + 0 + 0) hR (by omega) 0 (by omega) (by omega)
        have W1 := fun sz => k8_count l D dA sz h ad o og x (xs (6 * n + 1)) (nI x.hsize) (fun u => u = x) _ _ _ _ (nf_i (fun sz => v_count_1 l D dA sz h ad x hp) (fun r u q => ⟨q, rfl⟩) (fun _ _ _ q => by rw [e1] at q; exact q))
        have M1 := nm_i (M1 := MS.s_cod M 0) (b := nI M.heads) (Pc2 := fun sz => pC D dA [.ref mm, .int (xs (6 * n + 1))] (MW dA mm mad M) sz) (fun sz => k_count0_1 l D dA sz mm mad M on rec1 pts1) (fun r u q => ⟨q, rfl⟩) (fun _ _ _ q => by rw [e1] at q; exact q)
        exact l9_18 l hC hi hL ⟨by omega, by omega, by omega, by omega⟩ ⟨by omega, by omega⟩ rfl (by rw [heads_eq cp]) W1 M1 hP hD hS hl (fun u H1 locs1 ls1 hf hP hD hS hl => cont u _ _ _ (by rw [show u = x from hf]; exact hr2) _ H1 locs1 ls1 hP hD hS hl)
      · have e1 : xs (6 * n + 1) = 2 := by rw [ew, z]; rfl
        have hr2 := rl_up (cs' := cs + 0 + 0 + 0) (ss' := ss + 0 + 0 + 0) hR (by omega) 0 (by omega) (by omega)
        have W1 := fun sz => k8_count l D dA sz h ad o og x (xs (6 * n + 1)) (nI x.npc) (fun u => u = x) _ _ _ _ (nf_i (fun sz => v_count_2 l D dA sz h ad x hp) (fun r u q => ⟨q, rfl⟩) (fun _ _ _ q => by rw [e1] at q; exact q))
        have M1 := nm_i (M1 := MS.s_cod M 0) (b := nI M.parcelCount) (Pc2 := fun sz => pC D dA [.ref mm, .int (xs (6 * n + 1))] (MW dA mm mad M) sz) (fun sz => k_count0_2 l D dA sz mm mad M on rec1 pts1) (fun r u q => ⟨q, rfl⟩) (fun _ _ _ q => by rw [e1] at q; exact q)
        exact l9_18 l hC hi hL ⟨by omega, by omega, by omega, by omega⟩ ⟨by omega, by omega⟩ rfl (by rw [epc]) W1 M1 hP hD hS hl (fun u H1 locs1 ls1 hf hP hD hS hl => cont u _ _ _ (by rw [show u = x from hf]; exact hr2) _ H1 locs1 ls1 hP hD hS hl)
      · have e1 : xs (6 * n + 1) = 3 := by rw [ew, z]; rfl
        have hr2 := rl_up (cs' := cs + 0 + 0 + 0) (ss' := ss + 0 + 0 + 0) hR (by omega) 0 (by omega) (by omega)
        have W1 := fun sz => k8_count l D dA sz h ad o og x (xs (6 * n + 1)) (nI x.nsc) (fun u => u = x) _ _ _ _ (nf_i (fun sz => v_count_3 l D dA sz h ad x hp) (fun r u q => ⟨q, rfl⟩) (fun _ _ _ q => by rw [e1] at q; exact q))
        have M1 := nm_i (M1 := MS.s_cod M 0) (b := nI (cnt M.points M.firstOf)) (Pc2 := fun sz => pC D dA [.ref mm, .int (xs (6 * n + 1))] (MW dA mm mad M) sz) (fun sz => k_count0_3 l D dA sz mm mad M on rec1 pts1) (fun r u q => ⟨q, rfl⟩) (fun _ _ _ q => by rw [e1] at q; exact q)
        exact l9_18 l hC hi hL ⟨by omega, by omega, by omega, by omega⟩ ⟨by omega, by omega⟩ rfl (by rw [sc_cnt cp.2.1.1 cp.2.1.2.1 (by omega) cp.2.1.2.2.1]) W1 M1 hP hD hS hl (fun u H1 locs1 ls1 hf hP hD hS hl => cont u _ _ _ (by rw [show u = x from hf]; exact hr2) _ H1 locs1 ls1 hP hD hS hl)
      · have e1 : xs (6 * n + 1) = 4 := by rw [ew, z]; rfl
        have hr2 := rl_up (cs' := cs + 0 + 0 + 0) (ss' := ss + 0 + 0 + 0) hR (by omega) 0 (by omega) (by omega)
        have W1 := fun sz => k8_count l D dA sz h ad o og x (xs (6 * n + 1)) (nI (x.fr PS)) (fun u => u = x) _ _ _ _ (nf_i (fun sz => v_count_4 l D dA sz h ad x PS hp n4 n2 n5) (fun r u q => ⟨q, rfl⟩) (fun _ _ _ q => by rw [e1] at q; exact q))
        have M1 := nm_i (M1 := MS.s_cod M 0) (b := nI M.freeN) (Pc2 := fun sz => pC D dA [.ref mm, .int (xs (6 * n + 1))] (MW dA mm mad M) sz) (fun sz => k_count0_4 l D dA sz mm mad M on rec1 pts1 (by omega) (by omega) (by omega)) (fun r u q => ⟨q, rfl⟩) (fun _ _ _ q => by rw [e1] at q; exact q)
        exact l9_18 l hC hi hL ⟨by omega, by omega, by omega, by omega⟩ ⟨by omega, by omega⟩ rfl (by rw [ef]) W1 M1 hP hD hS hl (fun u H1 locs1 ls1 hf hP hD hS hl => cont u _ _ _ (by rw [show u = x from hf]; exact hr2) _ H1 locs1 ls1 hP hD hS hl)
      · have e1 : xs (6 * n + 1) = 5 := by rw [ew, z]; rfl
        have hr2 := rl_up (cs' := cs + 0 + 0 + 0) (ss' := ss + 0 + 0 + 0) hR (by omega) 0 (by omega) (by omega)
        have W1 := fun sz => k8_count l D dA sz h ad o og x (xs (6 * n + 1)) (nI x.junits) (fun u => u = x) _ _ _ _ (nf_i (fun sz => v_count_5 l D dA sz h ad x hp) (fun r u q => ⟨q, rfl⟩) (fun _ _ _ q => by rw [e1] at q; exact q))
        have M1 := nm_i (M1 := MS.s_cod M 0) (b := nI (sumN M.records M.units)) (Pc2 := fun sz => pC D dA [.ref mm, .int (xs (6 * n + 1))] (MW dA mm mad M) sz) (fun sz => k_count0_5 l D dA sz mm mad M on rec1 pts1) (fun r u q => ⟨q, rfl⟩) (fun _ _ _ q => by rw [e1] at q; exact q)
        exact l9_18 l hC hi hL ⟨by omega, by omega, by omega, by omega⟩ ⟨by omega, by omega⟩ rfl (by rw [g9, g1]; rw [sumN_ext (fun r hr => (g11 r hr).2.2.1)]) W1 M1 hP hD hS hl (fun u H1 locs1 ls1 hf hP hD hS hl => cont u _ _ _ (by rw [show u = x from hf]; exact hr2) _ H1 locs1 ls1 hP hD hS hl)
      · have e1 : xs (6 * n + 1) = 6 := by rw [ew, z]; rfl
        have hr2 := rl_up (cs' := cs + 0 + 0 + 0) (ss' := ss + 0 + 0 + 0) hR (by omega) 0 (by omega) (by omega)
        have W1 := fun sz => k8_count l D dA sz h ad o og x (xs (6 * n + 1)) (nI x.jsize) (fun u => u = x) _ _ _ _ (nf_i (fun sz => v_count_6 l D dA sz h ad x hp) (fun r u q => ⟨q, rfl⟩) (fun _ _ _ q => by rw [e1] at q; exact q))
        have M1 := nm_i (M1 := MS.s_cod M 0) (b := nI M.records) (Pc2 := fun sz => pC D dA [.ref mm, .int (xs (6 * n + 1))] (MW dA mm mad M) sz) (fun sz => k_count0_6 l D dA sz mm mad M on rec1 pts1) (fun r u q => ⟨q, rfl⟩) (fun _ _ _ q => by rw [e1] at q; exact q)
        exact l9_18 l hC hi hL ⟨by omega, by omega, by omega, by omega⟩ ⟨by omega, by omega⟩ rfl (by rw [g1]) W1 M1 hP hD hS hl (fun u H1 locs1 ls1 hf hP hD hS hl => cont u _ _ _ (by rw [show u = x from hf]; exact hr2) _ H1 locs1 ls1 hP hD hS hl)
      · have e1 : xs (6 * n + 1) = 7 := by rw [ew, z]; rfl
        have hr2 := rl_up (cs' := cs + 0 + 0 + 0) (ss' := ss + 0 + 0 + 0) hR (by omega) 0 (by omega) (by omega)
        have W1 := fun sz => k8_count l D dA sz h ad o og x (xs (6 * n + 1)) (nI x.jkept) (fun u => u = x) _ _ _ _ (nf_i (fun sz => v_count_7 l D dA sz h ad x hp) (fun r u q => ⟨q, rfl⟩) (fun _ _ _ q => by rw [e1] at q; exact q))
        have M1 := nm_i (M1 := MS.s_cod M 0) (b := nI M.kept) (Pc2 := fun sz => pC D dA [.ref mm, .int (xs (6 * n + 1))] (MW dA mm mad M) sz) (fun sz => k_count0_7 l D dA sz mm mad M on rec1 pts1) (fun r u q => ⟨q, rfl⟩) (fun _ _ _ q => by rw [e1] at q; exact q)
        exact l9_18 l hC hi hL ⟨by omega, by omega, by omega, by omega⟩ ⟨by omega, by omega⟩ rfl (by rw [g2]) W1 M1 hP hD hS hl (fun u H1 locs1 ls1 hf hP hD hS hl => cont u _ _ _ (by rw [show u = x from hf]; exact hr2) _ H1 locs1 ls1 hP hD hS hl)
      · have e1 : xs (6 * n + 1) = 8 := by rw [ew, z]; rfl
        have hr2 := rl_up (cs' := cs + 0 + 0 + 0) (ss' := ss + 0 + 0 + 0) hR (by omega) 0 (by omega) (by omega)
        have W1 := fun sz => k8_count l D dA sz h ad o og x (xs (6 * n + 1)) (nI (sumN x.npc (x.sbN PS (1099511627776 - 1)) + x.hsize)) (fun u => u = x) _ _ _ _ (nf_i (fun sz => v_count_8 l D dA sz h ad x PS hp n4 n2 n3 hso) (fun r u q => ⟨q, rfl⟩) (fun _ _ _ q => by rw [e1] at q; exact q))
        have M1 := nm_i (M1 := MS.s_cod M 0) (b := nI (cnt M.points M.seen)) (Pc2 := fun sz => pC D dA [.ref mm, .int (xs (6 * n + 1))] (MW dA mm mad M) sz) (fun sz => k_count0_8 l D dA sz mm mad M on rec1 pts1) (fun r u q => ⟨q, rfl⟩) (fun _ _ _ q => by rw [e1] at q; exact q)
        exact l9_18 l hC hi hL ⟨by omega, by omega, by omega, by omega⟩ ⟨by omega, by omega⟩ rfl (by rw [all_seen cp]) W1 M1 hP hD hS hl (fun u H1 locs1 ls1 hf hP hD hS hl => cont u _ _ _ (by rw [show u = x from hf]; exact hr2) _ H1 locs1 ls1 hP hD hS hl)

theorem call_19 (l : Launch) (hC : lS p l s m meth c b L xs D dA e0 A) (hL : L ≤ 3072) (hi : 6 * n + 6 ≤ L) (hR : Rl dA ad e0 n x M cs ss) (cont : ∀ x' M' cs' ss', Rl dA ad e0 (n + 1) x' M' cs' ss' → At9 p l e s m below meth c b D dA A h ad mm mad o 23 (6 * n + 6) x' M' cs' ss') : At9 p l e s m below meth c b D dA A h ad mm mad o (tg9 19) (6 * n) x M cs ss := by
  intro og H locs ls hP hD hS hl
  obtain ⟨rm1, rm2⟩ := rl_room (rl_skip hR (by omega))
  obtain ⟨PS, SS, dn, bn, gq, rq, la, gk, AT, T, co, ⟨⟨t1, t2, t3, t4⟩, ⟨t5, t6, t7⟩, ⟨t8, t9⟩, t10, t11, t12⟩, ⟨sr1, sr2, sr3, sr4, sr5⟩, nr, ⟨⟨r1, r2, r3, r4⟩, r5, ⟨r6, r7⟩, ⟨r8, r9⟩, r10⟩, rr⟩ := id hR
  obtain ⟨cp, cb, ⟨se1, se2⟩, ⟨g1, g2, g3, g4, g5, g6, g7, g8, g9, g10, g11⟩, cj, ck, cc⟩ := id co
  obtain ⟨⟨n1, n2, n3, n4⟩, ⟨n5, n6, n7⟩, ⟨n8, n9, n10, n11, n12, n13, n14, n15⟩, ⟨n16, n17, n18, n19⟩, ⟨n20, n21, n22, n23⟩, n24⟩ := id nr
  cases hp : x.powered with
  | false =>
    have hr2 := rl_up (cs' := cs + 1 + 0 + 0) (ss' := ss + 6 + 0 + 0) hR (by omega) 1 (by omega) (by omega)
    obtain ⟨rn1, rn2⟩ := rl_room hr2
    have W1 := fun sz => k8_parcel_1 l D dA sz h ad o og x (xs (6 * n + 1)) (xs (6 * n + 2)) (fun u => u = x) _ _ _ _ (nf_x0 (fun sz => v_parcel_x l (lS_tr hC) D dA sz h ad x (xs (6 * n + 1)) (xs (6 * n + 2)) hp) rfl (fun _ _ _ q => q))
    have M1 := fun sz => k_parcel_1 l D dA sz mm mad M (xs (6 * n + 1)) (xs (6 * n + 2)) (t12.trans hp)
    exact l9_19_x l hC (k9 := 1) hi hL ⟨by omega, by omega, by omega, by omega⟩ ⟨by omega, by omega⟩ rfl k_n1 W1 M1 hP hD hS hl (fun u H1 locs1 ls1 hf hP hD hS hl => cont u _ _ _ (by rw [show u = x from hf]; exact hr2) og H1 locs1 ls1 hP hD hS hl)
  | true =>
    have on : M.on = true := t12.trans hp
    have epc : M.parcelCount = x.npc := cp.1.2.1
    by_cases hv : xs (6 * n + 1) < 0 ∨ nI x.npc ≤ xs (6 * n + 1)
    · have hr2 := rl_up (cs' := cs + 1 + 0 + 0) (ss' := ss + 6 + 0 + 0) hR (by omega) 2 (by omega) (by omega)
      obtain ⟨rn1, rn2⟩ := rl_room hr2
      have W1 := fun sz => k8_parcel_2 l D dA sz h ad o og x (xs (6 * n + 1)) (xs (6 * n + 2)) (fun u => u = x) _ _ _ _ (nf_x0 (fun sz => v_parcel_y l (lS_tr hC) D dA sz h ad x (xs (6 * n + 1)) (xs (6 * n + 2)) hp hv) rfl (fun _ _ _ q => q))
      have M1 := fun sz => k_parcel_2 l D dA sz mm mad M (xs (6 * n + 1)) (xs (6 * n + 2)) on (by rw [epc]; exact hv)
      exact l9_19_x l hC (k9 := 2) hi hL ⟨by omega, by omega, by omega, by omega⟩ ⟨by omega, by omega⟩ rfl k_n2 W1 M1 hP hD hS hl (fun u H1 locs1 ls1 hf hP hD hS hl => cont u _ _ _ (by rw [show u = x from hf]; exact hr2) og H1 locs1 ls1 hP hD hS hl)
    · obtain ⟨d, hd, ed⟩ := i32_lt (a := x.npc) (by omega) (fun z => hv (Or.inl z)) (fun z => hv (Or.inr z))
      have hd2 : d < M.parcelCount := by omega
      by_cases hu : xs (6 * n + 2) < 0 ∨ 4 < xs (6 * n + 2)
      · have hr2 := rl_up (cs' := cs + 1 + 0 + 0) (ss' := ss + 6 + 0 + 0) hR (by omega) 3 (by omega) (by omega)
        obtain ⟨rn1, rn2⟩ := rl_room hr2
        have W1 := fun sz => k8_parcel_3 l D dA sz h ad o og x (xs (6 * n + 1)) (xs (6 * n + 2)) (fun u => u = x) _ _ _ _ (nf_x1 (w := fun _ => x) (fun sz => v_parcel_z l (lS_tr hC) D dA sz h ad x PS d (xs (6 * n + 2)) hp hd n4 n2 hu) (fun _ _ => rfl) (fun _ _ _ q => by rw [ed] at q; exact q))
        have M1 := nm_i (M1 := MS.s_cod M 3) (b := 0) (Pc2 := fun sz => pC D dA [.ref mm, .int (xs (6 * n + 1)), .int (xs (6 * n + 2))] (MW dA mm mad M) sz) (fun sz => k_parcel_3 l D dA sz mm mad M d (xs (6 * n + 2)) on hd2 (by omega) hu) (fun r u q => ⟨q, rfl⟩) (fun _ _ _ q => by rw [ed] at q; exact q)
        exact l9_19_x l hC (k9 := 3) hi hL ⟨by omega, by omega, by omega, by omega⟩ ⟨by omega, by omega⟩ rfl k_n3 W1 M1 hP hD hS hl (fun u H1 locs1 ls1 hf hP hD hS hl => cont u _ _ _ (by rw [show u = x from hf]; exact hr2) og H1 locs1 ls1 hP hD hS hl)
      · obtain ⟨w, hw, ew⟩ := i32_nat (a := 4) (by decide) (fun z => hu (Or.inl z)) (fun z => hu (Or.inr z))
        have hso : ∀ q : Nat, q < x.nsc → x.nsO q < 2 ^ 31 := fun q hq => by
          have := nsO_lt cj ck hq
          omega
        have f1 : M.parcelCount ≤ 40 := by omega
        have pts1 : M.points ≤ 12000 := by omega
        have se3 : M.seriesCount ≤ 256 := by omega
        have hcs : w = 0 ∨ w = 1 ∨ w = 2 ∨ w = 3 ∨ w = 4 := by omega
        rcases hcs with z | z | z | z | z
        · have e1 : xs (6 * n + 2) = 0 := by rw [ew, z]; rfl
          have hr2 := rl_up (cs' := cs + 0 + 0 + 0) (ss' := ss + 0 + 0 + 0) hR (by omega) 0 (by omega) (by omega)
          have W1 := fun sz => k8_parcel l D dA sz h ad o og x (xs (6 * n + 1)) (xs (6 * n + 2)) (nI (PS d).n) (fun u => u = x) _ _ _ _ (nf_i (fun sz => v_parcel_0 l D dA sz h ad x PS d hp hd n4 n2) (fun r u q => ⟨q, rfl⟩) (fun _ _ _ q => by rw [ed, e1] at q; exact q))
          have M1 := nm_i (M1 := MS.s_cod M 0) (b := nI (sumN M.seriesCount (fun z => cnt M.points (M.inP (M.parcels d) z)))) (Pc2 := fun sz => pC D dA [.ref mm, .int (xs (6 * n + 1)), .int (xs (6 * n + 2))] (MW dA mm mad M) sz) (fun sz => k_parcel0_0 l D dA sz mm mad M d on hd2 f1 pts1 se3 n23) (fun r u q => ⟨q, rfl⟩) (fun _ _ _ q => by rw [ed, e1] at q; exact q)
          exact l9_19 l hC hi hL ⟨by omega, by omega, by omega, by omega⟩ ⟨by omega, by omega⟩ rfl (by rw [pc_0 cp hd]) W1 M1 hP hD hS hl (fun u H1 locs1 ls1 hf hP hD hS hl => cont u _ _ _ (by rw [show u = x from hf]; exact hr2) _ H1 locs1 ls1 hP hD hS hl)
        · have e1 : xs (6 * n + 2) = 1 := by rw [ew, z]; rfl
          have hr2 := rl_up (cs' := cs + 0 + 0 + 0) (ss' := ss + 0 + 0 + 0) hR (by omega) 0 (by omega) (by omega)
          have W1 := fun sz => k8_parcel l D dA sz h ad o og x (xs (6 * n + 1)) (xs (6 * n + 2)) (nI (cnt (PS d).n (x.siPc (PS d) 1099511627775))) (fun u => u = x) _ _ _ _ (nf_i (fun sz => v_parcel_1 l D dA sz h ad x PS d hp hd n4 n2 n3 hso) (fun r u q => ⟨q, rfl⟩) (fun _ _ _ q => by rw [ed, e1] at q; exact q))
          have M1 := nm_i (M1 := MS.s_cod M 0) (b := nI (sumN M.seriesCount (fun z => cnt M.points (fun y => M.inP (M.parcels d) z y && M.seen y)))) (Pc2 := fun sz => pC D dA [.ref mm, .int (xs (6 * n + 1)), .int (xs (6 * n + 2))] (MW dA mm mad M) sz) (fun sz => k_parcel0_1 l D dA sz mm mad M d on hd2 f1 pts1 se3 n23) (fun r u q => ⟨q, rfl⟩) (fun _ _ _ q => by rw [ed, e1] at q; exact q)
          exact l9_19 l hC hi hL ⟨by omega, by omega, by omega, by omega⟩ ⟨by omega, by omega⟩ rfl (by rw [pc_1 cp hd]) W1 M1 hP hD hS hl (fun u H1 locs1 ls1 hf hP hD hS hl => cont u _ _ _ (by rw [show u = x from hf]; exact hr2) _ H1 locs1 ls1 hP hD hS hl)
        · have e1 : xs (6 * n + 2) = 2 := by rw [ew, z]; rfl
          have hr2 := rl_up (cs' := cs + 0 + 0 + 0) (ss' := ss + 0 + 0 + 0) hR (by omega) 0 (by omega) (by omega)
          have W1 := fun sz => k8_parcel l D dA sz h ad o og x (xs (6 * n + 1)) (xs (6 * n + 2)) (nI (PS d).ch) (fun u => u = x) _ _ _ _ (nf_i (fun sz => v_parcel_2 l D dA sz h ad x PS d hp hd n4 n2) (fun r u q => ⟨q, rfl⟩) (fun _ _ _ q => by rw [ed, e1] at q; exact q))
          have M1 := nm_i (M1 := MS.s_cod M 0) (b := nI (cnt M.seriesCount (fun z => decide (0 < cnt M.points (M.inP (M.parcels d) z))))) (Pc2 := fun sz => pC D dA [.ref mm, .int (xs (6 * n + 1)), .int (xs (6 * n + 2))] (MW dA mm mad M) sz) (fun sz => k_parcel0_2 l D dA sz mm mad M d on hd2 f1 pts1 se3 n23) (fun r u q => ⟨q, rfl⟩) (fun _ _ _ q => by rw [ed, e1] at q; exact q)
          exact l9_19 l hC hi hL ⟨by omega, by omega, by omega, by omega⟩ ⟨by omega, by omega⟩ rfl (by rw [pc_2 cp hd]) W1 M1 hP hD hS hl (fun u H1 locs1 ls1 hf hP hD hS hl => cont u _ _ _ (by rw [show u = x from hf]; exact hr2) _ H1 locs1 ls1 hP hD hS hl)
        · have e1 : xs (6 * n + 2) = 3 := by rw [ew, z]; rfl
          have hr2 := rl_up (cs' := cs + 0 + 0 + 0) (ss' := ss + 0 + 0 + 0) hR (by omega) 0 (by omega) (by omega)
          have W1 := fun sz => k8_parcel l D dA sz h ad o og x (xs (6 * n + 1)) (xs (6 * n + 2)) (nI (PS d).bi) (fun u => u = x) _ _ _ _ (nf_i (fun sz => v_parcel_3 l D dA sz h ad x PS d hp hd n4 n2) (fun r u q => ⟨q, rfl⟩) (fun _ _ _ q => by rw [ed, e1] at q; exact q))
          have M1 := nm_i (M1 := MS.s_cod M 0) (b := nI (M.bA (nI (M.parcels d)) (nI (M.parcels d)) false M.seriesCount)) (Pc2 := fun sz => pC D dA [.ref mm, .int (xs (6 * n + 1)), .int (xs (6 * n + 2))] (MW dA mm mad M) sz) (fun sz => k_parcel0_3 l D dA sz mm mad M d on hd2 f1 pts1 se3 n23) (fun r u q => ⟨q, rfl⟩) (fun _ _ _ q => by rw [ed, e1] at q; exact q)
          exact l9_19 l hC hi hL ⟨by omega, by omega, by omega, by omega⟩ ⟨by omega, by omega⟩ rfl (by rw [pc_3 cp hd]) W1 M1 hP hD hS hl (fun u H1 locs1 ls1 hf hP hD hS hl => cont u _ _ _ (by rw [show u = x from hf]; exact hr2) _ H1 locs1 ls1 hP hD hS hl)
        · have e1 : xs (6 * n + 2) = 4 := by rw [ew, z]; rfl
          have hr2 := rl_up (cs' := cs + 0 + 0 + 0) (ss' := ss + 0 + 0 + 0) hR (by omega) 0 (by omega) (by omega)
          have W1 := fun sz => k8_parcel l D dA sz h ad o og x (xs (6 * n + 1)) (xs (6 * n + 2)) (nI (PS d).bl) (fun u => u = x) _ _ _ _ (nf_i (fun sz => v_parcel_4 l D dA sz h ad x PS d hp hd n4 n2) (fun r u q => ⟨q, rfl⟩) (fun _ _ _ q => by rw [ed, e1] at q; exact q))
          have M1 := nm_i (M1 := MS.s_cod M 0) (b := nI (M.parcelBlocks d)) (Pc2 := fun sz => pC D dA [.ref mm, .int (xs (6 * n + 1)), .int (xs (6 * n + 2))] (MW dA mm mad M) sz) (fun sz => k_parcel0_4 l D dA sz mm mad M d on hd2 f1 pts1 se3 n23) (fun r u q => ⟨q, rfl⟩) (fun _ _ _ q => by rw [ed, e1] at q; exact q)
          exact l9_19 l hC hi hL ⟨by omega, by omega, by omega, by omega⟩ ⟨by omega, by omega⟩ rfl (by rw [(cp.1.2.2.2 d hd).2.2]) W1 M1 hP hD hS hl (fun u H1 locs1 ls1 hf hP hD hS hl => cont u _ _ _ (by rw [show u = x from hf]; exact hr2) _ H1 locs1 ls1 hP hD hS hl)

theorem rl_fmt (h : Rl dA ad e0 n x M cs ss) (hn : n + 1 ≤ 512) {N J : Nat} (h2 : N ≤ 256) (h3 : 2 ≤ J) (h4 : J ≤ N - 8) (hN : 16 ≤ N) : Rl dA ad e0 (n + 1) (VS.s_scat (VS.s_sser (VS.s_shor (VS.s_ssc (VS.s_spc (VS.s_ncat (VS.s_nser (VS.s_nhor (VS.s_nsc (VS.s_npc (VS.s_hsize (VS.s_jch (VS.s_jfill (VS.s_jblock (VS.s_jlimit (VS.s_junits (VS.s_jkept (VS.s_jsize (VS.s_hasTable (VS.s_writes (VS.s_cutLeft (VS.s_powered (VS.s_diskBlocks x N) true) (-1)) 0) false) 0) 0) 0) J) 0) 0) false) 0) 0) 0) 0) 0) 0) 0) 0) 0) 0) 0) (M.fmt N J) cs ss := by
  obtain ⟨PS, SS, dn, bn, gq, rq, la, gk, AT, T, co, ⟨tt1, tt2, tt3, t10, t11, t12⟩, ⟨sr1, sr2, sr3, sr4, sr5⟩, nr, ⟨rr1, r5, rr2, rr3, r10⟩, q1, q2, q3⟩ := h
  obtain ⟨⟨n1, n2, n3, n4⟩, ⟨n5, n6, n7⟩, ⟨n8, n9, n10, n11, n12, n13, n14, n15⟩, ⟨n16, n17, n18, n19⟩, ⟨n20, n21, n22, n23⟩, n24⟩ := nr
  refine ⟨PS, SS, fun _ => 0, fun _ => 0, gq, rq, la, gk, AT, T, ?_, ⟨tt1, tt2, tt3, rfl, h2, rfl⟩, ⟨fun s hs => absurd hs (Nat.not_lt_zero s), fun s hs => absurd hs (Nat.not_lt_zero s), fun s hs => absurd hs (Nat.not_lt_zero s), sr4, fun s hs => absurd hs (Nat.not_lt_zero s)⟩, ?_, ⟨rr1, r5, rr2, ⟨rfl, fun z => (by cases z)⟩, r10.1, nh_0⟩, hn, ?_, ?_⟩
  · exact fm_co ⟨rfl, rfl, rfl, rfl, rfl, rfl, rfl⟩ ⟨rfl, rfl, rfl, rfl, rfl, rfl, rfl, rfl⟩ ⟨by show M.deletes ≤ 2 ^ 29; omega, by show M.parcelNumber ≤ 2 ^ 29; omega⟩ ⟨rfl, rfl, rfl, rfl, rfl, rfl⟩ ⟨rfl, rfl, rfl, rfl, rfl⟩ ⟨rfl, rfl, rfl, rfl, rfl, rfl⟩
  · have tl : x.tapeLength ≤ 36 * n := by omega
    refine ⟨⟨Nat.zero_le _, Nat.zero_le _, Nat.zero_le _, fun s hs => absurd hs (Nat.not_lt_zero s)⟩, ⟨?_, Nat.zero_le _, ?_⟩, ⟨Nat.zero_le _, n9, n10, Nat.zero_le _, n12, n13, n14, n15⟩, ⟨?_, ?_, ?_, Nat.zero_le _⟩, ⟨Nat.zero_le _, ?_, ?_, fun s hs => absurd hs (Nat.not_lt_zero s)⟩, fun s hs => absurd hs (Nat.not_lt_zero s)⟩
    · show J + 2 + (0 + 0) ≤ N
      omega
    · show 0 < J
      omega
    · show 16 * 0 + x.tapeLength ≤ 36 * (n + 1)
      omega
    · show 16 * 0 + x.tapeLength ≤ 36 * (n + 1)
      omega
    · show 16 * (0 + 0) + x.tapeLength ≤ 36 * (n + 1)
      omega
    · show M.deletes ≤ 1300 * (n + 1)
      omega
    · show M.parcelNumber ≤ n + 1
      omega
  · show cs + 17 * x.tapeLength ≤ 2000 + 400 * (n + 1) + 6 * x.jN + 3 * x.hN + 3 * x.gN + x.tpN
    omega
  · show ss + 70 * x.tapeLength ≤ 1177800 + 6000 * (n + 1) + 12 * x.jN + 6 * x.hN + 6 * x.gN + 2 * x.tpN + (700 * gk.sz + 2 * sumN gk.sz (fun tb => (T tb).cN) + 4 * x.bN)
    omega

theorem call_2 (l : Launch) (hC : lS p l s m meth c b L xs D dA e0 A) (hL : L ≤ 3072) (hi : 6 * n + 6 ≤ L) (hR : Rl dA ad e0 n x M cs ss) (cont : ∀ x' M' cs' ss', Rl dA ad e0 (n + 1) x' M' cs' ss' → At9 p l e s m below meth c b D dA A h ad mm mad o 23 (6 * n + 6) x' M' cs' ss') : At9 p l e s m below meth c b D dA A h ad mm mad o (tg9 2) (6 * n) x M cs ss := by
  intro og H locs ls hP hD hS hl
  obtain ⟨rm1, rm2⟩ := rl_room (rl_skip hR (by omega))
  obtain ⟨PS, SS, dn, bn, gq, rq, la, gk, AT, T, co, ⟨⟨t1, t2, t3, t4⟩, ⟨t5, t6, t7⟩, ⟨t8, t9⟩, t10, t11, t12⟩, ⟨sr1, sr2, sr3, sr4, sr5⟩, nr, ⟨⟨r1, r2, r3, r4⟩, r5, ⟨r6, r7⟩, ⟨r8, r9⟩, r10⟩, rr⟩ := id hR
  obtain ⟨cp, cb, ⟨se1, se2⟩, ⟨g1, g2, g3, g4, g5, g6, g7, g8, g9, g10, g11⟩, cj, ck, cc⟩ := id co
  obtain ⟨⟨n1, n2, n3, n4⟩, ⟨n5, n6, n7⟩, ⟨n8, n9, n10, n11, n12, n13, n14, n15⟩, ⟨n16, n17, n18, n19⟩, ⟨n20, n21, n22, n23⟩, n24⟩ := id nr
  by_cases hv : xs (6 * n + 1) < 16 ∨ 256 < xs (6 * n + 1) ∨ xs (6 * n + 2) < 2 ∨ xs (6 * n + 1) - 8 < xs (6 * n + 2)
  · have hr2 := rl_up (cs' := cs + 1 + 0 + 0) (ss' := ss + 6 + 0 + 0) hR (by omega) 1 (by omega) (by omega)
    obtain ⟨rn1, rn2⟩ := rl_room hr2
    have W1 := fun sz => k8_format_1 l D dA sz h ad x (xs (6 * n + 1)) (xs (6 * n + 2)) (fun u => u = x) _ _ _ _ (nf_x0 (fun sz => v_format_x l (lS_tr hC) D dA sz h ad x (xs (6 * n + 1)) (xs (6 * n + 2)) hv) rfl (fun _ _ _ q => q))
    have M1 := fun sz => k_format_x l D dA sz mm mad M (xs (6 * n + 1)) (xs (6 * n + 2)) hv
    exact l9_2_x l hC (k9 := 1) hi hL ⟨by omega, by omega, by omega, by omega⟩ ⟨by omega, by omega⟩ rfl k_n1 W1 M1 hP hD hS hl (fun u H1 locs1 ls1 hf hP hD hS hl => cont u _ _ _ (by rw [show u = x from hf]; exact hr2) og H1 locs1 ls1 hP hD hS hl)
  · obtain ⟨v1, v2⟩ := not_or.mp hv
    obtain ⟨v2, v3⟩ := not_or.mp v2
    obtain ⟨v3, v4⟩ := not_or.mp v3
    have z16 : (16 : Int32).toInt = 16 := by decide
    have z2 : (2 : Int32).toInt = 2 := by decide
    have z0 : (0 : Int32).toInt = 0 := by decide
    have v1' : ¬ xs (6 * n + 1) < 0 := fun z => v1 (by rw [Int32.lt_iff_toInt_lt] at z ⊢; omega)
    have v3' : ¬ xs (6 * n + 2) < 0 := fun z => v3 (by rw [Int32.lt_iff_toInt_lt] at z ⊢; omega)
    obtain ⟨N, hN, eN⟩ := i32_nat (a := 256) (by decide) v1' v2
    have hN16 : 16 ≤ N := by
      rw [eN, Int32.lt_iff_toInt_lt, nI_toInt (by omega), z16] at v1
      omega
    have e8 : xs (6 * n + 1) - 8 = nI (N - 8) := by
      rw [eN, Int32.sub_eq_add_neg]
      exact nI_dn (-8) (by decide) (by omega)
    obtain ⟨J, hJ, eJ⟩ := i32_nat (a := N - 8) (by omega) v3' (by rw [← e8]; exact v4)
    have hJ2 : 2 ≤ J := by
      rw [eJ, Int32.lt_iff_toInt_lt, nI_toInt (by omega), z2] at v3
      omega
    have hr2 := rl_fmt hR (by omega) hN hJ2 hJ hN16
    have W1 := fun sz => k8_format l D dA sz h ad x (xs (6 * n + 1)) (xs (6 * n + 2)) (fun u => u = VS.s_scat (VS.s_sser (VS.s_shor (VS.s_ssc (VS.s_spc (VS.s_ncat (VS.s_nser (VS.s_nhor (VS.s_nsc (VS.s_npc (VS.s_hsize (VS.s_jch (VS.s_jfill (VS.s_jblock (VS.s_jlimit (VS.s_junits (VS.s_jkept (VS.s_jsize (VS.s_hasTable (VS.s_writes (VS.s_cutLeft (VS.s_powered (VS.s_diskBlocks x N) true) (-1)) 0) false) 0) 0) 0) J) 0) 0) false) 0) 0) 0) 0) 0) 0) 0) 0) 0) 0) 0) _ _ _ _ (nf_v (fun sz => v_format l D dA sz h ad x N J (by omega) (by omega) hN16 hN hJ2 hJ) (fun _ _ => rfl) (fun _ _ _ q => by rw [eN, eJ] at q; exact q))
    have M1 := nm_v (M1 := M.fmt N J) (Pc2 := fun sz => pC D dA [.ref mm, .int (xs (6 * n + 1)), .int (xs (6 * n + 2))] (MW dA mm mad M) sz) (fun sz => k_format l D dA sz mm mad M N J hN16 hN hJ2 hJ) (fun u q => q) (fun _ _ _ q => by rw [eN, eJ] at q; exact q)
    exact l9_2 l hC hi hL ⟨by omega, by omega, by omega, by omega⟩ ⟨by omega, by omega⟩ rfl W1 M1 hP hD hS hl (fun u H1 locs1 ls1 hf hP hD hS hl => cont u _ _ _ (by rw [show u = _ from hf]; exact hr2) og H1 locs1 ls1 hP hD hS hl)

end CE
