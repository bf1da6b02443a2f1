section
/-! Counts, parcels, a new disk: the calls. -/
theorem nsO_lt {PS : Nat → PT} {x : VS} (hj : joR PS x) (hk : x.jkept ≤ x.jsize) {q : Nat} (hq : q < x.nsc) : x.nsO q < x.nser := by
  obtain ⟨⟨i1, i2, i3, i4⟩, -, h⟩ := hj
  have h2 := (h x.jsize hk (Nat.le_refl _)).2 (x.nsO q, x.nsF q, x.nsT q) (by
    rw [i4]
    unfold scL lsF
    exact List.mem_map.mpr ⟨q, List.mem_range.mpr hq, rfl⟩)
  rw [i1] at h2
  exact h2.1
section CE
variable {p : Program} {e : Env} {s : State} {m : MethodId} {below : List Frame} {meth : Method} {c : Code} {b L : Nat} {xs : Nat → Int32} {D : va_G} {dA : Nat → ClassId} {e0 : Nat} {A : Nat → Prop} {h : Nat} {ad : Nat → Nat} {mm : Nat} {mad : Nat → Nat} {o : Nat} {n : Nat} {x : VS} {M : MS} {cs ss : Nat}

theorem call_18 (l : Launch) (hC : lS p l s m meth c b L xs D dA e0 A) (hL : L ≤ 3072) (hi : 6 * n + 6 ≤ L) (hR : Rl dA ad e0 n x M cs ss) (cont : ∀ x' M' cs' ss', Rl dA ad e0 (n + 1) x' M' cs' ss' → At9 p l e s m below meth c b D dA A h ad mm mad o 23 (6 * n + 6) x' M' cs' ss') : At9 p l e s m below meth c b D dA A h ad mm mad o (tg9 18) (6 * n) x M cs ss := by
  intro og H locs ls hP hD hS hl
  obtain ⟨rm1, rm2⟩ := rl_room (rl_skip hR (by omega))
  obtain ⟨PS, SS, dn, bn, gq, rq, la, gk, AT, T, co, ⟨⟨t1, t2, t3, t4⟩, ⟨t5, t6, t7⟩, ⟨t8, t9⟩, t10, t11, t12⟩, ⟨sr1, sr2, sr3, sr4, sr5⟩, nr, ⟨⟨r1, r2, r3, r4⟩, r5, ⟨r6, r7⟩, ⟨r8, r9⟩, r10⟩, rr⟩ := id hR
  obtain ⟨cp, cb, ⟨se1, se2⟩, ⟨g1, g2, g3, g4, g5, g6, g7, g8, g9, g10, g11⟩, cj, ck, cc⟩ := id co
  obtain ⟨⟨n1, n2, n3, n4⟩, ⟨n5, n6, n7⟩, ⟨n8, n9, n10, n11, n12, n13, n14, n15⟩, ⟨n16, n17, n18, n19⟩, ⟨n20, n21, n22, n23⟩, n24⟩ := id nr
  have on8 : M.on = x.powered := t12
  cases hp : x.powered with
  | false =>
    have hr2 := rl_up (cs' := cs + 1 + 0 + 0) (ss' := ss + 6 + 0 + 0) hR (by omega) 1 (by omega) (by omega)
    obtain ⟨rn1, rn2⟩ := rl_room hr2
    have W1 := fun sz => k8_count_1 l D dA sz h ad o og x (xs (6 * n + 1)) (fun u => u = x) _ _ _ _ (nf_x0 (fun sz => v_count_x l (lS_tr hC) D dA sz h ad x (xs (6 * n + 1)) hp) rfl (fun _ _ _ q => q))
    have M1 := fun sz => k_count_1 l D dA sz mm mad M (xs (6 * n + 1)) (t12.trans hp)
    exact l9_18_x l hC (k9 := 1) hi hL ⟨by omega, by omega, by omega, by omega⟩ ⟨by omega, by omega⟩ rfl k_n1 W1 M1 hP hD hS hl (fun u H1 locs1 ls1 hf hP hD hS hl => cont u _ _ _ (by rw [show u = x from hf]; exact hr2) og H1 locs1 ls1 hP hD hS hl)
  | true =>
    have on : M.on = true := t12.trans hp
    by_cases hv : xs (6 * n + 1) < 0 ∨ 8 < xs (6 * n + 1)
    · have hr2 := rl_up (cs' := cs + 1 + 0 + 0) (ss' := ss + 6 + 0 + 0) hR (by omega) 2 (by omega) (by omega)
      obtain ⟨rn1, rn2⟩ := rl_room hr2
      have W1 := fun sz => k8_count_2 l D dA sz h ad o og x (xs (6 * n + 1)) (fun u => u = x) _ _ _ _ (nf_x0 (fun sz => v_count_y l (lS_tr hC) D dA sz h ad x (xs (6 * n + 1)) hp hv) rfl (fun _ _ _ q => q))
      have M1 := fun sz => k_count_2 l D dA sz mm mad M (xs (6 * n + 1)) on hv
      exact l9_18_x l hC (k9 := 2) hi hL ⟨by omega, by omega, by omega, by omega⟩ ⟨by omega, by omega⟩ rfl k_n2 W1 M1 hP hD hS hl (fun u H1 locs1 ls1 hf hP hD hS hl => cont u _ _ _ (by rw [show u = x from hf]; exact hr2) og H1 locs1 ls1 hP hD hS hl)
    · obtain ⟨w, hw, ew⟩ := i32_nat (a := 8) (by decide) (fun z => hv (Or.inl z)) (fun z => hv (Or.inr z))
      have hso : ∀ q : Nat, q < x.nsc → x.nsO q < 2 ^ 31 := fun q hq => by
        have := nsO_lt cj ck hq
        omega
      have ef := fr_eq cp t10 g8 cc
      have eb : sumN M.parcelCount M.parcelBlocks = sumN x.npc (blN PS) := by
        rw [cp.1.2.1]
        exact sumN_ext (fun k hk => (cp.1.2.2.2 k hk).2.2)
      have epc : M.parcelCount = x.npc := cp.1.2.1
      have rec1 : M.records ≤ 32000 := by omega
      have pts1 : M.points ≤ 12000 := by omega
      have hcs : w = 0 ∨ w = 1 ∨ w = 2 ∨ w = 3 ∨ w = 4 ∨ w = 5 ∨ w = 6 ∨ w = 7 ∨ w = 8 := by omega
      rcases hcs with z | z | z | z | z | z | z | z | z
      · have e1 : xs (6 * n + 1) = 0 := by rw [ew, z]; rfl
        have hr2 := rl_up (cs' := cs + 0 + 0 + 0) (ss' := ss + 0 + 0 + 0) hR (by omega) 0 (by omega) (by omega)
        have W1 := fun sz => k8_count l D dA sz h ad o og x (xs (6 * n + 1)) (nI x.nser) (fun u => u = x) _ _ _ _ (nf_i (fun sz => v_count_0 l D dA sz h ad x hp) (fun r u q => ⟨q, rfl⟩) (fun _ _ _ q => by rw [e1] at q; exact q))
        have M1 := nm_i (M1 := MS.s_cod M 0) (b := nI M.seriesCount) (Pc2 := fun sz => pC D dA [.ref mm, .int (xs (6 * n + 1))] (MW dA mm mad M) sz) (fun sz => k_count0_0 l D dA sz mm mad M on rec1 pts1) (fun r u q => ⟨q, rfl⟩) (fun _ _ _ q => by rw [e1] at q; exact q)
        exact l9_18 l hC hi hL ⟨by omega, by omega, by omega, by omega⟩ ⟨by omega, by omega⟩ rfl (by rw [se1]) W1 M1 hP hD hS hl (fun u H1 locs1 ls1 hf hP hD hS hl => cont u _ _ _ (by rw [show u = x from hf]; exact hr2) _ H1 locs1 ls1 hP hD hS hl)
      · have e1 : xs (6 * n + 1) = 1 := by rw [ew, z]; rfl
        have hr2 := rl_up (cs' := cs + 0 + 0 + 0) (ss' := ss + 0 + 0 + 0) hR (by omega) 0 (by omega) (by omega)
        have W1 := fun sz => k8_count l D dA sz h ad o og x (xs (6 * n + 1)) (nI x.hsize) (fun u => u = x) _ _ _ _ (nf_i (fun sz => v_count_1 l D dA sz h ad x hp) (fun r u q => ⟨q, rfl⟩) (fun _ _ _ q => by rw [e1] at q; exact q))
        have M1 := nm_i (M1 := MS.s_cod M 0) (b := nI M.heads) (Pc2 := fun sz => pC D dA [.ref mm, .int (xs (6 * n + 1))] (MW dA mm mad M) sz) (fun sz => k_count0_1 l D dA sz mm mad M on rec1 pts1) (fun r u q => ⟨q, rfl⟩) (fun _ _ _ q => by rw [e1] at q; exact q)
        exact l9_18 l hC hi hL ⟨by omega, by omega, by omega, by omega⟩ ⟨by omega, by omega⟩ rfl (by rw [heads_eq cp]) W1 M1 hP hD hS hl (fun u H1 locs1 ls1 hf hP hD hS hl => cont u _ _ _ (by rw [show u = x from hf]; exact hr2) _ H1 locs1 ls1 hP hD hS hl)
      · have e1 : xs (6 * n + 1) = 2 := by rw [ew, z]; rfl
        have hr2 := rl_up (cs' := cs + 0 + 0 + 0) (ss' := ss + 0 + 0 + 0) hR (by omega) 0 (by omega) (by omega)
        have W1 := fun sz => k8_count l D dA sz h ad o og x (xs (6 * n + 1)) (nI x.npc) (fun u => u = x) _ _ _ _ (nf_i (fun sz => v_count_2 l D dA sz h ad x hp) (fun r u q => ⟨q, rfl⟩) (fun _ _ _ q => by rw [e1] at q; exact q))
        have M1 := nm_i (M1 := MS.s_cod M 0) (b := nI M.parcelCount) (Pc2 := fun sz => pC D dA [.ref mm, .int (xs (6 * n + 1))] (MW dA mm mad M) sz) (fun sz => k_count0_2 l D dA sz mm mad M on rec1 pts1) (fun r u q => ⟨q, rfl⟩) (fun _ _ _ q => by rw [e1] at q; exact q)
        exact l9_18 l hC hi hL ⟨by omega, by omega, by omega, by omega⟩ ⟨by omega, by omega⟩ rfl (by rw [epc]) W1 M1 hP hD hS hl (fun u H1 locs1 ls1 hf hP hD hS hl => cont u _ _ _ (by rw [show u = x from hf]; exact hr2) _ H1 locs1 ls1 hP hD hS hl)
      · have e1 : xs (6 * n + 1) = 3 := by rw [ew, z]; rfl
        have hr2 := rl_up (cs' := cs + 0 + 0 + 0) (ss' := ss + 0 + 0 + 0) hR (by omega) 0 (by omega) (by omega)
        have W1 := fun sz => k8_count l D dA sz h ad o og x (xs (6 * n + 1)) (nI x.nsc) (fun u => u = x) _ _ _ _ (nf_i (fun sz => v_count_3 l D dA sz h ad x hp) (fun r u q => ⟨q, rfl⟩) (fun _ _ _ q => by rw [e1] at q; exact q))
        have M1 := nm_i (M1 := MS.s_cod M 0) (b := nI (cnt M.points M.firstOf)) (Pc2 := fun sz => pC D dA [.ref mm, .int (xs (6 * n + 1))] (MW dA mm mad M) sz) (fun sz => k_count0_3 l D dA sz mm mad M on rec1 pts1) (fun r u q => ⟨q, rfl⟩) (fun _ _ _ q => by rw [e1] at q; exact q)
        exact l9_18 l hC hi hL ⟨by omega, by omega, by omega, by omega⟩ ⟨by omega, by omega⟩ rfl (by rw [sc_cnt cp.2.1.1 cp.2.1.2.1 (by omega) cp.2.1.2.2.1]) W1 M1 hP hD hS hl (fun u H1 locs1 ls1 hf hP hD hS hl => cont u _ _ _ (by rw [show u = x from hf]; exact hr2) _ H1 locs1 ls1 hP hD hS hl)
      · have e1 : xs (6 * n + 1) = 4 := by rw [ew, z]; rfl
        have hr2 := rl_up (cs' := cs + 0 + 0 + 0) (ss' := ss + 0 + 0 + 0) hR (by omega) 0 (by omega) (by omega)
        have W1 := fun sz => k8_count l D dA sz h ad o og x (xs (6 * n + 1)) (nI (x.fr PS)) (fun u => u = x) _ _ _ _ (nf_i (fun sz => v_count_4 l D dA sz h ad x PS hp n4 n2 n5) (fun r u q => ⟨q, rfl⟩) (fun _ _ _ q => by rw [e1] at q; exact q))
        have M1 := nm_i (M1 := MS.s_cod M 0) (b := nI M.freeN) (Pc2 := fun sz => pC D dA [.ref mm, .int (xs (6 * n + 1))] (MW dA mm mad M) sz) (fun sz => k_count0_4 l D dA sz mm mad M on rec1 pts1 (by omega) (by omega) (by omega)) (fun r u q => ⟨q, rfl⟩) (fun _ _ _ q => by rw [e1] at q; exact q)
        exact l9_18 l hC hi hL ⟨by omega, by omega, by omega, by omega⟩ ⟨by omega, by omega⟩ rfl (by rw [ef]) W1 M1 hP hD hS hl (fun u H1 locs1 ls1 hf hP hD hS hl => cont u _ _ _ (by rw [show u = x from hf]; exact hr2) _ H1 locs1 ls1 hP hD hS hl)
      · have e1 : xs (6 * n + 1) = 5 := by rw [ew, z]; rfl
        have hr2 := rl_up (cs' := cs + 0 + 0 + 0) (ss' := ss + 0 + 0 + 0) hR (by omega) 0 (by omega) (by omega)
        have W1 := fun sz => k8_count l D dA sz h ad o og x (xs (6 * n + 1)) (nI x.junits) (fun u => u = x) _ _ _ _ (nf_i (fun sz => v_count_5 l D dA sz h ad x hp) (fun r u q => ⟨q, rfl⟩) (fun _ _ _ q => by rw [e1] at q; exact q))
        have M1 := nm_i (M1 := MS.s_cod M 0) (b := nI (sumN M.records M.units)) (Pc2 := fun sz => pC D dA [.ref mm, .int (xs (6 * n + 1))] (MW dA mm mad M) sz) (fun sz => k_count0_5 l D dA sz mm mad M on rec1 pts1) (fun r u q => ⟨q, rfl⟩) (fun _ _ _ q => by rw [e1] at q; exact q)
        exact l9_18 l hC hi hL ⟨by omega, by omega, by omega, by omega⟩ ⟨by omega, by omega⟩ rfl (by rw [g9, g1]; rw [sumN_ext (fun r hr => (g11 r hr).2.2.1)]) W1 M1 hP hD hS hl (fun u H1 locs1 ls1 hf hP hD hS hl => cont u _ _ _ (by rw [show u = x from hf]; exact hr2) _ H1 locs1 ls1 hP hD hS hl)
      · have e1 : xs (6 * n + 1) = 6 := by rw [ew, z]; rfl
        have hr2 := rl_up (cs' := cs + 0 + 0 + 0) (ss' := ss + 0 + 0 + 0) hR (by omega) 0 (by omega) (by omega)
        have W1 := fun sz => k8_count l D dA sz h ad o og x (xs (6 * n + 1)) (nI x.jsize) (fun u => u = x) _ _ _ _ (nf_i (fun sz => v_count_6 l D dA sz h ad x hp) (fun r u q => ⟨q, rfl⟩) (fun _ _ _ q => by rw [e1] at q; exact q))
        have M1 := nm_i (M1 := MS.s_cod M 0) (b := nI M.records) (Pc2 := fun sz => pC D dA [.ref mm, .int (xs (6 * n + 1))] (MW dA mm mad M) sz) (fun sz => k_count0_6 l D dA sz mm mad M on rec1 pts1) (fun r u q => ⟨q, rfl⟩) (fun _ _ _ q => by rw [e1] at q; exact q)
        exact l9_18 l hC hi hL ⟨by omega, by omega, by omega, by omega⟩ ⟨by omega, by omega⟩ rfl (by rw [g1]) W1 M1 hP hD hS hl (fun u H1 locs1 ls1 hf hP hD hS hl => cont u _ _ _ (by rw [show u = x from hf]; exact hr2) _ H1 locs1 ls1 hP hD hS hl)
      · have e1 : xs (6 * n + 1) = 7 := by rw [ew, z]; rfl
        have hr2 := rl_up (cs' := cs + 0 + 0 + 0) (ss' := ss + 0 + 0 + 0) hR (by omega) 0 (by omega) (by omega)
        have W1 := fun sz => k8_count l D dA sz h ad o og x (xs (6 * n + 1)) (nI x.jkept) (fun u => u = x) _ _ _ _ (nf_i (fun sz => v_count_7 l D dA sz h ad x hp) (fun r u q => ⟨q, rfl⟩) (fun _ _ _ q => by rw [e1] at q; exact q))
        have M1 := nm_i (M1 := MS.s_cod M 0) (b := nI M.kept) (Pc2 := fun sz => pC D dA [.ref mm, .int (xs (6 * n + 1))] (MW dA mm mad M) sz) (fun sz => k_count0_7 l D dA sz mm mad M on rec1 pts1) (fun r u q => ⟨q, rfl⟩) (fun _ _ _ q => by rw [e1] at q; exact q)
        exact l9_18 l hC hi hL ⟨by omega, by omega, by omega, by omega⟩ ⟨by omega, by omega⟩ rfl (by rw [g2]) W1 M1 hP hD hS hl (fun u H1 locs1 ls1 hf hP hD hS hl => cont u _ _ _ (by rw [show u = x from hf]; exact hr2) _ H1 locs1 ls1 hP hD hS hl)
      · have e1 : xs (6 * n + 1) = 8 := by rw [ew, z]; rfl
        have hr2 := rl_up (cs' := cs + 0 + 0 + 0) (ss' := ss + 0 + 0 + 0) hR (by omega) 0 (by omega) (by omega)
        have W1 := fun sz => k8_count l D dA sz h ad o og x (xs (6 * n + 1)) (nI (sumN x.npc (x.sbN PS (1099511627776 - 1)) + x.hsize)) (fun u => u = x) _ _ _ _ (nf_i (fun sz => v_count_8 l D dA sz h ad x PS hp n4 n2 n3 hso) (fun r u q => ⟨q, rfl⟩) (fun _ _ _ q => by rw [e1] at q; exact q))
        have M1 := nm_i (M1 := MS.s_cod M 0) (b := nI (cnt M.points M.seen)) (Pc2 := fun sz => pC D dA [.ref mm, .int (xs (6 * n + 1))] (MW dA mm mad M) sz) (fun sz => k_count0_8 l D dA sz mm mad M on rec1 pts1) (fun r u q => ⟨q, rfl⟩) (fun _ _ _ q => by rw [e1] at q; exact q)
        exact l9_18 l hC hi hL ⟨by omega, by omega, by omega, by omega⟩ ⟨by omega, by omega⟩ rfl (by rw [all_seen cp]) W1 M1 hP hD hS hl (fun u H1 locs1 ls1 hf hP hD hS hl => cont u _ _ _ (by rw [show u = x from hf]; exact hr2) _ H1 locs1 ls1 hP hD hS hl)

theorem call_19 (l : Launch) (hC : lS p l s m meth c b L xs D dA e0 A) (hL : L ≤ 3072) (hi : 6 * n + 6 ≤ L) (hR : Rl dA ad e0 n x M cs ss) (cont : ∀ x' M' cs' ss', Rl dA ad e0 (n + 1) x' M' cs' ss' → At9 p l e s m below meth c b D dA A h ad mm mad o 23 (6 * n + 6) x' M' cs' ss') : At9 p l e s m below meth c b D dA A h ad mm mad o (tg9 19) (6 * n) x M cs ss := by
  intro og H locs ls hP hD hS hl
  obtain ⟨rm1, rm2⟩ := rl_room (rl_skip hR (by omega))
  obtain ⟨PS, SS, dn, bn, gq, rq, la, gk, AT, T, co, ⟨⟨t1, t2, t3, t4⟩, ⟨t5, t6, t7⟩, ⟨t8, t9⟩, t10, t11, t12⟩, ⟨sr1, sr2, sr3, sr4, sr5⟩, nr, ⟨⟨r1, r2, r3, r4⟩, r5, ⟨r6, r7⟩, ⟨r8, r9⟩, r10⟩, rr⟩ := id hR
  obtain ⟨cp, cb, ⟨se1, se2⟩, ⟨g1, g2, g3, g4, g5, g6, g7, g8, g9, g10, g11⟩, cj, ck, cc⟩ := id co
  obtain ⟨⟨n1, n2, n3, n4⟩, ⟨n5, n6, n7⟩, ⟨n8, n9, n10, n11, n12, n13, n14, n15⟩, ⟨n16, n17, n18, n19⟩, ⟨n20, n21, n22, n23⟩, n24⟩ := id nr
  cases hp : x.powered with
  | false =>
    have hr2 := rl_up (cs' := cs + 1 + 0 + 0) (ss' := ss + 6 + 0 + 0) hR (by omega) 1 (by omega) (by omega)
    obtain ⟨rn1, rn2⟩ := rl_room hr2
    have W1 := fun sz => k8_parcel_1 l D dA sz h ad o og x (xs (6 * n + 1)) (xs (6 * n + 2)) (fun u => u = x) _ _ _ _ (nf_x0 (fun sz => v_parcel_x l (lS_tr hC) D dA sz h ad x (xs (6 * n + 1)) (xs (6 * n + 2)) hp) rfl (fun _ _ _ q => q))
    have M1 := fun sz => k_parcel_1 l D dA sz mm mad M (xs (6 * n + 1)) (xs (6 * n + 2)) (t12.trans hp)
    exact l9_19_x l hC (k9 := 1) hi hL ⟨by omega, by omega, by omega, by omega⟩ ⟨by omega, by omega⟩ rfl k_n1 W1 M1 hP hD hS hl (fun u H1 locs1 ls1 hf hP hD hS hl => cont u _ _ _ (by rw [show u = x from hf]; exact hr2) og H1 locs1 ls1 hP hD hS hl)
  | true =>
    have on : M.on = true := t12.trans hp
    have epc : M.parcelCount = x.npc := cp.1.2.1
    by_cases hv : xs (6 * n + 1) < 0 ∨ nI x.npc ≤ xs (6 * n + 1)
    · have hr2 := rl_up (cs' := cs + 1 + 0 + 0) (ss' := ss + 6 + 0 + 0) hR (by omega) 2 (by omega) (by omega)
      obtain ⟨rn1, rn2⟩ := rl_room hr2
      have W1 := fun sz => k8_parcel_2 l D dA sz h ad o og x (xs (6 * n + 1)) (xs (6 * n + 2)) (fun u => u = x) _ _ _ _ (nf_x0 (fun sz => v_parcel_y l (lS_tr hC) D dA sz h ad x (xs (6 * n + 1)) (xs (6 * n + 2)) hp hv) rfl (fun _ _ _ q => q))
      have M1 := fun sz => k_parcel_2 l D dA sz mm mad M (xs (6 * n + 1)) (xs (6 * n + 2)) on (by rw [epc]; exact hv)
      exact l9_19_x l hC (k9 := 2) hi hL ⟨by omega, by omega, by omega, by omega⟩ ⟨by omega, by omega⟩ rfl k_n2 W1 M1 hP hD hS hl (fun u H1 locs1 ls1 hf hP hD hS hl => cont u _ _ _ (by rw [show u = x from hf]; exact hr2) og H1 locs1 ls1 hP hD hS hl)
    · obtain ⟨d, hd, ed⟩ := i32_lt (a := x.npc) (by omega) (fun z => hv (Or.inl z)) (fun z => hv (Or.inr z))
      have hd2 : d < M.parcelCount := by omega
      by_cases hu : xs (6 * n + 2) < 0 ∨ 4 < xs (6 * n + 2)
      · have hr2 := rl_up (cs' := cs + 1 + 0 + 0) (ss' := ss + 6 + 0 + 0) hR (by omega) 3 (by omega) (by omega)
        obtain ⟨rn1, rn2⟩ := rl_room hr2
        have W1 := fun sz => k8_parcel_3 l D dA sz h ad o og x (xs (6 * n + 1)) (xs (6 * n + 2)) (fun u => u = x) _ _ _ _ (nf_x1 (w := fun _ => x) (fun sz => v_parcel_z l (lS_tr hC) D dA sz h ad x PS d (xs (6 * n + 2)) hp hd n4 n2 hu) (fun _ _ => rfl) (fun _ _ _ q => by rw [ed] at q; exact q))
        have M1 := nm_i (M1 := MS.s_cod M 3) (b := 0) (Pc2 := fun sz => pC D dA [.ref mm, .int (xs (6 * n + 1)), .int (xs (6 * n + 2))] (MW dA mm mad M) sz) (fun sz => k_parcel_3 l D dA sz mm mad M d (xs (6 * n + 2)) on hd2 (by omega) hu) (fun r u q => ⟨q, rfl⟩) (fun _ _ _ q => by rw [ed] at q; exact q)
        exact l9_19_x l hC (k9 := 3) hi hL ⟨by omega, by omega, by omega, by omega⟩ ⟨by omega, by omega⟩ rfl k_n3 W1 M1 hP hD hS hl (fun u H1 locs1 ls1 hf hP hD hS hl => cont u _ _ _ (by rw [show u = x from hf]; exact hr2) og H1 locs1 ls1 hP hD hS hl)
      · obtain ⟨w, hw, ew⟩ := i32_nat (a := 4) (by decide) (fun z => hu (Or.inl z)) (fun z => hu (Or.inr z))
        have hso : ∀ q : Nat, q < x.nsc → x.nsO q < 2 ^ 31 := fun q hq => by
          have := nsO_lt cj ck hq
          omega
        have f1 : M.parcelCount ≤ 40 := by omega
        have pts1 : M.points ≤ 12000 := by omega
        have se3 : M.seriesCount ≤ 256 := by omega
        have hcs : w = 0 ∨ w = 1 ∨ w = 2 ∨ w = 3 ∨ w = 4 := by omega
        rcases hcs with z | z | z | z | z
        · have e1 : xs (6 * n + 2) = 0 := by rw [ew, z]; rfl
          have hr2 := rl_up (cs' := cs + 0 + 0 + 0) (ss' := ss + 0 + 0 + 0) hR (by omega) 0 (by omega) (by omega)
          have W1 := fun sz => k8_parcel l D dA sz h ad o og x (xs (6 * n + 1)) (xs (6 * n + 2)) (nI (PS d).n) (fun u => u = x) _ _ _ _ (nf_i (fun sz => v_parcel_0 l D dA sz h ad x PS d hp hd n4 n2) (fun r u q => ⟨q, rfl⟩) (fun _ _ _ q => by rw [ed, e1] at q; exact q))
          have M1 := nm_i (M1 := MS.s_cod M 0) (b := nI (sumN M.seriesCount (fun z => cnt M.points (M.inP (M.parcels d) z)))) (Pc2 := fun sz => pC D dA [.ref mm, .int (xs (6 * n + 1)), .int (xs (6 * n + 2))] (MW dA mm mad M) sz) (fun sz => k_parcel0_0 l D dA sz mm mad M d on hd2 f1 pts1 se3 n23) (fun r u q => ⟨q, rfl⟩) (fun _ _ _ q => by rw [ed, e1] at q; exact q)
          exact l9_19 l hC hi hL ⟨by omega, by omega, by omega, by omega⟩ ⟨by omega, by omega⟩ rfl (by rw [pc_0 cp hd]) W1 M1 hP hD hS hl (fun u H1 locs1 ls1 hf hP hD hS hl => cont u _ _ _ (by rw [show u = x from hf]; exact hr2) _ H1 locs1 ls1 hP hD hS hl)
        · have e1 : xs (6 * n + 2) = 1 := by rw [ew, z]; rfl
          have hr2 := rl_up (cs' := cs + 0 + 0 + 0) (ss' := ss + 0 + 0 + 0) hR (by omega) 0 (by omega) (by omega)
          have W1 := fun sz => k8_parcel l D dA sz h ad o og x (xs (6 * n + 1)) (xs (6 * n + 2)) (nI (cnt (PS d).n (x.siPc (PS d) 1099511627775))) (fun u => u = x) _ _ _ _ (nf_i (fun sz => v_parcel_1 l D dA sz h ad x PS d hp hd n4 n2 n3 hso) (fun r u q => ⟨q, rfl⟩) (fun _ _ _ q => by rw [ed, e1] at q; exact q))
          have M1 := nm_i (M1 := MS.s_cod M 0) (b := nI (sumN M.seriesCount (fun z => cnt M.points (fun y => M.inP (M.parcels d) z y && M.seen y)))) (Pc2 := fun sz => pC D dA [.ref mm, .int (xs (6 * n + 1)), .int (xs (6 * n + 2))] (MW dA mm mad M) sz) (fun sz => k_parcel0_1 l D dA sz mm mad M d on hd2 f1 pts1 se3 n23) (fun r u q => ⟨q, rfl⟩) (fun _ _ _ q => by rw [ed, e1] at q; exact q)
          exact l9_19 l hC hi hL ⟨by omega, by omega, by omega, by omega⟩ ⟨by omega, by omega⟩ rfl (by rw [pc_1 cp hd]) W1 M1 hP hD hS hl (fun u H1 locs1 ls1 hf hP hD hS hl => cont u _ _ _ (by rw [show u = x from hf]; exact hr2) _ H1 locs1 ls1 hP hD hS hl)
        · have e1 : xs (6 * n + 2) = 2 := by rw [ew, z]; rfl
          have hr2 := rl_up (cs' := cs + 0 + 0 + 0) (ss' := ss + 0 + 0 + 0) hR (by omega) 0 (by omega) (by omega)
          have W1 := fun sz => k8_parcel l D dA sz h ad o og x (xs (6 * n + 1)) (xs (6 * n + 2)) (nI (PS d).ch) (fun u => u = x) _ _ _ _ (nf_i (fun sz => v_parcel_2 l D dA sz h ad x PS d hp hd n4 n2) (fun r u q => ⟨q, rfl⟩) (fun _ _ _ q => by rw [ed, e1] at q; exact q))
          have M1 := nm_i (M1 := MS.s_cod M 0) (b := nI (cnt M.seriesCount (fun z => decide (0 < cnt M.points (M.inP (M.parcels d) z))))) (Pc2 := fun sz => pC D dA [.ref mm, .int (xs (6 * n + 1)), .int (xs (6 * n + 2))] (MW dA mm mad M) sz) (fun sz => k_parcel0_2 l D dA sz mm mad M d on hd2 f1 pts1 se3 n23) (fun r u q => ⟨q, rfl⟩) (fun _ _ _ q => by rw [ed, e1] at q; exact q)
          exact l9_19 l hC hi hL ⟨by omega, by omega, by omega, by omega⟩ ⟨by omega, by omega⟩ rfl (by rw [pc_2 cp hd]) W1 M1 hP hD hS hl (fun u H1 locs1 ls1 hf hP hD hS hl => cont u _ _ _ (by rw [show u = x from hf]; exact hr2) _ H1 locs1 ls1 hP hD hS hl)
        · have e1 : xs (6 * n + 2) = 3 := by rw [ew, z]; rfl
          have hr2 := rl_up (cs' := cs + 0 + 0 + 0) (ss' := ss + 0 + 0 + 0) hR (by omega) 0 (by omega) (by omega)
          have W1 := fun sz => k8_parcel l D dA sz h ad o og x (xs (6 * n + 1)) (xs (6 * n + 2)) (nI (PS d).bi) (fun u => u = x) _ _ _ _ (nf_i (fun sz => v_parcel_3 l D dA sz h ad x PS d hp hd n4 n2) (fun r u q => ⟨q, rfl⟩) (fun _ _ _ q => by rw [ed, e1] at q; exact q))
          have M1 := nm_i (M1 := MS.s_cod M 0) (b := nI (M.bA (nI (M.parcels d)) (nI (M.parcels d)) false M.seriesCount)) (Pc2 := fun sz => pC D dA [.ref mm, .int (xs (6 * n + 1)), .int (xs (6 * n + 2))] (MW dA mm mad M) sz) (fun sz => k_parcel0_3 l D dA sz mm mad M d on hd2 f1 pts1 se3 n23) (fun r u q => ⟨q, rfl⟩) (fun _ _ _ q => by rw [ed, e1] at q; exact q)
          exact l9_19 l hC hi hL ⟨by omega, by omega, by omega, by omega⟩ ⟨by omega, by omega⟩ rfl (by rw [pc_3 cp hd]) W1 M1 hP hD hS hl (fun u H1 locs1 ls1 hf hP hD hS hl => cont u _ _ _ (by rw [show u = x from hf]; exact hr2) _ H1 locs1 ls1 hP hD hS hl)
        · have e1 : xs (6 * n + 2) = 4 := by rw [ew, z]; rfl
          have hr2 := rl_up (cs' := cs + 0 + 0 + 0) (ss' := ss + 0 + 0 + 0) hR (by omega) 0 (by omega) (by omega)
          have W1 := fun sz => k8_parcel l D dA sz h ad o og x (xs (6 * n + 1)) (xs (6 * n + 2)) (nI (PS d).bl) (fun u => u = x) _ _ _ _ (nf_i (fun sz => v_parcel_4 l D dA sz h ad x PS d hp hd n4 n2) (fun r u q => ⟨q, rfl⟩) (fun _ _ _ q => by rw [ed, e1] at q; exact q))
          have M1 := nm_i (M1 := MS.s_cod M 0) (b := nI (M.parcelBlocks d)) (Pc2 := fun sz => pC D dA [.ref mm, .int (xs (6 * n + 1)), .int (xs (6 * n + 2))] (MW dA mm mad M) sz) (fun sz => k_parcel0_4 l D dA sz mm mad M d on hd2 f1 pts1 se3 n23) (fun r u q => ⟨q, rfl⟩) (fun _ _ _ q => by rw [ed, e1] at q; exact q)
          exact l9_19 l hC hi hL ⟨by omega, by omega, by omega, by omega⟩ ⟨by omega, by omega⟩ rfl (by rw [(cp.1.2.2.2 d hd).2.2]) W1 M1 hP hD hS hl (fun u H1 locs1 ls1 hf hP hD hS hl => cont u _ _ _ (by rw [show u = x from hf]; exact hr2) _ H1 locs1 ls1 hP hD hS hl)

theorem rl_fmt (h : Rl dA ad e0 n x M cs ss) (hn : n + 1 ≤ 512) {N J : Nat} (h2 : N ≤ 256) (h3 : 2 ≤ J) (h4 : J ≤ N - 8) (hN : 16 ≤ N) : Rl dA ad e0 (n + 1) (VS.s_scat (VS.s_sser (VS.s_shor (VS.s_ssc (VS.s_spc (VS.s_ncat (VS.s_nser (VS.s_nhor (VS.s_nsc (VS.s_npc (VS.s_hsize (VS.s_jch (VS.s_jfill (VS.s_jblock (VS.s_jlimit (VS.s_junits (VS.s_jkept (VS.s_jsize (VS.s_hasTable (VS.s_writes (VS.s_cutLeft (VS.s_powered (VS.s_diskBlocks x N) true) (-1)) 0) false) 0) 0) 0) J) 0) 0) false) 0) 0) 0) 0) 0) 0) 0) 0) 0) 0) 0) (M.fmt N J) cs ss := by
  obtain ⟨PS, SS, dn, bn, gq, rq, la, gk, AT, T, co, ⟨tt1, tt2, tt3, t10, t11, t12⟩, ⟨sr1, sr2, sr3, sr4, sr5⟩, nr, ⟨rr1, r5, rr2, rr3, r10⟩, q1, q2, q3⟩ := h
  obtain ⟨⟨n1, n2, n3, n4⟩, ⟨n5, n6, n7⟩, ⟨n8, n9, n10, n11, n12, n13, n14, n15⟩, ⟨n16, n17, n18, n19⟩, ⟨n20, n21, n22, n23⟩, n24⟩ := nr
  refine ⟨PS, SS, fun _ => 0, fun _ => 0, gq, rq, la, gk, AT, T, ?_, ⟨tt1, tt2, tt3, rfl, h2, rfl⟩, ⟨fun s hs => absurd hs (Nat.not_lt_zero s), fun s hs => absurd hs (Nat.not_lt_zero s), fun s hs => absurd hs (Nat.not_lt_zero s), sr4, fun s hs => absurd hs (Nat.not_lt_zero s)⟩, ?_, ⟨rr1, r5, rr2, ⟨rfl, fun z => (by cases z)⟩, r10.1, nh_0⟩, hn, ?_, ?_⟩
  · exact fm_co ⟨rfl, rfl, rfl, rfl, rfl, rfl, rfl⟩ ⟨rfl, rfl, rfl, rfl, rfl, rfl, rfl, rfl⟩ ⟨by show M.deletes ≤ 2 ^ 29; omega, by show M.parcelNumber ≤ 2 ^ 29; omega⟩ ⟨rfl, rfl, rfl, rfl, rfl, rfl⟩ ⟨rfl, rfl, rfl, rfl, rfl⟩ ⟨rfl, rfl, rfl, rfl, rfl, rfl⟩
  · have tl : x.tapeLength ≤ 32 * n := by omega
    refine ⟨⟨Nat.zero_le _, Nat.zero_le _, Nat.zero_le _, fun s hs => absurd hs (Nat.not_lt_zero s)⟩, ⟨?_, Nat.zero_le _, ?_⟩, ⟨Nat.zero_le _, n9, n10, Nat.zero_le _, n12, n13, n14, n15⟩, ⟨?_, ?_, ?_, Nat.zero_le _⟩, ⟨Nat.zero_le _, ?_, ?_, fun s hs => absurd hs (Nat.not_lt_zero s)⟩, ⟨⟨⟨rfl, rfl⟩, fun s hs => absurd hs (Nat.not_lt_zero s)⟩, fun s hs => absurd hs (Nat.not_lt_zero s)⟩, fun s hs => absurd hs (Nat.not_lt_zero s)⟩
    · show J + 2 + (0 + 0) ≤ N
      omega
    · show 0 < J
      omega
    · show 16 * 0 + x.tapeLength ≤ 32 * (n + 1)
      omega
    · show 16 * 0 + x.tapeLength ≤ 32 * (n + 1)
      omega
    · show 16 * (0 + 0) + x.tapeLength ≤ 32 * (n + 1)
      omega
    · show M.deletes ≤ 1300 * (n + 1)
      omega
    · show M.parcelNumber ≤ n + 1
      omega
  · show cs + 17 * x.tapeLength ≤ 2000 + 400 * (n + 1) + 6 * x.jN + 3 * x.hN + 3 * x.gN + x.tpN
    omega
  · show ss + 70 * x.tapeLength ≤ 1177800 + 6000 * (n + 1) + 12 * x.jN + 6 * x.hN + 6 * x.gN + 2 * x.tpN + (700 * gk.sz + 2 * sumN gk.sz (fun tb => (T tb).cN) + 4 * x.bN)
    omega

theorem call_2 (l : Launch) (hC : lS p l s m meth c b L xs D dA e0 A) (hL : L ≤ 3072) (hi : 6 * n + 6 ≤ L) (hR : Rl dA ad e0 n x M cs ss) (cont : ∀ x' M' cs' ss', Rl dA ad e0 (n + 1) x' M' cs' ss' → At9 p l e s m below meth c b D dA A h ad mm mad o 23 (6 * n + 6) x' M' cs' ss') : At9 p l e s m below meth c b D dA A h ad mm mad o (tg9 2) (6 * n) x M cs ss := by
  intro og H locs ls hP hD hS hl
  obtain ⟨rm1, rm2⟩ := rl_room (rl_skip hR (by omega))
  obtain ⟨PS, SS, dn, bn, gq, rq, la, gk, AT, T, co, ⟨⟨t1, t2, t3, t4⟩, ⟨t5, t6, t7⟩, ⟨t8, t9⟩, t10, t11, t12⟩, ⟨sr1, sr2, sr3, sr4, sr5⟩, nr, ⟨⟨r1, r2, r3, r4⟩, r5, ⟨r6, r7⟩, ⟨r8, r9⟩, r10⟩, rr⟩ := id hR
  obtain ⟨cp, cb, ⟨se1, se2⟩, ⟨g1, g2, g3, g4, g5, g6, g7, g8, g9, g10, g11⟩, cj, ck, cc⟩ := id co
  obtain ⟨⟨n1, n2, n3, n4⟩, ⟨n5, n6, n7⟩, ⟨n8, n9, n10, n11, n12, n13, n14, n15⟩, ⟨n16, n17, n18, n19⟩, ⟨n20, n21, n22, n23⟩, n24⟩ := id nr
  by_cases hv : xs (6 * n + 1) < 16 ∨ 256 < xs (6 * n + 1) ∨ xs (6 * n + 2) < 2 ∨ xs (6 * n + 1) - 8 < xs (6 * n + 2)
  · have hr2 := rl_up (cs' := cs + 1 + 0 + 0) (ss' := ss + 6 + 0 + 0) hR (by omega) 1 (by omega) (by omega)
    obtain ⟨rn1, rn2⟩ := rl_room hr2
    have W1 := fun sz => k8_format_1 l D dA sz h ad x (xs (6 * n + 1)) (xs (6 * n + 2)) (fun u => u = x) _ _ _ _ (nf_x0 (fun sz => v_format_x l (lS_tr hC) D dA sz h ad x (xs (6 * n + 1)) (xs (6 * n + 2)) hv) rfl (fun _ _ _ q => q))
    have M1 := fun sz => k_format_x l D dA sz mm mad M (xs (6 * n + 1)) (xs (6 * n + 2)) hv
    exact l9_2_x l hC (k9 := 1) hi hL ⟨by omega, by omega, by omega, by omega⟩ ⟨by omega, by omega⟩ rfl k_n1 W1 M1 hP hD hS hl (fun u H1 locs1 ls1 hf hP hD hS hl => cont u _ _ _ (by rw [show u = x from hf]; exact hr2) og H1 locs1 ls1 hP hD hS hl)
  · obtain ⟨v1, v2⟩ := not_or.mp hv
    obtain ⟨v2, v3⟩ := not_or.mp v2
    obtain ⟨v3, v4⟩ := not_or.mp v3
    have z16 : (16 : Int32).toInt = 16 := by decide
    have z2 : (2 : Int32).toInt = 2 := by decide
    have z0 : (0 : Int32).toInt = 0 := by decide
    have v1' : ¬ xs (6 * n + 1) < 0 := fun z => v1 (by rw [Int32.lt_iff_toInt_lt] at z ⊢; omega)
    have v3' : ¬ xs (6 * n + 2) < 0 := fun z => v3 (by rw [Int32.lt_iff_toInt_lt] at z ⊢; omega)
    obtain ⟨N, hN, eN⟩ := i32_nat (a := 256) (by decide) v1' v2
    have hN16 : 16 ≤ N := by
      rw [eN, Int32.lt_iff_toInt_lt, nI_toInt (by omega), z16] at v1
      omega
    have e8 : xs (6 * n + 1) - 8 = nI (N - 8) := by
      rw [eN, Int32.sub_eq_add_neg]
      exact nI_dn (-8) (by decide) (by omega)
    obtain ⟨J, hJ, eJ⟩ := i32_nat (a := N - 8) (by omega) v3' (by rw [← e8]; exact v4)
    have hJ2 : 2 ≤ J := by
      rw [eJ, Int32.lt_iff_toInt_lt, nI_toInt (by omega), z2] at v3
      omega
    have hr2 := rl_fmt hR (by omega) hN hJ2 hJ hN16
    have W1 := fun sz => k8_format l D dA sz h ad x (xs (6 * n + 1)) (xs (6 * n + 2)) (fun u => u = VS.s_scat (VS.s_sser (VS.s_shor (VS.s_ssc (VS.s_spc (VS.s_ncat (VS.s_nser (VS.s_nhor (VS.s_nsc (VS.s_npc (VS.s_hsize (VS.s_jch (VS.s_jfill (VS.s_jblock (VS.s_jlimit (VS.s_junits (VS.s_jkept (VS.s_jsize (VS.s_hasTable (VS.s_writes (VS.s_cutLeft (VS.s_powered (VS.s_diskBlocks x N) true) (-1)) 0) false) 0) 0) 0) J) 0) 0) false) 0) 0) 0) 0) 0) 0) 0) 0) 0) 0) 0) _ _ _ _ (nf_v (fun sz => v_format l D dA sz h ad x N J (by omega) (by omega) hN16 hN hJ2 hJ) (fun _ _ => rfl) (fun _ _ _ q => by rw [eN, eJ] at q; exact q))
    have M1 := nm_v (M1 := M.fmt N J) (Pc2 := fun sz => pC D dA [.ref mm, .int (xs (6 * n + 1)), .int (xs (6 * n + 2))] (MW dA mm mad M) sz) (fun sz => k_format l D dA sz mm mad M N J hN16 hN hJ2 hJ) (fun u q => q) (fun _ _ _ q => by rw [eN, eJ] at q; exact q)
    exact l9_2 l hC hi hL ⟨by omega, by omega, by omega, by omega⟩ ⟨by omega, by omega⟩ rfl W1 M1 hP hD hS hl (fun u H1 locs1 ls1 hf hP hD hS hl => cont u _ _ _ (by rw [show u = _ from hf]; exact hr2) og H1 locs1 ls1 hP hD hS hl)

end CE
end
section
/-! What is written is kept: the call. -/
section SC
variable {dA : Nat → ClassId} {ad : Nat → Nat} {e0 n : Nat} {x : VS} {M : MS} {cs ss cs' ss' : Nat}
/-- the power fails -/
theorem rl_pw (h : Rl dA ad e0 n x M cs ss) (hn : n + 1 ≤ 512) (cd : Int32) (hc : cs' ≤ cs + 100) (hs : ss' ≤ ss + 5000) : Rl dA ad e0 (n + 1) (VS.s_cutLeft (VS.s_powered x false) (-1)) (MS.s_cutLeft (MS.s_on (MS.s_cod M cd) false) (-1)) cs' ss' := by
  obtain ⟨PS, SS, dn, bn, gq, rq, la, gk, AT, T, a1, ⟨t1, t2, t3, t4, t5, t6⟩, a3, a4, a5, a6, a7, a8⟩ := h
  exact ⟨PS, SS, dn, bn, gq, rq, la, gk, AT, T, pw_co a1 cd false false (-1) 0, ⟨t1, t2, t3, t4, t5, rfl⟩, a3, rlN_up a4, a5, hn, by show cs' + 17 * x.tapeLength ≤ 2000 + 400 * (n + 1) + 6 * x.jN + 3 * x.hN + 3 * x.gN + x.tpN; omega, by show ss' + 70 * x.tapeLength ≤ 1177800 + 6000 * (n + 1) + 12 * x.jN + 6 * x.hN + 6 * x.gN + 2 * x.tpN + (700 * gk.sz + 2 * sumN gk.sz (fun tb => (T tb).cN) + 4 * x.bN); omega⟩
theorem rl_sy0 (h : Rl dA ad e0 n x M cs ss) (hn : n + 1 ≤ 512) (hf : x.jch = false) : Rl dA ad e0 (n + 1) x (MS.s_fresh (MS.s_kept (MS.s_cod M 0) M.records) false) cs ss := by
  obtain ⟨PS, SS, dn, bn, gq, rq, la, gk, AT, T, a1, a2, a3, a4, a5, a6, a7, a8⟩ := h
  exact ⟨PS, SS, dn, bn, gq, rq, la, gk, AT, T, sy_co0 a1 hf, a2, a3, rlN_up a4, a5, hn, by omega, by omega⟩
theorem rl_sy1 (h : Rl dA ad e0 n x M cs ss) (hn : n + 1 ≤ 512) : Rl dA ad e0 (n + 1) (VS.s_jch (VS.s_jkept (VS.s_writes (VS.s_cutLeft x (cutF x.cutLeft)) (x.writes + 1)) x.jsize) false) (MS.s_fresh (MS.s_kept (MS.s_written (MS.s_cutLeft (MS.s_cod M 0) (cutF M.cutLeft)) (M.written + 1)) M.records) false) cs ss := by
  obtain ⟨PS, SS, dn, bn, gq, rq, la, gk, AT, T, a1, a2, a3, a4, a5, a6, a7, a8⟩ := h
  obtain ⟨n1, n2, n3, ⟨n4, n5, n6, n7⟩, ⟨n8, n9, n10, n11⟩, n12⟩ := a4
  exact ⟨PS, SS, dn, bn, gq, rq, la, gk, AT, T, sy_co1 a1, a2, a3, ⟨n1, n2, n3, ⟨by show 16 * x.jsize + x.tapeLength ≤ 32 * (n + 1); omega, by show 16 * x.hsize + x.tapeLength ≤ 32 * (n + 1); omega, by show 16 * (cnt M.points M.pkd + cnt x.jsize (fun r => decide (x.jK r = 1))) + x.tapeLength ≤ 32 * (n + 1); omega, n7⟩, ⟨by show x.writes + 1 ≤ 300 * (n + 1); omega, by show M.deletes ≤ 1300 * (n + 1); omega, by show M.parcelNumber ≤ n + 1; omega, n11⟩, n12⟩, a5, hn, by show cs + 17 * x.tapeLength ≤ 2000 + 400 * (n + 1) + 6 * x.jN + 3 * x.hN + 3 * x.gN + x.tpN; omega, by show ss + 70 * x.tapeLength ≤ 1177800 + 6000 * (n + 1) + 12 * x.jN + 6 * x.hN + 6 * x.gN + 2 * x.tpN + (700 * gk.sz + 2 * sumN gk.sz (fun tb => (T tb).cN) + 4 * x.bN); omega⟩
end SC
section CF
variable {p : Program} {e : Env} {s : State} {m : MethodId} {below : List Frame} {meth : Method} {c : Code} {b L : Nat} {xs : Nat → Int32} {D : va_G} {dA : Nat → ClassId} {e0 : Nat} {A : Nat → Prop} {h : Nat} {ad : Nat → Nat} {mm : Nat} {mad : Nat → Nat} {o : Nat} {n : Nat} {x : VS} {M : MS} {cs ss : Nat}

theorem call_9 (l : Launch) (hC : lS p l s m meth c b L xs D dA e0 A) (hL : L ≤ 3072) (hi : 6 * n + 6 ≤ L) (hR : Rl dA ad e0 n x M cs ss) (cont : ∀ x' M' cs' ss', Rl dA ad e0 (n + 1) x' M' cs' ss' → At9 p l e s m below meth c b D dA A h ad mm mad o 23 (6 * n + 6) x' M' cs' ss') : At9 p l e s m below meth c b D dA A h ad mm mad o (tg9 9) (6 * n) x M cs ss := by
  intro og H locs ls hP hD hS hl
  obtain ⟨rm1, rm2⟩ := rl_room (rl_skip hR (by omega))
  obtain ⟨PS, SS, dn, bn, gq, rq, la, gk, AT, T, co, ⟨⟨t1, t2, t3, t4⟩, ⟨t5, t6, t7⟩, ⟨t8, t9⟩, t10, t11, t12⟩, ⟨sr1, sr2, sr3, sr4, sr5⟩, nr, ⟨⟨r1, r2, r3, r4⟩, r5, ⟨r6, r7⟩, ⟨r8, r9⟩, r10⟩, rr⟩ := id hR
  obtain ⟨cp, cb, ⟨se1, se2⟩, ⟨g1, g2, g3, g4, g5, g6, g7, g8, g9, g10, g11⟩, cj, ck, cc⟩ := id co
  obtain ⟨⟨n1, n2, n3, n4⟩, ⟨n5, n6, n7⟩, ⟨n8, n9, n10, n11, n12, n13, n14, n15⟩, ⟨n16, n17, n18, n19⟩, ⟨n20, n21, n22, n23⟩, n24⟩ := id nr
  cases hp : x.powered with
  | false =>
    have hr2 := rl_up (cs' := cs + 1 + 0 + 0) (ss' := ss + 6 + 0 + 0) hR (by omega) 1 (by omega) (by omega)
    obtain ⟨rn1, rn2⟩ := rl_room hr2
    have W1 := fun sz => k8_sync_1 l D dA sz h ad o og x (fun u => u = x) _ _ _ _ (nf_x0 (fun sz => v_sync_x l (lS_tr hC) D dA sz h ad x hp) rfl (fun _ _ _ q => q))
    have M1 := fun sz => k_sync_1 l D dA sz mm mad M (t12.trans hp)
    exact l9_9_x l hC (k9 := 1) hi hL ⟨by omega, by omega, by omega, by omega⟩ ⟨by omega, by omega⟩ rfl k_n1 W1 M1 hP hD hS hl (fun u H1 locs1 ls1 hf hP hD hS hl => cont u _ _ _ (by rw [show u = x from hf]; exact hr2) og H1 locs1 ls1 hP hD hS hl)
  | true =>
    have on : M.on = true := t12.trans hp
    cases hf : x.jch with
    | false =>
      have hr2 := rl_sy0 hR (by omega) hf
      have W1 := fun sz => k8_sync_b0 l D dA sz h ad o og x (fun u => u = x) _ _ _ _ (nf_i (fun sz => v_sync_0 l D dA sz h ad x hp hf) (fun r u q => ⟨q, rfl⟩) (fun _ _ _ q => q))
      have M1 := nm_i (M1 := MS.s_fresh (MS.s_kept (MS.s_cod M 0) M.records) false) (b := 0) (Pc2 := fun sz => pC D dA [.ref mm] (MW dA mm mad M) sz) (fun sz => k_sync_0 l D dA sz mm mad M on (g5.trans hf)) (fun r u q => ⟨q, rfl⟩) (fun _ _ _ q => q)
      exact l9_9_0 l hC hi hL ⟨by omega, by omega, by omega, by omega⟩ ⟨by omega, by omega⟩ rfl rfl W1 M1 hP hD hS hl (fun u H1 locs1 ls1 hf hP hD hS hl => cont u _ _ _ (by rw [show u = x from hf]; exact hr2) _ H1 locs1 ls1 hP hD hS hl)
    | true =>
      by_cases hc : x.cutLeft = 0
      · have hr2 := rl_pw (cs' := cs + 1 + 0 + 0) (ss' := ss + 6 + 0 + 0) hR (by omega) 1 (by omega) (by omega)
        obtain ⟨rn1, rn2⟩ := rl_room hr2
        have W1 := fun sz => k8_sync_1 l D dA sz h ad o og x (fun u => u = VS.s_cutLeft (VS.s_powered x false) (-1)) _ _ _ _ (nf_x0 (fun sz => v_sync_c l (lS_tr hC) D dA sz h ad x hp hf hc) rfl (fun _ _ _ q => q))
        have M1 := fun sz => k_sync_5 l D dA sz mm mad M on (g5.trans hf) (g6.trans hc)
        exact l9_9_x l hC (k9 := 1) hi hL ⟨by omega, by omega, by omega, by omega⟩ ⟨by omega, by omega⟩ rfl k_n1 W1 M1 hP hD hS hl (fun u H1 locs1 ls1 hf hP hD hS hl => cont u _ _ _ (by rw [show u = _ from hf]; exact hr2) og H1 locs1 ls1 hP hD hS hl)
      · have hr2 := rl_sy1 hR (by omega)
        have W1 := fun sz => k8_sync_b1 l D dA sz h ad o og x (fun u => u = VS.s_jch (VS.s_jkept (VS.s_writes (VS.s_cutLeft x (cutF x.cutLeft)) (x.writes + 1)) x.jsize) false) _ _ _ _ (nf_i (fun sz => v_sync_1 l D dA sz h ad x hp hf hc) (fun r u q => ⟨q, rfl⟩) (fun _ _ _ q => q))
        have M1 := nm_i (M1 := MS.s_fresh (MS.s_kept (MS.s_written (MS.s_cutLeft (MS.s_cod M 0) (cutF M.cutLeft)) (M.written + 1)) M.records) false) (b := 1) (Pc2 := fun sz => pC D dA [.ref mm] (MW dA mm mad M) sz) (fun sz => k_sync_t l D dA sz mm mad M on (g5.trans hf) (by rw [g6]; exact hc)) (fun r u q => ⟨q, rfl⟩) (fun _ _ _ q => q)
        exact l9_9_1 l hC hi hL ⟨by omega, by omega, by omega, by omega⟩ ⟨by omega, by omega⟩ rfl rfl W1 M1 hP hD hS hl (fun u H1 locs1 ls1 hf hP hD hS hl => cont u _ _ _ (by rw [show u = _ from hf]; exact hr2) _ H1 locs1 ls1 hP hD hS hl)

end CF
end
section
/-! A record, a point: the sizes; the call. -/
section WR
variable {dA : Nat → ClassId} {ad : Nat → Nat} {e0 n : Nat} {x : VS} {m M : MS} {cs ss : Nat} {SS : Nat → List LB} {gq : LI} {rq : va_W} {la : Nat → Nat} {gk : LI} {AT : Nat → Nat → Nat} {T : Nat → TB} {ja pa : Nat → Nat} {kd w k : Nat} {a b : Int64}
theorem wr_keep (h : rlT m x ∧ rlS dA SS m x ∧ rlA dA ad e0 m x gq rq la gk AT T) : rlT m (x.wrF ja kd w k a b) ∧ rlS dA SS m (x.wrF ja kd w k a b) ∧ rlA dA ad e0 m (x.wrF ja kd w k a b) gq rq la gk AT T := by
  unfold VS.wrF VS.wrB VS.wjS VS.jadF
  repeat' split
  all_goals exact h
theorem ha_keep (h : rlT m x ∧ rlS dA SS m x ∧ rlA dA ad e0 m x gq rq la gk AT T) : rlT m (VS.haF (VS.s_nlast x (va_up x.nlast w a)) pa w a b) ∧ rlS dA SS m (VS.haF (VS.s_nlast x (va_up x.nlast w a)) pa w a b) ∧ rlA dA ad e0 m (VS.haF (VS.s_nlast x (va_up x.nlast w a)) pa w a b) gq rq la gk AT T := by
  unfold VS.haF
  split
  · exact h
  · exact h
theorem wr_same (x : VS) (ja : Nat → Nat) (kd w k : Nat) (a b : Int64) : ((x.wrF ja kd w k a b).nser = x.nser ∧ (x.wrF ja kd w k a b).npc = x.npc ∧ (x.wrF ja kd w k a b).nsc = x.nsc ∧ (x.wrF ja kd w k a b).nP = x.nP ∧ (x.wrF ja kd w k a b).pl = x.pl ∧ (x.wrF ja kd w k a b).ncat = x.ncat ∧ (x.wrF ja kd w k a b).diskBlocks = x.diskBlocks ∧ (x.wrF ja kd w k a b).gN = x.gN ∧ (x.wrF ja kd w k a b).tapeLength = x.tapeLength ∧ (x.wrF ja kd w k a b).tpN = x.tpN ∧ (x.wrF ja kd w k a b).bN = x.bN ∧ (x.wrF ja kd w k a b).jlimit = x.jlimit) ∧ ((x.wrF ja kd w k a b).hsize = x.hsize ∧ (x.wrF ja kd w k a b).hN = x.hN) := by
  unfold VS.wrF VS.wrB VS.wjS VS.jadF
  repeat' split
  all_goals exact ⟨⟨rfl, rfl, rfl, rfl, rfl, rfl, rfl, rfl, rfl, rfl, rfl, rfl⟩, rfl, rfl⟩
theorem ha_same (x : VS) (pa : Nat → Nat) (w : Nat) (a b : Int64) : ((x.haF pa w a b).nser = x.nser ∧ (x.haF pa w a b).npc = x.npc ∧ (x.haF pa w a b).nsc = x.nsc ∧ (x.haF pa w a b).nP = x.nP ∧ (x.haF pa w a b).pl = x.pl ∧ (x.haF pa w a b).ncat = x.ncat ∧ (x.haF pa w a b).diskBlocks = x.diskBlocks ∧ (x.haF pa w a b).gN = x.gN ∧ (x.haF pa w a b).tapeLength = x.tapeLength ∧ (x.haF pa w a b).tpN = x.tpN ∧ (x.haF pa w a b).bN = x.bN ∧ (x.haF pa w a b).jlimit = x.jlimit) ∧ ((x.haF pa w a b).jsize = x.jsize ∧ (x.haF pa w a b).jN = x.jN ∧ (x.haF pa w a b).jfill = x.jfill ∧ (x.haF pa w a b).jblock = x.jblock ∧ (x.haF pa w a b).writes = x.writes ∧ (x.haF pa w a b).jK = x.jK ∧ (x.haF pa w a b).jU = x.jU ∧ (x.haF pa w a b).jB = x.jB ∧ (x.haF pa w a b).jO = x.jO) := by
  unfold VS.haF
  split
  · exact ⟨⟨rfl, rfl, rfl, rfl, rfl, rfl, rfl, rfl, rfl, rfl, rfl, rfl⟩, rfl, rfl, rfl, rfl, rfl, rfl, rfl, rfl, rfl⟩
  · exact ⟨⟨rfl, rfl, rfl, rfl, rfl, rfl, rfl, rfl, rfl, rfl, rfl, rfl⟩, rfl, rfl, rfl, rfl, rfl, rfl, rfl, rfl, rfl⟩
theorem wrB_u (x : VS) (n : Nat) : (x.wrB n).jU = x.jU ∧ (x.wrB n).jB = x.jB ∧ (x.wrB n).writes ≤ x.writes + 1 := by
  unfold VS.wrB VS.wjS
  repeat' split
  all_goals exact ⟨rfl, rfl, (by first | exact Nat.le_refl _ | exact Nat.le_succ _)⟩

theorem wr_F (x : VS) (ja : Nat → Nat) (kd w k : Nat) (a b : Int64) (h0 : x.jsize ≤ x.jN) (h1 : 0 < x.jN) (hb : x.jblock < x.jlimit) (hro : x.room k = true) (hk : k ≤ 126) : ((x.wrF ja kd w k a b).jsize = x.jsize + 1 ∧ (x.wrF ja kd w k a b).jN = x.jcap ∧ (x.wrF ja kd w k a b).jfill ≤ 126 ∧ (x.wrF ja kd w k a b).jblock < x.jlimit ∧ (x.wrF ja kd w k a b).writes ≤ x.writes + 1) ∧ (∀ q, q < x.jsize → (x.wrF ja kd w k a b).jK q = x.jK q ∧ (x.wrF ja kd w k a b).jU q = x.jU q ∧ (x.wrF ja kd w k a b).jB q = x.jB q ∧ (x.wrF ja kd w k a b).jO q = x.jO q) ∧ (x.wrF ja kd w k a b).jK x.jsize = kd ∧ (x.wrF ja kd w k a b).jU x.jsize = k ∧ (x.wrF ja kd w k a b).jB x.jsize < x.jlimit ∧ (x.wrF ja kd w k a b).jO x.jsize = w := by
  obtain ⟨k1, k2, k3, k4, k5, k6⟩ := wrB_k x k
  obtain ⟨u1, u2, u3⟩ := wrB_u x k
  obtain ⟨b1, b2, b3, b4, b5, b6, b7⟩ := wrB_b x k
  obtain ⟨-, -, r3⟩ := wr_j x k
  obtain ⟨p1, ⟨q1, q2, q3, q4, q5, q6⟩, p3, p4, p5, p6, p7, p8, p9, p10⟩ := jad_at (x.wrB k) ja kd w k a b (by rw [k5, k6]; exact h0) (by rw [k6]; exact h1)
  obtain ⟨-, -, -, -, -, -, a7, -⟩ := jadF_b (x.wrB k) ja kd w k a b
  rw [k5] at p1 q1 q2 q3 q4 p3
  have hro : x.jfill + k ≤ 126 ∨ x.jblock + 1 < x.jlimit := by
    unfold VS.room at hro
    rw [Bool.or_eq_true, decide_eq_true_eq, decide_eq_true_eq] at hro
    exact hro
  have hbl : (x.wrB k).jblock < x.jlimit ∧ (x.wrB k).jfill + k ≤ 126 := by
    by_cases c : x.jfill + k ≤ 126
    · have e : x.wrB k = x := if_pos c
      rw [e]
      exact ⟨hb, c⟩
    · rcases b7 with ⟨z1, z2, z3⟩ | ⟨z1, z2⟩
      · exact absurd z2 c
      · rw [z1, z2]
        exact ⟨by omega, by omega⟩
  refine ⟨⟨p3, a7.trans r3, ?_, ?_, ?_⟩, fun q hq => ?_, q1, q3, ?_, q2⟩
  · show ((x.wrB k).jadF ja kd w k a b).jfill ≤ 126
    rw [p6]
    exact hbl.2
  · show ((x.wrB k).jadF ja kd w k a b).jblock < x.jlimit
    rw [p5]
    exact hbl.1
  · show ((x.wrB k).jadF ja kd w k a b).writes ≤ x.writes + 1
    rw [p9]
    exact u3
  · obtain ⟨v1, v2, v3, v4, -, -⟩ := p1 q hq
    rw [k1] at v1
    rw [k2] at v2
    rw [u1] at v3
    rw [u2] at v4
    exact ⟨v1, v3, v4, v2⟩
  · show ((x.wrB k).jadF ja kd w k a b).jB x.jsize < x.jlimit
    rw [q4]
    exact hbl.1
/-- the journal's blocks, a record more -/
theorem fgX_c {x y : VS} (h : fgX x) (e : y.jB = x.jB ∧ y.jU = x.jU ∧ y.jsize = x.jsize ∧ y.jblock = x.jblock ∧ y.jfill = x.jfill ∧ y.jlimit = x.jlimit) : fgX y := by
  obtain ⟨e1, e2, e3, e4, e5, e6⟩ := e
  unfold fgX
  rw [e1, e2, e3, e4, e5, e6]
  exact h
theorem wr_fg (x : VS) (ja : Nat → Nat) (kd w k : Nat) (a b : Int64) (h0 : x.jsize ≤ x.jN) (h1 : 0 < x.jN) (hb : x.jblock < x.jlimit) (hro : x.room k = true) (hk : k ≤ 126) (hx : fgX x) : fgX (x.wrF ja kd w k a b) := by
  obtain ⟨⟨f1, f2, f3, f4, f5⟩, f6, f7, f8, f9, f10⟩ := wr_F x ja kd w k a b h0 h1 hb hro hk
  obtain ⟨b1, b2, b3, b4, b5, b6, b7⟩ := wrB_b x k
  obtain ⟨k1, k2, k3, k4, k5, k6⟩ := wrB_k x k
  obtain ⟨p1, ⟨q1, q2, q3, q4, q5, q6⟩, p3, p4, p5, p6, p7, p8, p9, p10⟩ := jad_at (x.wrB k) ja kd w k a b (by rw [k5, k6]; exact h0) (by rw [k6]; exact h1)
  have e12 := (wr_same x ja kd w k a b).1.2.2.2.2.2.2.2.2.2.2.2
  rw [k5] at q4
  have q4 : (x.wrF ja kd w k a b).jB x.jsize = (x.wrB k).jblock := q4
  have p5 : (x.wrF ja kd w k a b).jblock = (x.wrB k).jblock := p5
  have p6 : (x.wrF ja kd w k a b).jfill = (x.wrB k).jfill + k := p6
  obtain ⟨y, ey⟩ : ∃ y, y = x.wrF ja kd w k a b := ⟨_, rfl⟩
  rw [← ey] at f1 f2 f3 f4 f5 f6 f7 f8 f9 f10 e12 q4 p5 p6 ⊢
  obtain ⟨⟨x1, x2⟩, x3⟩ := hx
  have fe : ∀ r, r ≤ x.jsize → fgG y.jB y.jU r = fgG x.jB x.jU r := fun r hr => fg_e (fun i hi => by
    obtain ⟨-, v2, v3, -⟩ := f6 i (by omega)
    exact ⟨v3, v2⟩)
  have fs1 : (fgG y.jB y.jU (x.jsize + 1)).1 = y.jB x.jsize := rfl
  have fs2 : (fgG y.jB y.jU (x.jsize + 1)).2.1 = if y.jB x.jsize = (fgG y.jB y.jU x.jsize).1 then (fgG y.jB y.jU x.jsize).2.1 + y.jU x.jsize else y.jU x.jsize := rfl
  rw [fe x.jsize (Nat.le_refl _), x1, x2, f8, q4] at fs2
  have ef : (fgG y.jB y.jU (x.jsize + 1)).2.1 = y.jfill := by
    rw [fs2, p6]
    rcases b7 with ⟨z1, z2, z3⟩ | ⟨z1, z2⟩
    · rw [if_pos z3, z1]
    · rw [if_neg (by omega), z1, Nat.zero_add]
  refine ⟨⟨?_, ?_⟩, fun r hr => ?_⟩
  · rw [f1, fs1, q4, p5]
  · rw [f1]
    exact ef
  · rw [e12]
    by_cases c : r = x.jsize
    · rw [c, ef]
      exact ⟨f9, f3⟩
    · obtain ⟨-, -, v3, -⟩ := f6 r (by omega)
      rw [v3, fe (r + 1) (by omega)]
      exact x3 r (by omega)
theorem ft_rec {M M' : MS} {x z : VS} {kd w : Nat} {a : Int64} (h : ftM M x) (hr : M.records = x.jsize) (hk0 : ¬ kd = 0) (e : M'.firsts = va_up M.firsts M.records a ∧ M'.recordSeries = va_up M.recordSeries M.records w ∧ M'.textLengths = M.textLengths) (hz : z.jsize = x.jsize + 1) (hK : (∀ q, q < x.jsize → z.jK q = x.jK q) ∧ z.jK x.jsize = kd) : ftM M' z := by
  obtain ⟨e1, e2, e3⟩ := e
  intro r hr1 hr2
  by_cases c : r = x.jsize
  · rw [c, hK.2] at hr2
    exact absurd hr2 hk0
  · rw [e1, e2, e3, va_up_ne _ _ (by omega), va_up_ne _ _ (by omega)]
    exact h r (by omega) (by rw [← hK.1 r (by omega)]; exact hr2)
/-- how many records of a kind -/
theorem cnt_kd {f g : Nat → Nat} {N kd : Nat} (h : ∀ q, q < N → g q = f q) (hN : g N = kd) : cnt (N + 1) (fun r => decide (g r = 1)) = cnt N (fun r => decide (f r = 1)) + (if kd = 1 then 1 else 0) := by
  have e : cnt N (fun r => decide (g r = 1)) = cnt N (fun r => decide (f r = 1)) := cnt_ext (fun q hq => by rw [h q hq])
  by_cases c : kd = 1
  · rw [cnt_t (by rw [hN, c]; rfl), e, if_pos c]
  · rw [cnt_f (by rw [hN]; exact decide_eq_false c), e, if_neg c, Nat.add_zero]
theorem rl_ap (h : Rl dA ad e0 n x M cs ss) (hn : n + 1 ≤ 512) (hw : w < x.nser) (hm : x.may w a = true) (hro : x.room 1 = true) (ja pa : Nat → Nat) (b : Int64) : Rl dA ad e0 (n + 1) (x.apF ja pa w a b) (((M.s_cod 0).recS 1 w a b 1).comS w a b) (cs + (6 * (x.jcap - x.jN) + 3 * (x.cmcap a - x.hN)) + 0 + 0) (ss + (12 * (x.jcap - x.jN) + 6 * (x.cmcap a - x.hN)) + 0 + 0) := by
  obtain ⟨PS, SS, dn, bn, gq, rq, la, gk, AT, T, a1, a2, a3, a4, a5, a6, a7, a8⟩ := h
  obtain ⟨⟨n1, n2, n3, n4⟩, ⟨n5, n6, n7⟩, ⟨n8, n9, n10, n11, n12, n13, n14, n15⟩, ⟨n16, n17, n18, n19⟩, ⟨n20, n21, n22, n23⟩, n24⟩ := a4
  have co' := ap_co (ja := ja) (pa := pa) (b := b) a1 hw hm ⟨n8, n9⟩ ⟨n11, n12⟩
  have ecm : x.cmcap a = x.hcap := if_neg (may_h hm)
  have hjc : x.jN ≤ x.jcap ∧ x.jsize + 1 ≤ x.jcap ∧ x.jcap ≤ 4096 := by
    unfold VS.jcap
    split <;> omega
  have hhc : x.hN ≤ x.hcap ∧ x.hsize + 1 ≤ x.hcap ∧ x.hcap ≤ 4096 := by
    unfold VS.hcap
    split <;> omega
  have hlm : x.jlimit ≤ 256 := by
    have := a2.2.2.2.2.1
    omega
  have wf := wr_F x ja 1 w 1 a b n8 n9 n7 hro (by decide)
  have ws := wr_same x ja 1 w 1 a b
  have kp := wr_keep (ja := ja) (kd := 1) (w := w) (k := 1) (a := a) (b := b) (And.intro a2 (And.intro a3 a5))
  obtain ⟨y, ey⟩ : ∃ y, y = x.wrF ja 1 w 1 a b := ⟨_, rfl⟩
  rw [← ey] at wf ws kp
  obtain ⟨⟨s1, s2, s3, s4, s5, s6, s7, s8, s9, s10, s11, s12⟩, s13, s14⟩ := ws
  have hnh : y.nhor = x.nhor := by rw [ey]; exact (wrF_h x ja 1 w 1 a b).2.2.1
  have ea : x.apF ja pa w a b = (VS.s_nlast y (va_up y.nlast w a)).haF pa w a b := by
    unfold VS.apF VS.cmF
    rw [← ey, if_neg (show ¬ a < y.nhor by rw [hnh]; exact may_h hm)]
  have kz := ha_keep (pa := pa) (w := w) (a := a) (b := b) kp
  obtain ⟨⟨h1, h2, h3, h4, h5, h6, h7, h8, h9, h10, h11, h12⟩, h13, h14, h15, h16, h17, h18, h19, h20, h21⟩ := ha_same (VS.s_nlast y (va_up y.nlast w a)) pa w a b
  obtain ⟨-, -, -, -, -, -, -, b8, b9⟩ := haF_b (VS.s_nlast y (va_up y.nlast w a)) pa w a b
  have b9 : ((VS.s_nlast y (va_up y.nlast w a)).haF pa w a b).hN = y.hcap := b9
  have ehc : y.hcap = x.hcap := by
    unfold VS.hcap
    rw [s13, s14]
  rw [ea] at co' ⊢
  obtain ⟨z, ez⟩ : ∃ z, z = (VS.s_nlast y (va_up y.nlast w a)).haF pa w a b := ⟨_, rfl⟩
  rw [← ez] at co' kz h1 h2 h3 h4 h5 h6 h7 h8 h9 h10 h11 h12 h13 h14 h15 h16 h17 h18 h19 h20 h21 b8 b9 ⊢
  have h1 : z.nser = y.nser := h1
  have h2 : z.npc = y.npc := h2
  have h3 : z.nsc = y.nsc := h3
  have h4 : z.nP = y.nP := h4
  have h5 : z.pl = y.pl := h5
  have h6 : z.ncat = y.ncat := h6
  have h7 : z.diskBlocks = y.diskBlocks := h7
  have h8 : z.gN = y.gN := h8
  have h9 : z.tapeLength = y.tapeLength := h9
  have h10 : z.tpN = y.tpN := h10
  have h11 : z.bN = y.bN := h11
  have h12 : z.jlimit = y.jlimit := h12
  have h13 : z.jsize = y.jsize := h13
  have h14 : z.jN = y.jN := h14
  have h15 : z.jfill = y.jfill := h15
  have h16 : z.jblock = y.jblock := h16
  have h17 : z.writes = y.writes := h17
  have h18 : z.jK = y.jK := h18
  have h19 : z.jU = y.jU := h19
  have h20 : z.jB = y.jB := h20
  have h21 : z.jO = y.jO := h21
  have b8 : z.hsize = y.hsize + 1 := b8
  obtain ⟨⟨f1, f2, f3, f4, f5⟩, f6, f7, f8, f9, f10⟩ := wf
  obtain ⟨M', eM⟩ : ∃ M', M' = ((M.s_cod 0).recS 1 w a b 1).comS w a b := ⟨_, rfl⟩
  have m1 : M'.points = M.points + 1 := by rw [eM]; rfl
  have m2 : M'.places = va_up M.places M.points (-1) := by rw [eM]; rfl
  have m3 : M'.deletes = M.deletes := by rw [eM]; rfl
  have m4 : M'.parcelNumber = M.parcelNumber := by rw [eM]; rfl
  have m5 : M'.pointSeries = va_up M.pointSeries M.points w := by rw [eM]; rfl
  have c1 : cnt M'.points M'.pkd = cnt M.points M.pkd := by
    rw [m1, cnt_f (by
      show (!decide (M'.places M.points < 0)) = false
      rw [m2, va_up_self]
      rfl)]
    exact cnt_ext (fun q hq => by
      show (!decide (M'.places q < 0)) = !decide (M.places q < 0)
      rw [m2, va_up_ne _ _ (by omega)])
  have c2 : cnt z.jsize (fun r => decide (z.jK r = 1)) = cnt x.jsize (fun r => decide (x.jK r = 1)) + 1 := by
    rw [h13, f1, h18]
    exact cnt_kd (fun q hq => (f6 q hq).1) f7
  have kz' : rlT M' z ∧ rlS dA SS M' z ∧ rlA dA ad e0 M' z gq rq la gk AT T := by rw [eM]; exact kz
  rw [← eM] at co' ⊢
  obtain ⟨kz1, kz2, kz3⟩ := kz'
  refine ⟨PS, SS, dn, bn, gq, rq, la, gk, AT, T, co', kz1, kz2, ⟨⟨by omega, by omega, by omega, ?_⟩, ⟨?_, by omega, by omega⟩, ⟨by omega, by omega, by omega, by omega, by omega, by omega, by omega, by omega⟩, ⟨by omega, by omega, by omega, by omega⟩, ⟨by omega, by omega, by omega, fun q hq => ?_⟩, ⟨?_, ?_⟩, fun q hq => ?_⟩, kz3, hn, by omega, by omega⟩
  · rw [h4, h2, h5, s4, s2, s5]
    exact n4
  · rw [h12, h6, h2, h7, s12, s6, s2, s7]
    exact n5
  · rw [m5]
    by_cases c : q = M.points
    · rw [c, va_up_self]
      omega
    · rw [va_up_ne _ _ c]
      exact n23 q (by omega)
  · refine fgX_c (x := y) ?_ ⟨h20, h19, h13, h16, h15, h12⟩
    rw [ey]
    exact wr_fg x ja 1 w 1 a b n8 n9 n7 hro (by decide) n24.1.1
  · refine ft_rec (w := w) (a := a) n24.1.2 a1.2.2.2.1.1 (show ¬ 1 = 0 by decide) (by rw [eM]; exact ⟨rfl, rfl, rfl⟩) (h13.trans f1) ⟨fun q hq => ?_, ?_⟩
    · rw [h18]
      exact (f6 q hq).1
    · rw [h18]
      exact f7
  · rw [h19, h20, h21]
    by_cases c : q = x.jsize
    · rw [c, f8, f10]
      exact ⟨by decide, by omega, by omega⟩
    · obtain ⟨v1, v2, v3, v4⟩ := f6 q (by omega)
      rw [v2, v3, v4]
      exact n24.2 q (by omega)
end WR
end
section
/-! A point comes: the call. -/
theorem may_f {x : VS} {w : Nat} {a : Int64} (h : x.may w a = false) : a < 0 ∨ 1099511627775 < a ∨ a ≤ x.nlast w ∨ a < x.nhor := by
  by_cases c1 : a < 0
  · exact Or.inl c1
  · by_cases c2 : 1099511627775 < a
    · exact Or.inr (Or.inl c2)
    · by_cases c3 : a ≤ x.nlast w
      · exact Or.inr (Or.inr (Or.inl c3))
      · by_cases c4 : a < x.nhor
        · exact Or.inr (Or.inr (Or.inr c4))
        · refine absurd h ?_
          unfold VS.may isTm
          rw [decide_eq_false c1, decide_eq_false c2, decide_eq_false c3, decide_eq_false c4]
          decide
theorem may_t {x : VS} {w : Nat} {a : Int64} (h : x.may w a = true) : ¬ a < 0 ∧ ¬ 1099511627775 < a ∧ ¬ a ≤ x.nlast w ∧ ¬ a < x.nhor := by
  unfold VS.may isTm at h
  rw [Bool.and_eq_true, Bool.and_eq_true, Bool.and_eq_true, nd, nd, nd, nd] at h
  exact ⟨h.1.1, h.1.2, h.2.1, h.2.2⟩
section CG
variable {p : Program} {e : Env} {s : State} {m : MethodId} {below : List Frame} {meth : Method} {c : Code} {b L : Nat} {xs : Nat → Int32} {D : va_G} {dA : Nat → ClassId} {e0 : Nat} {A : Nat → Prop} {h : Nat} {ad : Nat → Nat} {mm : Nat} {mad : Nat → Nat} {o : Nat} {n : Nat} {x : VS} {M : MS} {cs ss : Nat}

theorem call_6 (l : Launch) (hC : lS p l s m meth c b L xs D dA e0 A) (hL : L ≤ 3072) (hi : 6 * n + 6 ≤ L) (hR : Rl dA ad e0 n x M cs ss) (cont : ∀ x' M' cs' ss', Rl dA ad e0 (n + 1) x' M' cs' ss' → At9 p l e s m below meth c b D dA A h ad mm mad o 23 (6 * n + 6) x' M' cs' ss') : At9 p l e s m below meth c b D dA A h ad mm mad o (tg9 6) (6 * n) x M cs ss := by
  intro og H locs ls hP hD hS hl
  obtain ⟨rm1, rm2⟩ := rl_room (rl_skip hR (by omega))
  obtain ⟨PS, SS, dn, bn, gq, rq, la, gk, AT, T, co, ⟨⟨t1, t2, t3, t4⟩, ⟨t5, t6, t7⟩, ⟨t8, t9⟩, t10, t11, t12⟩, ⟨sr1, sr2, sr3, sr4, sr5⟩, nr, ⟨⟨r1, r2, r3, r4⟩, r5, ⟨r6, r7⟩, ⟨r8, r9⟩, r10⟩, rr⟩ := id hR
  obtain ⟨cp, cb, ⟨se1, se2⟩, ⟨g1, g2, g3, g4, g5, g6, g7, g8, g9, g10, g11⟩, cj, ck, cc⟩ := id co
  obtain ⟨⟨n1, n2, n3, n4⟩, ⟨n5, n6, n7⟩, ⟨n8, n9, n10, n11, n12, n13, n14, n15⟩, ⟨n16, n17, n18, n19⟩, ⟨n20, n21, n22, n23⟩, n24⟩ := id nr
  cases hp : x.powered with
  | false =>
    have hr2 := rl_up (cs' := cs + 1 + 0 + 0) (ss' := ss + 6 + 0 + 0) hR (by omega) 1 (by omega) (by omega)
    obtain ⟨rn1, rn2⟩ := rl_room hr2
    have W1 := fun sz => k8_append_1 l D dA sz h ad o og x (xs (6 * n + 1)) ((((xs (6 * n + 2)).toInt64) <<< ((32 : Int32).toInt64 &&& 63)) ||| (((xs (6 * n + 3)).toInt64) &&& 4294967295)) ((((xs (6 * n + 4)).toInt64) <<< ((32 : Int32).toInt64 &&& 63)) ||| (((xs (6 * n + 5)).toInt64) &&& 4294967295)) (fun u => u = x) _ _ _ _ (nf_x0 (fun sz => v_append_1 l (lS_tr hC) D dA sz h ad x (xs (6 * n + 1)) ((((xs (6 * n + 2)).toInt64) <<< ((32 : Int32).toInt64 &&& 63)) ||| (((xs (6 * n + 3)).toInt64) &&& 4294967295)) ((((xs (6 * n + 4)).toInt64) <<< ((32 : Int32).toInt64 &&& 63)) ||| (((xs (6 * n + 5)).toInt64) &&& 4294967295)) hp) rfl (fun _ _ _ q => q))
    have M1 := fun sz => k_append_1 l D dA sz mm mad M (xs (6 * n + 1)) ((((xs (6 * n + 2)).toInt64) <<< ((32 : Int32).toInt64 &&& 63)) ||| (((xs (6 * n + 3)).toInt64) &&& 4294967295)) ((((xs (6 * n + 4)).toInt64) <<< ((32 : Int32).toInt64 &&& 63)) ||| (((xs (6 * n + 5)).toInt64) &&& 4294967295)) (t12.trans hp)
    exact l9_6_x l hC (k9 := 1) hi hL ⟨by omega, by omega, by omega, by omega⟩ ⟨by omega, by omega⟩ rfl k_n1 W1 M1 hP hD hS hl (fun u H1 locs1 ls1 hf hP hD hS hl => cont u _ _ _ (by rw [show u = x from hf]; exact hr2) og H1 locs1 ls1 hP hD hS hl)
  | true =>
    have on : M.on = true := t12.trans hp
    by_cases hv : xs (6 * n + 1) < 0 ∨ nI x.nser ≤ xs (6 * n + 1)
    · have hr2 := rl_up (cs' := cs + 1 + 0 + 0) (ss' := ss + 6 + 0 + 0) hR (by omega) 2 (by omega) (by omega)
      obtain ⟨rn1, rn2⟩ := rl_room hr2
      have W1 := fun sz => k8_append_2 l D dA sz h ad o og x (xs (6 * n + 1)) ((((xs (6 * n + 2)).toInt64) <<< ((32 : Int32).toInt64 &&& 63)) ||| (((xs (6 * n + 3)).toInt64) &&& 4294967295)) ((((xs (6 * n + 4)).toInt64) <<< ((32 : Int32).toInt64 &&& 63)) ||| (((xs (6 * n + 5)).toInt64) &&& 4294967295)) (fun u => u = x) _ _ _ _ (nf_x0 (fun sz => v_append_2 l (lS_tr hC) D dA sz h ad x (xs (6 * n + 1)) ((((xs (6 * n + 2)).toInt64) <<< ((32 : Int32).toInt64 &&& 63)) ||| (((xs (6 * n + 3)).toInt64) &&& 4294967295)) ((((xs (6 * n + 4)).toInt64) <<< ((32 : Int32).toInt64 &&& 63)) ||| (((xs (6 * n + 5)).toInt64) &&& 4294967295)) hp hv) rfl (fun _ _ _ q => q))
      have M1 := fun sz => k_append_2 l D dA sz mm mad M (xs (6 * n + 1)) ((((xs (6 * n + 2)).toInt64) <<< ((32 : Int32).toInt64 &&& 63)) ||| (((xs (6 * n + 3)).toInt64) &&& 4294967295)) ((((xs (6 * n + 4)).toInt64) <<< ((32 : Int32).toInt64 &&& 63)) ||| (((xs (6 * n + 5)).toInt64) &&& 4294967295)) on (by rw [se1]; exact hv)
      exact l9_6_x l hC (k9 := 2) hi hL ⟨by omega, by omega, by omega, by omega⟩ ⟨by omega, by omega⟩ rfl k_n2 W1 M1 hP hD hS hl (fun u H1 locs1 ls1 hf hP hD hS hl => cont u _ _ _ (by rw [show u = x from hf]; exact hr2) og H1 locs1 ls1 hP hD hS hl)
    · obtain ⟨w, hw, ew⟩ := i32_lt (a := x.nser) (by omega) (fun z => hv (Or.inl z)) (fun z => hv (Or.inr z))
      have hw2 : w < M.seriesCount := by omega
      have hsc : M.seriesCount ≤ 256 := by omega
      have ehz : M.horizon = x.nhor := cp.1.2.2.1
      have elw : M.lasts w = x.nlast w := se2 w hw
      have hjl : M.journal ≤ 256 := by omega
      have hus : M.used ≤ 126 := by omega
      have hbk : M.block < 2 ^ 20 := by omega
      cases hm : x.may w ((((xs (6 * n + 2)).toInt64) <<< ((32 : Int32).toInt64 &&& 63)) ||| (((xs (6 * n + 3)).toInt64) &&& 4294967295)) with
      | false =>
        have hr2 := rl_up (cs' := cs + 1 + 0 + 0) (ss' := ss + 6 + 0 + 0) hR (by omega) 3 (by omega) (by omega)
        obtain ⟨rn1, rn2⟩ := rl_room hr2
        have W1 := fun sz => k8_append_3 l D dA sz h ad o og x (xs (6 * n + 1)) ((((xs (6 * n + 2)).toInt64) <<< ((32 : Int32).toInt64 &&& 63)) ||| (((xs (6 * n + 3)).toInt64) &&& 4294967295)) ((((xs (6 * n + 4)).toInt64) <<< ((32 : Int32).toInt64 &&& 63)) ||| (((xs (6 * n + 5)).toInt64) &&& 4294967295)) (fun u => u = x) _ _ _ _ (nf_x0 (fun sz => v_append_3 l (lS_tr hC) D dA sz h ad x w ((((xs (6 * n + 2)).toInt64) <<< ((32 : Int32).toInt64 &&& 63)) ||| (((xs (6 * n + 3)).toInt64) &&& 4294967295)) ((((xs (6 * n + 4)).toInt64) <<< ((32 : Int32).toInt64 &&& 63)) ||| (((xs (6 * n + 5)).toInt64) &&& 4294967295)) hp hw n1 hm) rfl (fun _ _ _ q => by rw [ew] at q; exact q))
        have M1 := nm_i (M1 := MS.s_cod M 3) (b := 0) (Pc2 := fun sz => pC D dA [.ref mm, .int (xs (6 * n + 1)), .long ((((xs (6 * n + 2)).toInt64) <<< ((32 : Int32).toInt64 &&& 63)) ||| (((xs (6 * n + 3)).toInt64) &&& 4294967295)), .long ((((xs (6 * n + 4)).toInt64) <<< ((32 : Int32).toInt64 &&& 63)) ||| (((xs (6 * n + 5)).toInt64) &&& 4294967295))] (MW dA mm mad M) sz) (fun sz => k_append_3 l D dA sz mm mad M w ((((xs (6 * n + 2)).toInt64) <<< ((32 : Int32).toInt64 &&& 63)) ||| (((xs (6 * n + 3)).toInt64) &&& 4294967295)) ((((xs (6 * n + 4)).toInt64) <<< ((32 : Int32).toInt64 &&& 63)) ||| (((xs (6 * n + 5)).toInt64) &&& 4294967295)) on hw2 hsc (by rw [elw, ehz]; exact may_f hm)) (fun r u q => ⟨q, rfl⟩) (fun _ _ _ q => by rw [ew] at q; exact q)
        exact l9_6_x l hC (k9 := 3) hi hL ⟨by omega, by omega, by omega, by omega⟩ ⟨by omega, by omega⟩ rfl k_n3 W1 M1 hP hD hS hl (fun u H1 locs1 ls1 hf hP hD hS hl => cont u _ _ _ (by rw [show u = x from hf]; exact hr2) og H1 locs1 ls1 hP hD hS hl)
      | true =>
        obtain ⟨y1, y2, y3, y4⟩ := may_t hm
        have z3 : ¬ ((((xs (6 * n + 2)).toInt64) <<< ((32 : Int32).toInt64 &&& 63)) ||| (((xs (6 * n + 3)).toInt64) &&& 4294967295)) ≤ M.lasts w := by rw [elw]; exact y3
        have z4 : M.horizon ≤ ((((xs (6 * n + 2)).toInt64) <<< ((32 : Int32).toInt64 &&& 63)) ||| (((xs (6 * n + 3)).toInt64) &&& 4294967295)) := by rw [ehz]; exact Int64.not_lt.mp y4
        have erm : M.room 1 = x.room 1 := room_eq ⟨g1, g2, g3, g4, g5, g6, g7, g8, g9, g10, g11⟩ 1
        cases hro : x.room 1 with
        | false =>
          have hr2 := rl_up (cs' := cs + 1 + 0 + 0) (ss' := ss + 6 + 0 + 0) hR (by omega) 4 (by omega) (by omega)
          obtain ⟨rn1, rn2⟩ := rl_room hr2
          have W1 := fun sz => k8_append_4 l D dA sz h ad o og x (xs (6 * n + 1)) ((((xs (6 * n + 2)).toInt64) <<< ((32 : Int32).toInt64 &&& 63)) ||| (((xs (6 * n + 3)).toInt64) &&& 4294967295)) ((((xs (6 * n + 4)).toInt64) <<< ((32 : Int32).toInt64 &&& 63)) ||| (((xs (6 * n + 5)).toInt64) &&& 4294967295)) (fun u => u = x) _ _ _ _ (nf_x0 (fun sz => v_append_4 l (lS_tr hC) D dA sz h ad x w ((((xs (6 * n + 2)).toInt64) <<< ((32 : Int32).toInt64 &&& 63)) ||| (((xs (6 * n + 3)).toInt64) &&& 4294967295)) ((((xs (6 * n + 4)).toInt64) <<< ((32 : Int32).toInt64 &&& 63)) ||| (((xs (6 * n + 5)).toInt64) &&& 4294967295)) hp hw n1 hm (by omega) (by omega) (by omega) hro) rfl (fun _ _ _ q => by rw [ew] at q; exact q))
          have M1 := nm_i (M1 := MS.s_cod M 4) (b := 0) (Pc2 := fun sz => pC D dA [.ref mm, .int (xs (6 * n + 1)), .long ((((xs (6 * n + 2)).toInt64) <<< ((32 : Int32).toInt64 &&& 63)) ||| (((xs (6 * n + 3)).toInt64) &&& 4294967295)), .long ((((xs (6 * n + 4)).toInt64) <<< ((32 : Int32).toInt64 &&& 63)) ||| (((xs (6 * n + 5)).toInt64) &&& 4294967295))] (MW dA mm mad M) sz) (fun sz => k_append_4 l D dA sz mm mad M w ((((xs (6 * n + 2)).toInt64) <<< ((32 : Int32).toInt64 &&& 63)) ||| (((xs (6 * n + 3)).toInt64) &&& 4294967295)) ((((xs (6 * n + 4)).toInt64) <<< ((32 : Int32).toInt64 &&& 63)) ||| (((xs (6 * n + 5)).toInt64) &&& 4294967295)) on hw2 hsc y1 y2 z3 z4 hus hbk hjl (erm.trans hro)) (fun r u q => ⟨q, rfl⟩) (fun _ _ _ q => by rw [ew] at q; exact q)
          exact l9_6_x l hC (k9 := 4) hi hL ⟨by omega, by omega, by omega, by omega⟩ ⟨by omega, by omega⟩ rfl k_n4 W1 M1 hP hD hS hl (fun u H1 locs1 ls1 hf hP hD hS hl => cont u _ _ _ (by rw [show u = x from hf]; exact hr2) og H1 locs1 ls1 hP hD hS hl)
        | true =>
          by_cases hcr : x.jfill + 1 ≤ 126 ∨ x.jch = false ∨ ¬ x.cutLeft = 0
          · have hr2 := rl_ap (w := w) (a := ((((xs (6 * n + 2)).toInt64) <<< ((32 : Int32).toInt64 &&& 63)) ||| (((xs (6 * n + 3)).toInt64) &&& 4294967295))) hR (by omega) hw hm hro (fun _ => 0) (fun _ => 0) ((((xs (6 * n + 4)).toInt64) <<< ((32 : Int32).toInt64 &&& 63)) ||| (((xs (6 * n + 5)).toInt64) &&& 4294967295))
            obtain ⟨rn1, rn2⟩ := rl_room hr2
            have co2 := ap_co (ja := fun _ => 0) (pa := fun _ => 0) (b := ((((xs (6 * n + 4)).toInt64) <<< ((32 : Int32).toInt64 &&& 63)) ||| (((xs (6 * n + 5)).toInt64) &&& 4294967295))) co hw hm ⟨n8, n9⟩ ⟨n11, n12⟩
            have ehd : (((M.s_cod 0).recS 1 w ((((xs (6 * n + 2)).toInt64) <<< ((32 : Int32).toInt64 &&& 63)) ||| (((xs (6 * n + 3)).toInt64) &&& 4294967295)) ((((xs (6 * n + 4)).toInt64) <<< ((32 : Int32).toInt64 &&& 63)) ||| (((xs (6 * n + 5)).toInt64) &&& 4294967295)) 1).comS w ((((xs (6 * n + 2)).toInt64) <<< ((32 : Int32).toInt64 &&& 63)) ||| (((xs (6 * n + 3)).toInt64) &&& 4294967295)) ((((xs (6 * n + 4)).toInt64) <<< ((32 : Int32).toInt64 &&& 63)) ||| (((xs (6 * n + 5)).toInt64) &&& 4294967295))).heads = x.hsize + 1 := (heads_eq co2.1).trans (apF_b x _ _ w _ _ hm).2.2.2.2.2.2.2.1
            have hcm : M.canR 1 := by
              unfold MS.canR
              rw [g4, g5, g6]
              exact hcr
            have W1 := fun sz => k8_append l D dA sz h ad o og x (xs (6 * n + 1)) ((((xs (6 * n + 2)).toInt64) <<< ((32 : Int32).toInt64 &&& 63)) ||| (((xs (6 * n + 3)).toInt64) &&& 4294967295)) ((((xs (6 * n + 4)).toInt64) <<< ((32 : Int32).toInt64 &&& 63)) ||| (((xs (6 * n + 5)).toInt64) &&& 4294967295)) (nI (x.hsize + 1)) (fun u => ∃ ja pa : Nat → Nat, u = x.apF ja pa w ((((xs (6 * n + 2)).toInt64) <<< ((32 : Int32).toInt64 &&& 63)) ||| (((xs (6 * n + 3)).toInt64) &&& 4294967295)) ((((xs (6 * n + 4)).toInt64) <<< ((32 : Int32).toInt64 &&& 63)) ||| (((xs (6 * n + 5)).toInt64) &&& 4294967295))) _ _ _ _ (nf_i (fun sz => v_append l D dA sz h ad x w ((((xs (6 * n + 2)).toInt64) <<< ((32 : Int32).toInt64 &&& 63)) ||| (((xs (6 * n + 3)).toInt64) &&& 4294967295)) ((((xs (6 * n + 4)).toInt64) <<< ((32 : Int32).toInt64 &&& 63)) ||| (((xs (6 * n + 5)).toInt64) &&& 4294967295)) hp hw n1 hm (by omega) (by omega) (by omega) hro n8 n9 (by omega) hcr n11 n12 (by omega)) (fun r u q => by
              obtain ⟨q1, ja, pa, q2⟩ := q
              exact ⟨by rw [q1, q2, (apF_b x ja pa w _ _ hm).2.2.2.2.2.2.2.1], ja, pa, q2⟩) (fun _ _ _ q => by rw [ew] at q; exact q))
            have M1 := nm_i (M1 := ((M.s_cod 0).recS 1 w ((((xs (6 * n + 2)).toInt64) <<< ((32 : Int32).toInt64 &&& 63)) ||| (((xs (6 * n + 3)).toInt64) &&& 4294967295)) ((((xs (6 * n + 4)).toInt64) <<< ((32 : Int32).toInt64 &&& 63)) ||| (((xs (6 * n + 5)).toInt64) &&& 4294967295)) 1).comS w ((((xs (6 * n + 2)).toInt64) <<< ((32 : Int32).toInt64 &&& 63)) ||| (((xs (6 * n + 3)).toInt64) &&& 4294967295)) ((((xs (6 * n + 4)).toInt64) <<< ((32 : Int32).toInt64 &&& 63)) ||| (((xs (6 * n + 5)).toInt64) &&& 4294967295))) (b := nI (((M.s_cod 0).recS 1 w ((((xs (6 * n + 2)).toInt64) <<< ((32 : Int32).toInt64 &&& 63)) ||| (((xs (6 * n + 3)).toInt64) &&& 4294967295)) ((((xs (6 * n + 4)).toInt64) <<< ((32 : Int32).toInt64 &&& 63)) ||| (((xs (6 * n + 5)).toInt64) &&& 4294967295)) 1).comS w ((((xs (6 * n + 2)).toInt64) <<< ((32 : Int32).toInt64 &&& 63)) ||| (((xs (6 * n + 3)).toInt64) &&& 4294967295)) ((((xs (6 * n + 4)).toInt64) <<< ((32 : Int32).toInt64 &&& 63)) ||| (((xs (6 * n + 5)).toInt64) &&& 4294967295))).heads) (Pc2 := fun sz => pC D dA [.ref mm, .int (xs (6 * n + 1)), .long ((((xs (6 * n + 2)).toInt64) <<< ((32 : Int32).toInt64 &&& 63)) ||| (((xs (6 * n + 3)).toInt64) &&& 4294967295)), .long ((((xs (6 * n + 4)).toInt64) <<< ((32 : Int32).toInt64 &&& 63)) ||| (((xs (6 * n + 5)).toInt64) &&& 4294967295))] (MW dA mm mad M) sz) (fun sz => k_append_0 l D dA sz mm mad M w ((((xs (6 * n + 2)).toInt64) <<< ((32 : Int32).toInt64 &&& 63)) ||| (((xs (6 * n + 3)).toInt64) &&& 4294967295)) ((((xs (6 * n + 4)).toInt64) <<< ((32 : Int32).toInt64 &&& 63)) ||| (((xs (6 * n + 5)).toInt64) &&& 4294967295)) on hw2 hsc y1 y2 z3 z4 hus hbk hjl (erm.trans hro) (by omega) (by omega) hcm) (fun r u q => ⟨by rw [q.1, q.2], q.2⟩) (fun _ _ _ q => by rw [ew] at q; exact q)
            exact l9_6 l hC hi hL ⟨by omega, by omega, by omega, by omega⟩ ⟨by omega, by omega⟩ rfl (by rw [ehd]) W1 M1 hP hD hS hl (fun u H1 locs1 ls1 hf hP hD hS hl => by
              obtain ⟨ja, pa, eu⟩ := hf
              refine cont u _ _ _ ?_ _ H1 locs1 ls1 hP hD hS hl
              rw [eu]
              exact rl_ap hR (by omega) hw hm hro ja pa _)
          · obtain ⟨v1, v2⟩ := not_or.mp hcr
            obtain ⟨v2, v3⟩ := not_or.mp v2
            have v2 : x.jch = true := by
              cases e : x.jch with
              | true => rfl
              | false => exact absurd e v2
            have v3 : x.cutLeft = 0 := Decidable.not_not.mp v3
            have hr2 := rl_pw (cs' := cs + 1 + 0 + 0) (ss' := ss + 6 + 0 + 0) hR (by omega) 1 (by omega) (by omega)
            obtain ⟨rn1, rn2⟩ := rl_room hr2
            have W1 := fun sz => k8_append_1 l D dA sz h ad o og x (xs (6 * n + 1)) ((((xs (6 * n + 2)).toInt64) <<< ((32 : Int32).toInt64 &&& 63)) ||| (((xs (6 * n + 3)).toInt64) &&& 4294967295)) ((((xs (6 * n + 4)).toInt64) <<< ((32 : Int32).toInt64 &&& 63)) ||| (((xs (6 * n + 5)).toInt64) &&& 4294967295)) (fun u => u = VS.s_cutLeft (VS.s_powered x false) (-1)) _ _ _ _ (nf_x0 (fun sz => v_append_5 l (lS_tr hC) D dA sz h ad x w ((((xs (6 * n + 2)).toInt64) <<< ((32 : Int32).toInt64 &&& 63)) ||| (((xs (6 * n + 3)).toInt64) &&& 4294967295)) ((((xs (6 * n + 4)).toInt64) <<< ((32 : Int32).toInt64 &&& 63)) ||| (((xs (6 * n + 5)).toInt64) &&& 4294967295)) hp hw n1 hm (by omega) (by omega) (by omega) hro (by omega) v2 v3) rfl (fun _ _ _ q => by rw [ew] at q; exact q))
            have M1 := nm_i (M1 := MS.s_cutLeft (MS.s_on (MS.s_cod M 1) false) (-1)) (b := 0) (Pc2 := fun sz => pC D dA [.ref mm, .int (xs (6 * n + 1)), .long ((((xs (6 * n + 2)).toInt64) <<< ((32 : Int32).toInt64 &&& 63)) ||| (((xs (6 * n + 3)).toInt64) &&& 4294967295)), .long ((((xs (6 * n + 4)).toInt64) <<< ((32 : Int32).toInt64 &&& 63)) ||| (((xs (6 * n + 5)).toInt64) &&& 4294967295))] (MW dA mm mad M) sz) (fun sz => k_append_5 l D dA sz mm mad M w ((((xs (6 * n + 2)).toInt64) <<< ((32 : Int32).toInt64 &&& 63)) ||| (((xs (6 * n + 3)).toInt64) &&& 4294967295)) ((((xs (6 * n + 4)).toInt64) <<< ((32 : Int32).toInt64 &&& 63)) ||| (((xs (6 * n + 5)).toInt64) &&& 4294967295)) on hw2 hsc y1 y2 z3 z4 hus hbk hjl (erm.trans hro) (by omega) (g5.trans v2) (g6.trans v3)) (fun r u q => ⟨q, rfl⟩) (fun _ _ _ q => by rw [ew] at q; exact q)
            exact l9_6_x l hC (k9 := 1) hi hL ⟨by omega, by omega, by omega, by omega⟩ ⟨by omega, by omega⟩ rfl k_n1 W1 M1 hP hD hS hl (fun u H1 locs1 ls1 hf hP hD hS hl => cont u _ _ _ (by rw [show u = _ from hf]; exact hr2) og H1 locs1 ls1 hP hD hS hl)

end CG
end
section
/-! Points go: the call. -/
theorem hO_lt {PS : Nat → PT} {x : VS} (hj : joR PS x) (hk : x.jkept ≤ x.jsize) {q : Nat} (hq : q < x.hsize) : x.hO q < x.nser := by
  obtain ⟨⟨i1, i2, i3, i4⟩, -, h⟩ := hj
  have h2 := (h x.jsize hk (Nat.le_refl _)).1 (x.hO q, x.hT q, x.hV q) (by
    rw [i3]
    unfold hdL lsF
    exact List.mem_map.mpr ⟨q, List.mem_range.mpr hq, rfl⟩)
  rw [i1] at h2
  exact h2.2.1
section WD
variable {dA : Nat → ClassId} {ad : Nat → Nat} {e0 n : Nat} {x y z : VS} {M : MS} {cs ss : Nat} {PS : Nat → PT} {SS : Nat → List LB} {dn bn : Nat → Nat} {gq : LI} {rq : va_W} {la : Nat → Nat} {gk : LI} {AT : Nat → Nat → Nat} {T : Nat → TB} {ja : Nat → Nat} {w : Nat} {a b : Int64}
theorem rl_de (a1 : coR M x PS dn bn) (a2 : rlT M x) (a3 : rlS dA SS M x) (a4 : rlN dA PS M x n) (a5 : rlA dA ad e0 M x gq rq la gk AT T) (ar : rlR x gk T n cs ss) (hn : n + 1 ≤ 512) (hw : w < x.nser) (hro : x.room 1 = true) (ey : y = x.wrF ja 2 w 1 a b) (hz : (sumN x.npc (x.soN PS w a b) = 0 ∧ z = y.dwS w a b) ∨ (0 < sumN x.npc (x.soN PS w a b) ∧ x.nsc < 64 ∧ z = y.lg1 w a b)) : Rl dA ad e0 (n + 1) z (((M.s_cod 0).recS 2 w a b 1).goS w a b) (cs + 6 * (x.jcap - x.jN) + 0 + 0) (ss + 12 * (x.jcap - x.jN) + 0 + 0) := by
  obtain ⟨a6, a7, a8⟩ := ar
  obtain ⟨⟨n1, n2, n3, n4⟩, ⟨n5, n6, n7⟩, ⟨n8, n9, n10, n11, n12, n13, n14, n15⟩, ⟨n16, n17, n18, n19⟩, ⟨n20, n21, n22, n23⟩, n24⟩ := a4
  have hz2 : (sumN x.npc (x.soN PS w a b) = 0 ∧ z = y.dwS w a b) ∨ (0 < sumN x.npc (x.soN PS w a b) ∧ z = (y.dwS w a b).asS w a b) := by
    rcases hz with ⟨u1, u2⟩ | ⟨u1, u2, u3⟩
    · exact Or.inl ⟨u1, u2⟩
    · exact Or.inr ⟨u1, u3⟩
  obtain ⟨dn', co'⟩ := de_co a1 hw ⟨n8, n9⟩ (by omega) ey hz2
  have hjc : x.jN ≤ x.jcap ∧ x.jsize + 1 ≤ x.jcap ∧ x.jcap ≤ 4096 := by
    unfold VS.jcap
    split <;> omega
  have hlm : x.jlimit ≤ 256 := by
    have := a2.2.2.2.2.1
    omega
  have wf := wr_F x ja 2 w 1 a b n8 n9 n7 hro (by decide)
  have ws := wr_same x ja 2 w 1 a b
  have kp := wr_keep (ja := ja) (kd := 2) (w := w) (k := 1) (a := a) (b := b) (And.intro a2 (And.intro a3 a5))
  rw [← ey] at wf ws kp
  obtain ⟨⟨s1, s2, s3, s4, s5, s6, s7, s8, s9, s10, s11, s12⟩, s13, s14⟩ := ws
  obtain ⟨⟨f1, f2, f3, f4, f5⟩, f6, f7, f8, f9, f10⟩ := wf
  have hzs : z.hsize ≤ y.hsize ∧ z.nsc ≤ 64 := by
    rcases hz with ⟨u1, u2⟩ | ⟨u1, u2, u3⟩
    · rw [u2]
      exact ⟨cnt_le _ _, by show y.nsc ≤ 64; omega⟩
    · rw [u3]
      exact ⟨cnt_le _ _, by show y.nsc + 1 ≤ 64; omega⟩
  have hzf : (z.nser = y.nser ∧ z.npc = y.npc ∧ z.nP = y.nP ∧ z.pl = y.pl ∧ z.ncat = y.ncat ∧ z.diskBlocks = y.diskBlocks ∧ z.gN = y.gN ∧ z.tapeLength = y.tapeLength ∧ z.tpN = y.tpN ∧ z.bN = y.bN ∧ z.jlimit = y.jlimit) ∧ (z.jsize = y.jsize ∧ z.jN = y.jN ∧ z.jfill = y.jfill ∧ z.jblock = y.jblock ∧ z.writes = y.writes ∧ z.jK = y.jK ∧ z.jU = y.jU ∧ z.jB = y.jB ∧ z.jO = y.jO) ∧ z.hN = y.hN := by
    rcases hz with ⟨u1, u2⟩ | ⟨u1, u2, u3⟩
    · rw [u2]
      exact ⟨⟨rfl, rfl, rfl, rfl, rfl, rfl, rfl, rfl, rfl, rfl, rfl⟩, ⟨rfl, rfl, rfl, rfl, rfl, rfl, rfl, rfl, rfl⟩, rfl⟩
    · rw [u3]
      exact ⟨⟨rfl, rfl, rfl, rfl, rfl, rfl, rfl, rfl, rfl, rfl, rfl⟩, ⟨rfl, rfl, rfl, rfl, rfl, rfl, rfl, rfl, rfl⟩, rfl⟩
  obtain ⟨M', eM⟩ : ∃ M', M' = ((M.s_cod 0).recS 2 w a b 1).goS w a b := ⟨_, rfl⟩
  have kz : rlT M' z ∧ rlS dA SS M' z ∧ rlA dA ad e0 M' z gq rq la gk AT T := by
    rcases hz with ⟨u1, u2⟩ | ⟨u1, u2, u3⟩
    · rw [u2, eM]
      exact kp
    · rw [u3, eM]
      exact kp
  obtain ⟨⟨h1, h2, h4, h5, h6, h7, h8, h9, h10, h11, h12⟩, ⟨h13, h14, h15, h16, h17, h18, h19, h20, h21⟩, h22⟩ := hzf
  have m1 : M'.points = M.points := by rw [eM]; rfl
  have m2 : M'.places = mapT M.points (M.hit w a b) M.gP M.places := by rw [eM]; rfl
  have m3 : M'.deletes = M.deletes + 1 := by rw [eM]; rfl
  have m4 : M'.parcelNumber = M.parcelNumber := by rw [eM]; rfl
  have m5 : M'.pointSeries = M.pointSeries := by rw [eM]; rfl
  have c1 : cnt M'.points M'.pkd = cnt M.points M.pkd := by
    rw [m1]
    exact cnt_ext (fun q hq => by
      show (!decide (M'.places q < 0)) = !decide (M.places q < 0)
      rw [m2, mapT_v hq]
      by_cases c : M.hit w a b q = true
      · rw [if_pos c]
        unfold MS.gP
        by_cases d : M.places q < 0
        · rw [if_pos d, decide_eq_true d]
          rfl
        · rw [if_neg d]
      · rw [if_neg c])
  have c2 : cnt z.jsize (fun r => decide (z.jK r = 1)) = cnt x.jsize (fun r => decide (x.jK r = 1)) + 0 := by
    rw [h13, f1, h18]
    exact cnt_kd (fun q hq => (f6 q hq).1) f7
  rw [← eM] at co' ⊢
  obtain ⟨kz1, kz2, kz3⟩ := kz
  refine ⟨PS, SS, dn', bn, gq, rq, la, gk, AT, T, co', kz1, kz2, ⟨⟨by omega, by omega, by omega, ?_⟩, ⟨?_, by omega, by omega⟩, ⟨by omega, by omega, by omega, by omega, by omega, by omega, by omega, by omega⟩, ⟨by omega, by omega, by omega, by omega⟩, ⟨by omega, by omega, by omega, fun q hq => ?_⟩, ⟨?_, ?_⟩, fun q hq => ?_⟩, kz3, hn, by omega, by omega⟩
  · rw [h4, h2, h5, s4, s2, s5]
    exact n4
  · rw [h12, h6, h2, h7, s12, s6, s2, s7]
    exact n5
  · rw [m5]
    exact n23 q (by omega)
  · refine fgX_c (x := y) ?_ ⟨h20, h19, h13, h16, h15, h12⟩
    rw [ey]
    exact wr_fg x ja 2 w 1 a b n8 n9 n7 hro (by decide) n24.1.1
  · refine ft_rec (w := w) (a := a) n24.1.2 a1.2.2.2.1.1 (show ¬ 2 = 0 by decide) (by rw [eM]; exact ⟨rfl, rfl, rfl⟩) (h13.trans f1) ⟨fun q hq => ?_, ?_⟩
    · rw [h18]
      exact (f6 q hq).1
    · rw [h18]
      exact f7
  · rw [h19, h20, h21]
    by_cases c : q = x.jsize
    · rw [c, f8, f10]
      exact ⟨by decide, by omega, by omega⟩
    · obtain ⟨v1, v2, v3, v4⟩ := f6 q (by omega)
      rw [v2, v3, v4]
      exact n24.2 q (by omega)
end WD
section CH
variable {p : Program} {e : Env} {s : State} {m : MethodId} {below : List Frame} {meth : Method} {c : Code} {b L : Nat} {xs : Nat → Int32} {D : va_G} {dA : Nat → ClassId} {e0 : Nat} {A : Nat → Prop} {h : Nat} {ad : Nat → Nat} {mm : Nat} {mad : Nat → Nat} {o : Nat} {n : Nat} {x : VS} {M : MS} {cs ss : Nat}

theorem call_8 (l : Launch) (hC : lS p l s m meth c b L xs D dA e0 A) (hL : L ≤ 3072) (hi : 6 * n + 6 ≤ L) (hR : Rl dA ad e0 n x M cs ss) (cont : ∀ x' M' cs' ss', Rl dA ad e0 (n + 1) x' M' cs' ss' → At9 p l e s m below meth c b D dA A h ad mm mad o 23 (6 * n + 6) x' M' cs' ss') : At9 p l e s m below meth c b D dA A h ad mm mad o (tg9 8) (6 * n) x M cs ss := by
  intro og H locs ls hP hD hS hl
  obtain ⟨rm1, rm2⟩ := rl_room (rl_skip hR (by omega))
  obtain ⟨PS, SS, dn, bn, gq, rq, la, gk, AT, T, co, ⟨⟨t1, t2, t3, t4⟩, ⟨t5, t6, t7⟩, ⟨t8, t9⟩, t10, t11, t12⟩, ⟨sr1, sr2, sr3, sr4, sr5⟩, nr, ⟨⟨r1, r2, r3, r4⟩, r5, ⟨r6, r7⟩, ⟨r8, r9⟩, r10⟩, rr⟩ := id hR
  obtain ⟨cp, cb, ⟨se1, se2⟩, ⟨g1, g2, g3, g4, g5, g6, g7, g8, g9, g10, g11⟩, cj, ck, cc⟩ := id co
  obtain ⟨⟨n1, n2, n3, n4⟩, ⟨n5, n6, n7⟩, ⟨n8, n9, n10, n11, n12, n13, n14, n15⟩, ⟨n16, n17, n18, n19⟩, ⟨n20, n21, n22, n23⟩, n24⟩ := id nr
  cases hp : x.powered with
  | false =>
    have hr2 := rl_up (cs' := cs + 1 + 0 + 0) (ss' := ss + 6 + 0 + 0) hR (by omega) 1 (by omega) (by omega)
    obtain ⟨rn1, rn2⟩ := rl_room hr2
    have W1 := fun sz => k8_delete_1 l D dA sz h ad o og x (xs (6 * n + 1)) ((((xs (6 * n + 2)).toInt64) <<< ((32 : Int32).toInt64 &&& 63)) ||| (((xs (6 * n + 3)).toInt64) &&& 4294967295)) ((((xs (6 * n + 4)).toInt64) <<< ((32 : Int32).toInt64 &&& 63)) ||| (((xs (6 * n + 5)).toInt64) &&& 4294967295)) (fun u => u = x) _ _ _ _ (nf_x0 (fun sz => v_delete_1 l (lS_tr hC) D dA sz h ad x (xs (6 * n + 1)) ((((xs (6 * n + 2)).toInt64) <<< ((32 : Int32).toInt64 &&& 63)) ||| (((xs (6 * n + 3)).toInt64) &&& 4294967295)) ((((xs (6 * n + 4)).toInt64) <<< ((32 : Int32).toInt64 &&& 63)) ||| (((xs (6 * n + 5)).toInt64) &&& 4294967295)) hp) rfl (fun _ _ _ q => q))
    have M1 := fun sz => k_delete_1 l D dA sz mm mad M (xs (6 * n + 1)) ((((xs (6 * n + 2)).toInt64) <<< ((32 : Int32).toInt64 &&& 63)) ||| (((xs (6 * n + 3)).toInt64) &&& 4294967295)) ((((xs (6 * n + 4)).toInt64) <<< ((32 : Int32).toInt64 &&& 63)) ||| (((xs (6 * n + 5)).toInt64) &&& 4294967295)) (t12.trans hp)
    exact l9_8_x l hC (k9 := 1) hi hL ⟨by omega, by omega, by omega, by omega⟩ ⟨by omega, by omega⟩ rfl k_n1 W1 M1 hP hD hS hl (fun u H1 locs1 ls1 hf hP hD hS hl => cont u _ _ _ (by rw [show u = x from hf]; exact hr2) og H1 locs1 ls1 hP hD hS hl)
  | true =>
    have on : M.on = true := t12.trans hp
    by_cases hv : xs (6 * n + 1) < 0 ∨ nI x.nser ≤ xs (6 * n + 1)
    · have hr2 := rl_up (cs' := cs + 1 + 0 + 0) (ss' := ss + 6 + 0 + 0) hR (by omega) 2 (by omega) (by omega)
      obtain ⟨rn1, rn2⟩ := rl_room hr2
      have W1 := fun sz => k8_delete_2 l D dA sz h ad o og x (xs (6 * n + 1)) ((((xs (6 * n + 2)).toInt64) <<< ((32 : Int32).toInt64 &&& 63)) ||| (((xs (6 * n + 3)).toInt64) &&& 4294967295)) ((((xs (6 * n + 4)).toInt64) <<< ((32 : Int32).toInt64 &&& 63)) ||| (((xs (6 * n + 5)).toInt64) &&& 4294967295)) (fun u => u = x) _ _ _ _ (nf_x0 (fun sz => v_delete_2 l (lS_tr hC) D dA sz h ad x (xs (6 * n + 1)) ((((xs (6 * n + 2)).toInt64) <<< ((32 : Int32).toInt64 &&& 63)) ||| (((xs (6 * n + 3)).toInt64) &&& 4294967295)) ((((xs (6 * n + 4)).toInt64) <<< ((32 : Int32).toInt64 &&& 63)) ||| (((xs (6 * n + 5)).toInt64) &&& 4294967295)) hp hv) rfl (fun _ _ _ q => q))
      have M1 := fun sz => k_delete_2 l D dA sz mm mad M (xs (6 * n + 1)) ((((xs (6 * n + 2)).toInt64) <<< ((32 : Int32).toInt64 &&& 63)) ||| (((xs (6 * n + 3)).toInt64) &&& 4294967295)) ((((xs (6 * n + 4)).toInt64) <<< ((32 : Int32).toInt64 &&& 63)) ||| (((xs (6 * n + 5)).toInt64) &&& 4294967295)) on (by rw [se1]; exact hv)
      exact l9_8_x l hC (k9 := 2) hi hL ⟨by omega, by omega, by omega, by omega⟩ ⟨by omega, by omega⟩ rfl k_n2 W1 M1 hP hD hS hl (fun u H1 locs1 ls1 hf hP hD hS hl => cont u _ _ _ (by rw [show u = x from hf]; exact hr2) og H1 locs1 ls1 hP hD hS hl)
    · obtain ⟨w, hw, ew⟩ := i32_lt (a := x.nser) (by omega) (fun z => hv (Or.inl z)) (fun z => hv (Or.inr z))
      have hw2 : w < M.seriesCount := by omega
      have hsc : M.seriesCount ≤ 256 := by omega
      have hjl : M.journal ≤ 256 := by omega
      have hus : M.used ≤ 126 := by omega
      have hbk : M.block < 2 ^ 20 := by omega
      have hpt : M.points ≤ 12000 := by omega
      have hso : ∀ q : Nat, q < x.nsc → x.nsO q < 2 ^ 31 := fun q hq => by
        have := nsO_lt cj ck hq
        omega
      have hho : ∀ q : Nat, q < x.hsize → x.hO q < 2 ^ 31 := fun q hq => by
        have := hO_lt cj ck hq
        omega
      by_cases hab : ((((xs (6 * n + 4)).toInt64) <<< ((32 : Int32).toInt64 &&& 63)) ||| (((xs (6 * n + 5)).toInt64) &&& 4294967295)) < ((((xs (6 * n + 2)).toInt64) <<< ((32 : Int32).toInt64 &&& 63)) ||| (((xs (6 * n + 3)).toInt64) &&& 4294967295))
      · have hr2 := rl_up (cs' := cs + 1 + 0 + 0) (ss' := ss + 6 + 0 + 0) hR (by omega) 3 (by omega) (by omega)
        obtain ⟨rn1, rn2⟩ := rl_room hr2
        have W1 := fun sz => k8_delete_3 l D dA sz h ad o og x (xs (6 * n + 1)) ((((xs (6 * n + 2)).toInt64) <<< ((32 : Int32).toInt64 &&& 63)) ||| (((xs (6 * n + 3)).toInt64) &&& 4294967295)) ((((xs (6 * n + 4)).toInt64) <<< ((32 : Int32).toInt64 &&& 63)) ||| (((xs (6 * n + 5)).toInt64) &&& 4294967295)) (fun u => u = x) _ _ _ _ (nf_x0 (fun sz => v_delete_3 l (lS_tr hC) D dA sz h ad x w ((((xs (6 * n + 2)).toInt64) <<< ((32 : Int32).toInt64 &&& 63)) ||| (((xs (6 * n + 3)).toInt64) &&& 4294967295)) ((((xs (6 * n + 4)).toInt64) <<< ((32 : Int32).toInt64 &&& 63)) ||| (((xs (6 * n + 5)).toInt64) &&& 4294967295)) hp hw n1 hab) rfl (fun _ _ _ q => by rw [ew] at q; exact q))
        have M1 := nm_i (M1 := MS.s_cod M 3) (b := 0) (Pc2 := fun sz => pC D dA [.ref mm, .int (xs (6 * n + 1)), .long ((((xs (6 * n + 2)).toInt64) <<< ((32 : Int32).toInt64 &&& 63)) ||| (((xs (6 * n + 3)).toInt64) &&& 4294967295)), .long ((((xs (6 * n + 4)).toInt64) <<< ((32 : Int32).toInt64 &&& 63)) ||| (((xs (6 * n + 5)).toInt64) &&& 4294967295))] (MW dA mm mad M) sz) (fun sz => k_delete_3 l D dA sz mm mad M w ((((xs (6 * n + 2)).toInt64) <<< ((32 : Int32).toInt64 &&& 63)) ||| (((xs (6 * n + 3)).toInt64) &&& 4294967295)) ((((xs (6 * n + 4)).toInt64) <<< ((32 : Int32).toInt64 &&& 63)) ||| (((xs (6 * n + 5)).toInt64) &&& 4294967295)) on hw2 hsc hab) (fun r u q => ⟨q, rfl⟩) (fun _ _ _ q => by rw [ew] at q; exact q)
        exact l9_8_x l hC (k9 := 3) hi hL ⟨by omega, by omega, by omega, by omega⟩ ⟨by omega, by omega⟩ rfl k_n3 W1 M1 hP hD hS hl (fun u H1 locs1 ls1 hf hP hD hS hl => cont u _ _ _ (by rw [show u = x from hf]; exact hr2) og H1 locs1 ls1 hP hD hS hl)
      · have hab2 : ((((xs (6 * n + 2)).toInt64) <<< ((32 : Int32).toInt64 &&& 63)) ||| (((xs (6 * n + 3)).toInt64) &&& 4294967295)) ≤ ((((xs (6 * n + 4)).toInt64) <<< ((32 : Int32).toInt64 &&& 63)) ||| (((xs (6 * n + 5)).toInt64) &&& 4294967295)) := Int64.not_lt.mp hab
        have eb0 := btw_0 cp w ((((xs (6 * n + 2)).toInt64) <<< ((32 : Int32).toInt64 &&& 63)) ||| (((xs (6 * n + 3)).toInt64) &&& 4294967295)) ((((xs (6 * n + 4)).toInt64) <<< ((32 : Int32).toInt64 &&& 63)) ||| (((xs (6 * n + 5)).toInt64) &&& 4294967295))
        have eb1 := btw_1 cp w ((((xs (6 * n + 2)).toInt64) <<< ((32 : Int32).toInt64 &&& 63)) ||| (((xs (6 * n + 3)).toInt64) &&& 4294967295)) ((((xs (6 * n + 4)).toInt64) <<< ((32 : Int32).toInt64 &&& 63)) ||| (((xs (6 * n + 5)).toInt64) &&& 4294967295))
        have efo : cnt M.points M.firstOf = x.nsc := sc_cnt cp.2.1.1 cp.2.1.2.1 (by omega) cp.2.1.2.2.1
        have erm : M.room 1 = x.room 1 := room_eq ⟨g1, g2, g3, g4, g5, g6, g7, g8, g9, g10, g11⟩ 1
        have eht : cnt M.points (M.hit w ((((xs (6 * n + 2)).toInt64) <<< ((32 : Int32).toInt64 &&& 63)) ||| (((xs (6 * n + 3)).toInt64) &&& 4294967295)) ((((xs (6 * n + 4)).toInt64) <<< ((32 : Int32).toInt64 &&& 63)) ||| (((xs (6 * n + 5)).toInt64) &&& 4294967295))) = cnt M.points (M.btw w ((((xs (6 * n + 2)).toInt64) <<< ((32 : Int32).toInt64 &&& 63)) ||| (((xs (6 * n + 3)).toInt64) &&& 4294967295)) ((((xs (6 * n + 4)).toInt64) <<< ((32 : Int32).toInt64 &&& 63)) ||| (((xs (6 * n + 5)).toInt64) &&& 4294967295)) false) := cnt_ext (fun q _ => by
          rw [hit_bt]
          show M.bt w ((((xs (6 * n + 2)).toInt64) <<< ((32 : Int32).toInt64 &&& 63)) ||| (((xs (6 * n + 3)).toInt64) &&& 4294967295)) ((((xs (6 * n + 4)).toInt64) <<< ((32 : Int32).toInt64 &&& 63)) ||| (((xs (6 * n + 5)).toInt64) &&& 4294967295)) q = (M.bt w ((((xs (6 * n + 2)).toInt64) <<< ((32 : Int32).toInt64 &&& 63)) ||| (((xs (6 * n + 3)).toInt64) &&& 4294967295)) ((((xs (6 * n + 4)).toInt64) <<< ((32 : Int32).toInt64 &&& 63)) ||| (((xs (6 * n + 5)).toInt64) &&& 4294967295)) q && (!false || !decide (M.places q < 0)))
          rw [Bool.not_false, Bool.true_or, Bool.and_true])
        by_cases hz : sumN x.npc (x.soN PS w ((((xs (6 * n + 2)).toInt64) <<< ((32 : Int32).toInt64 &&& 63)) ||| (((xs (6 * n + 3)).toInt64) &&& 4294967295)) ((((xs (6 * n + 4)).toInt64) <<< ((32 : Int32).toInt64 &&& 63)) ||| (((xs (6 * n + 5)).toInt64) &&& 4294967295))) + cnt x.hsize (x.hW w ((((xs (6 * n + 2)).toInt64) <<< ((32 : Int32).toInt64 &&& 63)) ||| (((xs (6 * n + 3)).toInt64) &&& 4294967295)) ((((xs (6 * n + 4)).toInt64) <<< ((32 : Int32).toInt64 &&& 63)) ||| (((xs (6 * n + 5)).toInt64) &&& 4294967295))) = 0
        · have hr2 := rl_up (cs' := cs + 0 + 0 + 0) (ss' := ss + 0 + 0 + 0) hR (by omega) 0 (by omega) (by omega)
          have W1 := fun sz => k8_delete l D dA sz h ad o og x (xs (6 * n + 1)) ((((xs (6 * n + 2)).toInt64) <<< ((32 : Int32).toInt64 &&& 63)) ||| (((xs (6 * n + 3)).toInt64) &&& 4294967295)) ((((xs (6 * n + 4)).toInt64) <<< ((32 : Int32).toInt64 &&& 63)) ||| (((xs (6 * n + 5)).toInt64) &&& 4294967295)) 0 (fun u => u = x) _ _ _ _ (nf_i (fun sz => v_delete_0 l D dA sz h ad x PS w ((((xs (6 * n + 2)).toInt64) <<< ((32 : Int32).toInt64 &&& 63)) ||| (((xs (6 * n + 3)).toInt64) &&& 4294967295)) ((((xs (6 * n + 4)).toInt64) <<< ((32 : Int32).toInt64 &&& 63)) ||| (((xs (6 * n + 5)).toInt64) &&& 4294967295)) hp hw n1 hab2 n4 n2 n3 hso n11 (by omega) hho hz) (fun r u q => ⟨q, rfl⟩) (fun _ _ _ q => by rw [ew] at q; exact q))
          have M1 := nm_i (M1 := MS.s_cod M 0) (b := 0) (Pc2 := fun sz => pC D dA [.ref mm, .int (xs (6 * n + 1)), .long ((((xs (6 * n + 2)).toInt64) <<< ((32 : Int32).toInt64 &&& 63)) ||| (((xs (6 * n + 3)).toInt64) &&& 4294967295)), .long ((((xs (6 * n + 4)).toInt64) <<< ((32 : Int32).toInt64 &&& 63)) ||| (((xs (6 * n + 5)).toInt64) &&& 4294967295))] (MW dA mm mad M) sz) (fun sz => k_delete_n l D dA sz mm mad M w ((((xs (6 * n + 2)).toInt64) <<< ((32 : Int32).toInt64 &&& 63)) ||| (((xs (6 * n + 3)).toInt64) &&& 4294967295)) ((((xs (6 * n + 4)).toInt64) <<< ((32 : Int32).toInt64 &&& 63)) ||| (((xs (6 * n + 5)).toInt64) &&& 4294967295)) on hw2 hsc hab2 n23 hpt (eb0.trans hz)) (fun r u q => ⟨q, rfl⟩) (fun _ _ _ q => by rw [ew] at q; exact q)
          exact l9_8 l hC hi hL ⟨by omega, by omega, by omega, by omega⟩ ⟨by omega, by omega⟩ rfl rfl W1 M1 hP hD hS hl (fun u H1 locs1 ls1 hf hP hD hS hl => cont u _ _ _ (by rw [show u = x from hf]; exact hr2) _ H1 locs1 ls1 hP hD hS hl)
        · have hz0 : 0 < sumN x.npc (x.soN PS w ((((xs (6 * n + 2)).toInt64) <<< ((32 : Int32).toInt64 &&& 63)) ||| (((xs (6 * n + 3)).toInt64) &&& 4294967295)) ((((xs (6 * n + 4)).toInt64) <<< ((32 : Int32).toInt64 &&& 63)) ||| (((xs (6 * n + 5)).toInt64) &&& 4294967295))) + cnt x.hsize (x.hW w ((((xs (6 * n + 2)).toInt64) <<< ((32 : Int32).toInt64 &&& 63)) ||| (((xs (6 * n + 3)).toInt64) &&& 4294967295)) ((((xs (6 * n + 4)).toInt64) <<< ((32 : Int32).toInt64 &&& 63)) ||| (((xs (6 * n + 5)).toInt64) &&& 4294967295))) := Nat.pos_of_ne_zero hz
          have hzm : ¬ cnt M.points (M.btw w ((((xs (6 * n + 2)).toInt64) <<< ((32 : Int32).toInt64 &&& 63)) ||| (((xs (6 * n + 3)).toInt64) &&& 4294967295)) ((((xs (6 * n + 4)).toInt64) <<< ((32 : Int32).toInt64 &&& 63)) ||| (((xs (6 * n + 5)).toInt64) &&& 4294967295)) false) = 0 := by rw [eb0]; exact hz
          by_cases hu : (0 < sumN x.npc (x.soN PS w ((((xs (6 * n + 2)).toInt64) <<< ((32 : Int32).toInt64 &&& 63)) ||| (((xs (6 * n + 3)).toInt64) &&& 4294967295)) ((((xs (6 * n + 4)).toInt64) <<< ((32 : Int32).toInt64 &&& 63)) ||| (((xs (6 * n + 5)).toInt64) &&& 4294967295))) ∧ 64 ≤ x.nsc) ∨ x.room 1 = false
          · have hum : 0 < cnt M.points (M.btw w ((((xs (6 * n + 2)).toInt64) <<< ((32 : Int32).toInt64 &&& 63)) ||| (((xs (6 * n + 3)).toInt64) &&& 4294967295)) ((((xs (6 * n + 4)).toInt64) <<< ((32 : Int32).toInt64 &&& 63)) ||| (((xs (6 * n + 5)).toInt64) &&& 4294967295)) true) ∧ cnt M.points M.firstOf = 64 ∨ M.room 1 = false := by
              rw [eb1, efo, erm]
              rcases hu with ⟨u1, u2⟩ | u
              · exact Or.inl ⟨u1, by omega⟩
              · exact Or.inr u
            have hr2 := rl_up (cs' := cs + 1 + 0 + 0) (ss' := ss + 6 + 0 + 0) hR (by omega) 4 (by omega) (by omega)
            obtain ⟨rn1, rn2⟩ := rl_room hr2
            have W1 := fun sz => k8_delete_4 l D dA sz h ad o og x (xs (6 * n + 1)) ((((xs (6 * n + 2)).toInt64) <<< ((32 : Int32).toInt64 &&& 63)) ||| (((xs (6 * n + 3)).toInt64) &&& 4294967295)) ((((xs (6 * n + 4)).toInt64) <<< ((32 : Int32).toInt64 &&& 63)) ||| (((xs (6 * n + 5)).toInt64) &&& 4294967295)) (fun u => u = x) _ _ _ _ (nf_x0 (fun sz => v_delete_4 l (lS_tr hC) D dA sz h ad x PS w ((((xs (6 * n + 2)).toInt64) <<< ((32 : Int32).toInt64 &&& 63)) ||| (((xs (6 * n + 3)).toInt64) &&& 4294967295)) ((((xs (6 * n + 4)).toInt64) <<< ((32 : Int32).toInt64 &&& 63)) ||| (((xs (6 * n + 5)).toInt64) &&& 4294967295)) hp hw n1 hab2 n4 n2 n3 hso n11 (by omega) hho (by omega) (by omega) n6 hz0 hu) rfl (fun _ _ _ q => by rw [ew] at q; exact q))
            have M1 := nm_i (M1 := MS.s_cod M 4) (b := 0) (Pc2 := fun sz => pC D dA [.ref mm, .int (xs (6 * n + 1)), .long ((((xs (6 * n + 2)).toInt64) <<< ((32 : Int32).toInt64 &&& 63)) ||| (((xs (6 * n + 3)).toInt64) &&& 4294967295)), .long ((((xs (6 * n + 4)).toInt64) <<< ((32 : Int32).toInt64 &&& 63)) ||| (((xs (6 * n + 5)).toInt64) &&& 4294967295))] (MW dA mm mad M) sz) (fun sz => k_delete_4 l D dA sz mm mad M w ((((xs (6 * n + 2)).toInt64) <<< ((32 : Int32).toInt64 &&& 63)) ||| (((xs (6 * n + 3)).toInt64) &&& 4294967295)) ((((xs (6 * n + 4)).toInt64) <<< ((32 : Int32).toInt64 &&& 63)) ||| (((xs (6 * n + 5)).toInt64) &&& 4294967295)) on hw2 hsc hab2 n23 hpt hzm hus hbk hjl hum) (fun r u q => ⟨q, rfl⟩) (fun _ _ _ q => by rw [ew] at q; exact q)
            exact l9_8_x l hC (k9 := 4) hi hL ⟨by omega, by omega, by omega, by omega⟩ ⟨by omega, by omega⟩ rfl k_n4 W1 M1 hP hD hS hl (fun u H1 locs1 ls1 hf hP hD hS hl => cont u _ _ _ (by rw [show u = x from hf]; exact hr2) og H1 locs1 ls1 hP hD hS hl)
          · obtain ⟨u1, u2⟩ := not_or.mp hu
            have hro : x.room 1 = true := by
              cases e : x.room 1 with
              | true => rfl
              | false => exact absurd e u2
            have hsn : sumN x.npc (x.soN PS w ((((xs (6 * n + 2)).toInt64) <<< ((32 : Int32).toInt64 &&& 63)) ||| (((xs (6 * n + 3)).toInt64) &&& 4294967295)) ((((xs (6 * n + 4)).toInt64) <<< ((32 : Int32).toInt64 &&& 63)) ||| (((xs (6 * n + 5)).toInt64) &&& 4294967295))) = 0 ∨ x.nsc < 64 := by omega
            have hum : ¬ (0 < cnt M.points (M.btw w ((((xs (6 * n + 2)).toInt64) <<< ((32 : Int32).toInt64 &&& 63)) ||| (((xs (6 * n + 3)).toInt64) &&& 4294967295)) ((((xs (6 * n + 4)).toInt64) <<< ((32 : Int32).toInt64 &&& 63)) ||| (((xs (6 * n + 5)).toInt64) &&& 4294967295)) true) ∧ cnt M.points M.firstOf = 64) := by
              rw [eb1, efo]
              omega
            have rlt : rlT M x := ⟨⟨t1, t2, t3, t4⟩, ⟨t5, t6, t7⟩, ⟨t8, t9⟩, t10, t11, t12⟩
            have rls : rlS dA SS M x := ⟨sr1, sr2, sr3, sr4, sr5⟩
            have rla : rlA dA ad e0 M x gq rq la gk AT T := ⟨⟨r1, r2, r3, r4⟩, r5, ⟨r6, r7⟩, ⟨r8, r9⟩, r10⟩
            by_cases hcr : x.jfill + 1 ≤ 126 ∨ x.jch = false ∨ ¬ x.cutLeft = 0
            · have hcm : M.canR 1 := by
                unfold MS.canR
                rw [g4, g5, g6]
                exact hcr
              have M1 := nm_i (M1 := ((M.s_cod 0).recS 2 w ((((xs (6 * n + 2)).toInt64) <<< ((32 : Int32).toInt64 &&& 63)) ||| (((xs (6 * n + 3)).toInt64) &&& 4294967295)) ((((xs (6 * n + 4)).toInt64) <<< ((32 : Int32).toInt64 &&& 63)) ||| (((xs (6 * n + 5)).toInt64) &&& 4294967295)) 1).goS w ((((xs (6 * n + 2)).toInt64) <<< ((32 : Int32).toInt64 &&& 63)) ||| (((xs (6 * n + 3)).toInt64) &&& 4294967295)) ((((xs (6 * n + 4)).toInt64) <<< ((32 : Int32).toInt64 &&& 63)) ||| (((xs (6 * n + 5)).toInt64) &&& 4294967295))) (b := nI (cnt M.points (M.hit w ((((xs (6 * n + 2)).toInt64) <<< ((32 : Int32).toInt64 &&& 63)) ||| (((xs (6 * n + 3)).toInt64) &&& 4294967295)) ((((xs (6 * n + 4)).toInt64) <<< ((32 : Int32).toInt64 &&& 63)) ||| (((xs (6 * n + 5)).toInt64) &&& 4294967295))))) (Pc2 := fun sz => pC D dA [.ref mm, .int (xs (6 * n + 1)), .long ((((xs (6 * n + 2)).toInt64) <<< ((32 : Int32).toInt64 &&& 63)) ||| (((xs (6 * n + 3)).toInt64) &&& 4294967295)), .long ((((xs (6 * n + 4)).toInt64) <<< ((32 : Int32).toInt64 &&& 63)) ||| (((xs (6 * n + 5)).toInt64) &&& 4294967295))] (MW dA mm mad M) sz) (fun sz => k_delete_0 l D dA sz mm mad M w ((((xs (6 * n + 2)).toInt64) <<< ((32 : Int32).toInt64 &&& 63)) ||| (((xs (6 * n + 3)).toInt64) &&& 4294967295)) ((((xs (6 * n + 4)).toInt64) <<< ((32 : Int32).toInt64 &&& 63)) ||| (((xs (6 * n + 5)).toInt64) &&& 4294967295)) on hw2 hsc hab2 n23 hpt hzm hus hbk hjl hum (erm.trans hro) (by omega) hcm (by omega)) (fun r u q => ⟨q.1, q.2⟩) (fun _ _ _ q => by rw [ew] at q; exact q)
              have evl : (nI (sumN x.npc (x.soN PS w ((((xs (6 * n + 2)).toInt64) <<< ((32 : Int32).toInt64 &&& 63)) ||| (((xs (6 * n + 3)).toInt64) &&& 4294967295)) ((((xs (6 * n + 4)).toInt64) <<< ((32 : Int32).toInt64 &&& 63)) ||| (((xs (6 * n + 5)).toInt64) &&& 4294967295))) + cnt x.hsize (x.hW w ((((xs (6 * n + 2)).toInt64) <<< ((32 : Int32).toInt64 &&& 63)) ||| (((xs (6 * n + 3)).toInt64) &&& 4294967295)) ((((xs (6 * n + 4)).toInt64) <<< ((32 : Int32).toInt64 &&& 63)) ||| (((xs (6 * n + 5)).toInt64) &&& 4294967295))))).toInt64 = (nI (cnt M.points (M.hit w ((((xs (6 * n + 2)).toInt64) <<< ((32 : Int32).toInt64 &&& 63)) ||| (((xs (6 * n + 3)).toInt64) &&& 4294967295)) ((((xs (6 * n + 4)).toInt64) <<< ((32 : Int32).toInt64 &&& 63)) ||| (((xs (6 * n + 5)).toInt64) &&& 4294967295))))).toInt64 := by rw [eht, eb0]
              by_cases hs0 : sumN x.npc (x.soN PS w ((((xs (6 * n + 2)).toInt64) <<< ((32 : Int32).toInt64 &&& 63)) ||| (((xs (6 * n + 3)).toInt64) &&& 4294967295)) ((((xs (6 * n + 4)).toInt64) <<< ((32 : Int32).toInt64 &&& 63)) ||| (((xs (6 * n + 5)).toInt64) &&& 4294967295))) = 0
              · have hr2 := rl_de (ja := fun _ => 0) co rlt rls nr rla rr (by omega) hw hro rfl (Or.inl ⟨hs0, rfl⟩)
                obtain ⟨rn1, rn2⟩ := rl_room hr2
                have W1 := fun sz => k8_delete l D dA sz h ad o og x (xs (6 * n + 1)) ((((xs (6 * n + 2)).toInt64) <<< ((32 : Int32).toInt64 &&& 63)) ||| (((xs (6 * n + 3)).toInt64) &&& 4294967295)) ((((xs (6 * n + 4)).toInt64) <<< ((32 : Int32).toInt64 &&& 63)) ||| (((xs (6 * n + 5)).toInt64) &&& 4294967295)) (nI (sumN x.npc (x.soN PS w ((((xs (6 * n + 2)).toInt64) <<< ((32 : Int32).toInt64 &&& 63)) ||| (((xs (6 * n + 3)).toInt64) &&& 4294967295)) ((((xs (6 * n + 4)).toInt64) <<< ((32 : Int32).toInt64 &&& 63)) ||| (((xs (6 * n + 5)).toInt64) &&& 4294967295))) + cnt x.hsize (x.hW w ((((xs (6 * n + 2)).toInt64) <<< ((32 : Int32).toInt64 &&& 63)) ||| (((xs (6 * n + 3)).toInt64) &&& 4294967295)) ((((xs (6 * n + 4)).toInt64) <<< ((32 : Int32).toInt64 &&& 63)) ||| (((xs (6 * n + 5)).toInt64) &&& 4294967295))))) (fun u => ∃ ja : Nat → Nat, u = (x.wrF ja 2 w 1 ((((xs (6 * n + 2)).toInt64) <<< ((32 : Int32).toInt64 &&& 63)) ||| (((xs (6 * n + 3)).toInt64) &&& 4294967295)) ((((xs (6 * n + 4)).toInt64) <<< ((32 : Int32).toInt64 &&& 63)) ||| (((xs (6 * n + 5)).toInt64) &&& 4294967295))).dwS w ((((xs (6 * n + 2)).toInt64) <<< ((32 : Int32).toInt64 &&& 63)) ||| (((xs (6 * n + 3)).toInt64) &&& 4294967295)) ((((xs (6 * n + 4)).toInt64) <<< ((32 : Int32).toInt64 &&& 63)) ||| (((xs (6 * n + 5)).toInt64) &&& 4294967295))) _ _ _ _ (nf_i (fun sz => v_delete_60 l D dA sz h ad x PS w ((((xs (6 * n + 2)).toInt64) <<< ((32 : Int32).toInt64 &&& 63)) ||| (((xs (6 * n + 3)).toInt64) &&& 4294967295)) ((((xs (6 * n + 4)).toInt64) <<< ((32 : Int32).toInt64 &&& 63)) ||| (((xs (6 * n + 5)).toInt64) &&& 4294967295)) hp hw n1 hab2 n4 n2 n3 hso n11 (by omega) hho (by omega) (by omega) n6 n8 n9 (by omega) hz0 hs0 hro hcr) (fun r u q => q) (fun _ _ _ q => by rw [ew] at q; exact q))
                exact l9_8 l hC hi hL ⟨by omega, by omega, by omega, by omega⟩ ⟨by omega, by omega⟩ rfl evl W1 M1 hP hD hS hl (fun u H1 locs1 ls1 hf hP hD hS hl => by
                  obtain ⟨ja, eu⟩ := hf
                  exact cont u _ _ _ (rl_de (ja := ja) co rlt rls nr rla rr (by omega) hw hro rfl (Or.inl ⟨hs0, eu⟩)) _ H1 locs1 ls1 hP hD hS hl)
              · have hsp : 0 < sumN x.npc (x.soN PS w ((((xs (6 * n + 2)).toInt64) <<< ((32 : Int32).toInt64 &&& 63)) ||| (((xs (6 * n + 3)).toInt64) &&& 4294967295)) ((((xs (6 * n + 4)).toInt64) <<< ((32 : Int32).toInt64 &&& 63)) ||| (((xs (6 * n + 5)).toInt64) &&& 4294967295))) := Nat.pos_of_ne_zero hs0
                have hn64 : x.nsc < 64 := by omega
                have hr2 := rl_de (ja := fun _ => 0) co rlt rls nr rla rr (by omega) hw hro rfl (Or.inr ⟨hsp, hn64, rfl⟩)
                obtain ⟨rn1, rn2⟩ := rl_room hr2
                have W1 := fun sz => k8_delete l D dA sz h ad o og x (xs (6 * n + 1)) ((((xs (6 * n + 2)).toInt64) <<< ((32 : Int32).toInt64 &&& 63)) ||| (((xs (6 * n + 3)).toInt64) &&& 4294967295)) ((((xs (6 * n + 4)).toInt64) <<< ((32 : Int32).toInt64 &&& 63)) ||| (((xs (6 * n + 5)).toInt64) &&& 4294967295)) (nI (sumN x.npc (x.soN PS w ((((xs (6 * n + 2)).toInt64) <<< ((32 : Int32).toInt64 &&& 63)) ||| (((xs (6 * n + 3)).toInt64) &&& 4294967295)) ((((xs (6 * n + 4)).toInt64) <<< ((32 : Int32).toInt64 &&& 63)) ||| (((xs (6 * n + 5)).toInt64) &&& 4294967295))) + cnt x.hsize (x.hW w ((((xs (6 * n + 2)).toInt64) <<< ((32 : Int32).toInt64 &&& 63)) ||| (((xs (6 * n + 3)).toInt64) &&& 4294967295)) ((((xs (6 * n + 4)).toInt64) <<< ((32 : Int32).toInt64 &&& 63)) ||| (((xs (6 * n + 5)).toInt64) &&& 4294967295))))) (fun u => ∃ ja : Nat → Nat, u = (x.wrF ja 2 w 1 ((((xs (6 * n + 2)).toInt64) <<< ((32 : Int32).toInt64 &&& 63)) ||| (((xs (6 * n + 3)).toInt64) &&& 4294967295)) ((((xs (6 * n + 4)).toInt64) <<< ((32 : Int32).toInt64 &&& 63)) ||| (((xs (6 * n + 5)).toInt64) &&& 4294967295))).lg1 w ((((xs (6 * n + 2)).toInt64) <<< ((32 : Int32).toInt64 &&& 63)) ||| (((xs (6 * n + 3)).toInt64) &&& 4294967295)) ((((xs (6 * n + 4)).toInt64) <<< ((32 : Int32).toInt64 &&& 63)) ||| (((xs (6 * n + 5)).toInt64) &&& 4294967295))) _ _ _ _ (nf_i (fun sz => v_delete_61 l D dA sz h ad x PS w ((((xs (6 * n + 2)).toInt64) <<< ((32 : Int32).toInt64 &&& 63)) ||| (((xs (6 * n + 3)).toInt64) &&& 4294967295)) ((((xs (6 * n + 4)).toInt64) <<< ((32 : Int32).toInt64 &&& 63)) ||| (((xs (6 * n + 5)).toInt64) &&& 4294967295)) hp hw n1 hab2 n4 n2 n3 hso n11 (by omega) hho (by omega) (by omega) n6 n8 n9 (by omega) hz0 hsp hn64 hro hcr) (fun r u q => q) (fun _ _ _ q => by rw [ew] at q; exact q))
                exact l9_8 l hC hi hL ⟨by omega, by omega, by omega, by omega⟩ ⟨by omega, by omega⟩ rfl evl W1 M1 hP hD hS hl (fun u H1 locs1 ls1 hf hP hD hS hl => by
                  obtain ⟨ja, eu⟩ := hf
                  exact cont u _ _ _ (rl_de (ja := ja) co rlt rls nr rla rr (by omega) hw hro rfl (Or.inr ⟨hsp, hn64, eu⟩)) _ H1 locs1 ls1 hP hD hS hl)
            · obtain ⟨v1, v2⟩ := not_or.mp hcr
              obtain ⟨v2, v3⟩ := not_or.mp v2
              have v2 : x.jch = true := by
                cases e : x.jch with
                | true => rfl
                | false => exact absurd e v2
              have v3 : x.cutLeft = 0 := Decidable.not_not.mp v3
              have hr2 := rl_pw (cs' := cs + 1 + 0 + 0) (ss' := ss + 6 + 0 + 0) hR (by omega) 1 (by omega) (by omega)
              obtain ⟨rn1, rn2⟩ := rl_room hr2
              have W1 := fun sz => k8_delete_1 l D dA sz h ad o og x (xs (6 * n + 1)) ((((xs (6 * n + 2)).toInt64) <<< ((32 : Int32).toInt64 &&& 63)) ||| (((xs (6 * n + 3)).toInt64) &&& 4294967295)) ((((xs (6 * n + 4)).toInt64) <<< ((32 : Int32).toInt64 &&& 63)) ||| (((xs (6 * n + 5)).toInt64) &&& 4294967295)) (fun u => u = VS.s_cutLeft (VS.s_powered x false) (-1)) _ _ _ _ (nf_x0 (fun sz => v_delete_5 l (lS_tr hC) D dA sz h ad x PS w ((((xs (6 * n + 2)).toInt64) <<< ((32 : Int32).toInt64 &&& 63)) ||| (((xs (6 * n + 3)).toInt64) &&& 4294967295)) ((((xs (6 * n + 4)).toInt64) <<< ((32 : Int32).toInt64 &&& 63)) ||| (((xs (6 * n + 5)).toInt64) &&& 4294967295)) hp hw n1 hab2 n4 n2 n3 hso n11 (by omega) hho (by omega) (by omega) n6 hz0 hsn hro (by omega) v2 v3) rfl (fun _ _ _ q => by rw [ew] at q; exact q))
              have M1 := nm_i (M1 := MS.s_cutLeft (MS.s_on (MS.s_cod M 1) false) (-1)) (b := 0) (Pc2 := fun sz => pC D dA [.ref mm, .int (xs (6 * n + 1)), .long ((((xs (6 * n + 2)).toInt64) <<< ((32 : Int32).toInt64 &&& 63)) ||| (((xs (6 * n + 3)).toInt64) &&& 4294967295)), .long ((((xs (6 * n + 4)).toInt64) <<< ((32 : Int32).toInt64 &&& 63)) ||| (((xs (6 * n + 5)).toInt64) &&& 4294967295))] (MW dA mm mad M) sz) (fun sz => k_delete_5 l D dA sz mm mad M w ((((xs (6 * n + 2)).toInt64) <<< ((32 : Int32).toInt64 &&& 63)) ||| (((xs (6 * n + 3)).toInt64) &&& 4294967295)) ((((xs (6 * n + 4)).toInt64) <<< ((32 : Int32).toInt64 &&& 63)) ||| (((xs (6 * n + 5)).toInt64) &&& 4294967295)) on hw2 hsc hab2 n23 hpt hzm hus hbk hjl hum (erm.trans hro) (by omega) (g5.trans v2) (g6.trans v3)) (fun r u q => ⟨q, rfl⟩) (fun _ _ _ q => by rw [ew] at q; exact q)
              exact l9_8_x l hC (k9 := 1) hi hL ⟨by omega, by omega, by omega, by omega⟩ ⟨by omega, by omega⟩ rfl k_n1 W1 M1 hP hD hS hl (fun u H1 locs1 ls1 hf hP hD hS hl => cont u _ _ _ (by rw [show u = _ from hf]; exact hr2) og H1 locs1 ls1 hP hD hS hl)

end CH
end
