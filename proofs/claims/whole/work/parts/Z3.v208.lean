/-! A flush: the call. -/
theorem first_or (P : Nat → Prop) [DecidablePred P] : ∀ N, (∃ j, j < N ∧ P j ∧ ∀ i, i < j → ¬ P i) ∨ ∀ i, i < N → ¬ P i
  | 0 => Or.inr (fun i hi => absurd hi (Nat.not_lt_zero i))
  | N + 1 => by
    rcases first_or P N with ⟨j, h1, h2, h3⟩ | h
    · exact Or.inl ⟨j, Nat.lt_succ_of_lt h1, h2, h3⟩
    · by_cases c : P N
      · exact Or.inl ⟨N, Nat.lt_succ_self N, c, h⟩
      · refine Or.inr (fun i hi => ?_)
        by_cases e : i = N
        · rw [e]
          exact c
        · exact h i (by omega)
theorem ct_le (SS : Nat → List LB) : ∀ n, (ctG2 SS n).1 ≤ n
  | 0 => Nat.le_refl 0
  | n + 1 => by
    have h := ct_le SS n
    show (if uS (SS n) ≤ (ctG2 SS n).2 then ((ctG2 SS n).1, (ctG2 SS n).2 - uS (SS n)) else ((ctG2 SS n).1 + 1, 126 - uS (SS n))).1 ≤ n + 1
    split
    · show (ctG2 SS n).1 ≤ n + 1
      omega
    · show (ctG2 SS n).1 + 1 ≤ n + 1
      omega
theorem many_le {M : MS} (h : M.points ≤ 12000) (h2 : M.seriesCount ≤ 256) : M.manyN ≤ 20000 := by
  have := bA_le M (-1) (-1) true h M.seriesCount
  unfold MS.manyN
  split
  · omega
  · omega
section CI
variable {p : Program} {e : Env} {s : State} {m : MethodId} {below : List Frame} {meth : Method} {c : Code} {b L : Nat} {xs : Nat → Int32} {D : va_G} {dA : Nat → ClassId} {e0 : Nat} {A : Nat → Prop} {h : Nat} {ad : Nat → Nat} {mm : Nat} {mad : Nat → Nat} {o : Nat} {n : Nat} {x : VS} {M : MS} {cs ss : Nat}

theorem flu_cod (M : MS) : M.fluS.cod = 0 := by
  unfold MS.fluS
  cases decide (0 < M.heads) with
  | true => rfl
  | false => rfl

theorem call_10 (l : Launch) (hC : lS p l s m meth c b L xs D dA e0 A) (hL : L ≤ 3072) (hi : 6 * n + 6 ≤ L) (hR : Rl dA ad e0 n x M cs ss) (cont : ∀ x' M' cs' ss', Rl dA ad e0 (n + 1) x' M' cs' ss' → At9 p l e s m below meth c b D dA A h ad mm mad o 23 (6 * n + 6) x' M' cs' ss') : At9 p l e s m below meth c b D dA A h ad mm mad o (tg9 10) (6 * n) x M cs ss := by
  intro og H locs ls hP hD hS hl
  obtain ⟨rm1, rm2⟩ := rl_room (rl_skip hR (by omega))
  obtain ⟨PS, SS, dn, bn, gq, rq, la, gk, AT, T, co, ⟨⟨t1, t2, t3, t4⟩, ⟨t5, t6, t7⟩, ⟨t8, t9⟩, t10, t11, t12⟩, ⟨sr1, sr2, sr3, sr4, sr5⟩, nr, ⟨⟨r1, r2, r3, r4⟩, r5, ⟨r6, r7⟩, ⟨r8, r9⟩, r10⟩, rr⟩ := id hR
  obtain ⟨cp, cb, ⟨se1, se2⟩, ⟨g1, g2, g3, g4, g5, g6, g7, g8, g9, g10, g11⟩, cj, ck, cc⟩ := id co
  obtain ⟨⟨n1, n2, n3, n4⟩, ⟨n5, n6, n7⟩, ⟨n8, n9, n10, n11, n12, n13, n14, n15⟩, ⟨n16, n17, n18, n19⟩, ⟨n20, n21, n22, n23⟩, n24⟩ := id nr
  cases hp : x.powered with
  | false =>
    have hr2 := rl_up (cs' := cs + 1 + 0 + 0) (ss' := ss + 6 + 0 + 0) hR (by omega) 1 (by omega) (by omega)
    obtain ⟨rn1, rn2⟩ := rl_room hr2
    have W1 := fun sz => k8_flush_1 l D dA sz h ad o og x (fun u => u = x) _ _ _ _ (nf_x1 (w := fun _ => x) (fun sz => v_flush_x l (lS_tr hC) D dA sz h ad x hp) (fun _ _ => rfl) (fun _ _ _ q => q))
    have M1 := fun sz => k_flush_1 l D dA sz mm mad M (t12.trans hp)
    exact l9_10_x l hC (k9 := 1) hi hL ⟨by omega, by omega, by omega, by omega⟩ ⟨by omega, by omega⟩ rfl k_n1 W1 M1 hP hD hS hl (fun u H1 locs1 ls1 hf hP hD hS hl => cont u _ _ _ (by rw [show u = x from hf]; exact hr2) og H1 locs1 ls1 hP hD hS hl)
  | true =>
    have on : M.on = true := t12.trans hp
    by_cases hj0 : x.jsize = 0
    · have hr2 := rl_up (cs' := cs + 0 + 0 + 0) (ss' := ss + 0 + 0 + 0) hR (by omega) 0 (by omega) (by omega)
      have W1 := fun sz => k8_flush l D dA sz h ad o og x 0 (fun u => u = x) _ _ _ _ (nf_i (fun sz => v_flush_z l D dA sz h ad x hp hj0) (fun r u q => ⟨q, rfl⟩) (fun _ _ _ q => q))
      have M1 := fun sz => k_flush_n l D dA sz mm mad M on (g1.trans hj0)
      exact l9_10 l hC hi hL ⟨by omega, by omega, by omega, by omega⟩ ⟨by omega, by omega⟩ rfl rfl W1 M1 hP hD hS hl (fun u H1 locs1 ls1 hf hP hD hS hl => cont u _ _ _ (by rw [show u = x from hf]; exact hr2) _ H1 locs1 ls1 hP hD hS hl)
    · have hjp : 0 < x.jsize := Nat.pos_of_ne_zero hj0
      have hr0 : ¬ M.records = 0 := by omega
      have rec1 : M.records ≤ 32000 := by omega
      have pts1 : M.points ≤ 12000 := by omega
      have hsc : M.seriesCount ≤ 256 := by omega
      have htl : ∀ q : Nat, q < M.seriesCount → M.textLengths q ≤ 304 := fun q hq => by
        have := sr1 q hq
        omega
      have epc : M.parcelCount = x.npc := cp.1.2.1
      have eb : sumN M.parcelCount M.parcelBlocks = sumN x.npc (blN PS) := by
        rw [cp.1.2.1]
        exact sumN_ext (fun k hk => (cp.1.2.2.2 k hk).2.2)
      have f1 : M.parcelCount ≤ 40 := by omega
      have f2 : 2 + M.journal + M.catalogBlocks + sumN M.parcelCount M.parcelBlocks ≤ M.blocks := by omega
      have f3 : M.blocks ≤ 256 := by omega
      have efr : M.freeN = x.fr PS := fr_eq cp t10 g8 cc
      have ehd : M.heads = x.hsize := heads_eq cp
      have ecn : M.catN = (ctG2 SS x.nser).1 := by
        rw [← se1]
        exact cat_eq sr1
      have hct := ct_le SS x.nser
      have hfr256 : x.fr PS ≤ 256 := by
        show x.diskBlocks - 2 - x.jlimit - (x.ncat + sumN x.npc (blN PS)) ≤ 256
        omega
      have rlt : rlT M x := ⟨⟨t1, t2, t3, t4⟩, ⟨t5, t6, t7⟩, ⟨t8, t9⟩, t10, t11, t12⟩
      have rls : rlS dA SS M x := ⟨sr1, sr2, sr3, sr4, sr5⟩
      have rla : rlA dA ad e0 M x gq rq la gk AT T := ⟨⟨r1, r2, r3, r4⟩, r5, ⟨r6, r7⟩, ⟨r8, r9⟩, r10⟩
      by_cases hz : x.hsize = 0
      · have emc : M.manyN + M.catN = (ctG2 SS x.nser).1 := (flu_0 co sr1 hz).2
        by_cases hf : x.fr PS < (ctG2 SS x.nser).1
        · have hr2 := rl_up (cs' := cs + 1 + 0 + 0) (ss' := ss + 6 + 0 + 0) hR (by omega) 2 (by omega) (by omega)
          obtain ⟨rn1, rn2⟩ := rl_room hr2
          have W1 := fun sz => k8_flush_2 l D dA sz h ad o og x (fun u => u = x) _ _ _ _ (nf_x1 (w := fun _ => x) (fun sz => v_flush_u0 l (lS_tr hC) D dA sz h ad x PS SS hp hjp (by omega) n4 n2 n5 sr3 n1 t11 hz hf (by omega)) (fun _ _ => rfl) (fun _ _ _ q => q))
          have M1 := fun sz => k_flush_2 l D dA sz mm mad M on hr0 rec1 pts1 hsc n23 htl f1 f2 f3 (Or.inr (by omega))
          exact l9_10_x l hC (k9 := 2) hi hL ⟨by omega, by omega, by omega, by omega⟩ ⟨by omega, by omega⟩ rfl k_n2 W1 M1 hP hD hS hl (fun u H1 locs1 ls1 hf hP hD hS hl => cont u _ _ _ (by rw [show u = x from hf]; exact hr2) og H1 locs1 ls1 hP hD hS hl)
        · have hf : (ctG2 SS x.nser).1 ≤ x.fr PS := by omega
          have hn1 : ¬ (0 < M.heads ∧ M.parcelCount = 32) := by omega
          rcases first_or (fun j => cutN x.cutLeft j = 0) ((ctG2 SS x.nser).1 + 1) with ⟨k0, u1, u2, u3⟩ | hcz
          · have hr2 := rl_pwk (cs' := cs + 1 + 0 + 0) (ss' := ss + 6 + 0 + 0) (pl1 := x.pl) hR (by omega) (fun _ z => z) 1 k0 (by omega) (by omega) (by omega)
            obtain ⟨rn1, rn2⟩ := rl_room hr2
            have W1 := fun sz => k8_flush_1 l D dA sz h ad o og x (fun u => u = x.xiS k0) _ _ _ _ (nf_x1 (w := fun _ => x.xiS k0) (fun sz => v_flush_i0 l (lS_tr hC) D dA sz h ad x PS SS k0 hp hjp (by omega) n4 n2 n5 sr3 n1 t11 hz hf u1 u3 u2) (fun _ _ => rfl) (fun _ _ _ q => q))
            have M1 := fun sz => k_flush_5 l D dA sz mm mad M k0 on hr0 rec1 pts1 hsc n23 htl f1 f2 f3 hn1 (by omega) (by omega) (by rw [g6]; exact u2) (fun i hi => by rw [g6]; exact u3 i hi)
            exact l9_10_x l hC (k9 := 1) hi hL ⟨by omega, by omega, by omega, by omega⟩ ⟨by omega, by omega⟩ rfl k_n1 W1 M1 hP hD hS hl (fun u H1 locs1 ls1 hf hP hD hS hl => cont u _ _ _ (by rw [show u = x.xiS k0 from hf]; exact hr2) og H1 locs1 ls1 hP hD hS hl)
          · have hr2 := rl_f0 co rlt rls nr rla rr (by omega) hz hf
            have W1 := fun sz => k8_flush l D dA sz h ad o og x (nI ((ctG2 SS x.nser).1 + 1)) (fun u => u = x.flZ SS) _ _ _ _ (nf_i (w := fun _ => x.flZ SS) (fun sz => v_flush_0 l D dA sz h ad x PS SS hp hjp (by omega) n4 n2 n5 sr3 n1 t11 (by omega) (by omega) n3 hz hf hcz) (fun r u q => ⟨q, rfl⟩) (fun _ _ _ q => q))
            have M1 := nm_i (M1 := M.fluS) (b := nI (M.manyN + M.catN + 1)) (Pc2 := fun sz => pC D dA [.ref mm] (MW dA mm mad M) sz) (fun sz => k_flush_0 l D dA sz mm mad M on hr0 rec1 pts1 hsc n23 htl f1 f2 f3 hn1 (by omega) (by omega) (fun i hi => by rw [g6]; exact hcz i (by omega))) (fun r u q => ⟨q.1, q.2⟩) (fun _ _ _ q => q)
            exact l9_10 l hC hi hL ⟨by omega, by omega, by omega, by omega⟩ ⟨by omega, by omega⟩ (flu_cod M) (by rw [emc]) W1 M1 hP hD hS hl (fun u H1 locs1 ls1 hf hP hD hS hl => cont u _ _ _ (by rw [show u = _ from hf]; exact hr2) _ H1 locs1 ls1 hP hD hS hl)
      · have hzp : 0 < x.hsize := Nat.pos_of_ne_zero hz
        have hml := many_le pts1 hsc
        obtain ⟨nb, enb⟩ : ∃ nb, nb = M.manyN := ⟨_, rfl⟩
        have hbl : ∀ (O : Nat → Nat) (T V : Nat → Int64), laid x.hO x.hsize x.hsize x.hO O → laid x.hO x.hsize x.hsize x.hT T → laid x.hO x.hsize x.hsize x.hV V → (mkP x.hsize O T V).bl = nb := fun O T V l1 l2 l3 => by
          rw [enb]
          exact (many_eq cp hzp l1 l2 l3).symm
        have hho : ∀ i : Nat, i < x.hsize → x.hO i < x.nser := fun i hi => hO_lt cj ck hi
        have emc : M.manyN + M.catN = nb + (ctG2 SS x.nser).1 := by omega
        have hs4 : x.hsize ≤ 1152 := by omega
        by_cases hu : 32 ≤ x.npc ∨ x.fr PS < nb + (ctG2 SS x.nser).1
        · have hr2 : ∀ u : VS, x.pk u → Rl dA ad e0 (n + 1) u (MS.s_cod M 2) (cs + 6 + 0 + 0) (ss + (14 + (3 * x.hsize + x.nser + 1)) + 0 + 0) := fun u hk => by
            obtain ⟨z1, z2⟩ := hk
            rw [z1]
            exact rl_pl hR (by omega) z2 2 (by omega) (by omega)
          obtain ⟨rn1, rn2⟩ := rl_room (hr2 x ⟨rfl, fun _ z => z⟩)
          have W1 := fun sz => k8_flush_2 l D dA sz h ad o og x (fun u => x.pk u) _ _ _ _ (nf_x1 (w := fun u => u) (fun sz => v_flush_u1 l (lS_tr hC) D dA sz h ad x PS SS nb hp hjp (by omega) n4 n2 n5 sr3 n1 t11 (by omega) n11 (by omega) hho hzp hbl (by omega) hu) (fun u q => q) (fun _ _ _ q => q))
          have M1 := fun sz => k_flush_2 l D dA sz mm mad M on hr0 rec1 pts1 hsc n23 htl f1 f2 f3 (by omega)
          exact l9_10_x l hC (k9 := 2) hi hL ⟨by omega, by omega, by omega, by omega⟩ ⟨by omega, by omega⟩ rfl k_n2 W1 M1 hP hD hS hl (fun u H1 locs1 ls1 hf hP hD hS hl => cont u _ _ _ (hr2 u hf) og H1 locs1 ls1 hP hD hS hl)
        · have hp32 : x.npc < 32 := by omega
          have hf : nb + (ctG2 SS x.nser).1 ≤ x.fr PS := by omega
          have hn1 : ¬ (0 < M.heads ∧ M.parcelCount = 32) := by omega
          rcases first_or (fun j => cutN x.cutLeft j = 0) (nb + (ctG2 SS x.nser).1 + 1) with ⟨k0, u1, u2, u3⟩ | hcz
          · have hr2 : ∀ u : VS, (x.xiS k0).pk u → Rl dA ad e0 (n + 1) u (MS.s_written (MS.s_cutLeft (MS.s_on (MS.s_cod M 1) false) (-1)) (M.written + k0)) (cs + 6 + 0 + 0) (ss + (14 + (3 * x.hsize + x.nser + 1)) + 0 + 0) := fun u hk => by
              obtain ⟨z1, z2⟩ := hk
              rw [z1]
              exact rl_pwk hR (by omega) z2 1 k0 (by omega) (by omega) (by omega)
            obtain ⟨rn1, rn2⟩ := rl_room (hr2 (x.xiS k0) ⟨rfl, fun _ z => z⟩)
            have W1 := fun sz => k8_flush_1 l D dA sz h ad o og x (fun u => (x.xiS k0).pk u) _ _ _ _ (nf_x1 (w := fun u => u) (fun sz => v_flush_i1 l (lS_tr hC) D dA sz h ad x PS SS nb k0 hp hjp (by omega) n4 n2 n5 sr3 n1 t11 (by omega) n11 (by omega) hho hzp hbl hp32 hf u1 u3 u2) (fun u q => q) (fun _ _ _ q => q))
            have M1 := fun sz => k_flush_5 l D dA sz mm mad M k0 on hr0 rec1 pts1 hsc n23 htl f1 f2 f3 hn1 (by omega) (by omega) (by rw [g6]; exact u2) (fun i hi => by rw [g6]; exact u3 i hi)
            exact l9_10_x l hC (k9 := 1) hi hL ⟨by omega, by omega, by omega, by omega⟩ ⟨by omega, by omega⟩ rfl k_n1 W1 M1 hP hD hS hl (fun u H1 locs1 ls1 hf hP hD hS hl => cont u _ _ _ (hr2 u hf) og H1 locs1 ls1 hP hD hS hl)
          · have rn1 : cs + 5 ≤ 601024 ∧ ss + (8 + (3 * x.hsize + x.nser + 1)) ≤ 7293034 := by
              have hr2 := rl_up (cs' := cs + 5) (ss' := ss + (8 + (3 * x.hsize + x.nser + 1))) hR (by omega) 0 (by omega) (by omega)
              exact rl_room hr2
            obtain ⟨rn1, rn2⟩ := rn1
            have W1 := fun sz => k8_flush l D dA sz h ad o og x (nI (nb + (ctG2 SS x.nser).1 + 1)) (fun u => ∃ (O : Nat → Nat) (T V : Nat → Int64) (mp : Nat) (pl1 : va_W), laid x.hO x.hsize x.hsize x.hO O ∧ laid x.hO x.hsize x.hsize x.hT T ∧ laid x.hO x.hsize x.hsize x.hV V ∧ (∀ q, O q < 256) ∧ isPc dA pl1 mp (mkP x.hsize O T V) ∧ (∀ c, c ∈ x.pl → c ∈ pl1) ∧ u = x.flS SS nb mp pl1) _ _ _ _ (nf_i (w := fun u => u) (fun sz => v_flush_1 l D dA sz h ad x PS SS nb hp hjp (by omega) n4 n2 n5 sr3 n1 t11 (by omega) n11 (by omega) hho hzp hbl (by omega) (by omega) n3 hp32 hf hcz) (fun r u q => q) (fun _ _ _ q => q))
            have M1 := nm_i (M1 := M.fluS) (b := nI (M.manyN + M.catN + 1)) (Pc2 := fun sz => pC D dA [.ref mm] (MW dA mm mad M) sz) (fun sz => k_flush_0 l D dA sz mm mad M on hr0 rec1 pts1 hsc n23 htl f1 f2 f3 hn1 (by omega) (by omega) (fun i hi => by rw [g6]; exact hcz i (by omega))) (fun r u q => ⟨q.1, q.2⟩) (fun _ _ _ q => q)
            exact l9_10 l hC hi hL ⟨by omega, by omega, by omega, by omega⟩ ⟨by omega, by omega⟩ (flu_cod M) (by rw [emc]) W1 M1 hP hD hS hl (fun u H1 locs1 ls1 hf2 hP hD hS hl => by
              obtain ⟨O, TT, V, mp, pl1, l1, l2, l3, l4, l5, l6, l7⟩ := hf2
              refine cont u _ _ _ ?_ _ H1 locs1 ls1 hP hD hS hl
              rw [l7]
              exact rl_f1 co rlt rls nr rla rr (by omega) hzp l1 l2 l3 l4 l5 l6 (hbl O TT V l1 l2 l3) hp32 hf)

end CI
