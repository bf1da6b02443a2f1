section
/-! Many points come: the call. -/
section CK7
variable {p : Program} {e : Env} {s : State} {m : MethodId} {below : List Frame} {meth : Method} {c : Code} {b L : Nat} {xs : Nat → Int32} {D : va_G} {dA : Nat → ClassId} {e0 : Nat} {A : Nat → Prop} {h : Nat} {ad : Nat → Nat} {mm : Nat} {mad : Nat → Nat} {o : Nat} {n : Nat} {x : VS} {M : MS} {cs ss : Nat}
theorem call_7 (l : Launch) (hC : lS p l s m meth c b L xs D dA e0 A) (hL : L ≤ 3072) (hi : 6 * n + 6 ≤ L) (hR : Rl dA ad e0 n x M cs ss) (cont : ∀ x' M' cs' ss', Rl dA ad e0 (n + 1) x' M' cs' ss' → At9 p l e s m below meth c b D dA A h ad mm mad o 23 (6 * n + 6) x' M' cs' ss') : At9 p l e s m below meth c b D dA A h ad mm mad o (tg9 7) (6 * n) x M cs ss := by
  intro og H locs ls hP hD hS hl
  obtain ⟨rm1, rm2⟩ := rl_room (rl_skip hR (by omega))
  obtain ⟨PS, SS, dn, bn, gq, rq, la, gk, AT, T, co, ⟨⟨t1, t2, t3, t4⟩, ⟨t5, t6, t7⟩, ⟨t8, t9⟩, t10, t11, t12⟩, ⟨sr1, sr2, sr3, sr4, sr5⟩, nr, ⟨⟨r1, r2, r3, r4⟩, r5, ⟨r6, r7⟩, ⟨r8, r9⟩, r10⟩, rr⟩ := id hR
  obtain ⟨cp, cb, ⟨se1, se2⟩, ⟨g1, g2, g3, g4, g5, g6, g7, g8, g9, g10, g11⟩, cj, ck, cc⟩ := id co
  obtain ⟨⟨n1, n2, n3, n4⟩, ⟨n5, n6, n7⟩, ⟨n8, n9, n10, n11, n12, n13, n14, n15⟩, ⟨n16, n17, n18, n19⟩, ⟨n20, n21, n22, n23⟩, n24⟩ := id nr
  cases hp : x.powered with
  | false =>
    have hr2 := rl_up (cs' := cs + 1 + 0 + 0) (ss' := ss + 6 + 0 + 0) hR (by omega) 1 (by omega) (by omega)
    obtain ⟨rn1, rn2⟩ := rl_room hr2
    have W1 := fun sz => k8_bulk_1 l D dA sz h ad o og x (xs (6 * n + 1)) (fun u => u = x) _ _ _ _ (nf_x0 (fun sz => v_bulk_1 l (lS_tr hC) D dA sz h ad x (xs (6 * n + 1)) hp) rfl (fun _ _ _ q => q))
    have M1 := fun sz => k_bulk_1 l D dA sz mm mad M (xs (6 * n + 1)) (t12.trans hp)
    exact l9_7_x l hC (k9 := 1) hi hL ⟨by omega, by omega, by omega, by omega⟩ ⟨by omega, by omega⟩ rfl k_n1 W1 M1 hP hD hS hl (fun u H1 locs1 ls1 hf hP hD hS hl => cont u _ _ _ (by rw [show u = x from hf]; exact hr2) og H1 locs1 ls1 hP hD hS hl)
  | true =>
    have on : M.on = true := t12.trans hp
    by_cases hv : xs (6 * n + 1) < 0 ∨ nI x.nser ≤ xs (6 * n + 1)
    · have hr2 := rl_up (cs' := cs + 1 + 0 + 0) (ss' := ss + 6 + 0 + 0) hR (by omega) 2 (by omega) (by omega)
      obtain ⟨rn1, rn2⟩ := rl_room hr2
      have W1 := fun sz => k8_bulk_2 l D dA sz h ad o og x (xs (6 * n + 1)) (fun u => u = x) _ _ _ _ (nf_x0 (fun sz => v_bulk_2 l (lS_tr hC) D dA sz h ad x (xs (6 * n + 1)) hp hv) rfl (fun _ _ _ q => q))
      have M1 := fun sz => k_bulk_2 l D dA sz mm mad M (xs (6 * n + 1)) on (by rw [se1]; exact hv)
      exact l9_7_x l hC (k9 := 2) hi hL ⟨by omega, by omega, by omega, by omega⟩ ⟨by omega, by omega⟩ rfl k_n2 W1 M1 hP hD hS hl (fun u H1 locs1 ls1 hf hP hD hS hl => cont u _ _ _ (by rw [show u = x from hf]; exact hr2) og H1 locs1 ls1 hP hD hS hl)
    · obtain ⟨w, hw, ew⟩ := i32_lt (a := x.nser) (by omega) (fun z => hv (Or.inl z)) (fun z => hv (Or.inr z))
      have rlt : rlT M x := ⟨⟨t1, t2, t3, t4⟩, ⟨t5, t6, t7⟩, ⟨t8, t9⟩, t10, t11, t12⟩
      have rls : rlS dA SS M x := ⟨sr1, sr2, sr3, sr4, sr5⟩
      have rla : rlA dA ad e0 M x gq rq la gk AT T := ⟨⟨r1, r2, r3, r4⟩, r5, ⟨r6, r7⟩, ⟨r8, r9⟩, r10⟩
      have cz : ∀ (i : Nat) (z : VS), bkR x w i z → coR ((M.s_cod 0).blkS w i) z PS dn bn ∧ w < z.nser := fun i z hz => by
        obtain ⟨u1, u2, u3⟩ := bk_co co t1 hw n6 ⟨n8, n9⟩ ⟨n11, n12⟩ hz
        exact ⟨u1, by omega⟩
      have et : ∀ i : Nat, numB M.tape (16 * i) 8 = tmB x i := fun i => by
        unfold tmB
        rw [t1, Nat.mul_comm]
      obtain ⟨k, hk1, hk2⟩ : ∃ k, ¬ (16 * k + 16 ≤ M.length ∧ ((M.s_cod 0).blkS w k).okS w (numB M.tape (16 * k) 8) ∧ ((M.s_cod 0).blkS w k).canR 1) ∧ ∀ i, i < k → 16 * i + 16 ≤ M.length ∧ ((M.s_cod 0).blkS w i).okS w (numB M.tape (16 * i) 8) ∧ ((M.s_cod 0).blkS w i).canR 1 := by
        rcases @first_or (fun j => ¬ (16 * j + 16 ≤ M.length ∧ ((M.s_cod 0).blkS w j).okS w (numB M.tape (16 * j) 8) ∧ ((M.s_cod 0).blkS w j).canR 1)) (fun _ => Classical.propDecidable _) (M.length + 1) with ⟨k, -, u2, u3⟩ | hn1
        · exact ⟨k, u2, fun i hi => Classical.not_not.mp (u3 i hi)⟩
        · exact absurd (Classical.not_not.mp (hn1 M.length (Nat.lt_succ_self _))).1 (by omega)
      have hk16 : 16 * k ≤ x.tapeLength := by
        by_cases c : k = 0
        · omega
        · have u := (hk2 (k - 1) (by omega)).1
          omega
      have hgo : ∀ (i : Nat) (z : VS), i < k → bkR x w i z → z.may w (tmB x i) = true ∧ z.room 1 = true ∧ (z.jfill + 1 ≤ 126 ∨ z.jch = false ∨ ¬ z.cutLeft = 0) := fun i z hik hz => by
        obtain ⟨c1, c2⟩ := cz i z hz
        obtain ⟨u1, u2, u3⟩ := hk2 i hik
        rw [et] at u2
        obtain ⟨v1, v2⟩ := (ok_eq c1 c2).mp u2
        exact ⟨v1, v2, (can_eq c1).mp u3⟩
      have hro : ∀ (i : Nat) (z : VS), i < k → bkR x w i z → z.room 1 = true := fun i z hik hz => (hgo i z hik hz).2.1
      have b1 := capR_b x.jN x.jsize k
      have b2 := capR_b x.hN x.hsize k
      have b3 := capR_ge x.jN x.jsize k
      have b4 := capR_ge x.hN x.hsize k
      obtain ⟨rn1, rn2⟩ := rl_room (rl_jh (JB := capR x.jN x.jsize k) (HB := capR x.hN x.hsize k) (cs' := cs + (6 * (capR x.jN x.jsize k - x.jN) + 3 * (capR x.hN x.hsize k - x.hN) + 1) + 0 + 0) (ss' := ss + (12 * (capR x.jN x.jsize k - x.jN) + 6 * (capR x.hN x.hsize k - x.hN) + 6) + 0 + 0) (rl_up (cs' := cs + 1) (ss' := ss + 6) hR (by omega) 0 (by omega) (by omega)) b3 (by omega) b4 (by omega) (by show _ ≤ cs + 1 + (6 * (capR x.jN x.jsize k - x.jN) + 3 * (capR x.hN x.hsize k - x.hN)); omega) (by show _ ≤ ss + 6 + (12 * (capR x.jN x.jsize k - x.jN) + 6 * (capR x.hN x.hsize k - x.hN)); omega))
      have hst : ∀ k' : Nat, k' < k → 16 * k' + 16 ≤ M.length ∧ ((M.s_cod 0).blkS w k').okS w (numB M.tape (16 * k') 8) ∧ ((M.s_cod 0).blkS w k').canR 1 := hk2
      by_cases h9 : 16 * k + 16 ≤ M.length ∧ ((M.s_cod 0).blkS w k).okS w (numB M.tape (16 * k) 8)
      · have hcn : ¬ ((M.s_cod 0).blkS w k).canR 1 := fun z => hk1 ⟨h9.1, h9.2, z⟩
        obtain ⟨v1, v2⟩ := not_or.mp hcn
        obtain ⟨v2, v3⟩ := not_or.mp v2
        have v1 : 126 < ((M.s_cod 0).blkS w k).used + 1 := by omega
        have v2 : ((M.s_cod 0).blkS w k).fresh = true := by
          cases e : ((M.s_cod 0).blkS w k).fresh with
          | true => rfl
          | false => exact absurd e v2
        have v3 : ((M.s_cod 0).blkS w k).cutLeft = 0 := Decidable.not_not.mp v3
        have hr2 : ∀ u : VS, (∃ z : VS, bkR x w k z ∧ u = z.off1) → Rl dA ad e0 (n + 1) u ((((((M.s_cod 0).blkS w k).s_cod 1).s_length 0).s_on false).s_cutLeft (-1)) (cs + (6 * (capR x.jN x.jsize k - x.jN) + 3 * (capR x.hN x.hsize k - x.hN) + 1) + 0 + 0) (ss + (12 * (capR x.jN x.jsize k - x.jN) + 6 * (capR x.hN x.hsize k - x.hN) + 6) + 0 + 0) := fun u hu => by
          obtain ⟨z, hz, eu⟩ := hu
          rw [eu]
          exact rl_pwn (rl_bk co rlt rls nr rla rr (by omega) hw hk16 hro hz (by omega) (by omega)) 1
        have W1 := fun sz => k8_bulk_1 l D dA sz h ad o og x (xs (6 * n + 1)) (fun u => ∃ z : VS, bkR x w k z ∧ u = z.off1) _ _ _ _ (nf_x1 (w := fun u => u) (fun sz => v_bulk_i l (lS_tr hC) D dA sz h ad x w k hp hw (by omega) t5 (by omega) n6 (by omega) (by omega) n8 n9 (by omega) n11 n12 (by omega) (by omega) hgo (by omega) (fun z hz => by
          obtain ⟨c1, c2⟩ := cz k z hz
          have u2 := h9.2
          rw [et] at u2
          obtain ⟨w1, w2⟩ := (ok_eq c1 c2).mp u2
          have w3 := (not_congr (can_eq c1)).mp hcn
          obtain ⟨w4, w5⟩ := not_or.mp w3
          obtain ⟨w5, w6⟩ := not_or.mp w5
          refine ⟨w1, w2, by omega, ?_, Decidable.not_not.mp w6⟩
          cases e : z.jch with
          | true => rfl
          | false => exact absurd e w5)) (fun u q => q) (fun _ _ _ q => by rw [ew] at q; exact q))
        have M1 := nm_i (M1 := (((((M.s_cod 0).blkS w k).s_cod 1).s_length 0).s_on false).s_cutLeft (-1)) (b := 0) (Pc2 := fun sz => pC D dA [.ref mm, .int (xs (6 * n + 1))] (MW dA mm mad M) sz) (fun sz => k_bulk_5 l D dA sz mm mad M w k on (by omega) (by omega) (by omega) (by omega) (by omega) (by omega) (by omega) (by omega) hst h9.1 h9.2 v1 v2 v3) (fun r u q => ⟨q.1, q.2⟩) (fun _ _ _ q => by rw [ew] at q; exact q)
        exact l9_7_x l hC (k9 := 1) hi hL ⟨by omega, by omega, by omega, by omega⟩ ⟨by omega, by omega⟩ rfl k_n1 W1 M1 hP hD hS hl (fun u H1 locs1 ls1 hf hP hD hS hl => cont u _ _ _ (hr2 u hf) og H1 locs1 ls1 hP hD hS hl)
      · have hen : M.length < 16 * k + 16 ∨ ¬ ((M.s_cod 0).blkS w k).okS w (numB M.tape (16 * k) 8) := by
          by_cases c : 16 * k + 16 ≤ M.length
          · exact Or.inr (fun z => h9 ⟨c, z⟩)
          · exact Or.inl (by omega)
        have hr2 : ∀ u : VS, bkR x w k u → Rl dA ad e0 (n + 1) u (((M.s_cod 0).blkS w k).s_length 0) (cs + (6 * (capR x.jN x.jsize k - x.jN) + 3 * (capR x.hN x.hsize k - x.hN)) + 0 + 0) (ss + (12 * (capR x.jN x.jsize k - x.jN) + 6 * (capR x.hN x.hsize k - x.hN)) + 0 + 0) := fun u hz => rl_bk co rlt rls nr rla rr (by omega) hw hk16 hro hz (by omega) (by omega)
        have W1 := fun sz => k8_bulk l D dA sz h ad o og x (xs (6 * n + 1)) (nI k) (fun u => bkR x w k u) _ _ _ _ (nf_i (w := fun u => u) (fun sz => v_bulk l D dA sz h ad x w k hp hw (by omega) t5 (by omega) n6 (by omega) (by omega) n8 n9 (by omega) n11 n12 (by omega) (by omega) hgo (fun hlt z hz hmy => by
          obtain ⟨c1, c2⟩ := cz k z hz
          rcases hen with d | d
          · exact absurd d (by omega)
          · rw [et] at d
            cases e : z.room 1 with
            | false => rfl
            | true => exact absurd ((ok_eq c1 c2).mpr ⟨hmy, e⟩) d)) (fun r u q => q) (fun _ _ _ q => by rw [ew] at q; exact q))
        have M1 := nm_i (M1 := ((M.s_cod 0).blkS w k).s_length 0) (b := nI k) (Pc2 := fun sz => pC D dA [.ref mm, .int (xs (6 * n + 1))] (MW dA mm mad M) sz) (fun sz => k_bulk_0 l D dA sz mm mad M w k on (by omega) (by omega) (by omega) (by omega) (by omega) (by omega) (by omega) (by omega) hst hen) (fun r u q => ⟨q.1, q.2⟩) (fun _ _ _ q => by rw [ew] at q; exact q)
        exact l9_7 l hC hi hL ⟨by omega, by omega, by omega, by omega⟩ ⟨by omega, by omega⟩ (show (((M.s_cod 0).blkS w k).s_length 0).cod = 0 from blk_cod (M.s_cod 0) w k) rfl W1 M1 hP hD hS hl (fun u H1 locs1 ls1 hf2 hP hD hS hl => cont u _ _ _ (hr2 u hf2) _ H1 locs1 ls1 hP hD hS hl)
end CK7
end
section
set_option maxHeartbeats 4000000 in
set_option maxRecDepth 100000 in
theorem l9e_3 {p : Program} {e : Env} {s : State} {m : MethodId} {below : List Frame} {meth : Method} {c : Code} (l : Launch) {b L : Nat} {xs : Nat → Int32} {D : va_G} {dA : Nat → ClassId} {e0 : Nat} {A : Nat → Prop} {H : Heap} {locs : List Loc} {ls : Array Slot} (hC : lS p l s m meth c b L xs D dA e0 A) {h : Nat} {ad : Nat → Nat} {x : VS} {mm : Nat} {mad : Nat → Nat} {M : MS} {o : Nat} {og : Nat → Int64} {i fr1 lo1 fr2 lo2 mc9 ms9 cells slots : Nat} {F9 : VS → Prop} {G9 : MS → Prop} {b9 : Int32} {v9 : Int64} (hi : i + 6 ≤ L) (hL : L ≤ 3072) (hfr : fr1 ≤ 2000 ∧ lo1 ≤ 80000 ∧ fr2 ≤ 2000 ∧ lo2 ≤ 80000) (hrm : cells + mc9 ≤ 601024 ∧ slots + ms9 ≤ 7293034) (hcod : ∀ w9 : MS, G9 w9 → w9.cod = 0) (hv : v9 = b9.toInt64) (hW : ∀ sz : Nat, Met l ⟨"SeriesVaultLaw", "series", "(LSeriesVault;[J)I"⟩ [Cond.codeWith ⟨"SeriesVaultLaw", "series", "(LSeriesVault;[J)I"⟩ method_6_code 3 (some FieldType.int) [(0, 8, 11, 29), (0, 8, 14, 13)]] { frames := fr1, cells := mc9, slots := ms9, locals := lo1 } (pC D dA [.ref h, .ref o] (([(o, .inl (dA 2, 1, .inr (.inl og)))] : va_W) ++ (VW dA h ad x)) sz) (va_Qi (fun (r9 : Int32) (u9 : VS) => r9 = 0 ∧ F9 u9) (fun (u9 : VS) t9 => bW D (va_A (([(o, .inl (dA 2, 1, .inr (.inl og)))] : va_W) ++ (VW dA h ad x)) sz) (([(o, .inl (dA 2, 1, .inr (.inl (va_up og 0 v9))))] : va_W) ++ (VW dA h ad u9)) t9) (va_A (([(o, .inl (dA 2, 1, .inr (.inl og)))] : va_W) ++ (VW dA h ad x)) sz)) mc9 ms9 (va_A (([(o, .inl (dA 2, 1, .inr (.inl og)))] : va_W) ++ (VW dA h ad x)) sz)) (hM : ∀ sz : Nat, Met l ⟨"SeriesVaultModel", "series", "()I"⟩ [Cond.code ⟨"SeriesVaultModel", "series", "()I"⟩ prog_14_method_29_code 5 (some FieldType.int)] { frames := fr2, cells := 0, slots := 0, locals := lo2 } (pC D dA [.ref mm] (MW dA mm mad M) sz) (va_Qi (fun (r9 : Int32) (u9 : MS) => r9 = b9 ∧ G9 u9) (fun (u9 : MS) t9 => bW D (va_A (MW dA mm mad M) sz) (MW dA mm mad u9) t9) (va_A (MW dA mm mad M) sz)) 0 0 (va_A (MW dA mm mad M) sz)) (hP : va_P D vwCl (MW dA mm mad M ++ (([(o, .inl (dA 2, 1, .inr (.inl og)))] : va_W) ++ (VW dA h ad x))) H) (hD : va_D A (MW dA mm mad M ++ (([(o, .inl (dA 2, 1, .inr (.inl og)))] : va_W) ++ (VW dA h ad x)))) (hS : va_S A s.heap H locs) (hl : lv_has ls 8 [(4, .int (nI i)), (3, .ref o), (2, .ref mm), (1, .ref h), (0, .ref b)]) (cont : ∀ (u : VS) (w9 : MS) (H1 : Heap) (locs1 : List Loc) (ls1 : Array Slot), F9 u → G9 w9 → va_P D vwCl (MW dA mm mad w9 ++ (([(o, .inl (dA 2, 1, .inr (.inl (va_up og 0 v9))))] : va_W) ++ (VW dA h ad u))) H1 → va_D A (MW dA mm mad w9 ++ (([(o, .inl (dA 2, 1, .inr (.inl (va_up og 0 v9))))] : va_W) ++ (VW dA h ad u))) → va_S A s.heap H1 locs1 → lv_has ls1 8 [(4, .int (nI (i + 6))), (3, .ref o), (2, .ref mm), (1, .ref h), (0, .ref b)] → W p l e room_1 s m #[Value.ref b] below meth c H1 locs1 (cells + mc9 + 0 + 0) (slots + ms9 + 0 + 0) (lw_Z below #[Value.ref b] s) (F0 m 23 ls1 [])) : W p l e room_1 s m #[Value.ref b] below meth c H locs cells slots (lw_Z below #[Value.ref b] s) (F0 m 344 ls []) := by
  have hC0 := hC
  obtain ⟨hx, hb, hr, hml, hown, hlk, hE, hK, hA, hN, hZ, hT, hX, hbl, hbA, hnew, htr⟩ := hC
  refine lv_aload_n hx hb d_SeriesVaultLaw_law_344 rfl (lv_at hl 3 rfl) ?_
  refine lv_aload_n hx hb d_SeriesVaultLaw_law_345 rfl (lv_at hl 1 rfl) ?_
  have hPc : va_P D vwCl (([(o, .inl (dA 2, 1, .inr (.inl og)))] : va_W) ++ (VW dA h ad x)) H := spP (wr := MW dA mm mad M) hP
  have hDc : va_D A (([(o, .inl (dA 2, 1, .inr (.inl og)))] : va_W) ++ (VW dA h ad x)) := spD (wr := MW dA mm mad M) hD
  refine jkI (wr := MW dA mm mad M) (rnW (As := [.ref h, .ref o]) (rest := []) hx hb hml hown hE hK (hN _ _ hS) hPc hDc (hW H.size) w1819 w1818 w1820 w1793 rfl rfl ⟨⟨by decide, by decide⟩, rfl⟩ ⟨(show fr1 + 1 ≤ 2048 by omega), (show 8 + (3 + 11) + lo1 ≤ 84000 by omega)⟩ rfl hl.1 rfl (Nat.le_of_ble_eq_true rfl) d_SeriesVaultLaw_law_346 ⟨(show cells + mc9 ≤ 601024 by omega), (show slots + ms9 ≤ 7293034 by omega)⟩) hP hD hS hA (fun k8 u8 H locs hp9 hP hD hS => ?_)
  obtain ⟨hp9, hf9⟩ := hp9
  replace hp9 : 0 = k8 := Eq.symm hp9
  subst hp9
  have hP : va_P D vwCl (MW dA mm mad M ++ (([(o, .inl (dA 2, 1, .inr (.inl (va_up og 0 v9))))] : va_W) ++ (VW dA h ad u8))) H := hP
  have hD : va_D A (MW dA mm mad M ++ (([(o, .inl (dA 2, 1, .inr (.inl (va_up og 0 v9))))] : va_W) ++ (VW dA h ad u8))) := hD
  refine lv_istore hx hb d_SeriesVaultLaw_law_349 hl (by decide) rfl (fun ls hl => ?_)
  have hl : lv_has ls 8 [(5, .int 0), (4, .int (nI i)), (3, .ref o), (2, .ref mm), (1, .ref h), (0, .ref b)] := hl
  refine lv_aload_n hx hb d_SeriesVaultLaw_law_351 rfl (lv_at hl 3 rfl) ?_
  have hP := pmP (show List.Perm (α := Nat × va_E) (MW dA mm mad M ++ (([(o, .inl (dA 2, 1, .inr (.inl (va_up og 0 v9))))] : va_W) ++ (VW dA h ad u8))) (([(o, .inl (dA 2, 1, .inr (.inl (va_up og 0 v9))))] : va_W) ++ (MW dA mm mad M ++ (VW dA h ad u8))) from List.perm_append_comm_assoc (MW dA mm mad M) (([(o, .inl (dA 2, 1, .inr (.inl (va_up og 0 v9))))] : va_W)) (VW dA h ad u8)) hP
  have hD := pmD (show List.Perm (α := Nat × va_E) (MW dA mm mad M ++ (([(o, .inl (dA 2, 1, .inr (.inl (va_up og 0 v9))))] : va_W) ++ (VW dA h ad u8))) (([(o, .inl (dA 2, 1, .inr (.inl (va_up og 0 v9))))] : va_W) ++ (MW dA mm mad M ++ (VW dA h ad u8))) from List.perm_append_comm_assoc (MW dA mm mad M) (([(o, .inl (dA 2, 1, .inr (.inl (va_up og 0 v9))))] : va_W)) (VW dA h ad u8)) hD
  have hP := pmP (show List.Perm (α := Nat × va_E) (([(o, .inl (dA 2, 1, .inr (.inl (va_up og 0 v9))))] : va_W) ++ (MW dA mm mad M ++ (VW dA h ad u8))) (([(o, .inl (dA 2, 1, .inr (.inl (va_up og 0 v9))))] : va_W) ++ (VW dA h ad u8 ++ (MW dA mm mad M))) from List.Perm.append_left (([(o, .inl (dA 2, 1, .inr (.inl (va_up og 0 v9))))] : va_W)) (List.perm_append_comm)) hP
  have hD := pmD (show List.Perm (α := Nat × va_E) (([(o, .inl (dA 2, 1, .inr (.inl (va_up og 0 v9))))] : va_W) ++ (MW dA mm mad M ++ (VW dA h ad u8))) (([(o, .inl (dA 2, 1, .inr (.inl (va_up og 0 v9))))] : va_W) ++ (VW dA h ad u8 ++ (MW dA mm mad M))) from List.Perm.append_left (([(o, .inl (dA 2, 1, .inr (.inl (va_up og 0 v9))))] : va_W)) (List.perm_append_comm)) hD
  have hPc : va_P D vwCl (MW dA mm mad M) H := spP (wr := ([(o, .inl (dA 2, 1, .inr (.inl (va_up og 0 v9))))] : va_W) ++ (VW dA h ad u8)) hP
  have hDc : va_D A (MW dA mm mad M) := spD (wr := ([(o, .inl (dA 2, 1, .inr (.inl (va_up og 0 v9))))] : va_W) ++ (VW dA h ad u8)) hD
  refine jkI (wr := ([(o, .inl (dA 2, 1, .inr (.inl (va_up og 0 v9))))] : va_W) ++ (VW dA h ad u8)) (rnV (As := []) (rest := []) hx hb hml hown hE hK (hN _ _ hS) hPc hDc (hM H.size) (q0 := 0) rfl rfl w1822 w1821 w1823 w1824 w328 rfl rfl ⟨⟨by decide, by decide⟩, rfl⟩ ⟨(show fr2 + 1 ≤ 2048 by omega), (show 8 + (5 + 11) + lo2 ≤ 84000 by omega)⟩ rfl hl.1 rfl (Nat.le_of_ble_eq_true rfl) d_SeriesVaultLaw_law_352 ⟨(show cells + mc9 + 0 ≤ 601024 by omega), (show slots + ms9 + 0 ≤ 7293034 by omega)⟩) hP hD hS hA (fun r7 u7 H locs hp9 hP hD hS => ?_)
  obtain ⟨hp9, hg9⟩ := hp9
  replace hp9 : b9 = r7 := Eq.symm hp9
  subst hp9
  have hP : va_P D vwCl (([(o, .inl (dA 2, 1, .inr (.inl (va_up og 0 v9))))] : va_W) ++ (VW dA h ad u8 ++ (MW dA mm mad u7))) H := hP
  have hD : va_D A (([(o, .inl (dA 2, 1, .inr (.inl (va_up og 0 v9))))] : va_W) ++ (VW dA h ad u8 ++ (MW dA mm mad u7))) := hD
  refine lv_istore hx hb d_SeriesVaultLaw_law_355 hl (by decide) rfl (fun ls hl => ?_)
  have hl : lv_has ls 8 [(6, .int b9), (5, .int 0), (4, .int (nI i)), (3, .ref o), (2, .ref mm), (1, .ref h), (0, .ref b)] := hl
  refine lv_aload_n hx hb d_SeriesVaultLaw_law_357 rfl (lv_at hl 4 rfl) ?_
  have hPc : va_P D vwCl (MW dA mm mad u7) H := spP (wr := ([(o, .inl (dA 2, 1, .inr (.inl (va_up og 0 v9))))] : va_W) ++ (VW dA h ad u8)) hP
  have hDc : va_D A (MW dA mm mad u7) := spD (wr := ([(o, .inl (dA 2, 1, .inr (.inl (va_up og 0 v9))))] : va_W) ++ (VW dA h ad u8)) hD
  refine jkI (wr := ([(o, .inl (dA 2, 1, .inr (.inl (va_up og 0 v9))))] : va_W) ++ (VW dA h ad u8)) (rnV (As := []) (rest := []) hx hb hml hown hE hK (hN _ _ hS) hPc hDc (k_thrown l D dA H.size mm mad u7) (q0 := 0) rfl rfl w1801 w1800 w1802 w1803 w328 rfl rfl ⟨⟨by decide, by decide⟩, rfl⟩ ⟨(show 1 + 1 ≤ 2048 by omega), (show 8 + (1 + 11) + 0 ≤ 84000 by omega)⟩ rfl hl.1 rfl (Nat.le_of_ble_eq_true rfl) d_SeriesVaultLaw_law_358 ⟨(show cells + mc9 + 0 ≤ 601024 by omega), (show slots + ms9 + 0 ≤ 7293034 by omega)⟩) hP hD hS hA (fun r7 u6 H locs hp9 hP hD hS => ?_)
  replace hp9 : 0 = r7 := Eq.symm (hp9.trans (hcod u7 hg9))
  subst hp9
  have hP : va_P D vwCl (([(o, .inl (dA 2, 1, .inr (.inl (va_up og 0 v9))))] : va_W) ++ (VW dA h ad u8 ++ (MW dA mm mad u7))) H := hP
  have hD : va_D A (([(o, .inl (dA 2, 1, .inr (.inl (va_up og 0 v9))))] : va_W) ++ (VW dA h ad u8 ++ (MW dA mm mad u7))) := hD
  refine lv_iload hx hb d_SeriesVaultLaw_law_361 (lv_at hl 1 rfl) ?_
  refine lv_icmp_eq hx hb d_SeriesVaultLaw_law_363 (tgt := 368) rfl (fun _ => ?_) (fun h9 => absurd rfl h9)
  refine lv_iload hx hb d_SeriesVaultLaw_law_368 (lv_at hl 1 rfl) ?_
  refine lv_if_ne hx hb d_SeriesVaultLaw_law_370 (tgt := 385) rfl (fun h9 => absurd (by decide) h9) (fun _ => ?_)
  refine lv_aload_n hx hb d_SeriesVaultLaw_law_373 rfl (lv_at hl 3 rfl) ?_
  refine lv_iconst (v := 0) hx hb d_SeriesVaultLaw_law_374 (by decide) ?_
  refine nlld (f := (va_up og 0 v9)) (n := 1) hx hb hK hP (0) 2 rfl rfl (0) (by decide) (by decide) d_SeriesVaultLaw_law_375 ?_
  refine tpl (y := v9) (va_up_self _ _ _) ?_
  refine lv_iload hx hb d_SeriesVaultLaw_law_376 (lv_at hl 0 rfl) ?_
  refine lv_i2l hx hb d_SeriesVaultLaw_law_378 rfl ?_
  refine W.lcmp hx hb d_SeriesVaultLaw_law_379 ?_
  refine lv_if_eq hx hb d_SeriesVaultLaw_law_380 (tgt := 385) rfl (fun _ => ?_) (fun h9 => absurd ((lg_cmp_eq _ _).mpr hv) h9)
  refine lv_goto hx hb d_SeriesVaultLaw_law_385 (tgt := 1770) rfl ?_
  refine lv_iinc (k := 2) (v := nI (i + 6)) hx hb d_SeriesVaultLaw_law_1770 hl rfl (iincN (i) 6 6 (by decide)) (by decide) rfl (fun ls hl => ?_)
  have hl : lv_has ls 8 [(4, .int (nI (i + 6))), (6, .int b9), (5, .int 0), (3, .ref o), (2, .ref mm), (1, .ref h), (0, .ref b)] := hl
  refine lv_goto hx hb d_SeriesVaultLaw_law_1773 (tgt := 23) rfl ?_
  have hP := pmP (show List.Perm (α := Nat × va_E) (([(o, .inl (dA 2, 1, .inr (.inl (va_up og 0 v9))))] : va_W) ++ (VW dA h ad u8 ++ (MW dA mm mad u7))) (MW dA mm mad u7 ++ (([(o, .inl (dA 2, 1, .inr (.inl (va_up og 0 v9))))] : va_W) ++ (VW dA h ad u8))) from (List.Perm.append_left (([(o, .inl (dA 2, 1, .inr (.inl (va_up og 0 v9))))] : va_W)) (List.perm_append_comm)).trans (List.perm_append_comm_assoc (([(o, .inl (dA 2, 1, .inr (.inl (va_up og 0 v9))))] : va_W)) (MW dA mm mad u7) (VW dA h ad u8))) hP
  have hD := pmD (show List.Perm (α := Nat × va_E) (([(o, .inl (dA 2, 1, .inr (.inl (va_up og 0 v9))))] : va_W) ++ (VW dA h ad u8 ++ (MW dA mm mad u7))) (MW dA mm mad u7 ++ (([(o, .inl (dA 2, 1, .inr (.inl (va_up og 0 v9))))] : va_W) ++ (VW dA h ad u8))) from (List.Perm.append_left (([(o, .inl (dA 2, 1, .inr (.inl (va_up og 0 v9))))] : va_W)) (List.perm_append_comm)).trans (List.perm_append_comm_assoc (([(o, .inl (dA 2, 1, .inr (.inl (va_up og 0 v9))))] : va_W)) (MW dA mm mad u7) (VW dA h ad u8))) hD
  have hP : va_P D vwCl (MW dA mm mad u7 ++ (([(o, .inl (dA 2, 1, .inr (.inl (va_up og 0 v9))))] : va_W) ++ (VW dA h ad u8))) H := hP
  have hD : va_D A (MW dA mm mad u7 ++ (([(o, .inl (dA 2, 1, .inr (.inl (va_up og 0 v9))))] : va_W) ++ (VW dA h ad u8))) := hD
  have hl := lv_sub (l' := [(4, .int (nI (i + 6))), (3, .ref o), (2, .ref mm), (1, .ref h), (0, .ref b)]) hl [0, 3, 4, 5, 6] rfl
  exact cont u8 u7 H locs ls hf9 hg9 hP hD hS hl
end
section
/-! Series: the text read and laid. -/
theorem rdC_l {f : Nat → Int32} {len : Nat} : ∀ {w q c c' : Nat} {S E V S' E' V' : Nat → Nat}, q ≤ len → lbOk len c S E V → c ≤ 6 → rdC f len w q c S E V = .inr (c', S', E', V') → lbOk len c' S' E' V' ∧ c' ≤ 6
  | 0, q, c, c', S, E, V, S', E', V', _, _, _, h => by cases h
  | w + 1, q, c, c', S, E, V, S', E', V', hq, hl, hc, h => by
    cases hr : rlC f len q c S E with
    | inl a => rw [rd_x hr] at h; cases h
    | inr p =>
      obtain ⟨a, b⟩ := p
      obtain ⟨h6, h1, h2, h3, h4, h5, -⟩ := rl_in hq hr
      have hs := lbOk_s hl h1 h2 h3 h4 h5
      rw [rd_s hr] at h
      by_cases k1 : b = len
      · rw [if_pos k1] at h
        injection h with h
        injection h with e1 h
        injection h with e2 h
        injection h with e3 e4
        subst e1 e2 e3 e4
        exact ⟨hs, by omega⟩
      · rw [if_neg k1] at h
        by_cases k2 : f b = 44
        · rw [if_pos k2] at h
          exact rdC_l (by omega) hs (by omega) h
        · rw [if_neg k2] at h
          cases h
theorem wd_61 {v : Int32} (h : isWd v = true) : ¬ v = 61 ∧ ¬ v = 44 := by
  refine ⟨fun e => ?_, fun e => ?_⟩
  · rw [e] at h
    exact absurd h (by decide)
  · rw [e] at h
    exact absurd h (by decide)
theorem asc_by : ∀ n : Nat, n < 128 → (nI n).toInt8.toInt32 = nI n := by decide +kernel
theorem asc_jp {S : List LB} (h : ∀ i, i < S.length → asc (lab S i).1 ∧ asc (lab S i).2) : ∀ i, i ≤ S.length → asc (joinP S i)
  | 0, _ => fun v hv => absurd hv List.not_mem_nil
  | i + 1, hi => by
    have ih := asc_jp h i (by omega)
    obtain ⟨h1, h2⟩ := h i (by omega)
    intro v hv
    have hv : v ∈ joinP S i ++ ((if i = 0 then [] else [44]) ++ ((lab S i).1 ++ (61 :: (lab S i).2))) := hv
    rcases List.mem_append.mp hv with c | c
    · exact ih v c
    · rcases List.mem_append.mp c with c | c
      · by_cases e : i = 0
        · rw [if_pos e] at c
          exact absurd c List.not_mem_nil
        · rw [if_neg e] at c
          rw [List.mem_singleton.mp c]
          exact ⟨44, by decide, rfl⟩
      · rcases List.mem_append.mp c with c | c
        · exact h1 v c
        · rcases List.mem_cons.mp c with c | c
          · rw [c]
            exact ⟨61, by decide, rfl⟩
          · exact h2 v c
theorem jp_50 {S : List LB} (h : ∀ i, i < S.length → (lab S i).1.length ≤ 24 ∧ (lab S i).2.length ≤ 24) : ∀ i, i ≤ S.length → (joinP S i).length ≤ 50 * i
  | 0, _ => Nat.le_refl _
  | i + 1, hi => by
    have ih := jp_50 h i (by omega)
    obtain ⟨h1, h2⟩ := h i (by omega)
    have e := jp_len S i
    split at e
    · omega
    · omega
section SG2
variable {f : Nat → Int32} {len c : Nat} {S E V : Nat → Nat}
theorem srt_G (hq : labQ f c S E V) (hl : lbOk len c S E V) (hc : c ≤ 6) : serG (srtL f S E V c) ∧ asc (joinT (srtL f S E V c)) ∧ (joinT (srtL f S E V c)).length ≤ 303 := by
  have hk := srt_rk hq (fun k hk => by
    have := hl k hk
    omega) (Nat.le_refl c)
  have hlen : (srtL f S E V c).length = c := srtL_len f S E V c
  have hat : ∀ i, i < (srtL f S E V c).length → ∃ k, k < c ∧ lab (srtL f S E V c) i = rawL f S E V k := fun i hi => by
    rw [hlen] at hi
    obtain ⟨k, k1, k2⟩ := hk.2 i hi
    refine ⟨k, k1, ?_⟩
    rw [← k2]
    exact hk.1 k k1
  have hok := srt_sOk (f := f) hl hc
  have ha : ∀ i, i < (srtL f S E V c).length → asc (lab (srtL f S E V c) i).1 ∧ asc (lab (srtL f S E V c) i).2 := fun i hi => by
    obtain ⟨k, k1, k2⟩ := hat i hi
    obtain ⟨-, q2, q3, -⟩ := hq k k1
    rw [k2]
    exact ⟨asc_seg q2, asc_seg q3⟩
  refine ⟨⟨hok, fun i hi => ?_, fun i hi => (ha i hi).2⟩, asc_jp ha _ (Nat.le_refl _), ?_⟩
  · obtain ⟨k, k1, k2⟩ := hat i hi
    obtain ⟨-, q2, q3, -⟩ := hq k k1
    rw [k2]
    refine ⟨fun q hq' => ?_, fun q hq' => ?_⟩
    · have hq' : q < (seg f (S k) (E k)).length := hq'
      rw [seg_len] at hq'
      show ¬ (seg f (S k) (E k)).getD q 0 = 61
      rw [seg_get f hq']
      exact (wd_61 (q2 (S k + q) (by omega) (by omega))).1
    · have hq' : q < (seg f (E k + 1) (V k)).length := hq'
      rw [seg_len] at hq'
      show ¬ (seg f (E k + 1) (V k)).getD q 0 = 44
      rw [seg_get f hq']
      exact (wd_61 (q3 (E k + 1 + q) (by omega) (by omega))).2
  · have u := jp_50 hok.2 (srtL f S E V c).length (Nat.le_refl _)
    have u : (joinT (srtL f S E V c)).length ≤ 50 * (srtL f S E V c).length := u
    omega
end SG2
/-- a text's labels, walked through -/
theorem tx_q {S : List LB} {t : Nat → Int32} {b : Nat} (hw : serW S) (hs : serOk S) (hT : ∀ i, i < (joinT S).length → t (b + i) = (joinT S).getD i 0) : ∀ (d i w : Nat), S.length - i = d → i ≤ S.length → d ≤ w → txOK t (b + (joinT S).length) w (b + lbO S i) = true
  | 0, i, w, hd, hi, hwd => by
    have ei : i = S.length := by omega
    have hle : b + (joinT S).length ≤ b + lbO S i := by
      rw [ei]
      unfold lbO joinT
      omega
    cases w with
    | zero => exact decide_eq_true hle
    | succ w =>
      show (decide (b + (joinT S).length ≤ b + lbO S i) || _) = true
      rw [decide_eq_true hle]
      rfl
  | d + 1, i, w, hd, hi, hwd => by
    have il : i < S.length := by omega
    obtain ⟨A, X, ej, la, hX⟩ := jT_at il
    obtain ⟨w1, w2⟩ := hw i il
    have hv24 := (hs.2 i il).2
    obtain ⟨N, eN⟩ : ∃ N, N = (lab S i).1 := ⟨_, rfl⟩
    obtain ⟨V, eV⟩ : ∃ V, V = (lab S i).2 := ⟨_, rfl⟩
    rw [← eN] at w1 ej
    rw [← eV] at w2 ej hv24
    have hl : (joinT S).length = lbO S i + N.length + 1 + V.length + X.length := by
      rw [ej, List.length_append, List.length_append, List.length_cons, List.length_append, la]
      omega
    have A1 : ∀ q, q < N.length → t (b + lbO S i + q) = N.getD q 0 := fun q hq => by
      rw [Nat.add_assoc, hT _ (by omega), ej, ← la, gd_r, gd_l _ _ hq]
    have A2 : t (b + lbO S i + N.length) = 61 := by
      rw [Nat.add_assoc, hT _ (by omega), ej, ← la, gd_r]
      have := gd_r N (61 :: (V ++ X)) 0
      rw [Nat.add_zero] at this
      rw [this]
      rfl
    have A3 : ∀ q, t (b + lbO S i + N.length + (1 + q)) = (V ++ X).getD q 0 ∨ ¬ q < (V ++ X).length := fun q => by
      by_cases hq : q < (V ++ X).length
      · refine Or.inl ?_
        rw [List.length_append] at hq
        rw [show b + lbO S i + N.length + (1 + q) = b + (lbO S i + (N.length + (q + 1))) by omega, hT _ (by omega), ej, ← la, gd_r, gd_r]
        rfl
      · exact Or.inr hq
    have A4 : ∀ q, q < V.length → t (b + lbO S i + N.length + (1 + q)) = V.getD q 0 := fun q hq => by
      rw [(A3 q).resolve_right (by rw [List.length_append]; omega), gd_l _ _ hq]
    have E1 : eqP t (b + (joinT S).length) (b + lbO S i) = b + lbO S i + N.length := fb_at (fun q hq => by rw [A1 q hq]; exact w1 q hq) (Or.inr ⟨by omega, A2⟩)
    have E2 : cmP t (b + (joinT S).length) (b + lbO S i + N.length) = b + lbO S i + N.length + (1 + V.length) := by
      refine fb_at (fun q hq => ?_) ?_
      · cases q with
        | zero => rw [Nat.add_zero, A2]; decide
        | succ q =>
          rw [Nat.add_comm q 1, A4 q (by omega)]
          exact w2 q (by omega)
      · rcases hX with ⟨_, e⟩ | ⟨_, Y, e⟩
        · refine Or.inl ?_
          rw [e] at hl
          have hl : (joinT S).length = lbO S i + N.length + 1 + V.length + 0 := hl
          omega
        · refine Or.inr ⟨?_, ?_⟩
          · rw [e, List.length_cons] at hl
            omega
          · rw [(A3 V.length).resolve_right (by rw [e, List.length_append, List.length_cons]; omega), e]
            have := gd_r V (44 :: Y) 0
            rw [Nat.add_zero] at this
            rw [this]
            rfl
    obtain ⟨w', rfl⟩ : ∃ w', w = w' + 1 := ⟨w - 1, by omega⟩
    have hk : ¬ b + (joinT S).length ≤ b + lbO S i := by omega
    have e3 : b + lbO S i + N.length + (1 + V.length) + 1 = b + lbO S (i + 1) := by
      have q1 := jp_len S i
      rw [← eN, ← eV] at q1
      unfold lbO
      rw [if_neg (Nat.succ_ne_zero i)]
      unfold lbO at hk
      split at q1
      · rename_i g
        rw [if_pos g]
        omega
      · rename_i g
        rw [if_neg g]
        omega
    have ih := tx_q hw hs hT d (i + 1) w' (by omega) (by omega) (by omega)
    show (decide (b + (joinT S).length ≤ b + lbO S i) || (decide (eqP t (b + (joinT S).length) (b + lbO S i) < b + (joinT S).length) && (decide (cmP t (b + (joinT S).length) (eqP t (b + (joinT S).length) (b + lbO S i)) ≤ eqP t (b + (joinT S).length) (b + lbO S i) + 25) && txOK t (b + (joinT S).length) w' (cmP t (b + (joinT S).length) (eqP t (b + (joinT S).length) (b + lbO S i)) + 1)))) = true
    rw [E1, E2, e3, ih, decide_eq_true (show b + lbO S i + N.length < b + (joinT S).length by omega), decide_eq_true (show b + lbO S i + N.length + (1 + V.length) ≤ b + lbO S i + N.length + 25 by omega), Bool.and_true, Bool.and_true, Bool.or_true]
theorem tx_ok {x : MS} {n : Nat} {SS : Nat → List LB} (hx : txR x.texts x.textLengths n SS) (hg : ∀ q, q < n → serG (SS q)) (hn : n ≤ 256) : ∀ q, q < n → x.tOK q := fun q hq => by
  obtain ⟨h1, h2, h3⟩ := hx q hq
  obtain ⟨g1, g2, g3⟩ := hg q hq
  have u := tx_q (t := x.texts) (b := 304 * q) g2 g1 h3 _ 0 7 rfl (Nat.zero_le _) (by
    have := g1.1
    omega)
  refine ⟨by omega, by omega, ?_⟩
  rw [h1]
  exact u
section LY
variable {dA : Nat → ClassId} {ad : Nat → Nat} {e0 n : Nat} {x y z : VS} {m M : MS} {cs ss cs' ss' : Nat} {PS : Nat → PT} {SS : Nat → List LB} {dn bn : Nat → Nat} {gq : LI} {rq : va_W} {la : Nat → Nat} {gk : LI} {AT : Nat → Nat → Nat} {T : Nat → TB} {c : Nat} {g fS fE fV : Nat → Nat} {pl1 : va_W}
/-- the text laid: bytes -/
theorem by_ly (hr : labR c g fS fE fV) (hq : labQ M.tape c fS fE fV) (ha : asc (joinT (srtL M.tape fS fE fV c))) (hb : byteF M.texts) : byteF (M.rdS c g).lyS.texts := by
  obtain ⟨h1, h2, h3⟩ := lay_j (x := M.rdS c g) (S := fS) (E := fE) (V := fV) hr hq (Nat.le_refl _)
  have ej : joinT (srtL M.tape fS fE fV c) = joinP (srtL M.tape fS fE fV c) c := by unfold joinT; rw [srtL_len]
  intro j
  show (((M.rdS c g).layT c).1 j).toInt8.toInt32 = ((M.rdS c g).layT c).1 j
  have h2 : ∀ i, i < (joinP (srtL M.tape fS fE fV c) c).length → ((M.rdS c g).layT c).1 (304 * M.seriesCount + i) = (joinP (srtL M.tape fS fE fV c) c).getD i 0 := h2
  have h3 : ∀ j, (j < 304 * M.seriesCount ∨ 304 * M.seriesCount + (joinP (srtL M.tape fS fE fV c) c).length ≤ j) → ((M.rdS c g).layT c).1 j = M.texts j := h3
  by_cases d : j < 304 * M.seriesCount ∨ 304 * M.seriesCount + (joinP (srtL M.tape fS fE fV c) c).length ≤ j
  · rw [h3 j d]
    exact hb j
  · obtain ⟨i, hi, ei⟩ : ∃ i, i < (joinP (srtL M.tape fS fE fV c) c).length ∧ j = 304 * M.seriesCount + i := ⟨j - 304 * M.seriesCount, by omega, by omega⟩
    rw [ei, h2 i hi]
    obtain ⟨k, hk, ek⟩ := ha ((joinP (srtL M.tape fS fE fV c) c).getD i 0) (by
      rw [ej, gD_el hi]
      exact List.getElem_mem hi)
    rw [ek]
    exact asc_by k hk
/-- the series' texts, the new one laid behind them -/
theorem rlS_ly (a3 : rlS dA SS M x) (hn : M.seriesCount ≤ 256) (hr : labR c g fS fE fV) (hq : labQ M.tape c fS fE fV) (ha : asc (joinT (srtL M.tape fS fE fV c))) : rlS dA SS (M.rdS c g).lyS x := by
  obtain ⟨s1, s2, s3, s4, s5⟩ := a3
  obtain ⟨-, l2, -, -⟩ := lay_nu (x := M.rdS c g) (S := fS) (E := fE) (V := fV) hr hq s1
  exact ⟨l2, s2, s3, by_ly hr hq ha s4, fun q hq => ⟨tx_ok (x := (M.rdS c g).lyS) l2 s2 hn q hq, (s5 q hq).2⟩⟩
/-- a text with a fault -/
theorem rl_sf (h : Rl dA ad e0 n x M cs ss) (hn : n + 1 ≤ 512) (nl : Nat) (fS fE fV a1 : Nat → Nat) (a2 : Nat) (kf : Int32) (pf : Nat) : Rl dA ad e0 (n + 1) (x.sfS nl fS fE fV kf pf) ((((((M.s_cod 0).s_length 0).s_faultCode kf).s_faultPlace (nI pf)).s_labels a1).s_labelCount a2) cs ss := by
  have h := rl_end h hn (Nat.zero_le x.tapeLength)
  obtain ⟨PS, SS, dn, bn, gq, rq, la, gk, AT, T, b1, ⟨t1, t2, t3, t4⟩, b3, b4, b5, b6⟩ := h
  exact ⟨PS, SS, dn, bn, gq, rq, la, gk, AT, T, b1, ⟨t1, t2, ⟨rfl, rfl⟩, t4⟩, b3, b4, b5, b6⟩
/-- a series that is there -/
theorem rl_so (h : Rl dA ad e0 n x M cs ss) (hn : n + 1 ≤ 512) (hr : labR c g fS fE fV) (hq : labQ M.tape c fS fE fV) (ha : asc (joinT (srtL M.tape fS fE fV c))) (hs : ∀ z, z ∈ x.pl → z ∈ pl1) (hc : cs' ≤ cs + 100) (hs' : ss' ≤ ss + 5000) (nl : Nat) : Rl dA ad e0 (n + 1) (x.soS nl fS fE fV pl1) (((M.rdS c g).lyS).s_length 0) cs' ss' := by
  obtain ⟨PS, SS, dn, bn, gq, rq, la, gk, AT, T, b1, ⟨⟨t1, t2, t3, t4⟩, ⟨t5, t6, t7⟩, t8, t9⟩, b3, b4, b5, b6, b7, b8⟩ := h
  have k3 := rlS_m (pl1 := pl1) hs (rlS_ly b3 (by
    have q1 := b1.2.2.1.1
    have q2 := b4.1.1
    omega) hr hq ha)
  have k4 := rlN_m hs b4
  obtain ⟨n1, n2, n3, ⟨n4, n5, n6, n7⟩, ⟨n8, n9, n10, n11⟩, n12⟩ := b4
  obtain ⟨m1, m2⟩ := k4
  refine ⟨PS, SS, dn, bn, gq, rq, la, gk, AT, T, b1, ⟨⟨t1, rfl, t3, t4⟩, ⟨Nat.zero_le _, t6, t7⟩, ⟨rfl, rfl⟩, t9⟩, k3, ⟨m1, n2, n3, ⟨?_, ?_, ?_, n7⟩, ⟨by show x.writes ≤ 300 * (n + 1); omega, by show M.deletes ≤ 1300 * (n + 1); omega, by show M.parcelNumber ≤ n + 1; omega, n11⟩, n12⟩, rlA_m hs b5, hn, ?_, ?_⟩
  · show 16 * x.jsize + 0 ≤ 32 * (n + 1)
    omega
  · show 16 * x.hsize + 0 ≤ 32 * (n + 1)
    omega
  · show 16 * (cnt M.points M.pkd + cnt x.jsize (fun r => decide (x.jK r = 1))) + 0 ≤ 32 * (n + 1)
    omega
  · show cs' + 17 * 0 ≤ 2000 + 400 * (n + 1) + 6 * x.jN + 3 * x.hN + 3 * x.gN + x.tpN
    omega
  · show ss' + 70 * 0 ≤ 1177800 + 6000 * (n + 1) + 12 * x.jN + 6 * x.hN + 6 * x.gN + 2 * x.tpN + (700 * gk.sz + 2 * sumN gk.sz (fun tb => (T tb).cN) + 4 * x.bN)
    omega
/-- a new series that is refused -/
theorem rl_sb (h : Rl dA ad e0 n x M cs ss) (hn : n + 1 ≤ 512) (hr : labR c g fS fE fV) (hq : labQ M.tape c fS fE fV) (ha : asc (joinT (srtL M.tape fS fE fV c))) (hs : ∀ z, z ∈ x.pl → z ∈ pl1) (hc : cs' ≤ cs + 100) (hs' : ss' ≤ ss + 5000) (nl : Nat) (cd : Int32) : Rl dA ad e0 (n + 1) (x.sbS nl fS fE fV pl1) ((((M.rdS c g).lyS.s_cod cd).s_faultCode M.faultCode).s_faultPlace M.faultPlace) cs' ss' := by
  obtain ⟨PS, SS, dn, bn, gq, rq, la, gk, AT, T, b1, b2, b3, b4, b5, b6, b7, b8⟩ := h
  have k3 := rlS_m (pl1 := pl1) hs (rlS_ly b3 (by
    have q1 := b1.2.2.1.1
    have q2 := b4.1.1
    omega) hr hq ha)
  exact ⟨PS, SS, dn, bn, gq, rq, la, gk, AT, T, b1, b2, k3, rlN_up (rlN_m hs b4), rlA_m hs b5, hn, by show cs' + 17 * x.tapeLength ≤ 2000 + 400 * (n + 1) + 6 * x.jN + 3 * x.hN + 3 * x.gN + x.tpN; omega, by show ss' + 70 * x.tapeLength ≤ 1177800 + 6000 * (n + 1) + 12 * x.jN + 6 * x.hN + 6 * x.gN + 2 * x.tpN + (700 * gk.sz + 2 * sumN gk.sz (fun tb => (T tb).cN) + 4 * x.bN); omega⟩
theorem jO_0 (h : joR PS x) {r : Nat} (hr : r < x.jsize) (hk : x.jK r = 0) : x.jO r < x.nser := by
  obtain ⟨o1, o2, -⟩ := h
  have u := (o2 r hr).2.1 hk
  have u2 := rp_up PS x.npc x.nhor (svA x) x.jK x.jO x.jF x.jS (r + 1) (x.jsize - (r + 1))
  rw [show r + 1 + (x.jsize - (r + 1)) = x.jsize by omega] at u2
  have u3 : (rpV PS x (r + 1)).1 ≤ (rpV PS x x.jsize).1 := u2.1
  rw [o1.1] at u3
  have u4 : (rpV PS x (r + 1)).1 = (rpV PS x r).1 + 1 := by
    show (rpS PS x.npc x.nhor (rpV PS x r) (x.jK r) (x.jO r) (x.jF r) (x.jS r)).1 = _
    unfold rpS
    rw [if_pos hk]
  omega
/-- a new series -/
theorem rl_sn {nt u mp nl : Nat} {ja : Nat → Nat} (a1 : coR M x PS dn bn) (a2 : rlT M x) (a3 : rlS dA SS M x) (a4 : rlN dA PS M x n) (a5 : rlA dA ad e0 M x gq rq la gk AT T) (ar : rlR x gk T n cs ss) (hn : n + 1 ≤ 512) (hr : labR c g fS fE fV) (hq : labQ M.tape c fS fE fV) (hG : serG (srtL M.tape fS fE fV c) ∧ asc (joinT (srtL M.tape fS fE fV c)) ∧ (joinT (srtL M.tape fS fE fV c)).length ≤ 303) (hs : ∀ z, z ∈ x.pl → z ∈ pl1) (hnt : nt = (joinT (srtL M.tape fS fE fV c)).length) (hu : u ≤ 126) (hx0 : x.nser < 256) (hro : x.room u = true) (hmp : isSer dA pl1 mp (srtL M.tape fS fE fV c)) : Rl dA ad e0 (n + 1) ((((x.sbS nl fS fE fV pl1).wrF ja 0 x.nser u 0 0).anS mp).ft0) (((((M.rdS c g).lyS).recS 0 M.seriesCount (lN nt) 0 u).nwS M.seriesCount nt).s_length 0) (cs + (32 + 6 * (x.jcap - x.jN)) + 0 + 0) (ss + (930 + 12 * (x.jcap - x.jN)) + 0 + 0) := by
  obtain ⟨a6, a7, a8⟩ := ar
  obtain ⟨⟨n1, n2, n3, n4⟩, ⟨n5, n6, n7⟩, ⟨n8, n9, n10, n11, n12, n13, n14, n15⟩, ⟨n16, n17, n18, n19⟩, ⟨n20, n21, n22, n23⟩, n24⟩ := a4
  obtain ⟨hG1, hG2, hG3⟩ := hG
  have se1 : M.seriesCount = x.nser := a1.2.2.1.1
  have g1 : M.records = x.jsize := a1.2.2.2.1.1
  have g11 := a1.2.2.2.1.2.2.2.2.2.2.2.2.2.2
  have hjc : x.jN ≤ x.jcap ∧ x.jsize + 1 ≤ x.jcap ∧ x.jcap ≤ 4096 := by
    unfold VS.jcap
    split <;> omega
  have hlm : x.jlimit ≤ 256 := by
    have := a2.2.2.2.2.1
    omega
  have co0 : coR (M.rdS c g).lyS (x.sbS nl fS fE fV pl1) PS dn bn := a1
  have co' := se_co (ja := ja) (n := u) (a' := lN nt) (b' := 0) (tl := nt) (mp := mp) co0 ⟨n8, n9⟩ rfl
  have wf := wr_F (x.sbS nl fS fE fV pl1) ja 0 x.nser u 0 0 n8 n9 n7 hro hu
  have ws := wr_same (x.sbS nl fS fE fV pl1) ja 0 x.nser u 0 0
  have wg := wr_fg (x.sbS nl fS fE fV pl1) ja 0 x.nser u 0 0 n8 n9 n7 hro hu n24.1.1
  have wk := wrF_k (x.sbS nl fS fE fV pl1) ja 0 x.nser u 0 0
  have k3 := rlS_ly (x := x) a3 (by omega) hr hq hG2
  have kp := wr_keep (x := x.sbS nl fS fE fV pl1) (ja := ja) (kd := 0) (w := x.nser) (k := u) (a := 0) (b := 0) (m := (((M.rdS c g).lyS).s_faultCode M.faultCode).s_faultPlace M.faultPlace) (SS := SS) (dA := dA) (ad := ad) (e0 := e0) (gq := gq) (rq := rq) (la := la) (gk := gk) (AT := AT) (T := T) (And.intro (show rlT ((((M.rdS c g).lyS).s_faultCode M.faultCode).s_faultPlace M.faultPlace) (x.sbS nl fS fE fV pl1) from a2) (And.intro (show rlS dA SS ((((M.rdS c g).lyS).s_faultCode M.faultCode).s_faultPlace M.faultPlace) (x.sbS nl fS fE fV pl1) from rlS_m (x := x) hs k3) (show rlA dA ad e0 ((((M.rdS c g).lyS).s_faultCode M.faultCode).s_faultPlace M.faultPlace) (x.sbS nl fS fE fV pl1) gq rq la gk AT T from rlA_m (x := x) hs a5)))
  obtain ⟨y, ey⟩ : ∃ y, y = (x.sbS nl fS fE fV pl1).wrF ja 0 x.nser u 0 0 := ⟨_, rfl⟩
  have co' : coR (((M.rdS c g).lyS.recS 0 M.seriesCount (lN nt) 0 u).nwS M.seriesCount nt) (((x.sbS nl fS fE fV pl1).wrF ja 0 x.nser u 0 0).anS mp) PS dn bn := co'
  rw [← ey] at co' wf ws wg wk kp ⊢
  obtain ⟨⟨s1, s2, s3, s4, s5, s6, s7, s8, s9, s10, s11, s12⟩, s13, s14⟩ := ws
  obtain ⟨⟨f1, f2, f3, f4, f5⟩, f6, f7, f8, f9, f10⟩ := wf
  obtain ⟨w1, w2, w3, w4⟩ := wk
  obtain ⟨⟨⟨t1, t2, t3, t4⟩, ⟨t5, t6, t7⟩, t8, t9⟩, -, kA⟩ := kp
  have s1 : y.nser = x.nser := s1
  have s2 : y.npc = x.npc := s2
  have s3 : y.nsc = x.nsc := s3
  have s4 : y.nP = x.nP := s4
  have s5 : y.pl = pl1 := s5
  have s6 : y.ncat = x.ncat := s6
  have s7 : y.diskBlocks = x.diskBlocks := s7
  have s8 : y.gN = x.gN := s8
  have s10 : y.tpN = x.tpN := s10
  have s11 : y.bN = x.bN := s11
  have s12 : y.jlimit = x.jlimit := s12
  have s13 : y.hsize = x.hsize := s13
  have s14 : y.hN = x.hN := s14
  have f1 : y.jsize = x.jsize + 1 := f1
  have f2 : y.jN = x.jcap := f2
  have f4 : y.jblock < x.jlimit := f4
  have f5 : y.writes ≤ x.writes + 1 := f5
  have f6 : ∀ q, q < x.jsize → y.jK q = x.jK q ∧ y.jU q = x.jU q ∧ y.jB q = x.jB q ∧ y.jO q = x.jO q := f6
  have f7 : y.jK x.jsize = 0 := f7
  have f8 : y.jU x.jsize = u := f8
  have f9 : y.jB x.jsize < x.jlimit := f9
  have f10 : y.jO x.jsize = x.nser := f10
  have w2 : y.kn = x.kn := w2
  obtain ⟨l1, l2, l3, -⟩ := lay_nu (x := M.rdS c g) (S := fS) (E := fE) (V := fV) hr hq a3.1
  obtain ⟨M', eM⟩ : ∃ M', M' = (((((M.rdS c g).lyS).recS 0 M.seriesCount (lN nt) 0 u).nwS M.seriesCount nt).s_length 0) := ⟨_, rfl⟩
  have m1 : M'.points = M.points := by rw [eM]; rfl
  have m2 : M'.pkd = M.pkd := by rw [eM]; rfl
  have m3 : M'.deletes = M.deletes := by rw [eM]; rfl
  have m4 : M'.parcelNumber = M.parcelNumber := by rw [eM]; rfl
  have m5 : M'.pointSeries = M.pointSeries := by rw [eM]; rfl
  have m6 : M'.firsts = va_up M.firsts M.records (lN nt) := by rw [eM]; rfl
  have m7 : M'.recordSeries = va_up M.recordSeries M.records M.seriesCount := by rw [eM]; rfl
  have m8 : M'.textLengths = va_up M.textLengths M.seriesCount nt := by rw [eM]; rfl
  have m9 : M'.seriesCount = M.seriesCount + 1 := by rw [eM]; rfl
  have m10 : M'.texts = (M.rdS c g).lyS.texts := by rw [eM]; rfl
  have c2 : cnt y.jsize (fun r => decide (y.jK r = 1)) = cnt x.jsize (fun r => decide (x.jK r = 1)) + 0 := by
    rw [f1]
    exact cnt_kd (fun q hq => (f6 q hq).1) f7
  have hgs : ∀ q, q < M'.seriesCount → serG (va_up SS x.nser (srtL M.tape fS fE fV c) q) := fun q hq => by
    by_cases d : q = x.nser
    · rw [d, va_up_self]
      exact hG1
    · rw [va_up_ne _ _ d]
      exact a3.2.1 q (by omega)
  have htx : txR M'.texts M'.textLengths M'.seriesCount (va_up SS x.nser (srtL M.tape fS fE fV c)) := fun q hq => by
    rw [m10, m8, se1]
    by_cases d : q = x.nser
    · rw [d, va_up_self, va_up_self]
      refine ⟨hnt, hG3, fun i hi => ?_⟩
      rw [← se1]
      exact l3 i hi
    · rw [va_up_ne _ _ d, va_up_ne _ _ d]
      exact l2 q (by show q < M.seriesCount; omega)
  have kS : rlS dA (va_up SS x.nser (srtL M.tape fS fE fV c)) M' ((y.anS mp).ft0) := by
    refine ⟨htx, hgs, ?_, by rw [m10]; exact by_ly hr hq hG2 a3.2.2.2.1, fun q hq => ⟨tx_ok htx hgs (by omega) q hq, ?_⟩⟩
    · intro k hk
      have hk : k < y.nser + 1 := hk
      show ∃ a : Nat, va_up y.kn y.nser (some mp) k = some a ∧ isSer dA y.pl a (va_up SS x.nser (srtL M.tape fS fE fV c) k) ∧ serOk (va_up SS x.nser (srtL M.tape fS fE fV c) k)
      rw [s1, w2, s5]
      by_cases d : k = x.nser
      · rw [d, va_up_self, va_up_self]
        exact ⟨mp, rfl, hmp, hG1.1⟩
      · rw [va_up_ne _ _ d, va_up_ne _ _ d]
        exact knOk_m hs a3.2.2.1 k (by omega)
    · by_cases d : q = x.nser
      · rw [d, va_up_self]
        exact hG2
      · rw [va_up_ne _ _ d]
        exact (a3.2.2.2.2 q (by omega)).2
  have kT : rlT M' ((y.anS mp).ft0) := by
    rw [eM]
    exact ⟨⟨t1, rfl, t3, t4⟩, ⟨Nat.zero_le _, t6, t7⟩, ⟨rfl, rfl⟩, t9⟩
  have kA' : rlA dA ad e0 M' ((y.anS mp).ft0) gq rq la gk AT T := by
    rw [eM]
    exact kA
  have co2 : coR M' ((y.anS mp).ft0) PS dn bn := by
    rw [eM]
    exact co'
  rw [← eM]
  refine ⟨PS, va_up SS x.nser (srtL M.tape fS fE fV c), dn, bn, gq, rq, la, gk, AT, T, co2, kT, kS, ⟨⟨?_, ?_, ?_, ?_⟩, ⟨?_, f3, ?_⟩, ⟨?_, ?_, ?_, ?_, ?_, ?_, ?_, ?_⟩, ⟨?_, ?_, ?_, ?_⟩, ⟨?_, by omega, by omega, ?_⟩, ⟨fgX_c wg ⟨rfl, rfl, rfl, rfl, rfl, rfl⟩, ?_⟩, fun q hq => ?_⟩, kA', hn, ?_, ?_⟩
  · show y.nser + 1 ≤ 256
    omega
  · show y.npc ≤ 32
    omega
  · show y.nsc ≤ 64
    omega
  · show psOk dA y.nP y.npc y.pl PS
    rw [s4, s2, s5]
    exact psOk_m hs n4
  · show y.jlimit + 2 + (y.ncat + sumN y.npc (blN PS)) ≤ y.diskBlocks
    rw [s12, s6, s2, s7]
    exact n5
  · show y.jblock < y.jlimit
    omega
  · show y.jsize ≤ y.jN
    omega
  · show 0 < y.jN
    omega
  · show y.jN ≤ 4096
    omega
  · show y.hsize ≤ y.hN
    omega
  · show 0 < y.hN
    omega
  · show y.hN ≤ 4096
    omega
  · show 0 < y.gN
    omega
  · show y.gN ≤ 8192
    omega
  · show 16 * y.jsize + 0 ≤ 32 * (n + 1)
    omega
  · show 16 * y.hsize + 0 ≤ 32 * (n + 1)
    omega
  · show 16 * (cnt M'.points M'.pkd + cnt y.jsize (fun r => decide (y.jK r = 1))) + 0 ≤ 32 * (n + 1)
    rw [m1, m2]
    omega
  · show M'.points ≤ cnt M'.points M'.pkd + cnt y.jsize (fun r => decide (y.jK r = 1))
    rw [m1, m2]
    omega
  · show y.writes ≤ 300 * (n + 1)
    omega
  · rw [m1, m5]
    exact n23
  · intro r hr1 hr2
    have hr1 : r < y.jsize := hr1
    have hr2 : y.jK r = 0 := hr2
    rw [m6, m7, m8, g1]
    by_cases d : r = x.jsize
    · rw [d, va_up_self, va_up_self, va_up_self]
    · have hlt : r < x.jsize := by omega
      have hk : x.jK r = 0 := by rw [← (f6 r hlt).1]; exact hr2
      have hne : ¬ M.recordSeries r = M.seriesCount := by
        have e1 := (g11 r hlt).2.1
        have e2 := jO_0 a1.2.2.2.2.1 hlt hk
        omega
      rw [va_up_ne _ _ d, va_up_ne _ _ d, va_up_ne _ _ hne]
      exact n24.1.2 r hlt hk
  · have hq : q < y.jsize := hq
    show y.jU q ≤ 126 ∧ y.jB q < 65536 ∧ y.jO q < 256
    by_cases d : q = x.jsize
    · rw [d, f8, f10]
      exact ⟨hu, by omega, hx0⟩
    · obtain ⟨v1, v2, v3, v4⟩ := f6 q (by omega)
      rw [v2, v3, v4]
      exact n24.2 q (by omega)
  · show cs + (32 + 6 * (x.jcap - x.jN)) + 0 + 0 + 17 * 0 ≤ 2000 + 400 * (n + 1) + 6 * y.jN + 3 * y.hN + 3 * y.gN + y.tpN
    omega
  · show ss + (930 + 12 * (x.jcap - x.jN)) + 0 + 0 + 70 * 0 ≤ 1177800 + 6000 * (n + 1) + 12 * y.jN + 6 * y.hN + 6 * y.gN + 2 * y.tpN + (700 * gk.sz + 2 * sumN gk.sz (fun tb => (T tb).cN) + 4 * y.bN)
    omega
end LY
end
section
/-! Series: the call. -/
section CK3
variable {p : Program} {e : Env} {s : State} {m : MethodId} {below : List Frame} {meth : Method} {c : Code} {b L : Nat} {xs : Nat → Int32} {D : va_G} {dA : Nat → ClassId} {e0 : Nat} {A : Nat → Prop} {h : Nat} {ad : Nat → Nat} {mm : Nat} {mad : Nat → Nat} {o : Nat} {n : Nat} {x : VS} {M : MS} {cs ss : Nat}
theorem call_3 (l : Launch) (hC : lS p l s m meth c b L xs D dA e0 A) (hL : L ≤ 3072) (hi : 6 * n + 6 ≤ L) (hR : Rl dA ad e0 n x M cs ss) (cont : ∀ x' M' cs' ss', Rl dA ad e0 (n + 1) x' M' cs' ss' → At9 p l e s m below meth c b D dA A h ad mm mad o 23 (6 * n + 6) x' M' cs' ss') : At9 p l e s m below meth c b D dA A h ad mm mad o (tg9 3) (6 * n) x M cs ss := by
  intro og H locs ls hP hD hS hl
  obtain ⟨rm1, rm2⟩ := rl_room (rl_skip hR (by omega))
  obtain ⟨PS, SS, dn, bn, gq, rq, la, gk, AT, T, co, ⟨⟨t1, t2, t3, t4⟩, ⟨t5, t6, t7⟩, ⟨t8, t9⟩, t10, t11, t12⟩, ⟨sr1, sr2, sr3, sr4, sr5⟩, nr, ⟨⟨r1, r2, r3, r4⟩, r5, ⟨r6, r7⟩, ⟨r8, r9⟩, r10⟩, rr⟩ := id hR
  obtain ⟨cp, cb, ⟨se1, se2⟩, ⟨g1, g2, g3, g4, g5, g6, g7', g8, g9, g10, g11⟩, cj, ck, cc⟩ := id co
  obtain ⟨⟨n1, n2, n3, n4⟩, ⟨n5, n6, n7⟩, ⟨n8, n9, n10, n11, n12, n13, n14, n15⟩, ⟨n16, n17, n18, n19⟩, ⟨n20, n21, n22, n23⟩, n24⟩ := id nr
  cases hp : x.powered with
  | false =>
    have hr2 := rl_up (cs' := cs + 1 + 0 + 0) (ss' := ss + 6 + 0 + 0) hR (by omega) 1 (by omega) (by omega)
    obtain ⟨rn1, rn2⟩ := rl_room hr2
    have W1 := fun sz => k8_series_1 l D dA sz h ad o og x (fun u => u = x) _ _ _ _ (nf_x0 (fun sz => v_series_x l (lS_tr hC) D dA sz h ad x hp) rfl (fun _ _ _ q => q))
    have M1 := fun sz => k_series_1 l D dA sz mm mad M (t12.trans hp)
    exact l9_3_x l hC (k9 := 1) hi hL ⟨by omega, by omega, by omega, by omega⟩ ⟨by omega, by omega⟩ rfl k_n1 W1 M1 hP hD hS hl (fun u H1 locs1 ls1 hf hP hD hS hl => cont u _ _ _ (by rw [show u = x from hf]; exact hr2) og H1 locs1 ls1 hP hD hS hl)
  | true =>
    have on : M.on = true := t12.trans hp
    rcases rd_eq (f := x.tape) (len := x.tapeLength) (w := 7) (q := 0) (c := 0) (g := M.labels) (S := x.rS) (E := x.rE) (V := x.rV) (Nat.zero_le _) (fun k hk => absurd hk (Nat.not_lt_zero k)) with ⟨kf, pf, hM, hCr⟩ | ⟨c7, g7, fS, fE, fV, hM, hCr, hlr⟩
    · have W1 := fun sz => k8_series l D dA sz h ad o og x (-1) (fun u => ∃ (nl : Nat) (fS fE fV : Nat → Nat), u = x.sfS nl fS fE fV kf pf) _ _ _ _ (nf_i (w := fun u => u) (fun sz => v_series_f l D dA sz h ad x kf pf hp t4 t5 (by omega) hCr) (fun r u q => q) (fun _ _ _ q => q))
      have M1 := fun sz => k_series_x l D dA sz mm mad M kf pf on (by omega) (by rw [t1, t2]; exact hM)
      exact l9e_3 l hC hi hL ⟨by omega, by omega, by omega, by omega⟩ ⟨by omega, by omega⟩ (fun w9 hg => by
        obtain ⟨a1, a2, e⟩ := hg
        rw [e]) rfl W1 M1 hP hD hS hl (fun u w9 H1 locs1 ls1 hf hg hP hD hS hl => by
        obtain ⟨nl, fS, fE, fV, e1⟩ := hf
        obtain ⟨a1, a2, e2⟩ := hg
        refine cont u w9 _ _ ?_ _ H1 locs1 ls1 hP hD hS hl
        rw [e1, e2]
        exact rl_sf hR (by omega) nl fS fE fV a1 a2 kf pf)
    · have rlt : rlT M x := ⟨⟨t1, t2, t3, t4⟩, ⟨t5, t6, t7⟩, ⟨t8, t9⟩, t10, t11, t12⟩
      have rls : rlS dA SS M x := ⟨sr1, sr2, sr3, sr4, sr5⟩
      have rla : rlA dA ad e0 M x gq rq la gk AT T := ⟨⟨r1, r2, r3, r4⟩, r5, ⟨r6, r7⟩, ⟨r8, r9⟩, r10⟩
      have hq := rdC_q (Nat.zero_le _) (fun k hk => absurd hk (Nat.not_lt_zero k)) hCr
      obtain ⟨hlk, hc6⟩ := rdC_l (Nat.zero_le _) (fun k hk => absurd hk (Nat.not_lt_zero k)) (Nat.zero_le 6) hCr
      have hG := srt_G hq hlk hc6
      have hqM : labQ M.tape c7 fS fE fV := by rw [t1]; exact hq
      have hGM : serG (srtL M.tape fS fE fV c7) ∧ asc (joinT (srtL M.tape fS fE fV c7)) ∧ (joinT (srtL M.tape fS fE fV c7)).length ≤ 303 := by rw [t1]; exact hG
      have hlb : labOk g7 M.length c7 := fun k hk => by
        obtain ⟨q1, q2, q3, q4, q5, q6, q7, q8⟩ := hlr k hk
        have u5 := (hlk k hk).2.2.2.2
        exact ⟨q5, q3, q6, by omega⟩
      obtain ⟨eln, l2, l3, l4⟩ := lay_nu (x := M.rdS c7 g7) (S := fS) (E := fE) (V := fV) hlr hqM sr1
      have eln : ((M.rdS c7 g7).layT c7).2 = (joinT (srtL x.tape fS fE fV c7)).length := by
        rw [← t1]
        exact eln
      have hsc : M.seriesCount ≤ 256 := by omega
      have hJ3 := hG.2.2
      have htl : ∀ q : Nat, q < M.seriesCount → M.textLengths q ≤ 304 := fun q hq => by
        have := sr1 q hq
        omega
      have hfd : (∃ k, k < x.nser ∧ ((M.rdS c7 g7).lyS).fnd ((joinT (srtL x.tape fS fE fV c7)).length) = nI k ∧ nuN SS (srtL x.tape fS fE fV c7) x.nser = k) ∨ (((M.rdS c7 g7).lyS).fnd ((joinT (srtL x.tape fS fE fV c7)).length) = -1 ∧ nuN SS (srtL x.tape fS fE fV c7) x.nser = x.nser) := by
        rw [← eln, ← se1, ← t1]
        exact l4
      rcases hfd with ⟨k, hk, efd, enu⟩ | ⟨efd, enu⟩
      · have hr2 : ∀ u : VS, (∃ pl1 : va_W, (∀ c, c ∈ x.pl → c ∈ pl1) ∧ u = x.soS c7 fS fE fV pl1) → Rl dA ad e0 (n + 1) u (((M.rdS c7 g7).lyS).s_length 0) (cs + 32 + 0 + 0) (ss + 930 + 0 + 0) := fun u hu => by
          obtain ⟨pl1, z1, z2⟩ := hu
          rw [z2]
          exact rl_so hR (by omega) hlr hqM hGM.2.1 z1 (by omega) (by omega) c7
        obtain ⟨rn1, rn2⟩ := rl_room (hr2 _ ⟨x.pl, fun _ z => z, rfl⟩)
        have W1 := fun sz => k8_series l D dA sz h ad o og x (nI k) (fun u => ∃ pl1 : va_W, (∀ c, c ∈ x.pl → c ∈ pl1) ∧ u = x.soS c7 fS fE fV pl1) _ _ _ _ (nf_i (w := fun u => u) (fun sz => v_series_o l D dA sz h ad x SS c7 fS fE fV hp t4 t5 (by omega) sr3 n1 hCr (by rw [enu]; exact hk)) (fun r u q => ⟨by rw [q.1, enu], q.2⟩) (fun _ _ _ q => q))
        have M1 := nm_i (M1 := ((M.rdS c7 g7).lyS).s_length 0) (b := nI k) (Pc2 := fun sz => pC D dA [.ref mm] (MW dA mm mad M) sz) (fun sz => k_series_f l D dA sz mm mad M c7 g7 ((joinT (srtL x.tape fS fE fV c7)).length) k on (by omega) (by rw [t1, t2]; exact hM) hsc hc6 hlb (by rw [t1]; exact t4) eln (by omega) htl efd (by omega)) (fun r u q => ⟨q.1, q.2⟩) (fun _ _ _ q => q)
        exact l9_3 l hC hi hL ⟨by omega, by omega, by omega, by omega⟩ ⟨by omega, by omega⟩ rfl rfl W1 M1 hP hD hS hl (fun u H1 locs1 ls1 hf hP hD hS hl => cont u _ _ _ (hr2 u hf) _ H1 locs1 ls1 hP hD hS hl)
      · have eu : 1 + ((joinT (srtL x.tape fS fE fV c7)).length + 31) / 32 = (1 + ((joinT (srtL x.tape fS fE fV c7)).length + 32 - 1) / 32) := by omega
        have hu126 : (1 + ((joinT (srtL x.tape fS fE fV c7)).length + 32 - 1) / 32) ≤ 126 := by omega
        have erm : M.room (1 + ((joinT (srtL x.tape fS fE fV c7)).length + 32 - 1) / 32) = x.room (1 + ((joinT (srtL x.tape fS fE fV c7)).length + 32 - 1) / 32) := room_eq ⟨g1, g2, g3, g4, g5, g6, g7', g8, g9, g10, g11⟩ _
        by_cases hfull : x.nser = 256 ∨ x.room (1 + ((joinT (srtL x.tape fS fE fV c7)).length + 32 - 1) / 32) = false
        · have hr2 : ∀ u : VS, (∃ pl1 : va_W, (∀ c, c ∈ x.pl → c ∈ pl1) ∧ u = x.sbS c7 fS fE fV pl1) → Rl dA ad e0 (n + 1) u (((((M.rdS c7 g7).lyS).s_cod 2).s_faultCode M.faultCode).s_faultPlace M.faultPlace) (cs + 33 + 0 + 0) (ss + 936 + 0 + 0) := fun u hu => by
            obtain ⟨pl1, z1, z2⟩ := hu
            rw [z2]
            exact rl_sb hR (by omega) hlr hqM hGM.2.1 z1 (by omega) (by omega) c7 2
          obtain ⟨rn1, rn2⟩ := rl_room (hr2 _ ⟨x.pl, fun _ z => z, rfl⟩)
          have W1 := fun sz => k8_series_2 l D dA sz h ad o og x (fun u => ∃ pl1 : va_W, (∀ c, c ∈ x.pl → c ∈ pl1) ∧ u = x.sbS c7 fS fE fV pl1) _ _ _ _ (nf_x1 (w := fun u => u) (fun sz => v_series_u l (lS_tr hC) D dA sz h ad x SS c7 fS fE fV hp t4 t5 (by omega) sr3 n1 hCr enu (by omega) (by omega) n6 (fun hlt => by
            rcases hfull with d | d
            · omega
            · exact d)) (fun u q => q) (fun _ _ _ q => q))
          have M1 := nm_i (M1 := ((((M.rdS c7 g7).lyS).s_cod 2).s_faultCode M.faultCode).s_faultPlace M.faultPlace) (b := 0) (Pc2 := fun sz => pC D dA [.ref mm] (MW dA mm mad M) sz) (fun sz => k_series_2 l D dA sz mm mad M c7 g7 ((joinT (srtL x.tape fS fE fV c7)).length) on (by omega) (by rw [t1, t2]; exact hM) hsc hc6 hlb (by rw [t1]; exact t4) eln (by omega) htl efd (by omega) (by omega) (by omega) (by rw [eu, erm, se1]; exact hfull)) (fun r u q => ⟨q.1, q.2⟩) (fun _ _ _ q => q)
          exact l9_3_x l hC (k9 := 2) hi hL ⟨by omega, by omega, by omega, by omega⟩ ⟨by omega, by omega⟩ rfl k_n2 W1 M1 hP hD hS hl (fun u H1 locs1 ls1 hf hP hD hS hl => cont u _ _ _ (hr2 u hf) og H1 locs1 ls1 hP hD hS hl)
        · obtain ⟨hf1, hf2⟩ := not_or.mp hfull
          have hx0 : x.nser < 256 := by omega
          have hro : x.room (1 + ((joinT (srtL x.tape fS fE fV c7)).length + 32 - 1) / 32) = true := by
            cases e : x.room (1 + ((joinT (srtL x.tape fS fE fV c7)).length + 32 - 1) / 32) with
            | true => rfl
            | false => exact absurd e hf2
          by_cases hcr : x.jfill + (1 + ((joinT (srtL x.tape fS fE fV c7)).length + 32 - 1) / 32) ≤ 126 ∨ x.jch = false ∨ ¬ x.cutLeft = 0
          · have hcm : M.canR (1 + ((joinT (srtL x.tape fS fE fV c7)).length + 32 - 1) / 32) := by
              unfold MS.canR
              rw [g4, g5, g6]
              exact hcr
            have hjc : x.jN ≤ x.jcap ∧ x.jcap ≤ 4096 := by
              unfold VS.jcap
              split <;> omega
            obtain ⟨rn1, rn2⟩ := rl_room (rl_jh (JB := x.jcap) (HB := x.hN) (cs' := cs + (32 + 6 * (x.jcap - x.jN)) + 0 + 0) (ss' := ss + (930 + 12 * (x.jcap - x.jN)) + 0 + 0) (rl_up (cs' := cs + 32) (ss' := ss + 930) hR (by omega) 0 (by omega) (by omega)) hjc.1 hjc.2 (Nat.le_refl _) n13 (by omega) (by omega))
            have W1 := fun sz => k8_series l D dA sz h ad o og x (nI x.nser) (fun u => ∃ (pl1 : va_W) (mp : Nat) (ja : Nat → Nat), (∀ c, c ∈ x.pl → c ∈ pl1) ∧ isSer dA pl1 mp (srtL x.tape fS fE fV c7) ∧ u = (((x.sbS c7 fS fE fV pl1).wrF ja 0 x.nser (1 + ((joinT (srtL x.tape fS fE fV c7)).length + 32 - 1) / 32) 0 0).anS mp).ft0) _ _ _ _ (nf_i (w := fun u => u) (fun sz => v_series_n l D dA sz h ad x SS c7 fS fE fV hp t4 t5 (by omega) sr3 n1 hCr enu (by omega) (by omega) n6 n8 n9 (by omega) hx0 hro hcr) (fun r u q => q) (fun _ _ _ q => q))
            have M1 := nm_i (M1 := ((((M.rdS c7 g7).lyS).recS 0 M.seriesCount (lN ((joinT (srtL x.tape fS fE fV c7)).length)) 0 (1 + ((joinT (srtL x.tape fS fE fV c7)).length + 32 - 1) / 32)).nwS M.seriesCount ((joinT (srtL x.tape fS fE fV c7)).length)).s_length 0) (b := nI M.seriesCount) (Pc2 := fun sz => pC D dA [.ref mm] (MW dA mm mad M) sz) (fun sz => k_series_0 l D dA sz mm mad M c7 g7 ((joinT (srtL x.tape fS fE fV c7)).length) on (by omega) (by rw [t1, t2]; exact hM) hsc hc6 hlb (by rw [t1]; exact t4) eln (by omega) htl efd (by omega) (by omega) (by omega) (by omega) (by rw [eu, erm]; exact hro) (by omega) (by rw [eu]; exact hcm)) (fun r u q => ⟨q.1, by rw [q.2, eu]⟩) (fun _ _ _ q => q)
            exact l9_3 l hC hi hL ⟨by omega, by omega, by omega, by omega⟩ ⟨by omega, by omega⟩ rfl (by rw [se1]) W1 M1 hP hD hS hl (fun u H1 locs1 ls1 hf2 hP hD hS hl => by
              obtain ⟨pl1, mp, ja, z1, z2, z3⟩ := hf2
              refine cont u _ _ _ ?_ _ H1 locs1 ls1 hP hD hS hl
              rw [z3]
              exact rl_sn co rlt rls nr rla rr (by omega) hlr hqM hGM z1 (by rw [t1]) hu126 hx0 hro (by rw [t1]; exact z2))
          · obtain ⟨v1, v2⟩ := not_or.mp hcr
            obtain ⟨v2, v3⟩ := not_or.mp v2
            have v2 : x.jch = true := by
              cases e : x.jch with
              | true => rfl
              | false => exact absurd e v2
            have v3 : x.cutLeft = 0 := Decidable.not_not.mp v3
            have hr2 : ∀ u : VS, (∃ pl1 : va_W, (∀ c, c ∈ x.pl → c ∈ pl1) ∧ u = (x.sbS c7 fS fE fV pl1).off1) → Rl dA ad e0 (n + 1) u (MS.s_cutLeft (MS.s_on (((((M.rdS c7 g7).lyS).s_cod 1).s_faultCode M.faultCode).s_faultPlace M.faultPlace) false) (-1)) (cs + 33 + 0 + 0) (ss + 936 + 0 + 0) := fun u hu => by
              obtain ⟨pl1, z1, z2⟩ := hu
              rw [z2]
              exact rl_pwn (rl_sb (cs' := cs + 33 + 0 + 0) (ss' := ss + 936 + 0 + 0) hR (by omega) hlr hqM hGM.2.1 z1 (by omega) (by omega) c7 1) 1
            obtain ⟨rn1, rn2⟩ := rl_room (hr2 _ ⟨x.pl, fun _ z => z, rfl⟩)
            have W1 := fun sz => k8_series_1 l D dA sz h ad o og x (fun u => ∃ pl1 : va_W, (∀ c, c ∈ x.pl → c ∈ pl1) ∧ u = (x.sbS c7 fS fE fV pl1).off1) _ _ _ _ (nf_x1 (w := fun u => u) (fun sz => v_series_i l (lS_tr hC) D dA sz h ad x SS c7 fS fE fV hp t4 t5 (by omega) sr3 n1 hCr enu (by omega) (by omega) n6 hx0 hro (by omega) v2 v3) (fun u q => q) (fun _ _ _ q => q))
            have M1 := nm_i (M1 := MS.s_cutLeft (MS.s_on (((((M.rdS c7 g7).lyS).s_cod 1).s_faultCode M.faultCode).s_faultPlace M.faultPlace) false) (-1)) (b := 0) (Pc2 := fun sz => pC D dA [.ref mm] (MW dA mm mad M) sz) (fun sz => k_series_5 l D dA sz mm mad M c7 g7 ((joinT (srtL x.tape fS fE fV c7)).length) on (by omega) (by rw [t1, t2]; exact hM) hsc hc6 hlb (by rw [t1]; exact t4) eln (by omega) htl efd (by omega) (by omega) (by omega) (by omega) (by rw [eu, erm]; exact hro) (by rw [eu]; omega) (g5.trans v2) (g6.trans v3)) (fun r u q => ⟨q.1, q.2⟩) (fun _ _ _ q => q)
            exact l9_3_x l hC (k9 := 1) hi hL ⟨by omega, by omega, by omega, by omega⟩ ⟨by omega, by omega⟩ rfl k_n1 W1 M1 hP hD hS hl (fun u H1 locs1 ls1 hf hP hD hS hl => cont u _ _ _ (hr2 u hf) og H1 locs1 ls1 hP hD hS hl)
end CK3
end
section
/-! Names' places after any question; steps' places; rooms. -/
def MS.gz (x : MS) : Prop := x.nmG ∧ ∀ q, q < x.points → x.pointSeries q < 256
theorem gz_qk {x y : MS} (h : x.gz) (q : x.qk y) (hn : y.nmG) : y.gz := ⟨hn, fun i hi => by
  rw [qk_f q MS.pointSeries rfl]
  exact h.2 i (by rw [← qk_f q MS.points rfl]; exact hi)⟩
theorem gz_tk {x y : MS} (t : x.tk y) (h : x.gz) : y.gz := gz_qk h (qk_ck (ck_tk t)) (nmG_tk t h.1)
theorem gz_fl {x : MS} (h : x.gz) (k : Int32) (q : Nat) : (x.flS k q).gz := gz_tk (tk_fl x k q) h
theorem gz_nx {x : MS} (h : x.gz) : x.nx.2.gz := gz_tk (tk_nx x) h
theorem gz_nd {x : MS} (h : x.gz) (k : Int32) : (x.ndF k).2.gz := gz_tk (tk_nd x k) h
theorem gz_by {x : MS} (h : x.gz) (hl : x.lx) : x.byF.2.gz := gz_qk h (qz_by x).1 (by_G h.1 hl)
theorem gz_rk {z : MS} (h : z.gz) (wh p : Nat) : (z.rkS wh p).gz := by
  refine gz_qk h (qk_ck (ck_rk z wh p)) ⟨h.1.1, fun k => ?_⟩
  show ((z.grS z.pile p).rkG z.pile wh (z.grS z.pile p).points).2.2.2.1 k < 256
  exact rk_ks (x := z.grS z.pile p) h.1.2 h.2 _ (Nat.le_refl _) k
theorem gz_cl5 {z : MS} (h : z.gz) (wh p : Nat) : (z.cl5 wh p).2.gz := by
  unfold MS.cl5
  split
  · split
    · exact gz_nx (gz_rk h wh p)
    · exact gz_nx h
  · exact gz_fl h _ _
theorem gz_cl4 {y : MS} (h : y.gz) (wh p : Nat) : (y.cl4 wh p).2.gz := by
  unfold MS.cl4
  split
  · exact gz_cl5 (gz_nd h 125) wh p
  · exact gz_nd h 125
theorem gz_cl3 {m : Bool × MS} (h : m.2.gz) (wh p : Nat) : (MS.cl3 m wh p).2.gz := by
  unfold MS.cl3
  split
  · exact gz_cl4 h wh p
  · exact h
theorem gz_cl2 {y : MS} (h : y.gz) (wh : Nat) : (y.cl2 wh).2.gz := by
  unfold MS.cl2
  split
  · split
    · split
      · exact gz_cl4 (gz_nd (gz_nd h 40) 123) wh _
      · exact gz_cl3 (gz_tk ml_tk (gz_nd (gz_nd h 40) 123)) wh _
    · exact gz_nd (gz_nd h 40) 123
  · exact gz_nd h 40
theorem gz_cl {x : MS} (h : x.gz) (hl : x.lx) (wh : Nat) : (x.clF wh).2.gz := by
  have h0 : x.cl0.gz := h
  have l0 : x.cl0.lx := hl
  unfold MS.clF
  split
  · rename_i c1
    have l1 := (nx_in l0 c1).1
    split
    · split
      · exact gz_cl2 (gz_by (gz_nx h0) l1) wh
      · exact gz_by (gz_nx h0) l1
    · exact gz_cl2 (gz_nx h0) wh
  · exact gz_nx h0
def mvI (b a : Nat) : Nat → Nat → Nat
  | 0, q => q
  | k + 1, q => if q = b + k then mvI b a k (a + k) else mvI b a k q
theorem mv_I {α : Type} (f : Nat → α) (b a : Nat) : ∀ k q, mvG f b a k q = f (mvI b a k q)
  | 0, q => rfl
  | k + 1, q => by
    show va_up (mvG f b a k) (b + k) (mvG f b a k (a + k)) q = f (if q = b + k then mvI b a k (a + k) else mvI b a k q)
    by_cases c : q = b + k
    · rw [c, va_up_self, if_pos rfl, mv_I f b a k (a + k)]
    · rw [va_up_ne _ _ c, if_neg c, mv_I f b a k q]
theorem nm_sp2 {x : MS} {sg : Int32} {a b : Nat} (h : x.nmG) : (x.spS sg a b).nmG := by
  refine ⟨fun q => ?_, h.2⟩
  show mvG x.nameFroms (6 * a) (6 * b) 6 q + mvG x.nameLengths (6 * a) (6 * b) 6 q ≤ 65536
  rw [mv_I, mv_I]
  exact h.1 _
theorem gz_op {x : MS} (h : x.gz) (sg : Int32) (q : Nat) : (x.opS sg q).gz := by
  refine gz_qk h (qk_ck (ck_opS x sg q)) ?_
  unfold MS.opS
  split
  · show (x.opM sg).nmG
    unfold MS.opM
    split
    · exact h.1
    · split
      · exact h.1
      · exact nm_sp2 h.1
  · exact h.1
theorem gz_dn {x : MS} (h : x.gz) : x.dnF.2.gz := by
  have hp : x.pop.gz := h
  unfold MS.dnF
  split
  · split
    · exact gz_qk hp (qk_ck (ck_ng _)) hp.1
    · exact gz_op hp _ _
  · exact hp
theorem gz_dtF (rk : Nat) : ∀ (w : Nat) {x : MS}, x.gz → (MS.dtF rk w x).2.gz
  | 0, x, h => h
  | w + 1, x, h => by
    unfold MS.dtF
    split
    · exact h
    · split
      · exact h
      · split
        · exact gz_dtF rk w (gz_dn h)
        · exact gz_dn h
theorem gz_dt {x : MS} (h : x.gz) (rk : Nat) : (x.dt rk).2.gz := gz_dtF rk x.signCount h
theorem gz_od3 {m : Bool × MS} (h : m.2.gz) : (MS.od3 m).2.gz := by
  unfold MS.od3
  split
  · exact gz_dt h 3
  · exact h
theorem gz_nm1 {y : MS} (h : y.gz) : y.nm1.2.gz := by
  unfold MS.nm1
  split
  · exact gz_nx (x := y.nbS) (gz_qk h (qk_ck (ck_nb y)) h.1)
  · exact gz_nx h
theorem gz_os {x : MS} (h : x.gz) (sg : Nat) : (x.osF sg).2.gz := by
  unfold MS.osF
  split
  · exact gz_fl h _ _
  · exact gz_nx (x := x.psS sg) h
theorem gz_od {x : MS} (h : x.gz) (hl : x.lx) : x.odF.2.gz := by
  have hw : (MS.s_wants x false).gz := h
  have lw : (MS.s_wants x false).lx := hl
  unfold MS.odF
  split
  · exact gz_os h 109
  · split
    · exact gz_os h 40
    · split
      · split
        · exact gz_od3 (gz_nm1 hw)
        · exact gz_fl hw _ _
      · exact gz_od3 (gz_cl hw lw _)
theorem gz_opr {x : MS} (h : x.gz) : x.opr.2.gz := by
  unfold MS.opr
  split
  · unfold MS.opr1
    split
    · exact gz_nx (x := (x.dt (rkN x.kind)).2.psh) (gz_dt h _)
    · exact gz_dt h _
  · split
    · unfold MS.opr2
      split
      · exact gz_od3 (gz_nx (x := (x.dt 1).2.pop4) (gz_dt h 1))
      · exact gz_dt h 1
    · exact gz_fl h _ _
theorem gz_q1 {x : MS} (h : x.gz) (hl : x.lI) : x.q1.2.gz := by
  unfold MS.q1
  split
  · exact gz_od h (lI_lx hl)
  · exact gz_opr h
theorem gz_qL : ∀ (w : Nat) {x : MS}, x.gz → x.lI → (MS.qL w x).2.gz
  | 0, x, h, _ => h
  | w + 1, x, h, hl => by
    unfold MS.qL
    split
    · exact h
    · split
      · rename_i c
        exact gz_qL w (gz_q1 h hl) (q1_in hl (Prod.ext c rfl)).1
      · exact gz_q1 h hl
theorem gz_qu {x : MS} {how : Bool} (h : x.gz) (hw : x.qW how) : (x.quF how).2.gz := by
  have h0 : (x.qu0 how).gz := h
  unfold MS.quF
  split
  · rename_i c1
    have l1 := (qu0_lI hw c1).1
    split
    · have g := gz_qL (x.length + 1) (gz_nx h0) l1
      unfold MS.qu3
      split
      · exact gz_fl g _ _
      · exact gz_dt g 1
    · exact gz_qL (x.length + 1) (gz_nx h0) l1
  · exact gz_nx h0
/-- the places of the steps -/
def plP (n : Nat) (R : PR) : Prop := ∀ s, s ∈ R.2.2 → s.2.1 ≤ n
def gpF (F : PF) : Prop := ∀ (f : Nat → Int32) (n : Nat) (t : TKQ), tkok n t → plP n (F f n t)
theorem tk_le {n : Nat} {t : TKQ} (h : tkok n t) : t.2.1 ≤ n := Nat.le_trans h.1 h.2.1
theorem op_pl {F : PF} (hF : gdF F) (hp : gpF F) {f : Nat → Int32} {n : Nat} {r : PR} (hr : tkok n r.2.1) (h : plP n r) : tkok n (opS F f n r).2.1 ∧ plP n (opS F f n r) := by
  have hx : tkok n (nxT f n r.2.1) := (prT_nx hr).1
  refine ⟨(hF f n _ hx).1, fun s hs => ?_⟩
  have hs : s ∈ r.2.2 ++ ((F f n (nxT f n r.2.1)).2.2 ++ [spO r.2.1.1 r.2.1.2.1 0]) := hs
  rcases List.mem_append.mp hs with c | c
  · exact h s c
  · rcases List.mem_append.mp c with c | c
    · exact hp f n _ hx s c
    · rw [List.mem_singleton.mp c]
      exact tk_le hr
theorem oL_pl {F : PF} (hF : gdF F) (hp : gpF F) {P : Int32 → Bool} {f : Nat → Int32} {n : Nat} : ∀ (w : Nat) {r : PR}, tkok n r.2.1 → plP n r → plP n (opL F P f n w r)
  | 0, r, _, h => h
  | w + 1, r, hr, h => by
    unfold opL
    split
    · obtain ⟨a, b⟩ := op_pl hF hp (f := f) hr h
      exact oL_pl hF hp w a b
    · exact h
theorem tm_pl {F : PF} (hF : gdF F) (hp : gpF F) : gpF (pTm F) := fun f n t h => oL_pl hF hp n (hF f n t h).1 (hp f n t h)
theorem ex_pl {F : PF} (hF : gdF F) (hp : gpF F) : gpF (pEx F) := fun f n t h => oL_pl hF hp n (hF f n t h).1 (hp f n t h)
theorem fn_pl {f : Nat → Int32} {n : Nat} {t : TKQ} (h : tkok n t) : plP n (pFn f n t) := by
  unfold pFn
  split
  · exact fun s hs => absurd hs List.not_mem_nil
  · unfold pfB
    split
    · intro s hs
      rw [List.mem_singleton.mp hs]
      exact tk_le h
    · intro s hs
      rw [List.mem_singleton.mp hs]
      exact Nat.zero_le _
theorem fc_pl {O : PF} (hO : ∀ (f : Nat → Int32) (n : Nat) (t : TKQ), tkok n t → plP n (O f n t)) : gpF (pFc O) := by
  intro f n t h
  unfold pFc
  split
  · intro s hs
    rw [List.mem_singleton.mp hs]
    exact tk_le h
  · split
    · exact fn_pl h
    · split
      · exact hO f n t h
      · exact fun s hs => absurd hs List.not_mem_nil
theorem op2_pl {F : PF} (hF : gdF F) (hp : gpF F) : gpF (pOp F) := by
  intro f n t h
  have hx : tkok n (nxT f n t) := (prT_nx h).1
  unfold pOp
  split
  · have e := ex_pl (pTm_g hF) (tm_pl hF hp) f n _ hx
    unfold pOc
    split
    · exact e
    · exact e
  · intro s hs
    rcases List.mem_append.mp hs with c | c
    · exact hp f n _ hx s c
    · rw [List.mem_singleton.mp c]
      exact tk_le h
theorem fd_pl : ∀ d, gpF (pFd d)
  | 0 => fc_pl (fun _ _ _ _ s hs => absurd hs List.not_mem_nil)
  | d + 1 => fc_pl (op2_pl (pFd_g d) (fd_pl d))
theorem pQ_pl : gpF pQ := ex_pl (pTm_g (pFd_g 8)) (tm_pl (pFd_g 8) (fd_pl 8))
theorem qRd_s (e : PR) : (qRd e).2.2 = e.2.2 := by
  unfold qRd
  repeat' split
  all_goals rfl
/-- how many steps a question has, where they stand -/
theorem st_len {f : Nat → Int32} {n : Nat} {t : TKQ} (h : t.2.2.1 ≤ n) : (qRd (pQ f n (nxT f n t))).2.2.length ≤ n ∧ (∀ s, s ∈ (qRd (pQ f n (nxT f n t))).2.2 → s.2.1 ≤ n) := by
  have hx : tkok n (nxT f n t) := (nx_ok (f := f) h).1
  have g := pQ_g f n _ hx
  rw [qRd_s]
  refine ⟨?_, pQ_pl f n _ hx⟩
  have := tk_le g.1
  have := g.2.2
  omega
theorem cpR_b (c k : Nat) : ∀ i, cpR c k i ≤ max c (k + i + (k + i) / 2 + 10)
  | 0 => Nat.le_max_left _ _
  | i + 1 => by
    have ih := cpR_b c k i
    show (if k + i < cpR c k i then cpR c k i else grN (cpR c k i)) ≤ max c (k + (i + 1) + (k + (i + 1)) / 2 + 10)
    split
    · omega
    · unfold grN
      split
      · omega
      · omega
theorem shQ_e (a : SKT) : shQ (shp a) = 700 * a.2.1.sz + 2 * sumN a.2.1.sz (fun tb => (a.2.2.2 tb).cN) + 4 * a.1.bN := by
  have e : sumN a.2.1.sz (fun tb => if tb < a.2.1.sz then (a.2.2.2 tb).cN else 0) = sumN a.2.1.sz (fun tb => (a.2.2.2 tb).cN) := sumN_ext (fun k hk => if_pos hk)
  show 700 * a.2.1.sz + 2 * sumN a.2.1.sz (fun tb => if tb < a.2.1.sz then (a.2.2.2 tb).cN else 0) + 4 * a.1.bN = _
  rw [e]
end
section
/-! A question asked: the sizes. -/
/-- x with what a question changes of y, the tape taken -/
def VS.qxS (x y : VS) : VS := VS.s_ll (VS.s_pl (VS.s_hasTable (VS.s_faultPlace (VS.s_faultCode (VS.s_tapeLength (VS.s_bO (VS.s_bT (VS.s_bN (VS.s_bA (VS.s_abf (VS.s_ahb (VS.s_aro (VS.s_awi (VS.s_awd (VS.s_afr (VS.s_adep (VS.s_qpl (VS.s_qcode (VS.s_qnum (VS.s_qen (VS.s_qst (VS.s_qk (VS.s_qlen (VS.s_qtp x y.qtp) y.qlen) y.qk) y.qst) y.qen) y.qnum) y.qcode) y.qpl) y.adep) y.afr) y.awd) y.awi) y.aro) y.ahb) y.abf) y.bA) y.bN) y.bT) y.bO) 0) y.faultCode) y.faultPlace) y.hasTable) y.pl) y.ll
theorem qx_f {x X : VS} {α : Type} (h : X = x.qxS X) (f : VS → α) (hf : f (x.qxS X) = f x) : f X = f x := (congrArg f h).trans hf
theorem as_k {m v : MS} (h : m.qk v) (P : MS → Prop) (hP : ∀ u, P (m.qkS u)) : P v := by
  rw [show v = m.qkS v from h]
  exact hP v
section QX
variable {dA : Nat → ClassId} {ad : Nat → Nat} {e0 n : Nat} {x X : VS} {M M' : MS} {cs ss cs' ss' : Nat} {PS : Nat → PT} {SS : Nat → List LB} {dn bn : Nat → Nat} {rq : va_W} {la : Nat → Nat} {gq gk gq' gk' : LI} {AT AT' : Nat → Nat → Nat} {T T' : Nat → TB} {rq' : va_W}
/-- behind a question -/
theorem rl_q (a1 : coR M x PS dn bn) (a2 : rlT M x) (a3 : rlS dA SS M x) (a4 : rlN dA PS M x n) (ar : rlR x gk T n cs ss) (hn : n + 1 ≤ 512) (hX : X = x.qxS X) (hpl : ∀ c, c ∈ x.pl → c ∈ X.pl) (b1 : coR M' x PS dn bn) (b3 : rlS dA SS M' x) (b4 : rlN dA PS M' x n) (tM : M'.tape = M.tape ∧ M'.length = 0 ∧ M'.faultCode = X.faultCode ∧ M'.faultPlace = X.faultPlace ∧ M'.blocks = M.blocks ∧ M'.on = M.on) (a5 : rlA dA ad e0 M' X gq' rq' la gk' AT' T') (hc : cs' ≤ cs + 17 * x.tapeLength + 100) (hs : ss' + (700 * gk.sz + 2 * sumN gk.sz (fun tb => (T tb).cN) + 4 * x.bN) ≤ ss + 70 * x.tapeLength + 5000 + (700 * gk'.sz + 2 * sumN gk'.sz (fun tb => (T' tb).cN) + 4 * X.bN)) : Rl dA ad e0 (n + 1) X M' cs' ss' := by
  obtain ⟨a6, a7, a8⟩ := ar
  obtain ⟨⟨t1, t2, t3, t4⟩, ⟨t5, t6, t7⟩, ⟨t8, t9⟩, t10, t11, t12⟩ := a2
  obtain ⟨u1, u2, u3, u4, u5, u6⟩ := tM
  have c1 : coR M' X PS dn bn := by
    rw [hX]
    exact b1
  have c3 : rlS dA SS M' X := by
    have w : rlS dA SS M' (VS.s_pl x X.pl) := rlS_m hpl b3
    rw [hX]
    exact w
  have w4 : rlN dA PS M' (VS.s_pl x X.pl) n := rlN_m hpl b4
  obtain ⟨n1, n2, n3, ⟨n4, n5, n6, n7⟩, ⟨n8, n9, n10, n11⟩, n12⟩ := w4
  have e1 : X.tape = x.tape := qx_f hX VS.tape rfl
  have e2 : X.tpN = x.tpN := qx_f hX VS.tpN rfl
  have e3 : X.tapeLength = 0 := (congrArg VS.tapeLength hX).trans rfl
  have e4 : X.diskBlocks = x.diskBlocks := qx_f hX VS.diskBlocks rfl
  have e5 : X.powered = x.powered := qx_f hX VS.powered rfl
  have e6 : X.jN = x.jN := qx_f hX VS.jN rfl
  have e7 : X.hN = x.hN := qx_f hX VS.hN rfl
  have e8 : X.gN = x.gN := qx_f hX VS.gN rfl
  have n4 : 16 * x.jsize + x.tapeLength ≤ 32 * n := n4
  have n5 : 16 * x.hsize + x.tapeLength ≤ 32 * n := n5
  have n6 : 16 * (cnt M'.points M'.pkd + cnt x.jsize (fun r => decide (x.jK r = 1))) + x.tapeLength ≤ 32 * n := n6
  have n8 : x.writes ≤ 300 * n := n8
  have m4 : rlN dA PS M' (VS.s_tapeLength (VS.s_pl x X.pl) 0) (n + 1) := ⟨n1, n2, n3, ⟨by show 16 * x.jsize + 0 ≤ 32 * (n + 1); omega, by show 16 * x.hsize + 0 ≤ 32 * (n + 1); omega, by show 16 * (cnt M'.points M'.pkd + cnt x.jsize (fun r => decide (x.jK r = 1))) + 0 ≤ 32 * (n + 1); omega, n7⟩, ⟨by show x.writes ≤ 300 * (n + 1); omega, by omega, by omega, n11⟩, n12⟩
  have c4 : rlN dA PS M' X (n + 1) := by
    rw [hX]
    exact m4
  refine ⟨PS, SS, dn, bn, gq', rq', la, gk', AT', T', c1, ⟨⟨by rw [u1, e1]; exact t1, by rw [u2, e3], by rw [e1, e2]; exact t3, by rw [e1]; exact t4⟩, ⟨by rw [e3]; exact Nat.zero_le _, by rw [e2]; exact t6, by rw [e2]; exact t7⟩, ⟨u3, u4⟩, by rw [u5, e4]; exact t10, by rw [e4]; exact t11, by rw [u6, e5]; exact t12⟩, c3, c4, a5, hn, ?_, ?_⟩
  · rw [e3, e6, e7, e8, e2]
    omega
  · rw [e3, e6, e7, e8, e2]
    omega
end QX
end
section
/-! A question asked: its ends. -/
section AE
variable {dA : Nat → ClassId} {ad : Nat → Nat} {e0 n : Nat} {x : VS} {M v vv : MS} {cs ss cs' ss' : Nat} {PS : Nat → PT} {SS : Nat → List LB} {dn bn : Nat → Nat} {gq : LI} {rq : va_W} {la : Nat → Nat} {gk : LI} {AT : Nat → Nat → Nat} {T : Nat → TB} {fr wd : Int64} {nw : Nat}
theorem as_q1 {b : Bool} (hq : (M.as0 fr wd nw).quF false = (b, v)) : (MS.s_works (M.as0 fr wd nw) false).qk v := by
  have h := (qz_qu (M.as0 fr wd nw) false).1
  rw [hq] at h
  exact h
theorem as_q2 {b : Bool} (hq : v.quF true = (b, vv)) : (MS.s_works v true).qk vv := by
  have h := (qz_qu v true).1
  rw [hq] at h
  exact h
/-- what the reference keeps over a question that is read -/
theorem as_M1 (h : (MS.s_works (M.as0 fr wd nw) false).qk v) (a1 : coR M x PS dn bn) (a3 : rlS dA SS M x) (a4 : rlN dA PS M x n) : coR (MS.s_length v 0) x PS dn bn ∧ rlS dA SS (MS.s_length v 0) x ∧ rlN dA PS (MS.s_length v 0) x n ∧ ((MS.s_length v 0).tape = M.tape ∧ (MS.s_length v 0).blocks = M.blocks ∧ (MS.s_length v 0).on = M.on) ∧ v.isTable = false ∧ v.cod = 0 :=
  ⟨as_k h (fun m => coR (MS.s_length m 0) x PS dn bn) (fun _ => a1), as_k h (fun m => rlS dA SS (MS.s_length m 0) x) (fun _ => a3), as_k h (fun m => rlN dA PS (MS.s_length m 0) x n) (fun _ => a4), ⟨as_k h (fun m => (MS.s_length m 0).tape = M.tape) (fun _ => rfl), as_k h (fun m => (MS.s_length m 0).blocks = M.blocks) (fun _ => rfl), as_k h (fun m => (MS.s_length m 0).on = M.on) (fun _ => rfl)⟩, as_k h (fun m => m.isTable = false) (fun _ => rfl), as_k h (fun m => m.cod = 0) (fun _ => rfl)⟩
theorem as_M2 {m0 : MS} (h : (MS.s_works v true).qk vv) (a1 : coR (MS.s_length v 0) x PS dn bn) (a3 : rlS dA SS (MS.s_length v 0) x) (a4 : rlN dA PS (MS.s_length v 0) x n) (t : (MS.s_length v 0).tape = m0.tape ∧ (MS.s_length v 0).blocks = m0.blocks ∧ (MS.s_length v 0).on = m0.on) (ti : v.isTable = false) (tc : v.cod = 0) : coR (MS.s_length vv 0) x PS dn bn ∧ rlS dA SS (MS.s_length vv 0) x ∧ rlN dA PS (MS.s_length vv 0) x n ∧ ((MS.s_length vv 0).tape = m0.tape ∧ (MS.s_length vv 0).blocks = m0.blocks ∧ (MS.s_length vv 0).on = m0.on) ∧ vv.isTable = false ∧ vv.cod = 0 :=
  ⟨as_k h (fun m => coR (MS.s_length m 0) x PS dn bn) (fun _ => a1), as_k h (fun m => rlS dA SS (MS.s_length m 0) x) (fun _ => a3), as_k h (fun m => rlN dA PS (MS.s_length m 0) x n) (fun _ => a4), ⟨as_k h (fun m => (MS.s_length m 0).tape = m0.tape) (fun _ => t.1), as_k h (fun m => (MS.s_length m 0).blocks = m0.blocks) (fun _ => t.2.1), as_k h (fun m => (MS.s_length m 0).on = m0.on) (fun _ => t.2.2)⟩, as_k h (fun m => m.isTable = false) (fun _ => ti), as_k h (fun m => m.cod = 0) (fun _ => tc)⟩
/-- the question can't be read -/
theorem rl_asf {y w0 : VS} {g0 gq' : LI} {R : PR} (a1 : coR M x PS dn bn) (a2 : rlT M x) (a3 : rlS dA SS M x) (a4 : rlN dA PS M x n) (a5 : rlA dA ad e0 M x gq rq la gk AT T) (ar : rlR x gk T n cs ss) (hn : n + 1 ≤ 512) (hq : (M.as0 fr wd nw).quF false = (false, v)) (hg : v.nmG) (hfl : flR v R.2.1) (hqr : (x.r0 x.tapeLength).qr y) (hpq : VS.pq dA e0 (ad 23) rq w0 g0 R y gq') (hc : cs' ≤ cs + 17 * x.tapeLength + 100) (hs : ss' ≤ ss + 70 * x.tapeLength + 5000) : Rl dA ad e0 (n + 1) y.af0 (MS.s_length v 0) cs' ss' := by
  obtain ⟨b1, b3, b4, ⟨b5, b6, b7⟩, b8, b9⟩ := as_M1 (as_q1 hq) a1 a3 a4
  obtain ⟨ey, hpl⟩ := hqr
  obtain ⟨-, etk, ⟨-, ell, est, -⟩, -⟩ := hpq
  have hX : y.af0 = x.qxS y.af0 := by
    rw [ey]
    rfl
  have hpl : ∀ c, c ∈ x.pl → c ∈ y.af0.pl := hpl
  have hbN : y.af0.bN = x.bN := by
    rw [ey]
    rfl
  have hnh : y.af0.nhor = x.nhor := qx_f hX VS.nhor rfl
  have hbO : y.af0.bO = x.bO := by
    rw [ey]
    rfl
  have k1 : y.af0.faultCode = y.tk.2.2.2.2.1 := rfl
  have k2 : y.af0.faultPlace = y.tk.2.2.2.2.2 := rfl
  obtain ⟨⟨r1, r2, r3, r4⟩, r5, ⟨r6, r7⟩, ⟨r8, r9⟩, r10⟩ := a5
  have hsh : shp (VS.s_adep y.af0 0, gk, AT, T) = shp (VS.s_adep x 0, gk, AT, T) := by
    show (0, gk.sz, gk.eN, (fun tb => if tb < gk.sz then (T tb).cN else 0), y.af0.bN) = (0, gk.sz, gk.eN, (fun tb => if tb < gk.sz then (T tb).cN else 0), x.bN)
    rw [hbN]
  refine rl_q (gq' := gq') (rq' := rq) (gk := gk) (T := T) (gk' := gk) (AT' := AT) (T' := T) a1 a2 a3 a4 ar hn hX hpl b1 b3 b4 ⟨b5, rfl, ?_, ?_, b6, b7⟩ ⟨⟨ell, est, r3, r4⟩, by rw [hsh]; exact r5, ⟨fun tb ht => rsAll_m hpl (r6 tb ht), by rw [hbO]; exact r7⟩, ⟨b8, fun z => (by cases z)⟩, hg, by rw [hnh]; exact r10.2⟩ hc (by rw [hbN]; omega)
  · rw [k1, etk]
    exact hfl.1
  · rw [k2, etk]
    exact hfl.2
/-- the states from which the steps are done -/
def asI (x : VS) (rq : va_W) (gk : LI) (AT : Nat → Nat → Nat) (T : Nat → TB) (fr wd : Int64) (nw : Nat) (a0 : SKT) : Prop := ∃ w : VS, x.aq x.tapeLength rq w ∧ plF w.pl ∧ a0 = (w.wk0 fr wd nw, gk, AT, T)
theorem aq_e {w : VS} (h : x.aq x.tapeLength rq w) : ∃ (tk : TKQ) (ll pl : va_W), w = VS.s_ll (VS.aq0 (VS.s_pl (VS.s_ll ((x.r0 x.tapeLength).wt tk) ll) pl)) rq ∧ ∀ c, c ∈ x.pl → c ∈ pl := by
  obtain ⟨y0, ⟨ey, hpl⟩, ew⟩ := h
  refine ⟨y0.tk, y0.ll, y0.pl, ?_, hpl⟩
  rw [ew]
  exact congrArg (fun u => VS.s_ll (VS.aq0 u) rq) ey
theorem as_I (h : (MS.s_works (M.as0 fr wd nw) false).qk v) (a1 : coR M x PS dn bn) (a2 : rlT M x) (a3 : rlS dA SS M x) (a5 : rlA dA ad e0 M x gq rq la gk AT T) (hnw : nw ≤ 64) (hfr : 0 ≤ fr ∧ fr ≤ 1099511627775) (hwd : 1 ≤ wd) (hsc : M.seriesCount ≤ 256) : (∀ a0, asI x rq gk AT T fr wd nw a0 → skQ dA ad [] la a0) ∧ (∀ a0, asI x rq gk AT T fr wd nw a0 → plF a0.1.pl) ∧ (∀ a0, asI x rq gk AT T fr wd nw a0 → knOk dA a0.1.kn a0.1.nser a0.1.pl SS) ∧ basR PS SS nw (asI x rq gk AT T fr wd nw) dn v ∧ ∀ a0, asI x rq gk AT T fr wd nw a0 → shp a0 = shp (VS.s_adep x 0, gk, AT, T) ∧ (∀ tb, tb < a0.2.1.sz → rsAll dA a0.1.pl (a0.2.2.2 tb).rs) ∧ ∀ k, a0.1.bO k < 256 := by
  obtain ⟨⟨r1, r2, r3, r4⟩, r5, ⟨r6, r7⟩, ⟨r8, r9⟩, r10⟩ := a5
  refine ⟨fun a0 ha => ?_, fun a0 ha => ?_, fun a0 ha => ?_, ⟨⟨as_k h (fun m => m.windows = nw) (fun _ => rfl), as_k h (fun m => wiK m) (fun _ => ⟨hnw, hwd, hfr.1, hfr.2⟩), as_k h (fun m => m.seriesCount ≤ 256) (fun _ => hsc), as_k h (fun m => byteF m.tape) (fun _ => by show byteF M.tape; rw [a2.1.1]; exact a2.1.2.2.2)⟩, as_k h (fun m => txR m.texts m.textLengths m.seriesCount SS ∧ ∀ q, q < m.seriesCount → serG (SS q)) (fun _ => ⟨a3.1, a3.2.1⟩), fun a0 ha => ?_⟩, fun a0 ha => ?_⟩
  · obtain ⟨w, hw, -, ea⟩ := ha
    obtain ⟨tk, ll, pl, ew, hp⟩ := aq_e hw
    rw [ea, ew]
    exact r3
  · obtain ⟨w, hw, hp, ea⟩ := ha
    rw [ea]
    exact hp
  · obtain ⟨w, hw, -, ea⟩ := ha
    obtain ⟨tk, ll, pl, ew, hp⟩ := aq_e hw
    rw [ea, ew]
    exact knOk_m hp a3.2.2.1
  · obtain ⟨w, hw, -, ea⟩ := ha
    obtain ⟨tk, ll, pl, ew, hp⟩ := aq_e hw
    rw [ea, ew]
    exact ⟨as_k h (fun m => ptR m _ PS dn) (fun _ => a1.1), as_k h (fun m => _ = m.seriesCount) (fun _ => a1.2.2.1.1.symm), rfl, as_k h (fun m => _ = m.windowsFrom) (fun _ => rfl), as_k h (fun m => _ = m.width) (fun _ => rfl)⟩
  · obtain ⟨w, hw, -, ea⟩ := ha
    obtain ⟨tk, ll, pl, ew, hp⟩ := aq_e hw
    rw [ea, ew]
    exact ⟨rfl, fun tb ht => rsAll_m hp (r6 tb ht), r7⟩
/-- a table answers -/
theorem rl_as1 {y w0 w : VS} {a : SKT} {g0 gq' : LI} {R : PR} {S : List SP1} {σ : SHT} {NL : Nat → List Int32} {RS : Nat → List LB} (a1 : coR M x PS dn bn) (a2 : rlT M x) (a3 : rlS dA SS M x) (a4 : rlN dA PS M x n) (a5 : rlA dA ad e0 M x gq rq la gk AT T) (ar : rlR x gk T n cs ss) (hn : n + 1 ≤ 512) (hq : (M.as0 fr wd nw).quF false = (true, v)) (hp0 : v.faultPlace = 0) (hw0 : v.qW true) (hq2 : v.quF true = (true, vv)) (hbv : vv.windows = nw) (hqr : (x.r0 x.tapeLength).qr y) (hpq : VS.pq dA e0 (ad 23) rq w0 g0 R y gq') (ew : w = VS.s_ll y.aq0 rq) (hwk : wkR dA ad [] la PS SS nw S (w.wk0 fr wd nw, gk, AT, T) S.length a) (hsa : shp a = σ) (hso : shOk σ) (h0 : 0 < a.2.1.sz) (ht : tabR vv 0 (a.2.2.2 0) NL RS SS) (hk : tbK dA a.1.pl nw (a.2.2.2 0) NL RS) (hrs : ∀ tb, tb < a.2.1.sz → rsAll dA a.1.pl (a.2.2.2 tb).rs) (hbo : ∀ k, a.1.bO k < 256) (hc : cs' ≤ cs + 17 * x.tapeLength + 100) (hs : ss' + shQ (shp (VS.s_adep x 0, gk, AT, T)) ≤ ss + 70 * x.tapeLength + 5000 + shQ σ) : Rl dA ad e0 (n + 1) (VS.s_ll a.1.at1 (LqW dA (ad 23) gq' ++ a.1.ll)) (MS.s_length vv.kpS 0) cs' ss' := by
  obtain ⟨c1, c3, c4, c5, c8, c9⟩ := as_M1 (as_q1 hq) a1 a3 a4
  obtain ⟨b1, b3, b4, ⟨b5, b6, b7⟩, b8, b9⟩ := as_M2 (m0 := M) (as_q2 hq2) c1 c3 c4 c5 c8 c9
  obtain ⟨dI1, dI2, -⟩ := qu_in hw0 hq2
  have fc0 : vv.faultCode = 0 := dI1.2.2.2
  have fp0 : vv.faultPlace = 0 := by
    have z := (qz_qu v true).2
    rw [hq2] at z
    exact (z fc0).2.trans hp0
  obtain ⟨ey, hpl⟩ := hqr
  obtain ⟨-, -, ⟨-, ell, est, -⟩, -⟩ := hpq
  obtain ⟨⟨r1, r2, r3, r4⟩, r5, ⟨r6, r7⟩, ⟨r8, r9⟩, r10⟩ := a5
  obtain ⟨kak, ksk⟩ := wk_k (a0 := (w.wk0 fr wd nw, gk, AT, T)) (show skP dA ad [] (w.wk0 fr wd nw) la gk AT T by rw [ew]; exact r3) hwk
  have ea : a.1 = (w.wk0 fr wd nw).akS a.1 := kak
  have epl : a.1.pl = y.pl := by
    have h := congrArg VS.pl ea
    rw [ew] at h
    exact h
  rw [ew, ey] at ea
  have hX : VS.s_ll a.1.at1 (LqW dA (ad 23) gq' ++ a.1.ll) = x.qxS (VS.s_ll a.1.at1 (LqW dA (ad 23) gq' ++ a.1.ll)) := by
    rw [ea]
    rfl
  have hpl2 : ∀ c, c ∈ x.pl → c ∈ (VS.s_ll a.1.at1 (LqW dA (ad 23) gq' ++ a.1.ll)).pl := fun c hc => by
    show c ∈ a.1.pl
    rw [epl]
    exact hpl c hc
  have hnh : (VS.s_ll a.1.at1 (LqW dA (ad 23) gq' ++ a.1.ll)).nhor = x.nhor := qx_f hX VS.nhor rfl
  have hwi : (a.2.2.2 0).wi = nw := hk.2.2.2.2.2.1
  have esh : shp (VS.s_adep (VS.s_ll a.1.at1 (LqW dA (ad 23) gq' ++ a.1.ll)) 0, a.2.1, a.2.2.1, a.2.2.2) = (0, σ.2) := by
    rw [← hsa]
    rfl
  have q1 := shQ_e (VS.s_adep x 0, gk, AT, T)
  have q2 := shQ_e a
  rw [hsa] at q2
  have q1 : shQ (shp (VS.s_adep x 0, gk, AT, T)) = 700 * gk.sz + 2 * sumN gk.sz (fun tb => (T tb).cN) + 4 * x.bN := q1
  refine rl_q (M' := MS.s_length vv.kpS 0) (gq' := gq') (rq' := a.1.ll) (gk := gk) (T := T) (gk' := a.2.1) (AT' := a.2.2.1) (T' := a.2.2.2) a1 a2 a3 a4 ar hn hX hpl2 b1 b3 b4 ⟨b5, rfl, fc0, fp0, b6, b7⟩ ⟨⟨rfl, ?_, ksk, h0⟩, ?_, ⟨hrs, hbo⟩, ⟨rfl, fun _ => ⟨NL, RS, kp_shw ht b3.1 b3.2.1, ?_⟩⟩, dI1.2.2.1, by rw [hnh]; exact r10.2⟩ hc ?_
  · show stL e0 a.1.pl gq'
    rw [epl]
    exact est
  · rw [esh]
    exact ⟨Nat.zero_le _, hso.2⟩
  · show tbK dA a.1.pl (a.2.2.2 0).wi (a.2.2.2 0) NL RS
    rw [hwi]
    exact hk
  · show ss' + (700 * gk.sz + 2 * sumN gk.sz (fun tb => (T tb).cN) + 4 * x.bN) ≤ ss + 70 * x.tapeLength + 5000 + (700 * a.2.1.sz + 2 * sumN a.2.1.sz (fun tb => (a.2.2.2 tb).cN) + 4 * a.1.bN)
    omega
/-- a step can't be done -/
theorem rl_as5 {y w0 w b1 : VS} {a : SKT} {g0 gq' g1 : LI} {A1 : Nat → Nat → Nat} {T1 : Nat → TB} {R : PR} {S : List SP1} {σ : SHT} {k pz : Nat} {sg : Int32} {NL NR : Nat → List Int32} {RS RU : Nat → List LB} (a1 : coR M x PS dn bn) (a2 : rlT M x) (a3 : rlS dA SS M x) (a4 : rlN dA PS M x n) (a5 : rlA dA ad e0 M x gq rq la gk AT T) (ar : rlR x gk T n cs ss) (hn : n + 1 ≤ 512) (hq : (M.as0 fr wd nw).quF false = (true, v)) (hq2 : v.quF true = (false, vv)) (hg : vv.nmG) (hf5 : vv.faultCode = 5) (hfp : vv.faultPlace = nI pz) (hqr : (x.r0 x.tapeLength).qr y) (hpq : VS.pq dA e0 (ad 23) rq w0 g0 R y gq') (ew : w = VS.s_ll y.aq0 rq) (hwk : wkR dA ad [] la PS SS nw S (w.wk0 fr wd nw, gk, AT, T) k a) (hsa : shp a = σ) (hso : shOk σ) (h2 : 2 ≤ a.1.adep ∧ a.1.adep ≤ a.2.1.sz) (hj3 : jnC NL NR (a.2.2.2 (a.1.adep - 2)) (a.2.2.2 (a.1.adep - 1)) = 3) (hjz : jnZ dA ad [] la sg NL NR RS RU a.1 a.2.1 a.2.2.1 a.2.2.2 b1 g1 A1 T1) (hrs : ∀ tb, tb < a.2.1.sz → rsAll dA a.1.pl (a.2.2.2 tb).rs) (hbo : ∀ k, a.1.bO k < 256) (hc : cs' ≤ cs + 17 * x.tapeLength + 100) (hs : ss' + shQ (shp (VS.s_adep x 0, gk, AT, T)) ≤ ss + 70 * x.tapeLength + 5000 + shQ σ) : Rl dA ad e0 (n + 1) (VS.s_ll (b1.at5 (nI pz)) (LqW dA (ad 23) gq' ++ b1.ll)) (MS.s_length vv 0) cs' ss' := by
  obtain ⟨c1, c3, c4, c5, c8, c9⟩ := as_M1 (as_q1 hq) a1 a3 a4
  obtain ⟨d1, d3, d4, ⟨d5, d6, d7⟩, d8, d9⟩ := as_M2 (m0 := M) (as_q2 hq2) c1 c3 c4 c5 c8 c9
  obtain ⟨ey, hpl⟩ := hqr
  obtain ⟨-, -, ⟨-, ell, est, -⟩, -⟩ := hpq
  obtain ⟨⟨r1, r2, r3, r4⟩, r5, ⟨r6, r7⟩, ⟨r8, r9⟩, r10⟩ := a5
  obtain ⟨kak, ksk⟩ := wk_k (a0 := (w.wk0 fr wd nw, gk, AT, T)) (show skP dA ad [] (w.wk0 fr wd nw) la gk AT T by rw [ew]; exact r3) hwk
  have ea : a.1 = (w.wk0 fr wd nw).akS a.1 := kak
  obtain ⟨z1, z2, z3, z4, z5, z6, z7⟩ := hjz
  obtain ⟨e7, e8⟩ := z7 hj3
  have epl : a.1.pl = y.pl := by
    have h := congrArg VS.pl ea
    rw [ew] at h
    exact h
  have eplb : b1.pl = a.1.pl := (congrArg VS.pl z1).trans rfl
  have ebN : b1.bN = a.1.bN := (congrArg VS.bN z1).trans rfl
  have ebO : b1.bO = a.1.bO := (congrArg VS.bO z1).trans rfl
  have ehT : b1.hasTable = false := by
    rw [z1]
    show a.1.hasTable = false
    rw [ea, ew]
    rfl
  rw [ew, ey] at ea
  rw [ea] at z1
  have hX : VS.s_ll (b1.at5 (nI pz)) (LqW dA (ad 23) gq' ++ b1.ll) = x.qxS (VS.s_ll (b1.at5 (nI pz)) (LqW dA (ad 23) gq' ++ b1.ll)) := by
    rw [z1]
    rfl
  have hpl2 : ∀ c, c ∈ x.pl → c ∈ (VS.s_ll (b1.at5 (nI pz)) (LqW dA (ad 23) gq' ++ b1.ll)).pl := fun c hc => by
    show c ∈ b1.pl
    rw [eplb, epl]
    exact hpl c hc
  have hnh : (VS.s_ll (b1.at5 (nI pz)) (LqW dA (ad 23) gq' ++ b1.ll)).nhor = x.nhor := qx_f hX VS.nhor rfl
  have esh : shp (VS.s_adep (VS.s_ll (b1.at5 (nI pz)) (LqW dA (ad 23) gq' ++ b1.ll)) 0, g1, A1, T1) = (0, σ.2) := by
    rw [← hsa]
    show (0, g1.sz, g1.eN, (fun tb => if tb < g1.sz then (T1 tb).cN else 0), b1.bN) = (0, a.2.1.sz, a.2.1.eN, (fun tb => if tb < a.2.1.sz then (a.2.2.2 tb).cN else 0), a.1.bN)
    rw [z3, z4, e8, ebN]
  have q1 := shQ_e (VS.s_adep x 0, gk, AT, T)
  have q2 := shQ_e a
  rw [hsa] at q2
  have q1 : shQ (shp (VS.s_adep x 0, gk, AT, T)) = 700 * gk.sz + 2 * sumN gk.sz (fun tb => (T tb).cN) + 4 * x.bN := q1
  refine rl_q (M' := MS.s_length vv 0) (gq' := gq') (rq' := b1.ll) (gk := gk) (T := T) (gk' := g1) (AT' := A1) (T' := T1) a1 a2 a3 a4 ar hn hX hpl2 d1 d3 d4 ⟨d5, rfl, hf5, hfp, d6, d7⟩ ⟨⟨rfl, ?_, z2, by omega⟩, ?_, ⟨fun tb ht => ?_, fun k => ?_⟩, ⟨?_, fun hT => ?_⟩, hg, by rw [hnh]; exact r10.2⟩ hc ?_
  · show stL e0 b1.pl gq'
    rw [eplb, epl]
    exact est
  · rw [esh]
    exact ⟨Nat.zero_le _, hso.2⟩
  · show rsAll dA b1.pl (T1 tb).rs
    rw [eplb, e8]
    exact hrs tb (by omega)
  · show b1.bO k < 256
    rw [ebO]
    exact hbo k
  · show vv.isTable = b1.hasTable
    rw [ehT]
    exact d8
  · have hT : b1.hasTable = true := hT
    rw [ehT] at hT
    cases hT
  · show ss' + (700 * gk.sz + 2 * sumN gk.sz (fun tb => (T tb).cN) + 4 * x.bN) ≤ ss + 70 * x.tapeLength + 5000 + (700 * g1.sz + 2 * sumN g1.sz (fun tb => (T1 tb).cN) + 4 * b1.bN)
    rw [z3, e8, ebN]
    omega
end AE
end
