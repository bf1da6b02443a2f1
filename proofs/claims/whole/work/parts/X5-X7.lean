section
theorem d_SeriesVaultLaw_law_1474 : decode code 1474 = .ok (.aload_n 1, 1) := by decide +kernel
theorem d_SeriesVaultLaw_law_1475 : decode code 1475 = .ok (.aload_n 0, 1) := by decide +kernel
theorem d_SeriesVaultLaw_law_1476 : decode code 1476 = .ok (.iload 4, 2) := by decide +kernel
theorem d_SeriesVaultLaw_law_1478 : decode code 1478 = .ok (.iconst 1, 1) := by decide +kernel
theorem d_SeriesVaultLaw_law_1479 : decode code 1479 = .ok (.iadd, 1) := by decide +kernel
theorem d_SeriesVaultLaw_law_1480 : decode code 1480 = .ok (.iaload, 1) := by decide +kernel
theorem d_SeriesVaultLaw_law_1481 : decode code 1481 = .ok (.aload_n 3, 1) := by decide +kernel
theorem d_SeriesVaultLaw_law_1482 : decode code 1482 = .ok (.invokestatic 176, 3) := by decide +kernel
theorem d_SeriesVaultLaw_law_1485 : decode code 1485 = .ok (.istore 5, 2) := by decide +kernel
theorem d_SeriesVaultLaw_law_1487 : decode code 1487 = .ok (.aload_n 2, 1) := by decide +kernel
theorem d_SeriesVaultLaw_law_1488 : decode code 1488 = .ok (.aload_n 0, 1) := by decide +kernel
theorem d_SeriesVaultLaw_law_1489 : decode code 1489 = .ok (.iload 4, 2) := by decide +kernel
theorem d_SeriesVaultLaw_law_1491 : decode code 1491 = .ok (.iconst 1, 1) := by decide +kernel
theorem d_SeriesVaultLaw_law_1492 : decode code 1492 = .ok (.iadd, 1) := by decide +kernel
theorem d_SeriesVaultLaw_law_1493 : decode code 1493 = .ok (.iaload, 1) := by decide +kernel
theorem d_SeriesVaultLaw_law_1494 : decode code 1494 = .ok (.invokevirtual 178, 3) := by decide +kernel
theorem d_SeriesVaultLaw_law_1497 : decode code 1497 = .ok (.istore 6, 2) := by decide +kernel
theorem d_SeriesVaultLaw_law_1499 : decode code 1499 = .ok (.aload_n 2, 1) := by decide +kernel
theorem d_SeriesVaultLaw_law_1500 : decode code 1500 = .ok (.invokevirtual 110, 3) := by decide +kernel
theorem d_SeriesVaultLaw_law_1503 : decode code 1503 = .ok (.iload 5, 2) := by decide +kernel
theorem d_SeriesVaultLaw_law_1505 : decode code 1505 = .ok (.if_icmp .eq 5, 3) := by decide +kernel
theorem d_SeriesVaultLaw_law_1510 : decode code 1510 = .ok (.iload 5, 2) := by decide +kernel
theorem d_SeriesVaultLaw_law_1512 : decode code 1512 = .ok (.ifCond .ne 15, 3) := by decide +kernel
theorem d_SeriesVaultLaw_law_1515 : decode code 1515 = .ok (.aload_n 3, 1) := by decide +kernel
theorem d_SeriesVaultLaw_law_1516 : decode code 1516 = .ok (.iconst 0, 1) := by decide +kernel
theorem d_SeriesVaultLaw_law_1517 : decode code 1517 = .ok (.laload, 1) := by decide +kernel
theorem d_SeriesVaultLaw_law_1518 : decode code 1518 = .ok (.iload 6, 2) := by decide +kernel
theorem d_SeriesVaultLaw_law_1520 : decode code 1520 = .ok (.i2l, 1) := by decide +kernel
theorem d_SeriesVaultLaw_law_1521 : decode code 1521 = .ok (.lcmp, 1) := by decide +kernel
theorem d_SeriesVaultLaw_law_1522 : decode code 1522 = .ok (.ifCond .eq 5, 3) := by decide +kernel
theorem d_SeriesVaultLaw_law_1527 : decode code 1527 = .ok (.goto 243, 3) := by decide +kernel
theorem w1925 : Cond.methodLink "SeriesVaultLaw" 176 ⟨"SeriesVaultLaw", "count", "(LSeriesVault;I[J)I"⟩ ∈ aW := aw_of (tb_8 (List.mem_of_getElem? (i := 106) rfl)) rfl
theorem w1926 : Cond.codeWith ⟨"SeriesVaultLaw", "count", "(LSeriesVault;I[J)I"⟩ method_20_code 4 (some FieldType.int) [(0, 9, 12, 29), (0, 9, 15, 19)] ∈ aW := aw_of (tb_8 (List.mem_of_getElem? (i := 108) rfl)) rfl
theorem w1927 : Cond.static ⟨"SeriesVaultLaw", "count", "(LSeriesVault;I[J)I"⟩ ∈ aW := aw_of (tb_8 (List.mem_of_getElem? (i := 107) rfl)) rfl
theorem w1928 : Cond.methodLink "SeriesVaultLaw" 178 ⟨"SeriesVaultModel", "count", "(I)I"⟩ ∈ aW := aw_of (tb_10 (List.mem_of_getElem? (i := 125) rfl)) rfl
theorem w1929 : Cond.code ⟨"SeriesVaultModel", "count", "(I)I"⟩ prog_14_method_48_code 5 (some FieldType.int) ∈ aW := aw_of (tb_10 (List.mem_of_getElem? (i := 128) rfl)) rfl
theorem w1930 : Cond.instanceMethod ⟨"SeriesVaultModel", "count", "(I)I"⟩ ∈ aW := aw_of (tb_10 (List.mem_of_getElem? (i := 126) rfl)) rfl
theorem w1931 : Cond.selects "SeriesVaultModel" ⟨"SeriesVaultModel", "count", "(I)I"⟩ ⟨"SeriesVaultModel", "count", "(I)I"⟩ ∈ aW := aw_of (tb_10 (List.mem_of_getElem? (i := 127) rfl)) rfl
set_option maxHeartbeats 4000000 in
set_option maxRecDepth 100000 in
theorem l9_18 {p : Program} {e : Env} {s : State} {m : MethodId} {below : List Frame} {meth : Method} {c : Code} (l : Launch) {b L : Nat} {xs : Nat → Int32} {D : va_G} {dA : Nat → ClassId} {e0 : Nat} {A : Nat → Prop} {H : Heap} {locs : List Loc} {ls : Array Slot} (hC : lS p l s m meth c b L xs D dA e0 A) {h : Nat} {ad : Nat → Nat} {x : VS} {mm : Nat} {mad : Nat → Nat} {M M1 : MS} {o : Nat} {og : Nat → Int64} {i fr1 lo1 fr2 lo2 mc9 ms9 cells slots : Nat} {F9 : VS → Prop} {b9 : Int32} {v9 : Int64} (hi : i + 6 ≤ L) (hL : L ≤ 3072) (hfr : fr1 ≤ 2000 ∧ lo1 ≤ 80000 ∧ fr2 ≤ 2000 ∧ lo2 ≤ 80000) (hrm : cells + mc9 ≤ 601024 ∧ slots + ms9 ≤ 7293034) (hcod : M1.cod = 0) (hv : v9 = b9.toInt64) (hW : ∀ sz : Nat, Met l ⟨"SeriesVaultLaw", "count", "(LSeriesVault;I[J)I"⟩ [Cond.codeWith ⟨"SeriesVaultLaw", "count", "(LSeriesVault;I[J)I"⟩ method_20_code 4 (some FieldType.int) [(0, 9, 12, 29), (0, 9, 15, 19)]] { frames := fr1, cells := mc9, slots := ms9, locals := lo1 } (pC D dA [.ref h, .int (xs (i + 1)), .ref o] (([(o, .inl (dA 2, 1, .inr (.inl og)))] : va_W) ++ (VW dA h ad x)) sz) (va_Qi (fun (r9 : Int32) (u9 : VS) => r9 = 0 ∧ F9 u9) (fun (u9 : VS) t9 => bW D (va_A (([(o, .inl (dA 2, 1, .inr (.inl og)))] : va_W) ++ (VW dA h ad x)) sz) (([(o, .inl (dA 2, 1, .inr (.inl (va_up og 0 v9))))] : va_W) ++ (VW dA h ad u9)) t9) (va_A (([(o, .inl (dA 2, 1, .inr (.inl og)))] : va_W) ++ (VW dA h ad x)) sz)) mc9 ms9 (va_A (([(o, .inl (dA 2, 1, .inr (.inl og)))] : va_W) ++ (VW dA h ad x)) sz)) (hM : ∀ sz : Nat, Met l ⟨"SeriesVaultModel", "count", "(I)I"⟩ [Cond.code ⟨"SeriesVaultModel", "count", "(I)I"⟩ prog_14_method_48_code 5 (some FieldType.int)] { frames := fr2, cells := 0, slots := 0, locals := lo2 } (pC D dA [.ref mm, .int (xs (i + 1))] (MW dA mm mad M) sz) (va_Qi (fun (r9 : Int32) (u9 : Unit) => r9 = b9) (fun (u9 : Unit) t9 => bW D (va_A (MW dA mm mad M) sz) (MW dA mm mad M1) t9) (va_A (MW dA mm mad M) sz)) 0 0 (va_A (MW dA mm mad M) sz)) (hP : va_P D vwCl (MW dA mm mad M ++ (([(o, .inl (dA 2, 1, .inr (.inl og)))] : va_W) ++ (VW dA h ad x))) H) (hD : va_D A (MW dA mm mad M ++ (([(o, .inl (dA 2, 1, .inr (.inl og)))] : va_W) ++ (VW dA h ad x)))) (hS : va_S A s.heap H locs) (hl : lv_has ls 8 [(4, .int (nI i)), (3, .ref o), (2, .ref mm), (1, .ref h), (0, .ref b)]) (cont : ∀ (u : VS) (H1 : Heap) (locs1 : List Loc) (ls1 : Array Slot), F9 u → va_P D vwCl (MW dA mm mad M1 ++ (([(o, .inl (dA 2, 1, .inr (.inl (va_up og 0 v9))))] : va_W) ++ (VW dA h ad u))) H1 → va_D A (MW dA mm mad M1 ++ (([(o, .inl (dA 2, 1, .inr (.inl (va_up og 0 v9))))] : va_W) ++ (VW dA h ad u))) → va_S A s.heap H1 locs1 → lv_has ls1 8 [(4, .int (nI (i + 6))), (3, .ref o), (2, .ref mm), (1, .ref h), (0, .ref b)] → W p l e room_1 s m #[Value.ref b] below meth c H1 locs1 (cells + mc9 + 0 + 0) (slots + ms9 + 0 + 0) (lw_Z below #[Value.ref b] s) (F0 m 23 ls1 [])) : W p l e room_1 s m #[Value.ref b] below meth c H locs cells slots (lw_Z below #[Value.ref b] s) (F0 m 1474 ls []) := by
  have hC0 := hC
  obtain ⟨hx, hb, hr, hml, hown, hlk, hE, hK, hA, hN, hZ, hT, hX, hbl, hbA, hnew, htr⟩ := hC
  refine lv_aload_n hx hb d_SeriesVaultLaw_law_1474 rfl (lv_at hl 3 rfl) ?_
  refine lv_aload_n hx hb d_SeriesVaultLaw_law_1475 rfl (lv_at hl 4 rfl) ?_
  refine lv_iload hx hb d_SeriesVaultLaw_law_1476 (lv_at hl 0 rfl) ?_
  refine lv_iconst (v := 1) hx hb d_SeriesVaultLaw_law_1478 (by decide) ?_
  refine lv_iadd hx hb d_SeriesVaultLaw_law_1479 (tpi (y := nI (i + 1)) (nI_add (i) (1)) ?_)
  refine sldN hx hb hX hbl hbA hS (show i + 1 < L by omega) (show L ≤ 65536 by omega) d_SeriesVaultLaw_law_1480 ?_
  refine lv_aload_n hx hb d_SeriesVaultLaw_law_1481 rfl (lv_at hl 1 rfl) ?_
  have hPc : va_P D vwCl (([(o, .inl (dA 2, 1, .inr (.inl og)))] : va_W) ++ (VW dA h ad x)) H := spP (wr := MW dA mm mad M) hP
  have hDc : va_D A (([(o, .inl (dA 2, 1, .inr (.inl og)))] : va_W) ++ (VW dA h ad x)) := spD (wr := MW dA mm mad M) hD
  refine jkI (wr := MW dA mm mad M) (rnW (As := [.ref h, .int (xs (i + 1)), .ref o]) (rest := []) hx hb hml hown hE hK (hN _ _ hS) hPc hDc (hW H.size) w1926 w1925 w1927 w1793 rfl rfl ⟨⟨by decide, by decide⟩, rfl⟩ ⟨(show fr1 + 1 ≤ 2048 by omega), (show 8 + (4 + 11) + lo1 ≤ 84000 by omega)⟩ rfl hl.1 rfl (Nat.le_of_ble_eq_true rfl) d_SeriesVaultLaw_law_1482 ⟨(show cells + mc9 ≤ 601024 by omega), (show slots + ms9 ≤ 7293034 by omega)⟩) hP hD hS hA (fun k8 u8 H locs hp9 hP hD hS => ?_)
  obtain ⟨hp9, hf9⟩ := hp9
  replace hp9 : 0 = k8 := Eq.symm hp9
  subst hp9
  have hP : va_P D vwCl (MW dA mm mad M ++ (([(o, .inl (dA 2, 1, .inr (.inl (va_up og 0 v9))))] : va_W) ++ (VW dA h ad u8))) H := hP
  have hD : va_D A (MW dA mm mad M ++ (([(o, .inl (dA 2, 1, .inr (.inl (va_up og 0 v9))))] : va_W) ++ (VW dA h ad u8))) := hD
  refine lv_istore hx hb d_SeriesVaultLaw_law_1485 hl (by decide) rfl (fun ls hl => ?_)
  have hl : lv_has ls 8 [(5, .int 0), (4, .int (nI i)), (3, .ref o), (2, .ref mm), (1, .ref h), (0, .ref b)] := hl
  refine lv_aload_n hx hb d_SeriesVaultLaw_law_1487 rfl (lv_at hl 3 rfl) ?_
  refine lv_aload_n hx hb d_SeriesVaultLaw_law_1488 rfl (lv_at hl 5 rfl) ?_
  refine lv_iload hx hb d_SeriesVaultLaw_law_1489 (lv_at hl 1 rfl) ?_
  refine lv_iconst (v := 1) hx hb d_SeriesVaultLaw_law_1491 (by decide) ?_
  refine lv_iadd hx hb d_SeriesVaultLaw_law_1492 (tpi (y := nI (i + 1)) (nI_add (i) (1)) ?_)
  refine sldN hx hb hX hbl hbA hS (show i + 1 < L by omega) (show L ≤ 65536 by omega) d_SeriesVaultLaw_law_1493 ?_
  have hP := pmP (show List.Perm (α := Nat × va_E) (MW dA mm mad M ++ (([(o, .inl (dA 2, 1, .inr (.inl (va_up og 0 v9))))] : va_W) ++ (VW dA h ad u8))) (([(o, .inl (dA 2, 1, .inr (.inl (va_up og 0 v9))))] : va_W) ++ (MW dA mm mad M ++ (VW dA h ad u8))) from List.perm_append_comm_assoc (MW dA mm mad M) (([(o, .inl (dA 2, 1, .inr (.inl (va_up og 0 v9))))] : va_W)) (VW dA h ad u8)) hP
  have hD := pmD (show List.Perm (α := Nat × va_E) (MW dA mm mad M ++ (([(o, .inl (dA 2, 1, .inr (.inl (va_up og 0 v9))))] : va_W) ++ (VW dA h ad u8))) (([(o, .inl (dA 2, 1, .inr (.inl (va_up og 0 v9))))] : va_W) ++ (MW dA mm mad M ++ (VW dA h ad u8))) from List.perm_append_comm_assoc (MW dA mm mad M) (([(o, .inl (dA 2, 1, .inr (.inl (va_up og 0 v9))))] : va_W)) (VW dA h ad u8)) hD
  have hP := pmP (show List.Perm (α := Nat × va_E) (([(o, .inl (dA 2, 1, .inr (.inl (va_up og 0 v9))))] : va_W) ++ (MW dA mm mad M ++ (VW dA h ad u8))) (([(o, .inl (dA 2, 1, .inr (.inl (va_up og 0 v9))))] : va_W) ++ (VW dA h ad u8 ++ (MW dA mm mad M))) from List.Perm.append_left (([(o, .inl (dA 2, 1, .inr (.inl (va_up og 0 v9))))] : va_W)) (List.perm_append_comm)) hP
  have hD := pmD (show List.Perm (α := Nat × va_E) (([(o, .inl (dA 2, 1, .inr (.inl (va_up og 0 v9))))] : va_W) ++ (MW dA mm mad M ++ (VW dA h ad u8))) (([(o, .inl (dA 2, 1, .inr (.inl (va_up og 0 v9))))] : va_W) ++ (VW dA h ad u8 ++ (MW dA mm mad M))) from List.Perm.append_left (([(o, .inl (dA 2, 1, .inr (.inl (va_up og 0 v9))))] : va_W)) (List.perm_append_comm)) hD
  have hPc : va_P D vwCl (MW dA mm mad M) H := spP (wr := ([(o, .inl (dA 2, 1, .inr (.inl (va_up og 0 v9))))] : va_W) ++ (VW dA h ad u8)) hP
  have hDc : va_D A (MW dA mm mad M) := spD (wr := ([(o, .inl (dA 2, 1, .inr (.inl (va_up og 0 v9))))] : va_W) ++ (VW dA h ad u8)) hD
  refine jkI (wr := ([(o, .inl (dA 2, 1, .inr (.inl (va_up og 0 v9))))] : va_W) ++ (VW dA h ad u8)) (rnV (As := [.int (xs (i + 1))]) (rest := []) hx hb hml hown hE hK (hN _ _ hS) hPc hDc (hM H.size) (q0 := 0) rfl rfl w1929 w1928 w1930 w1931 w328 rfl rfl ⟨⟨by decide, by decide⟩, rfl⟩ ⟨(show fr2 + 1 ≤ 2048 by omega), (show 8 + (5 + 11) + lo2 ≤ 84000 by omega)⟩ rfl hl.1 rfl (Nat.le_of_ble_eq_true rfl) d_SeriesVaultLaw_law_1494 ⟨(show cells + mc9 + 0 ≤ 601024 by omega), (show slots + ms9 + 0 ≤ 7293034 by omega)⟩) hP hD hS hA (fun r7 u7 H locs hp9 hP hD hS => ?_)
  replace hp9 : b9 = r7 := Eq.symm hp9
  subst hp9
  have hP : va_P D vwCl (([(o, .inl (dA 2, 1, .inr (.inl (va_up og 0 v9))))] : va_W) ++ (VW dA h ad u8 ++ (MW dA mm mad M1))) H := hP
  have hD : va_D A (([(o, .inl (dA 2, 1, .inr (.inl (va_up og 0 v9))))] : va_W) ++ (VW dA h ad u8 ++ (MW dA mm mad M1))) := hD
  refine lv_istore hx hb d_SeriesVaultLaw_law_1497 hl (by decide) rfl (fun ls hl => ?_)
  have hl : lv_has ls 8 [(6, .int b9), (5, .int 0), (4, .int (nI i)), (3, .ref o), (2, .ref mm), (1, .ref h), (0, .ref b)] := hl
  refine lv_aload_n hx hb d_SeriesVaultLaw_law_1499 rfl (lv_at hl 4 rfl) ?_
  have hPc : va_P D vwCl (MW dA mm mad M1) H := spP (wr := ([(o, .inl (dA 2, 1, .inr (.inl (va_up og 0 v9))))] : va_W) ++ (VW dA h ad u8)) hP
  have hDc : va_D A (MW dA mm mad M1) := spD (wr := ([(o, .inl (dA 2, 1, .inr (.inl (va_up og 0 v9))))] : va_W) ++ (VW dA h ad u8)) hD
  refine jkI (wr := ([(o, .inl (dA 2, 1, .inr (.inl (va_up og 0 v9))))] : va_W) ++ (VW dA h ad u8)) (rnV (As := []) (rest := []) hx hb hml hown hE hK (hN _ _ hS) hPc hDc (k_thrown l D dA H.size mm mad M1) (q0 := 0) rfl rfl w1801 w1800 w1802 w1803 w328 rfl rfl ⟨⟨by decide, by decide⟩, rfl⟩ ⟨(show 1 + 1 ≤ 2048 by omega), (show 8 + (1 + 11) + 0 ≤ 84000 by omega)⟩ rfl hl.1 rfl (Nat.le_of_ble_eq_true rfl) d_SeriesVaultLaw_law_1500 ⟨(show cells + mc9 + 0 ≤ 601024 by omega), (show slots + ms9 + 0 ≤ 7293034 by omega)⟩) hP hD hS hA (fun r7 u7 H locs hp9 hP hD hS => ?_)
  replace hp9 : 0 = r7 := Eq.symm (hp9.trans hcod)
  subst hp9
  have hP : va_P D vwCl (([(o, .inl (dA 2, 1, .inr (.inl (va_up og 0 v9))))] : va_W) ++ (VW dA h ad u8 ++ (MW dA mm mad M1))) H := hP
  have hD : va_D A (([(o, .inl (dA 2, 1, .inr (.inl (va_up og 0 v9))))] : va_W) ++ (VW dA h ad u8 ++ (MW dA mm mad M1))) := hD
  refine lv_iload hx hb d_SeriesVaultLaw_law_1503 (lv_at hl 1 rfl) ?_
  refine lv_icmp_eq hx hb d_SeriesVaultLaw_law_1505 (tgt := 1510) rfl (fun _ => ?_) (fun h9 => absurd rfl h9)
  refine lv_iload hx hb d_SeriesVaultLaw_law_1510 (lv_at hl 1 rfl) ?_
  refine lv_if_ne hx hb d_SeriesVaultLaw_law_1512 (tgt := 1527) rfl (fun h9 => absurd (by decide) h9) (fun _ => ?_)
  refine lv_aload_n hx hb d_SeriesVaultLaw_law_1515 rfl (lv_at hl 3 rfl) ?_
  refine lv_iconst (v := 0) hx hb d_SeriesVaultLaw_law_1516 (by decide) ?_
  refine nlld (f := (va_up og 0 v9)) (n := 1) hx hb hK hP (0) 2 rfl rfl (0) (by decide) (by decide) d_SeriesVaultLaw_law_1517 ?_
  refine tpl (y := v9) (va_up_self _ _ _) ?_
  refine lv_iload hx hb d_SeriesVaultLaw_law_1518 (lv_at hl 0 rfl) ?_
  refine lv_i2l hx hb d_SeriesVaultLaw_law_1520 rfl ?_
  refine W.lcmp hx hb d_SeriesVaultLaw_law_1521 ?_
  refine lv_if_eq hx hb d_SeriesVaultLaw_law_1522 (tgt := 1527) rfl (fun _ => ?_) (fun h9 => absurd ((lg_cmp_eq _ _).mpr hv) h9)
  refine lv_goto hx hb d_SeriesVaultLaw_law_1527 (tgt := 1770) rfl ?_
  refine lv_iinc (k := 2) (v := nI (i + 6)) hx hb d_SeriesVaultLaw_law_1770 hl rfl (iincN (i) 6 6 (by decide)) (by decide) rfl (fun ls hl => ?_)
  have hl : lv_has ls 8 [(4, .int (nI (i + 6))), (6, .int b9), (5, .int 0), (3, .ref o), (2, .ref mm), (1, .ref h), (0, .ref b)] := hl
  refine lv_goto hx hb d_SeriesVaultLaw_law_1773 (tgt := 23) rfl ?_
  have hP := pmP (show List.Perm (α := Nat × va_E) (([(o, .inl (dA 2, 1, .inr (.inl (va_up og 0 v9))))] : va_W) ++ (VW dA h ad u8 ++ (MW dA mm mad M1))) (MW dA mm mad M1 ++ (([(o, .inl (dA 2, 1, .inr (.inl (va_up og 0 v9))))] : va_W) ++ (VW dA h ad u8))) from (List.Perm.append_left (([(o, .inl (dA 2, 1, .inr (.inl (va_up og 0 v9))))] : va_W)) (List.perm_append_comm)).trans (List.perm_append_comm_assoc (([(o, .inl (dA 2, 1, .inr (.inl (va_up og 0 v9))))] : va_W)) (MW dA mm mad M1) (VW dA h ad u8))) hP
  have hD := pmD (show List.Perm (α := Nat × va_E) (([(o, .inl (dA 2, 1, .inr (.inl (va_up og 0 v9))))] : va_W) ++ (VW dA h ad u8 ++ (MW dA mm mad M1))) (MW dA mm mad M1 ++ (([(o, .inl (dA 2, 1, .inr (.inl (va_up og 0 v9))))] : va_W) ++ (VW dA h ad u8))) from (List.Perm.append_left (([(o, .inl (dA 2, 1, .inr (.inl (va_up og 0 v9))))] : va_W)) (List.perm_append_comm)).trans (List.perm_append_comm_assoc (([(o, .inl (dA 2, 1, .inr (.inl (va_up og 0 v9))))] : va_W)) (MW dA mm mad M1) (VW dA h ad u8))) hD
  have hP : va_P D vwCl (MW dA mm mad M1 ++ (([(o, .inl (dA 2, 1, .inr (.inl (va_up og 0 v9))))] : va_W) ++ (VW dA h ad u8))) H := hP
  have hD : va_D A (MW dA mm mad M1 ++ (([(o, .inl (dA 2, 1, .inr (.inl (va_up og 0 v9))))] : va_W) ++ (VW dA h ad u8))) := hD
  have hl := lv_sub (l' := [(4, .int (nI (i + 6))), (3, .ref o), (2, .ref mm), (1, .ref h), (0, .ref b)]) hl [0, 3, 4, 5, 6] rfl
  exact cont u8 H locs ls hf9 hP hD hS hl
set_option maxHeartbeats 4000000 in
set_option maxRecDepth 100000 in
theorem l9_18_x {p : Program} {e : Env} {s : State} {m : MethodId} {below : List Frame} {meth : Method} {c : Code} (l : Launch) {b L : Nat} {xs : Nat → Int32} {D : va_G} {dA : Nat → ClassId} {e0 : Nat} {A : Nat → Prop} {H : Heap} {locs : List Loc} {ls : Array Slot} (hC : lS p l s m meth c b L xs D dA e0 A) {h : Nat} {ad : Nat → Nat} {x : VS} {mm : Nat} {mad : Nat → Nat} {M M1 : MS} {o : Nat} {og : Nat → Int64} {i fr1 lo1 fr2 lo2 mc9 ms9 cells slots : Nat} {F9 : VS → Prop} {b9 : Int32} {k9 : Nat} (hi : i + 6 ≤ L) (hL : L ≤ 3072) (hfr : fr1 ≤ 2000 ∧ lo1 ≤ 80000 ∧ fr2 ≤ 2000 ∧ lo2 ≤ 80000) (hrm : cells + mc9 ≤ 601024 ∧ slots + ms9 ≤ 7293034) (hcod : M1.cod = nI k9) (hk9 : ¬ nI k9 = 0) (hW : ∀ sz : Nat, Met l ⟨"SeriesVaultLaw", "count", "(LSeriesVault;I[J)I"⟩ [Cond.codeWith ⟨"SeriesVaultLaw", "count", "(LSeriesVault;I[J)I"⟩ method_20_code 4 (some FieldType.int) [(0, 9, 12, 29), (0, 9, 15, 19)]] { frames := fr1, cells := mc9, slots := ms9, locals := lo1 } (pC D dA [.ref h, .int (xs (i + 1)), .ref o] (([(o, .inl (dA 2, 1, .inr (.inl og)))] : va_W) ++ (VW dA h ad x)) sz) (va_Qi (fun (r9 : Int32) (u9 : VS) => r9 = nI k9 ∧ F9 u9) (fun (u9 : VS) t9 => bW D (va_A (([(o, .inl (dA 2, 1, .inr (.inl og)))] : va_W) ++ (VW dA h ad x)) sz) (([(o, .inl (dA 2, 1, .inr (.inl (og))))] : va_W) ++ (VW dA h ad u9)) t9) (va_A (([(o, .inl (dA 2, 1, .inr (.inl og)))] : va_W) ++ (VW dA h ad x)) sz)) mc9 ms9 (va_A (([(o, .inl (dA 2, 1, .inr (.inl og)))] : va_W) ++ (VW dA h ad x)) sz)) (hM : ∀ sz : Nat, Met l ⟨"SeriesVaultModel", "count", "(I)I"⟩ [Cond.code ⟨"SeriesVaultModel", "count", "(I)I"⟩ prog_14_method_48_code 5 (some FieldType.int)] { frames := fr2, cells := 0, slots := 0, locals := lo2 } (pC D dA [.ref mm, .int (xs (i + 1))] (MW dA mm mad M) sz) (va_Qi (fun (r9 : Int32) (u9 : Unit) => r9 = b9) (fun (u9 : Unit) t9 => bW D (va_A (MW dA mm mad M) sz) (MW dA mm mad M1) t9) (va_A (MW dA mm mad M) sz)) 0 0 (va_A (MW dA mm mad M) sz)) (hP : va_P D vwCl (MW dA mm mad M ++ (([(o, .inl (dA 2, 1, .inr (.inl og)))] : va_W) ++ (VW dA h ad x))) H) (hD : va_D A (MW dA mm mad M ++ (([(o, .inl (dA 2, 1, .inr (.inl og)))] : va_W) ++ (VW dA h ad x)))) (hS : va_S A s.heap H locs) (hl : lv_has ls 8 [(4, .int (nI i)), (3, .ref o), (2, .ref mm), (1, .ref h), (0, .ref b)]) (cont : ∀ (u : VS) (H1 : Heap) (locs1 : List Loc) (ls1 : Array Slot), F9 u → va_P D vwCl (MW dA mm mad M1 ++ (([(o, .inl (dA 2, 1, .inr (.inl og)))] : va_W) ++ (VW dA h ad u))) H1 → va_D A (MW dA mm mad M1 ++ (([(o, .inl (dA 2, 1, .inr (.inl og)))] : va_W) ++ (VW dA h ad u))) → va_S A s.heap H1 locs1 → lv_has ls1 8 [(4, .int (nI (i + 6))), (3, .ref o), (2, .ref mm), (1, .ref h), (0, .ref b)] → W p l e room_1 s m #[Value.ref b] below meth c H1 locs1 (cells + mc9 + 0 + 0) (slots + ms9 + 0 + 0) (lw_Z below #[Value.ref b] s) (F0 m 23 ls1 [])) : W p l e room_1 s m #[Value.ref b] below meth c H locs cells slots (lw_Z below #[Value.ref b] s) (F0 m 1474 ls []) := by
  have hC0 := hC
  obtain ⟨hx, hb, hr, hml, hown, hlk, hE, hK, hA, hN, hZ, hT, hX, hbl, hbA, hnew, htr⟩ := hC
  refine lv_aload_n hx hb d_SeriesVaultLaw_law_1474 rfl (lv_at hl 3 rfl) ?_
  refine lv_aload_n hx hb d_SeriesVaultLaw_law_1475 rfl (lv_at hl 4 rfl) ?_
  refine lv_iload hx hb d_SeriesVaultLaw_law_1476 (lv_at hl 0 rfl) ?_
  refine lv_iconst (v := 1) hx hb d_SeriesVaultLaw_law_1478 (by decide) ?_
  refine lv_iadd hx hb d_SeriesVaultLaw_law_1479 (tpi (y := nI (i + 1)) (nI_add (i) (1)) ?_)
  refine sldN hx hb hX hbl hbA hS (show i + 1 < L by omega) (show L ≤ 65536 by omega) d_SeriesVaultLaw_law_1480 ?_
  refine lv_aload_n hx hb d_SeriesVaultLaw_law_1481 rfl (lv_at hl 1 rfl) ?_
  have hPc : va_P D vwCl (([(o, .inl (dA 2, 1, .inr (.inl og)))] : va_W) ++ (VW dA h ad x)) H := spP (wr := MW dA mm mad M) hP
  have hDc : va_D A (([(o, .inl (dA 2, 1, .inr (.inl og)))] : va_W) ++ (VW dA h ad x)) := spD (wr := MW dA mm mad M) hD
  refine jkI (wr := MW dA mm mad M) (rnW (As := [.ref h, .int (xs (i + 1)), .ref o]) (rest := []) hx hb hml hown hE hK (hN _ _ hS) hPc hDc (hW H.size) w1926 w1925 w1927 w1793 rfl rfl ⟨⟨by decide, by decide⟩, rfl⟩ ⟨(show fr1 + 1 ≤ 2048 by omega), (show 8 + (4 + 11) + lo1 ≤ 84000 by omega)⟩ rfl hl.1 rfl (Nat.le_of_ble_eq_true rfl) d_SeriesVaultLaw_law_1482 ⟨(show cells + mc9 ≤ 601024 by omega), (show slots + ms9 ≤ 7293034 by omega)⟩) hP hD hS hA (fun k8 u8 H locs hp9 hP hD hS => ?_)
  obtain ⟨hp9, hf9⟩ := hp9
  replace hp9 : nI k9 = k8 := Eq.symm hp9
  subst hp9
  have hP : va_P D vwCl (MW dA mm mad M ++ (([(o, .inl (dA 2, 1, .inr (.inl og)))] : va_W) ++ (VW dA h ad u8))) H := hP
  have hD : va_D A (MW dA mm mad M ++ (([(o, .inl (dA 2, 1, .inr (.inl og)))] : va_W) ++ (VW dA h ad u8))) := hD
  refine lv_istore hx hb d_SeriesVaultLaw_law_1485 hl (by decide) rfl (fun ls hl => ?_)
  have hl : lv_has ls 8 [(5, .int (nI k9)), (4, .int (nI i)), (3, .ref o), (2, .ref mm), (1, .ref h), (0, .ref b)] := hl
  refine lv_aload_n hx hb d_SeriesVaultLaw_law_1487 rfl (lv_at hl 3 rfl) ?_
  refine lv_aload_n hx hb d_SeriesVaultLaw_law_1488 rfl (lv_at hl 5 rfl) ?_
  refine lv_iload hx hb d_SeriesVaultLaw_law_1489 (lv_at hl 1 rfl) ?_
  refine lv_iconst (v := 1) hx hb d_SeriesVaultLaw_law_1491 (by decide) ?_
  refine lv_iadd hx hb d_SeriesVaultLaw_law_1492 (tpi (y := nI (i + 1)) (nI_add (i) (1)) ?_)
  refine sldN hx hb hX hbl hbA hS (show i + 1 < L by omega) (show L ≤ 65536 by omega) d_SeriesVaultLaw_law_1493 ?_
  have hP := pmP (show List.Perm (α := Nat × va_E) (MW dA mm mad M ++ (([(o, .inl (dA 2, 1, .inr (.inl og)))] : va_W) ++ (VW dA h ad u8))) (([(o, .inl (dA 2, 1, .inr (.inl og)))] : va_W) ++ (MW dA mm mad M ++ (VW dA h ad u8))) from List.perm_append_comm_assoc (MW dA mm mad M) (([(o, .inl (dA 2, 1, .inr (.inl og)))] : va_W)) (VW dA h ad u8)) hP
  have hD := pmD (show List.Perm (α := Nat × va_E) (MW dA mm mad M ++ (([(o, .inl (dA 2, 1, .inr (.inl og)))] : va_W) ++ (VW dA h ad u8))) (([(o, .inl (dA 2, 1, .inr (.inl og)))] : va_W) ++ (MW dA mm mad M ++ (VW dA h ad u8))) from List.perm_append_comm_assoc (MW dA mm mad M) (([(o, .inl (dA 2, 1, .inr (.inl og)))] : va_W)) (VW dA h ad u8)) hD
  have hP := pmP (show List.Perm (α := Nat × va_E) (([(o, .inl (dA 2, 1, .inr (.inl og)))] : va_W) ++ (MW dA mm mad M ++ (VW dA h ad u8))) (([(o, .inl (dA 2, 1, .inr (.inl og)))] : va_W) ++ (VW dA h ad u8 ++ (MW dA mm mad M))) from List.Perm.append_left (([(o, .inl (dA 2, 1, .inr (.inl og)))] : va_W)) (List.perm_append_comm)) hP
  have hD := pmD (show List.Perm (α := Nat × va_E) (([(o, .inl (dA 2, 1, .inr (.inl og)))] : va_W) ++ (MW dA mm mad M ++ (VW dA h ad u8))) (([(o, .inl (dA 2, 1, .inr (.inl og)))] : va_W) ++ (VW dA h ad u8 ++ (MW dA mm mad M))) from List.Perm.append_left (([(o, .inl (dA 2, 1, .inr (.inl og)))] : va_W)) (List.perm_append_comm)) hD
  have hPc : va_P D vwCl (MW dA mm mad M) H := spP (wr := ([(o, .inl (dA 2, 1, .inr (.inl og)))] : va_W) ++ (VW dA h ad u8)) hP
  have hDc : va_D A (MW dA mm mad M) := spD (wr := ([(o, .inl (dA 2, 1, .inr (.inl og)))] : va_W) ++ (VW dA h ad u8)) hD
  refine jkI (wr := ([(o, .inl (dA 2, 1, .inr (.inl og)))] : va_W) ++ (VW dA h ad u8)) (rnV (As := [.int (xs (i + 1))]) (rest := []) hx hb hml hown hE hK (hN _ _ hS) hPc hDc (hM H.size) (q0 := 0) rfl rfl w1929 w1928 w1930 w1931 w328 rfl rfl ⟨⟨by decide, by decide⟩, rfl⟩ ⟨(show fr2 + 1 ≤ 2048 by omega), (show 8 + (5 + 11) + lo2 ≤ 84000 by omega)⟩ rfl hl.1 rfl (Nat.le_of_ble_eq_true rfl) d_SeriesVaultLaw_law_1494 ⟨(show cells + mc9 + 0 ≤ 601024 by omega), (show slots + ms9 + 0 ≤ 7293034 by omega)⟩) hP hD hS hA (fun r7 u7 H locs hp9 hP hD hS => ?_)
  replace hp9 : b9 = r7 := Eq.symm hp9
  subst hp9
  have hP : va_P D vwCl (([(o, .inl (dA 2, 1, .inr (.inl og)))] : va_W) ++ (VW dA h ad u8 ++ (MW dA mm mad M1))) H := hP
  have hD : va_D A (([(o, .inl (dA 2, 1, .inr (.inl og)))] : va_W) ++ (VW dA h ad u8 ++ (MW dA mm mad M1))) := hD
  refine lv_istore hx hb d_SeriesVaultLaw_law_1497 hl (by decide) rfl (fun ls hl => ?_)
  have hl : lv_has ls 8 [(6, .int b9), (5, .int (nI k9)), (4, .int (nI i)), (3, .ref o), (2, .ref mm), (1, .ref h), (0, .ref b)] := hl
  refine lv_aload_n hx hb d_SeriesVaultLaw_law_1499 rfl (lv_at hl 4 rfl) ?_
  have hPc : va_P D vwCl (MW dA mm mad M1) H := spP (wr := ([(o, .inl (dA 2, 1, .inr (.inl og)))] : va_W) ++ (VW dA h ad u8)) hP
  have hDc : va_D A (MW dA mm mad M1) := spD (wr := ([(o, .inl (dA 2, 1, .inr (.inl og)))] : va_W) ++ (VW dA h ad u8)) hD
  refine jkI (wr := ([(o, .inl (dA 2, 1, .inr (.inl og)))] : va_W) ++ (VW dA h ad u8)) (rnV (As := []) (rest := []) hx hb hml hown hE hK (hN _ _ hS) hPc hDc (k_thrown l D dA H.size mm mad M1) (q0 := 0) rfl rfl w1801 w1800 w1802 w1803 w328 rfl rfl ⟨⟨by decide, by decide⟩, rfl⟩ ⟨(show 1 + 1 ≤ 2048 by omega), (show 8 + (1 + 11) + 0 ≤ 84000 by omega)⟩ rfl hl.1 rfl (Nat.le_of_ble_eq_true rfl) d_SeriesVaultLaw_law_1500 ⟨(show cells + mc9 + 0 ≤ 601024 by omega), (show slots + ms9 + 0 ≤ 7293034 by omega)⟩) hP hD hS hA (fun r7 u7 H locs hp9 hP hD hS => ?_)
  replace hp9 : nI k9 = r7 := Eq.symm (hp9.trans hcod)
  subst hp9
  have hP : va_P D vwCl (([(o, .inl (dA 2, 1, .inr (.inl og)))] : va_W) ++ (VW dA h ad u8 ++ (MW dA mm mad M1))) H := hP
  have hD : va_D A (([(o, .inl (dA 2, 1, .inr (.inl og)))] : va_W) ++ (VW dA h ad u8 ++ (MW dA mm mad M1))) := hD
  refine lv_iload hx hb d_SeriesVaultLaw_law_1503 (lv_at hl 1 rfl) ?_
  refine lv_icmp_eq hx hb d_SeriesVaultLaw_law_1505 (tgt := 1510) rfl (fun _ => ?_) (fun h9 => absurd rfl h9)
  refine lv_iload hx hb d_SeriesVaultLaw_law_1510 (lv_at hl 1 rfl) ?_
  refine lv_if_ne hx hb d_SeriesVaultLaw_law_1512 (tgt := 1527) rfl (fun _ => ?_) (fun h9 => absurd h9 hk9)
  refine lv_goto hx hb d_SeriesVaultLaw_law_1527 (tgt := 1770) rfl ?_
  refine lv_iinc (k := 2) (v := nI (i + 6)) hx hb d_SeriesVaultLaw_law_1770 hl rfl (iincN (i) 6 6 (by decide)) (by decide) rfl (fun ls hl => ?_)
  have hl : lv_has ls 8 [(4, .int (nI (i + 6))), (6, .int b9), (5, .int (nI k9)), (3, .ref o), (2, .ref mm), (1, .ref h), (0, .ref b)] := hl
  refine lv_goto hx hb d_SeriesVaultLaw_law_1773 (tgt := 23) rfl ?_
  have hP := pmP (show List.Perm (α := Nat × va_E) (([(o, .inl (dA 2, 1, .inr (.inl og)))] : va_W) ++ (VW dA h ad u8 ++ (MW dA mm mad M1))) (MW dA mm mad M1 ++ (([(o, .inl (dA 2, 1, .inr (.inl og)))] : va_W) ++ (VW dA h ad u8))) from (List.Perm.append_left (([(o, .inl (dA 2, 1, .inr (.inl og)))] : va_W)) (List.perm_append_comm)).trans (List.perm_append_comm_assoc (([(o, .inl (dA 2, 1, .inr (.inl og)))] : va_W)) (MW dA mm mad M1) (VW dA h ad u8))) hP
  have hD := pmD (show List.Perm (α := Nat × va_E) (([(o, .inl (dA 2, 1, .inr (.inl og)))] : va_W) ++ (VW dA h ad u8 ++ (MW dA mm mad M1))) (MW dA mm mad M1 ++ (([(o, .inl (dA 2, 1, .inr (.inl og)))] : va_W) ++ (VW dA h ad u8))) from (List.Perm.append_left (([(o, .inl (dA 2, 1, .inr (.inl og)))] : va_W)) (List.perm_append_comm)).trans (List.perm_append_comm_assoc (([(o, .inl (dA 2, 1, .inr (.inl og)))] : va_W)) (MW dA mm mad M1) (VW dA h ad u8))) hD
  have hP : va_P D vwCl (MW dA mm mad M1 ++ (([(o, .inl (dA 2, 1, .inr (.inl og)))] : va_W) ++ (VW dA h ad u8))) H := hP
  have hD : va_D A (MW dA mm mad M1 ++ (([(o, .inl (dA 2, 1, .inr (.inl og)))] : va_W) ++ (VW dA h ad u8))) := hD
  have hl := lv_sub (l' := [(4, .int (nI (i + 6))), (3, .ref o), (2, .ref mm), (1, .ref h), (0, .ref b)]) hl [0, 3, 4, 5, 6] rfl
  exact cont u8 H locs ls hf9 hP hD hS hl
theorem d_SeriesVaultLaw_law_1530 : decode code 1530 = .ok (.aload_n 1, 1) := by decide +kernel
theorem d_SeriesVaultLaw_law_1531 : decode code 1531 = .ok (.aload_n 0, 1) := by decide +kernel
theorem d_SeriesVaultLaw_law_1532 : decode code 1532 = .ok (.iload 4, 2) := by decide +kernel
theorem d_SeriesVaultLaw_law_1534 : decode code 1534 = .ok (.iconst 1, 1) := by decide +kernel
theorem d_SeriesVaultLaw_law_1535 : decode code 1535 = .ok (.iadd, 1) := by decide +kernel
theorem d_SeriesVaultLaw_law_1536 : decode code 1536 = .ok (.iaload, 1) := by decide +kernel
theorem d_SeriesVaultLaw_law_1537 : decode code 1537 = .ok (.aload_n 0, 1) := by decide +kernel
theorem d_SeriesVaultLaw_law_1538 : decode code 1538 = .ok (.iload 4, 2) := by decide +kernel
theorem d_SeriesVaultLaw_law_1540 : decode code 1540 = .ok (.iconst 2, 1) := by decide +kernel
theorem d_SeriesVaultLaw_law_1541 : decode code 1541 = .ok (.iadd, 1) := by decide +kernel
theorem d_SeriesVaultLaw_law_1542 : decode code 1542 = .ok (.iaload, 1) := by decide +kernel
theorem d_SeriesVaultLaw_law_1543 : decode code 1543 = .ok (.aload_n 3, 1) := by decide +kernel
theorem d_SeriesVaultLaw_law_1544 : decode code 1544 = .ok (.invokestatic 179, 3) := by decide +kernel
theorem d_SeriesVaultLaw_law_1547 : decode code 1547 = .ok (.istore 5, 2) := by decide +kernel
theorem d_SeriesVaultLaw_law_1549 : decode code 1549 = .ok (.aload_n 2, 1) := by decide +kernel
theorem d_SeriesVaultLaw_law_1550 : decode code 1550 = .ok (.aload_n 0, 1) := by decide +kernel
theorem d_SeriesVaultLaw_law_1551 : decode code 1551 = .ok (.iload 4, 2) := by decide +kernel
theorem d_SeriesVaultLaw_law_1553 : decode code 1553 = .ok (.iconst 1, 1) := by decide +kernel
theorem d_SeriesVaultLaw_law_1554 : decode code 1554 = .ok (.iadd, 1) := by decide +kernel
theorem d_SeriesVaultLaw_law_1555 : decode code 1555 = .ok (.iaload, 1) := by decide +kernel
theorem d_SeriesVaultLaw_law_1556 : decode code 1556 = .ok (.aload_n 0, 1) := by decide +kernel
theorem d_SeriesVaultLaw_law_1557 : decode code 1557 = .ok (.iload 4, 2) := by decide +kernel
theorem d_SeriesVaultLaw_law_1559 : decode code 1559 = .ok (.iconst 2, 1) := by decide +kernel
theorem d_SeriesVaultLaw_law_1560 : decode code 1560 = .ok (.iadd, 1) := by decide +kernel
theorem d_SeriesVaultLaw_law_1561 : decode code 1561 = .ok (.iaload, 1) := by decide +kernel
theorem d_SeriesVaultLaw_law_1562 : decode code 1562 = .ok (.invokevirtual 181, 3) := by decide +kernel
theorem d_SeriesVaultLaw_law_1565 : decode code 1565 = .ok (.istore 6, 2) := by decide +kernel
theorem d_SeriesVaultLaw_law_1567 : decode code 1567 = .ok (.aload_n 2, 1) := by decide +kernel
theorem d_SeriesVaultLaw_law_1568 : decode code 1568 = .ok (.invokevirtual 110, 3) := by decide +kernel
theorem d_SeriesVaultLaw_law_1571 : decode code 1571 = .ok (.iload 5, 2) := by decide +kernel
theorem d_SeriesVaultLaw_law_1573 : decode code 1573 = .ok (.if_icmp .eq 5, 3) := by decide +kernel
theorem d_SeriesVaultLaw_law_1578 : decode code 1578 = .ok (.iload 5, 2) := by decide +kernel
theorem d_SeriesVaultLaw_law_1580 : decode code 1580 = .ok (.ifCond .ne 15, 3) := by decide +kernel
theorem d_SeriesVaultLaw_law_1583 : decode code 1583 = .ok (.aload_n 3, 1) := by decide +kernel
theorem d_SeriesVaultLaw_law_1584 : decode code 1584 = .ok (.iconst 0, 1) := by decide +kernel
theorem d_SeriesVaultLaw_law_1585 : decode code 1585 = .ok (.laload, 1) := by decide +kernel
theorem d_SeriesVaultLaw_law_1586 : decode code 1586 = .ok (.iload 6, 2) := by decide +kernel
theorem d_SeriesVaultLaw_law_1588 : decode code 1588 = .ok (.i2l, 1) := by decide +kernel
theorem d_SeriesVaultLaw_law_1589 : decode code 1589 = .ok (.lcmp, 1) := by decide +kernel
theorem d_SeriesVaultLaw_law_1590 : decode code 1590 = .ok (.ifCond .eq 5, 3) := by decide +kernel
theorem d_SeriesVaultLaw_law_1595 : decode code 1595 = .ok (.goto 175, 3) := by decide +kernel
theorem w1932 : Cond.methodLink "SeriesVaultLaw" 179 ⟨"SeriesVaultLaw", "parcel", "(LSeriesVault;II[J)I"⟩ ∈ aW := aw_of (tb_8 (List.mem_of_getElem? (i := 119) rfl)) rfl
theorem w1933 : Cond.codeWith ⟨"SeriesVaultLaw", "parcel", "(LSeriesVault;II[J)I"⟩ method_21_code 5 (some FieldType.int) [(0, 10, 13, 29), (0, 10, 17, 35), (0, 10, 21, 19)] ∈ aW := aw_of (tb_8 (List.mem_of_getElem? (i := 121) rfl)) rfl
theorem w1934 : Cond.static ⟨"SeriesVaultLaw", "parcel", "(LSeriesVault;II[J)I"⟩ ∈ aW := aw_of (tb_8 (List.mem_of_getElem? (i := 120) rfl)) rfl
theorem w1935 : Cond.methodLink "SeriesVaultLaw" 181 ⟨"SeriesVaultModel", "parcel", "(II)I"⟩ ∈ aW := aw_of (tb_10 (List.mem_of_getElem? (i := 129) rfl)) rfl
theorem w1936 : Cond.code ⟨"SeriesVaultModel", "parcel", "(II)I"⟩ prog_14_method_49_code 10 (some FieldType.int) ∈ aW := aw_of (tb_10 (List.mem_of_getElem? (i := 132) rfl)) rfl
theorem w1937 : Cond.instanceMethod ⟨"SeriesVaultModel", "parcel", "(II)I"⟩ ∈ aW := aw_of (tb_10 (List.mem_of_getElem? (i := 130) rfl)) rfl
theorem w1938 : Cond.selects "SeriesVaultModel" ⟨"SeriesVaultModel", "parcel", "(II)I"⟩ ⟨"SeriesVaultModel", "parcel", "(II)I"⟩ ∈ aW := aw_of (tb_10 (List.mem_of_getElem? (i := 131) rfl)) rfl
set_option maxHeartbeats 4000000 in
set_option maxRecDepth 100000 in
theorem l9_19 {p : Program} {e : Env} {s : State} {m : MethodId} {below : List Frame} {meth : Method} {c : Code} (l : Launch) {b L : Nat} {xs : Nat → Int32} {D : va_G} {dA : Nat → ClassId} {e0 : Nat} {A : Nat → Prop} {H : Heap} {locs : List Loc} {ls : Array Slot} (hC : lS p l s m meth c b L xs D dA e0 A) {h : Nat} {ad : Nat → Nat} {x : VS} {mm : Nat} {mad : Nat → Nat} {M M1 : MS} {o : Nat} {og : Nat → Int64} {i fr1 lo1 fr2 lo2 mc9 ms9 cells slots : Nat} {F9 : VS → Prop} {b9 : Int32} {v9 : Int64} (hi : i + 6 ≤ L) (hL : L ≤ 3072) (hfr : fr1 ≤ 2000 ∧ lo1 ≤ 80000 ∧ fr2 ≤ 2000 ∧ lo2 ≤ 80000) (hrm : cells + mc9 ≤ 601024 ∧ slots + ms9 ≤ 7293034) (hcod : M1.cod = 0) (hv : v9 = b9.toInt64) (hW : ∀ sz : Nat, Met l ⟨"SeriesVaultLaw", "parcel", "(LSeriesVault;II[J)I"⟩ [Cond.codeWith ⟨"SeriesVaultLaw", "parcel", "(LSeriesVault;II[J)I"⟩ method_21_code 5 (some FieldType.int) [(0, 10, 13, 29), (0, 10, 17, 35), (0, 10, 21, 19)]] { frames := fr1, cells := mc9, slots := ms9, locals := lo1 } (pC D dA [.ref h, .int (xs (i + 1)), .int (xs (i + 2)), .ref o] (([(o, .inl (dA 2, 1, .inr (.inl og)))] : va_W) ++ (VW dA h ad x)) sz) (va_Qi (fun (r9 : Int32) (u9 : VS) => r9 = 0 ∧ F9 u9) (fun (u9 : VS) t9 => bW D (va_A (([(o, .inl (dA 2, 1, .inr (.inl og)))] : va_W) ++ (VW dA h ad x)) sz) (([(o, .inl (dA 2, 1, .inr (.inl (va_up og 0 v9))))] : va_W) ++ (VW dA h ad u9)) t9) (va_A (([(o, .inl (dA 2, 1, .inr (.inl og)))] : va_W) ++ (VW dA h ad x)) sz)) mc9 ms9 (va_A (([(o, .inl (dA 2, 1, .inr (.inl og)))] : va_W) ++ (VW dA h ad x)) sz)) (hM : ∀ sz : Nat, Met l ⟨"SeriesVaultModel", "parcel", "(II)I"⟩ [Cond.code ⟨"SeriesVaultModel", "parcel", "(II)I"⟩ prog_14_method_49_code 10 (some FieldType.int)] { frames := fr2, cells := 0, slots := 0, locals := lo2 } (pC D dA [.ref mm, .int (xs (i + 1)), .int (xs (i + 2))] (MW dA mm mad M) sz) (va_Qi (fun (r9 : Int32) (u9 : Unit) => r9 = b9) (fun (u9 : Unit) t9 => bW D (va_A (MW dA mm mad M) sz) (MW dA mm mad M1) t9) (va_A (MW dA mm mad M) sz)) 0 0 (va_A (MW dA mm mad M) sz)) (hP : va_P D vwCl (MW dA mm mad M ++ (([(o, .inl (dA 2, 1, .inr (.inl og)))] : va_W) ++ (VW dA h ad x))) H) (hD : va_D A (MW dA mm mad M ++ (([(o, .inl (dA 2, 1, .inr (.inl og)))] : va_W) ++ (VW dA h ad x)))) (hS : va_S A s.heap H locs) (hl : lv_has ls 8 [(4, .int (nI i)), (3, .ref o), (2, .ref mm), (1, .ref h), (0, .ref b)]) (cont : ∀ (u : VS) (H1 : Heap) (locs1 : List Loc) (ls1 : Array Slot), F9 u → va_P D vwCl (MW dA mm mad M1 ++ (([(o, .inl (dA 2, 1, .inr (.inl (va_up og 0 v9))))] : va_W) ++ (VW dA h ad u))) H1 → va_D A (MW dA mm mad M1 ++ (([(o, .inl (dA 2, 1, .inr (.inl (va_up og 0 v9))))] : va_W) ++ (VW dA h ad u))) → va_S A s.heap H1 locs1 → lv_has ls1 8 [(4, .int (nI (i + 6))), (3, .ref o), (2, .ref mm), (1, .ref h), (0, .ref b)] → W p l e room_1 s m #[Value.ref b] below meth c H1 locs1 (cells + mc9 + 0 + 0) (slots + ms9 + 0 + 0) (lw_Z below #[Value.ref b] s) (F0 m 23 ls1 [])) : W p l e room_1 s m #[Value.ref b] below meth c H locs cells slots (lw_Z below #[Value.ref b] s) (F0 m 1530 ls []) := by
  have hC0 := hC
  obtain ⟨hx, hb, hr, hml, hown, hlk, hE, hK, hA, hN, hZ, hT, hX, hbl, hbA, hnew, htr⟩ := hC
  refine lv_aload_n hx hb d_SeriesVaultLaw_law_1530 rfl (lv_at hl 3 rfl) ?_
  refine lv_aload_n hx hb d_SeriesVaultLaw_law_1531 rfl (lv_at hl 4 rfl) ?_
  refine lv_iload hx hb d_SeriesVaultLaw_law_1532 (lv_at hl 0 rfl) ?_
  refine lv_iconst (v := 1) hx hb d_SeriesVaultLaw_law_1534 (by decide) ?_
  refine lv_iadd hx hb d_SeriesVaultLaw_law_1535 (tpi (y := nI (i + 1)) (nI_add (i) (1)) ?_)
  refine sldN hx hb hX hbl hbA hS (show i + 1 < L by omega) (show L ≤ 65536 by omega) d_SeriesVaultLaw_law_1536 ?_
  refine lv_aload_n hx hb d_SeriesVaultLaw_law_1537 rfl (lv_at hl 4 rfl) ?_
  refine lv_iload hx hb d_SeriesVaultLaw_law_1538 (lv_at hl 0 rfl) ?_
  refine lv_iconst (v := 2) hx hb d_SeriesVaultLaw_law_1540 (by decide) ?_
  refine lv_iadd hx hb d_SeriesVaultLaw_law_1541 (tpi (y := nI (i + 2)) (nI_add (i) (2)) ?_)
  refine sldN hx hb hX hbl hbA hS (show i + 2 < L by omega) (show L ≤ 65536 by omega) d_SeriesVaultLaw_law_1542 ?_
  refine lv_aload_n hx hb d_SeriesVaultLaw_law_1543 rfl (lv_at hl 1 rfl) ?_
  have hPc : va_P D vwCl (([(o, .inl (dA 2, 1, .inr (.inl og)))] : va_W) ++ (VW dA h ad x)) H := spP (wr := MW dA mm mad M) hP
  have hDc : va_D A (([(o, .inl (dA 2, 1, .inr (.inl og)))] : va_W) ++ (VW dA h ad x)) := spD (wr := MW dA mm mad M) hD
  refine jkI (wr := MW dA mm mad M) (rnW (As := [.ref h, .int (xs (i + 1)), .int (xs (i + 2)), .ref o]) (rest := []) hx hb hml hown hE hK (hN _ _ hS) hPc hDc (hW H.size) w1933 w1932 w1934 w1793 rfl rfl ⟨⟨by decide, by decide⟩, rfl⟩ ⟨(show fr1 + 1 ≤ 2048 by omega), (show 8 + (5 + 11) + lo1 ≤ 84000 by omega)⟩ rfl hl.1 rfl (Nat.le_of_ble_eq_true rfl) d_SeriesVaultLaw_law_1544 ⟨(show cells + mc9 ≤ 601024 by omega), (show slots + ms9 ≤ 7293034 by omega)⟩) hP hD hS hA (fun k8 u8 H locs hp9 hP hD hS => ?_)
  obtain ⟨hp9, hf9⟩ := hp9
  replace hp9 : 0 = k8 := Eq.symm hp9
  subst hp9
  have hP : va_P D vwCl (MW dA mm mad M ++ (([(o, .inl (dA 2, 1, .inr (.inl (va_up og 0 v9))))] : va_W) ++ (VW dA h ad u8))) H := hP
  have hD : va_D A (MW dA mm mad M ++ (([(o, .inl (dA 2, 1, .inr (.inl (va_up og 0 v9))))] : va_W) ++ (VW dA h ad u8))) := hD
  refine lv_istore hx hb d_SeriesVaultLaw_law_1547 hl (by decide) rfl (fun ls hl => ?_)
  have hl : lv_has ls 8 [(5, .int 0), (4, .int (nI i)), (3, .ref o), (2, .ref mm), (1, .ref h), (0, .ref b)] := hl
  refine lv_aload_n hx hb d_SeriesVaultLaw_law_1549 rfl (lv_at hl 3 rfl) ?_
  refine lv_aload_n hx hb d_SeriesVaultLaw_law_1550 rfl (lv_at hl 5 rfl) ?_
  refine lv_iload hx hb d_SeriesVaultLaw_law_1551 (lv_at hl 1 rfl) ?_
  refine lv_iconst (v := 1) hx hb d_SeriesVaultLaw_law_1553 (by decide) ?_
  refine lv_iadd hx hb d_SeriesVaultLaw_law_1554 (tpi (y := nI (i + 1)) (nI_add (i) (1)) ?_)
  refine sldN hx hb hX hbl hbA hS (show i + 1 < L by omega) (show L ≤ 65536 by omega) d_SeriesVaultLaw_law_1555 ?_
  refine lv_aload_n hx hb d_SeriesVaultLaw_law_1556 rfl (lv_at hl 5 rfl) ?_
  refine lv_iload hx hb d_SeriesVaultLaw_law_1557 (lv_at hl 1 rfl) ?_
  refine lv_iconst (v := 2) hx hb d_SeriesVaultLaw_law_1559 (by decide) ?_
  refine lv_iadd hx hb d_SeriesVaultLaw_law_1560 (tpi (y := nI (i + 2)) (nI_add (i) (2)) ?_)
  refine sldN hx hb hX hbl hbA hS (show i + 2 < L by omega) (show L ≤ 65536 by omega) d_SeriesVaultLaw_law_1561 ?_
  have hP := pmP (show List.Perm (α := Nat × va_E) (MW dA mm mad M ++ (([(o, .inl (dA 2, 1, .inr (.inl (va_up og 0 v9))))] : va_W) ++ (VW dA h ad u8))) (([(o, .inl (dA 2, 1, .inr (.inl (va_up og 0 v9))))] : va_W) ++ (MW dA mm mad M ++ (VW dA h ad u8))) from List.perm_append_comm_assoc (MW dA mm mad M) (([(o, .inl (dA 2, 1, .inr (.inl (va_up og 0 v9))))] : va_W)) (VW dA h ad u8)) hP
  have hD := pmD (show List.Perm (α := Nat × va_E) (MW dA mm mad M ++ (([(o, .inl (dA 2, 1, .inr (.inl (va_up og 0 v9))))] : va_W) ++ (VW dA h ad u8))) (([(o, .inl (dA 2, 1, .inr (.inl (va_up og 0 v9))))] : va_W) ++ (MW dA mm mad M ++ (VW dA h ad u8))) from List.perm_append_comm_assoc (MW dA mm mad M) (([(o, .inl (dA 2, 1, .inr (.inl (va_up og 0 v9))))] : va_W)) (VW dA h ad u8)) hD
  have hP := pmP (show List.Perm (α := Nat × va_E) (([(o, .inl (dA 2, 1, .inr (.inl (va_up og 0 v9))))] : va_W) ++ (MW dA mm mad M ++ (VW dA h ad u8))) (([(o, .inl (dA 2, 1, .inr (.inl (va_up og 0 v9))))] : va_W) ++ (VW dA h ad u8 ++ (MW dA mm mad M))) from List.Perm.append_left (([(o, .inl (dA 2, 1, .inr (.inl (va_up og 0 v9))))] : va_W)) (List.perm_append_comm)) hP
  have hD := pmD (show List.Perm (α := Nat × va_E) (([(o, .inl (dA 2, 1, .inr (.inl (va_up og 0 v9))))] : va_W) ++ (MW dA mm mad M ++ (VW dA h ad u8))) (([(o, .inl (dA 2, 1, .inr (.inl (va_up og 0 v9))))] : va_W) ++ (VW dA h ad u8 ++ (MW dA mm mad M))) from List.Perm.append_left (([(o, .inl (dA 2, 1, .inr (.inl (va_up og 0 v9))))] : va_W)) (List.perm_append_comm)) hD
  have hPc : va_P D vwCl (MW dA mm mad M) H := spP (wr := ([(o, .inl (dA 2, 1, .inr (.inl (va_up og 0 v9))))] : va_W) ++ (VW dA h ad u8)) hP
  have hDc : va_D A (MW dA mm mad M) := spD (wr := ([(o, .inl (dA 2, 1, .inr (.inl (va_up og 0 v9))))] : va_W) ++ (VW dA h ad u8)) hD
  refine jkI (wr := ([(o, .inl (dA 2, 1, .inr (.inl (va_up og 0 v9))))] : va_W) ++ (VW dA h ad u8)) (rnV (As := [.int (xs (i + 1)), .int (xs (i + 2))]) (rest := []) hx hb hml hown hE hK (hN _ _ hS) hPc hDc (hM H.size) (q0 := 0) rfl rfl w1936 w1935 w1937 w1938 w328 rfl rfl ⟨⟨by decide, by decide⟩, rfl⟩ ⟨(show fr2 + 1 ≤ 2048 by omega), (show 8 + (10 + 11) + lo2 ≤ 84000 by omega)⟩ rfl hl.1 rfl (Nat.le_of_ble_eq_true rfl) d_SeriesVaultLaw_law_1562 ⟨(show cells + mc9 + 0 ≤ 601024 by omega), (show slots + ms9 + 0 ≤ 7293034 by omega)⟩) hP hD hS hA (fun r7 u7 H locs hp9 hP hD hS => ?_)
  replace hp9 : b9 = r7 := Eq.symm hp9
  subst hp9
  have hP : va_P D vwCl (([(o, .inl (dA 2, 1, .inr (.inl (va_up og 0 v9))))] : va_W) ++ (VW dA h ad u8 ++ (MW dA mm mad M1))) H := hP
  have hD : va_D A (([(o, .inl (dA 2, 1, .inr (.inl (va_up og 0 v9))))] : va_W) ++ (VW dA h ad u8 ++ (MW dA mm mad M1))) := hD
  refine lv_istore hx hb d_SeriesVaultLaw_law_1565 hl (by decide) rfl (fun ls hl => ?_)
  have hl : lv_has ls 8 [(6, .int b9), (5, .int 0), (4, .int (nI i)), (3, .ref o), (2, .ref mm), (1, .ref h), (0, .ref b)] := hl
  refine lv_aload_n hx hb d_SeriesVaultLaw_law_1567 rfl (lv_at hl 4 rfl) ?_
  have hPc : va_P D vwCl (MW dA mm mad M1) H := spP (wr := ([(o, .inl (dA 2, 1, .inr (.inl (va_up og 0 v9))))] : va_W) ++ (VW dA h ad u8)) hP
  have hDc : va_D A (MW dA mm mad M1) := spD (wr := ([(o, .inl (dA 2, 1, .inr (.inl (va_up og 0 v9))))] : va_W) ++ (VW dA h ad u8)) hD
  refine jkI (wr := ([(o, .inl (dA 2, 1, .inr (.inl (va_up og 0 v9))))] : va_W) ++ (VW dA h ad u8)) (rnV (As := []) (rest := []) hx hb hml hown hE hK (hN _ _ hS) hPc hDc (k_thrown l D dA H.size mm mad M1) (q0 := 0) rfl rfl w1801 w1800 w1802 w1803 w328 rfl rfl ⟨⟨by decide, by decide⟩, rfl⟩ ⟨(show 1 + 1 ≤ 2048 by omega), (show 8 + (1 + 11) + 0 ≤ 84000 by omega)⟩ rfl hl.1 rfl (Nat.le_of_ble_eq_true rfl) d_SeriesVaultLaw_law_1568 ⟨(show cells + mc9 + 0 ≤ 601024 by omega), (show slots + ms9 + 0 ≤ 7293034 by omega)⟩) hP hD hS hA (fun r7 u7 H locs hp9 hP hD hS => ?_)
  replace hp9 : 0 = r7 := Eq.symm (hp9.trans hcod)
  subst hp9
  have hP : va_P D vwCl (([(o, .inl (dA 2, 1, .inr (.inl (va_up og 0 v9))))] : va_W) ++ (VW dA h ad u8 ++ (MW dA mm mad M1))) H := hP
  have hD : va_D A (([(o, .inl (dA 2, 1, .inr (.inl (va_up og 0 v9))))] : va_W) ++ (VW dA h ad u8 ++ (MW dA mm mad M1))) := hD
  refine lv_iload hx hb d_SeriesVaultLaw_law_1571 (lv_at hl 1 rfl) ?_
  refine lv_icmp_eq hx hb d_SeriesVaultLaw_law_1573 (tgt := 1578) rfl (fun _ => ?_) (fun h9 => absurd rfl h9)
  refine lv_iload hx hb d_SeriesVaultLaw_law_1578 (lv_at hl 1 rfl) ?_
  refine lv_if_ne hx hb d_SeriesVaultLaw_law_1580 (tgt := 1595) rfl (fun h9 => absurd (by decide) h9) (fun _ => ?_)
  refine lv_aload_n hx hb d_SeriesVaultLaw_law_1583 rfl (lv_at hl 3 rfl) ?_
  refine lv_iconst (v := 0) hx hb d_SeriesVaultLaw_law_1584 (by decide) ?_
  refine nlld (f := (va_up og 0 v9)) (n := 1) hx hb hK hP (0) 2 rfl rfl (0) (by decide) (by decide) d_SeriesVaultLaw_law_1585 ?_
  refine tpl (y := v9) (va_up_self _ _ _) ?_
  refine lv_iload hx hb d_SeriesVaultLaw_law_1586 (lv_at hl 0 rfl) ?_
  refine lv_i2l hx hb d_SeriesVaultLaw_law_1588 rfl ?_
  refine W.lcmp hx hb d_SeriesVaultLaw_law_1589 ?_
  refine lv_if_eq hx hb d_SeriesVaultLaw_law_1590 (tgt := 1595) rfl (fun _ => ?_) (fun h9 => absurd ((lg_cmp_eq _ _).mpr hv) h9)
  refine lv_goto hx hb d_SeriesVaultLaw_law_1595 (tgt := 1770) rfl ?_
  refine lv_iinc (k := 2) (v := nI (i + 6)) hx hb d_SeriesVaultLaw_law_1770 hl rfl (iincN (i) 6 6 (by decide)) (by decide) rfl (fun ls hl => ?_)
  have hl : lv_has ls 8 [(4, .int (nI (i + 6))), (6, .int b9), (5, .int 0), (3, .ref o), (2, .ref mm), (1, .ref h), (0, .ref b)] := hl
  refine lv_goto hx hb d_SeriesVaultLaw_law_1773 (tgt := 23) rfl ?_
  have hP := pmP (show List.Perm (α := Nat × va_E) (([(o, .inl (dA 2, 1, .inr (.inl (va_up og 0 v9))))] : va_W) ++ (VW dA h ad u8 ++ (MW dA mm mad M1))) (MW dA mm mad M1 ++ (([(o, .inl (dA 2, 1, .inr (.inl (va_up og 0 v9))))] : va_W) ++ (VW dA h ad u8))) from (List.Perm.append_left (([(o, .inl (dA 2, 1, .inr (.inl (va_up og 0 v9))))] : va_W)) (List.perm_append_comm)).trans (List.perm_append_comm_assoc (([(o, .inl (dA 2, 1, .inr (.inl (va_up og 0 v9))))] : va_W)) (MW dA mm mad M1) (VW dA h ad u8))) hP
  have hD := pmD (show List.Perm (α := Nat × va_E) (([(o, .inl (dA 2, 1, .inr (.inl (va_up og 0 v9))))] : va_W) ++ (VW dA h ad u8 ++ (MW dA mm mad M1))) (MW dA mm mad M1 ++ (([(o, .inl (dA 2, 1, .inr (.inl (va_up og 0 v9))))] : va_W) ++ (VW dA h ad u8))) from (List.Perm.append_left (([(o, .inl (dA 2, 1, .inr (.inl (va_up og 0 v9))))] : va_W)) (List.perm_append_comm)).trans (List.perm_append_comm_assoc (([(o, .inl (dA 2, 1, .inr (.inl (va_up og 0 v9))))] : va_W)) (MW dA mm mad M1) (VW dA h ad u8))) hD
  have hP : va_P D vwCl (MW dA mm mad M1 ++ (([(o, .inl (dA 2, 1, .inr (.inl (va_up og 0 v9))))] : va_W) ++ (VW dA h ad u8))) H := hP
  have hD : va_D A (MW dA mm mad M1 ++ (([(o, .inl (dA 2, 1, .inr (.inl (va_up og 0 v9))))] : va_W) ++ (VW dA h ad u8))) := hD
  have hl := lv_sub (l' := [(4, .int (nI (i + 6))), (3, .ref o), (2, .ref mm), (1, .ref h), (0, .ref b)]) hl [0, 3, 4, 5, 6] rfl
  exact cont u8 H locs ls hf9 hP hD hS hl
set_option maxHeartbeats 4000000 in
set_option maxRecDepth 100000 in
theorem l9_19_x {p : Program} {e : Env} {s : State} {m : MethodId} {below : List Frame} {meth : Method} {c : Code} (l : Launch) {b L : Nat} {xs : Nat → Int32} {D : va_G} {dA : Nat → ClassId} {e0 : Nat} {A : Nat → Prop} {H : Heap} {locs : List Loc} {ls : Array Slot} (hC : lS p l s m meth c b L xs D dA e0 A) {h : Nat} {ad : Nat → Nat} {x : VS} {mm : Nat} {mad : Nat → Nat} {M M1 : MS} {o : Nat} {og : Nat → Int64} {i fr1 lo1 fr2 lo2 mc9 ms9 cells slots : Nat} {F9 : VS → Prop} {b9 : Int32} {k9 : Nat} (hi : i + 6 ≤ L) (hL : L ≤ 3072) (hfr : fr1 ≤ 2000 ∧ lo1 ≤ 80000 ∧ fr2 ≤ 2000 ∧ lo2 ≤ 80000) (hrm : cells + mc9 ≤ 601024 ∧ slots + ms9 ≤ 7293034) (hcod : M1.cod = nI k9) (hk9 : ¬ nI k9 = 0) (hW : ∀ sz : Nat, Met l ⟨"SeriesVaultLaw", "parcel", "(LSeriesVault;II[J)I"⟩ [Cond.codeWith ⟨"SeriesVaultLaw", "parcel", "(LSeriesVault;II[J)I"⟩ method_21_code 5 (some FieldType.int) [(0, 10, 13, 29), (0, 10, 17, 35), (0, 10, 21, 19)]] { frames := fr1, cells := mc9, slots := ms9, locals := lo1 } (pC D dA [.ref h, .int (xs (i + 1)), .int (xs (i + 2)), .ref o] (([(o, .inl (dA 2, 1, .inr (.inl og)))] : va_W) ++ (VW dA h ad x)) sz) (va_Qi (fun (r9 : Int32) (u9 : VS) => r9 = nI k9 ∧ F9 u9) (fun (u9 : VS) t9 => bW D (va_A (([(o, .inl (dA 2, 1, .inr (.inl og)))] : va_W) ++ (VW dA h ad x)) sz) (([(o, .inl (dA 2, 1, .inr (.inl (og))))] : va_W) ++ (VW dA h ad u9)) t9) (va_A (([(o, .inl (dA 2, 1, .inr (.inl og)))] : va_W) ++ (VW dA h ad x)) sz)) mc9 ms9 (va_A (([(o, .inl (dA 2, 1, .inr (.inl og)))] : va_W) ++ (VW dA h ad x)) sz)) (hM : ∀ sz : Nat, Met l ⟨"SeriesVaultModel", "parcel", "(II)I"⟩ [Cond.code ⟨"SeriesVaultModel", "parcel", "(II)I"⟩ prog_14_method_49_code 10 (some FieldType.int)] { frames := fr2, cells := 0, slots := 0, locals := lo2 } (pC D dA [.ref mm, .int (xs (i + 1)), .int (xs (i + 2))] (MW dA mm mad M) sz) (va_Qi (fun (r9 : Int32) (u9 : Unit) => r9 = b9) (fun (u9 : Unit) t9 => bW D (va_A (MW dA mm mad M) sz) (MW dA mm mad M1) t9) (va_A (MW dA mm mad M) sz)) 0 0 (va_A (MW dA mm mad M) sz)) (hP : va_P D vwCl (MW dA mm mad M ++ (([(o, .inl (dA 2, 1, .inr (.inl og)))] : va_W) ++ (VW dA h ad x))) H) (hD : va_D A (MW dA mm mad M ++ (([(o, .inl (dA 2, 1, .inr (.inl og)))] : va_W) ++ (VW dA h ad x)))) (hS : va_S A s.heap H locs) (hl : lv_has ls 8 [(4, .int (nI i)), (3, .ref o), (2, .ref mm), (1, .ref h), (0, .ref b)]) (cont : ∀ (u : VS) (H1 : Heap) (locs1 : List Loc) (ls1 : Array Slot), F9 u → va_P D vwCl (MW dA mm mad M1 ++ (([(o, .inl (dA 2, 1, .inr (.inl og)))] : va_W) ++ (VW dA h ad u))) H1 → va_D A (MW dA mm mad M1 ++ (([(o, .inl (dA 2, 1, .inr (.inl og)))] : va_W) ++ (VW dA h ad u))) → va_S A s.heap H1 locs1 → lv_has ls1 8 [(4, .int (nI (i + 6))), (3, .ref o), (2, .ref mm), (1, .ref h), (0, .ref b)] → W p l e room_1 s m #[Value.ref b] below meth c H1 locs1 (cells + mc9 + 0 + 0) (slots + ms9 + 0 + 0) (lw_Z below #[Value.ref b] s) (F0 m 23 ls1 [])) : W p l e room_1 s m #[Value.ref b] below meth c H locs cells slots (lw_Z below #[Value.ref b] s) (F0 m 1530 ls []) := by
  have hC0 := hC
  obtain ⟨hx, hb, hr, hml, hown, hlk, hE, hK, hA, hN, hZ, hT, hX, hbl, hbA, hnew, htr⟩ := hC
  refine lv_aload_n hx hb d_SeriesVaultLaw_law_1530 rfl (lv_at hl 3 rfl) ?_
  refine lv_aload_n hx hb d_SeriesVaultLaw_law_1531 rfl (lv_at hl 4 rfl) ?_
  refine lv_iload hx hb d_SeriesVaultLaw_law_1532 (lv_at hl 0 rfl) ?_
  refine lv_iconst (v := 1) hx hb d_SeriesVaultLaw_law_1534 (by decide) ?_
  refine lv_iadd hx hb d_SeriesVaultLaw_law_1535 (tpi (y := nI (i + 1)) (nI_add (i) (1)) ?_)
  refine sldN hx hb hX hbl hbA hS (show i + 1 < L by omega) (show L ≤ 65536 by omega) d_SeriesVaultLaw_law_1536 ?_
  refine lv_aload_n hx hb d_SeriesVaultLaw_law_1537 rfl (lv_at hl 4 rfl) ?_
  refine lv_iload hx hb d_SeriesVaultLaw_law_1538 (lv_at hl 0 rfl) ?_
  refine lv_iconst (v := 2) hx hb d_SeriesVaultLaw_law_1540 (by decide) ?_
  refine lv_iadd hx hb d_SeriesVaultLaw_law_1541 (tpi (y := nI (i + 2)) (nI_add (i) (2)) ?_)
  refine sldN hx hb hX hbl hbA hS (show i + 2 < L by omega) (show L ≤ 65536 by omega) d_SeriesVaultLaw_law_1542 ?_
  refine lv_aload_n hx hb d_SeriesVaultLaw_law_1543 rfl (lv_at hl 1 rfl) ?_
  have hPc : va_P D vwCl (([(o, .inl (dA 2, 1, .inr (.inl og)))] : va_W) ++ (VW dA h ad x)) H := spP (wr := MW dA mm mad M) hP
  have hDc : va_D A (([(o, .inl (dA 2, 1, .inr (.inl og)))] : va_W) ++ (VW dA h ad x)) := spD (wr := MW dA mm mad M) hD
  refine jkI (wr := MW dA mm mad M) (rnW (As := [.ref h, .int (xs (i + 1)), .int (xs (i + 2)), .ref o]) (rest := []) hx hb hml hown hE hK (hN _ _ hS) hPc hDc (hW H.size) w1933 w1932 w1934 w1793 rfl rfl ⟨⟨by decide, by decide⟩, rfl⟩ ⟨(show fr1 + 1 ≤ 2048 by omega), (show 8 + (5 + 11) + lo1 ≤ 84000 by omega)⟩ rfl hl.1 rfl (Nat.le_of_ble_eq_true rfl) d_SeriesVaultLaw_law_1544 ⟨(show cells + mc9 ≤ 601024 by omega), (show slots + ms9 ≤ 7293034 by omega)⟩) hP hD hS hA (fun k8 u8 H locs hp9 hP hD hS => ?_)
  obtain ⟨hp9, hf9⟩ := hp9
  replace hp9 : nI k9 = k8 := Eq.symm hp9
  subst hp9
  have hP : va_P D vwCl (MW dA mm mad M ++ (([(o, .inl (dA 2, 1, .inr (.inl og)))] : va_W) ++ (VW dA h ad u8))) H := hP
  have hD : va_D A (MW dA mm mad M ++ (([(o, .inl (dA 2, 1, .inr (.inl og)))] : va_W) ++ (VW dA h ad u8))) := hD
  refine lv_istore hx hb d_SeriesVaultLaw_law_1547 hl (by decide) rfl (fun ls hl => ?_)
  have hl : lv_has ls 8 [(5, .int (nI k9)), (4, .int (nI i)), (3, .ref o), (2, .ref mm), (1, .ref h), (0, .ref b)] := hl
  refine lv_aload_n hx hb d_SeriesVaultLaw_law_1549 rfl (lv_at hl 3 rfl) ?_
  refine lv_aload_n hx hb d_SeriesVaultLaw_law_1550 rfl (lv_at hl 5 rfl) ?_
  refine lv_iload hx hb d_SeriesVaultLaw_law_1551 (lv_at hl 1 rfl) ?_
  refine lv_iconst (v := 1) hx hb d_SeriesVaultLaw_law_1553 (by decide) ?_
  refine lv_iadd hx hb d_SeriesVaultLaw_law_1554 (tpi (y := nI (i + 1)) (nI_add (i) (1)) ?_)
  refine sldN hx hb hX hbl hbA hS (show i + 1 < L by omega) (show L ≤ 65536 by omega) d_SeriesVaultLaw_law_1555 ?_
  refine lv_aload_n hx hb d_SeriesVaultLaw_law_1556 rfl (lv_at hl 5 rfl) ?_
  refine lv_iload hx hb d_SeriesVaultLaw_law_1557 (lv_at hl 1 rfl) ?_
  refine lv_iconst (v := 2) hx hb d_SeriesVaultLaw_law_1559 (by decide) ?_
  refine lv_iadd hx hb d_SeriesVaultLaw_law_1560 (tpi (y := nI (i + 2)) (nI_add (i) (2)) ?_)
  refine sldN hx hb hX hbl hbA hS (show i + 2 < L by omega) (show L ≤ 65536 by omega) d_SeriesVaultLaw_law_1561 ?_
  have hP := pmP (show List.Perm (α := Nat × va_E) (MW dA mm mad M ++ (([(o, .inl (dA 2, 1, .inr (.inl og)))] : va_W) ++ (VW dA h ad u8))) (([(o, .inl (dA 2, 1, .inr (.inl og)))] : va_W) ++ (MW dA mm mad M ++ (VW dA h ad u8))) from List.perm_append_comm_assoc (MW dA mm mad M) (([(o, .inl (dA 2, 1, .inr (.inl og)))] : va_W)) (VW dA h ad u8)) hP
  have hD := pmD (show List.Perm (α := Nat × va_E) (MW dA mm mad M ++ (([(o, .inl (dA 2, 1, .inr (.inl og)))] : va_W) ++ (VW dA h ad u8))) (([(o, .inl (dA 2, 1, .inr (.inl og)))] : va_W) ++ (MW dA mm mad M ++ (VW dA h ad u8))) from List.perm_append_comm_assoc (MW dA mm mad M) (([(o, .inl (dA 2, 1, .inr (.inl og)))] : va_W)) (VW dA h ad u8)) hD
  have hP := pmP (show List.Perm (α := Nat × va_E) (([(o, .inl (dA 2, 1, .inr (.inl og)))] : va_W) ++ (MW dA mm mad M ++ (VW dA h ad u8))) (([(o, .inl (dA 2, 1, .inr (.inl og)))] : va_W) ++ (VW dA h ad u8 ++ (MW dA mm mad M))) from List.Perm.append_left (([(o, .inl (dA 2, 1, .inr (.inl og)))] : va_W)) (List.perm_append_comm)) hP
  have hD := pmD (show List.Perm (α := Nat × va_E) (([(o, .inl (dA 2, 1, .inr (.inl og)))] : va_W) ++ (MW dA mm mad M ++ (VW dA h ad u8))) (([(o, .inl (dA 2, 1, .inr (.inl og)))] : va_W) ++ (VW dA h ad u8 ++ (MW dA mm mad M))) from List.Perm.append_left (([(o, .inl (dA 2, 1, .inr (.inl og)))] : va_W)) (List.perm_append_comm)) hD
  have hPc : va_P D vwCl (MW dA mm mad M) H := spP (wr := ([(o, .inl (dA 2, 1, .inr (.inl og)))] : va_W) ++ (VW dA h ad u8)) hP
  have hDc : va_D A (MW dA mm mad M) := spD (wr := ([(o, .inl (dA 2, 1, .inr (.inl og)))] : va_W) ++ (VW dA h ad u8)) hD
  refine jkI (wr := ([(o, .inl (dA 2, 1, .inr (.inl og)))] : va_W) ++ (VW dA h ad u8)) (rnV (As := [.int (xs (i + 1)), .int (xs (i + 2))]) (rest := []) hx hb hml hown hE hK (hN _ _ hS) hPc hDc (hM H.size) (q0 := 0) rfl rfl w1936 w1935 w1937 w1938 w328 rfl rfl ⟨⟨by decide, by decide⟩, rfl⟩ ⟨(show fr2 + 1 ≤ 2048 by omega), (show 8 + (10 + 11) + lo2 ≤ 84000 by omega)⟩ rfl hl.1 rfl (Nat.le_of_ble_eq_true rfl) d_SeriesVaultLaw_law_1562 ⟨(show cells + mc9 + 0 ≤ 601024 by omega), (show slots + ms9 + 0 ≤ 7293034 by omega)⟩) hP hD hS hA (fun r7 u7 H locs hp9 hP hD hS => ?_)
  replace hp9 : b9 = r7 := Eq.symm hp9
  subst hp9
  have hP : va_P D vwCl (([(o, .inl (dA 2, 1, .inr (.inl og)))] : va_W) ++ (VW dA h ad u8 ++ (MW dA mm mad M1))) H := hP
  have hD : va_D A (([(o, .inl (dA 2, 1, .inr (.inl og)))] : va_W) ++ (VW dA h ad u8 ++ (MW dA mm mad M1))) := hD
  refine lv_istore hx hb d_SeriesVaultLaw_law_1565 hl (by decide) rfl (fun ls hl => ?_)
  have hl : lv_has ls 8 [(6, .int b9), (5, .int (nI k9)), (4, .int (nI i)), (3, .ref o), (2, .ref mm), (1, .ref h), (0, .ref b)] := hl
  refine lv_aload_n hx hb d_SeriesVaultLaw_law_1567 rfl (lv_at hl 4 rfl) ?_
  have hPc : va_P D vwCl (MW dA mm mad M1) H := spP (wr := ([(o, .inl (dA 2, 1, .inr (.inl og)))] : va_W) ++ (VW dA h ad u8)) hP
  have hDc : va_D A (MW dA mm mad M1) := spD (wr := ([(o, .inl (dA 2, 1, .inr (.inl og)))] : va_W) ++ (VW dA h ad u8)) hD
  refine jkI (wr := ([(o, .inl (dA 2, 1, .inr (.inl og)))] : va_W) ++ (VW dA h ad u8)) (rnV (As := []) (rest := []) hx hb hml hown hE hK (hN _ _ hS) hPc hDc (k_thrown l D dA H.size mm mad M1) (q0 := 0) rfl rfl w1801 w1800 w1802 w1803 w328 rfl rfl ⟨⟨by decide, by decide⟩, rfl⟩ ⟨(show 1 + 1 ≤ 2048 by omega), (show 8 + (1 + 11) + 0 ≤ 84000 by omega)⟩ rfl hl.1 rfl (Nat.le_of_ble_eq_true rfl) d_SeriesVaultLaw_law_1568 ⟨(show cells + mc9 + 0 ≤ 601024 by omega), (show slots + ms9 + 0 ≤ 7293034 by omega)⟩) hP hD hS hA (fun r7 u7 H locs hp9 hP hD hS => ?_)
  replace hp9 : nI k9 = r7 := Eq.symm (hp9.trans hcod)
  subst hp9
  have hP : va_P D vwCl (([(o, .inl (dA 2, 1, .inr (.inl og)))] : va_W) ++ (VW dA h ad u8 ++ (MW dA mm mad M1))) H := hP
  have hD : va_D A (([(o, .inl (dA 2, 1, .inr (.inl og)))] : va_W) ++ (VW dA h ad u8 ++ (MW dA mm mad M1))) := hD
  refine lv_iload hx hb d_SeriesVaultLaw_law_1571 (lv_at hl 1 rfl) ?_
  refine lv_icmp_eq hx hb d_SeriesVaultLaw_law_1573 (tgt := 1578) rfl (fun _ => ?_) (fun h9 => absurd rfl h9)
  refine lv_iload hx hb d_SeriesVaultLaw_law_1578 (lv_at hl 1 rfl) ?_
  refine lv_if_ne hx hb d_SeriesVaultLaw_law_1580 (tgt := 1595) rfl (fun _ => ?_) (fun h9 => absurd h9 hk9)
  refine lv_goto hx hb d_SeriesVaultLaw_law_1595 (tgt := 1770) rfl ?_
  refine lv_iinc (k := 2) (v := nI (i + 6)) hx hb d_SeriesVaultLaw_law_1770 hl rfl (iincN (i) 6 6 (by decide)) (by decide) rfl (fun ls hl => ?_)
  have hl : lv_has ls 8 [(4, .int (nI (i + 6))), (6, .int b9), (5, .int (nI k9)), (3, .ref o), (2, .ref mm), (1, .ref h), (0, .ref b)] := hl
  refine lv_goto hx hb d_SeriesVaultLaw_law_1773 (tgt := 23) rfl ?_
  have hP := pmP (show List.Perm (α := Nat × va_E) (([(o, .inl (dA 2, 1, .inr (.inl og)))] : va_W) ++ (VW dA h ad u8 ++ (MW dA mm mad M1))) (MW dA mm mad M1 ++ (([(o, .inl (dA 2, 1, .inr (.inl og)))] : va_W) ++ (VW dA h ad u8))) from (List.Perm.append_left (([(o, .inl (dA 2, 1, .inr (.inl og)))] : va_W)) (List.perm_append_comm)).trans (List.perm_append_comm_assoc (([(o, .inl (dA 2, 1, .inr (.inl og)))] : va_W)) (MW dA mm mad M1) (VW dA h ad u8))) hP
  have hD := pmD (show List.Perm (α := Nat × va_E) (([(o, .inl (dA 2, 1, .inr (.inl og)))] : va_W) ++ (VW dA h ad u8 ++ (MW dA mm mad M1))) (MW dA mm mad M1 ++ (([(o, .inl (dA 2, 1, .inr (.inl og)))] : va_W) ++ (VW dA h ad u8))) from (List.Perm.append_left (([(o, .inl (dA 2, 1, .inr (.inl og)))] : va_W)) (List.perm_append_comm)).trans (List.perm_append_comm_assoc (([(o, .inl (dA 2, 1, .inr (.inl og)))] : va_W)) (MW dA mm mad M1) (VW dA h ad u8))) hD
  have hP : va_P D vwCl (MW dA mm mad M1 ++ (([(o, .inl (dA 2, 1, .inr (.inl og)))] : va_W) ++ (VW dA h ad u8))) H := hP
  have hD : va_D A (MW dA mm mad M1 ++ (([(o, .inl (dA 2, 1, .inr (.inl og)))] : va_W) ++ (VW dA h ad u8))) := hD
  have hl := lv_sub (l' := [(4, .int (nI (i + 6))), (3, .ref o), (2, .ref mm), (1, .ref h), (0, .ref b)]) hl [0, 3, 4, 5, 6] rfl
  exact cont u8 H locs ls hf9 hP hD hS hl
theorem d_SeriesVaultLaw_law_1598 : decode code 1598 = .ok (.aload_n 1, 1) := by decide +kernel
theorem d_SeriesVaultLaw_law_1599 : decode code 1599 = .ok (.aload_n 0, 1) := by decide +kernel
theorem d_SeriesVaultLaw_law_1600 : decode code 1600 = .ok (.iload 4, 2) := by decide +kernel
theorem d_SeriesVaultLaw_law_1602 : decode code 1602 = .ok (.iconst 1, 1) := by decide +kernel
theorem d_SeriesVaultLaw_law_1603 : decode code 1603 = .ok (.iadd, 1) := by decide +kernel
theorem d_SeriesVaultLaw_law_1604 : decode code 1604 = .ok (.iaload, 1) := by decide +kernel
theorem d_SeriesVaultLaw_law_1605 : decode code 1605 = .ok (.aload_n 3, 1) := by decide +kernel
theorem d_SeriesVaultLaw_law_1606 : decode code 1606 = .ok (.invokestatic 182, 3) := by decide +kernel
theorem d_SeriesVaultLaw_law_1609 : decode code 1609 = .ok (.istore 5, 2) := by decide +kernel
theorem d_SeriesVaultLaw_law_1611 : decode code 1611 = .ok (.aload_n 2, 1) := by decide +kernel
theorem d_SeriesVaultLaw_law_1612 : decode code 1612 = .ok (.aload_n 0, 1) := by decide +kernel
theorem d_SeriesVaultLaw_law_1613 : decode code 1613 = .ok (.iload 4, 2) := by decide +kernel
theorem d_SeriesVaultLaw_law_1615 : decode code 1615 = .ok (.iconst 1, 1) := by decide +kernel
theorem d_SeriesVaultLaw_law_1616 : decode code 1616 = .ok (.iadd, 1) := by decide +kernel
theorem d_SeriesVaultLaw_law_1617 : decode code 1617 = .ok (.iaload, 1) := by decide +kernel
theorem d_SeriesVaultLaw_law_1618 : decode code 1618 = .ok (.invokevirtual 184, 3) := by decide +kernel
theorem d_SeriesVaultLaw_law_1621 : decode code 1621 = .ok (.lstore 6, 2) := by decide +kernel
theorem d_SeriesVaultLaw_law_1623 : decode code 1623 = .ok (.aload_n 2, 1) := by decide +kernel
theorem d_SeriesVaultLaw_law_1624 : decode code 1624 = .ok (.invokevirtual 110, 3) := by decide +kernel
theorem d_SeriesVaultLaw_law_1627 : decode code 1627 = .ok (.iload 5, 2) := by decide +kernel
theorem d_SeriesVaultLaw_law_1629 : decode code 1629 = .ok (.if_icmp .eq 5, 3) := by decide +kernel
theorem d_SeriesVaultLaw_law_1634 : decode code 1634 = .ok (.iload 5, 2) := by decide +kernel
theorem d_SeriesVaultLaw_law_1636 : decode code 1636 = .ok (.ifCond .ne 14, 3) := by decide +kernel
theorem d_SeriesVaultLaw_law_1639 : decode code 1639 = .ok (.aload_n 3, 1) := by decide +kernel
theorem d_SeriesVaultLaw_law_1640 : decode code 1640 = .ok (.iconst 0, 1) := by decide +kernel
theorem d_SeriesVaultLaw_law_1641 : decode code 1641 = .ok (.laload, 1) := by decide +kernel
theorem d_SeriesVaultLaw_law_1642 : decode code 1642 = .ok (.lload 6, 2) := by decide +kernel
theorem d_SeriesVaultLaw_law_1644 : decode code 1644 = .ok (.lcmp, 1) := by decide +kernel
theorem d_SeriesVaultLaw_law_1645 : decode code 1645 = .ok (.ifCond .eq 5, 3) := by decide +kernel
theorem d_SeriesVaultLaw_law_1650 : decode code 1650 = .ok (.goto 120, 3) := by decide +kernel
theorem w1939 : Cond.methodLink "SeriesVaultLaw" 182 ⟨"SeriesVaultLaw", "last", "(LSeriesVault;I[J)I"⟩ ∈ aW := aw_of (tb_8 (List.mem_of_getElem? (i := 131) rfl)) rfl
theorem w1940 : Cond.codeWith ⟨"SeriesVaultLaw", "last", "(LSeriesVault;I[J)I"⟩ method_22_code 4 (some FieldType.int) [(0, 8, 11, 29), (0, 8, 14, 35)] ∈ aW := aw_of (tb_8 (List.mem_of_getElem? (i := 133) rfl)) rfl
theorem w1941 : Cond.static ⟨"SeriesVaultLaw", "last", "(LSeriesVault;I[J)I"⟩ ∈ aW := aw_of (tb_8 (List.mem_of_getElem? (i := 132) rfl)) rfl
theorem w1942 : Cond.methodLink "SeriesVaultLaw" 184 ⟨"SeriesVaultModel", "last", "(I)J"⟩ ∈ aW := aw_of (tb_10 (List.mem_of_getElem? (i := 15) rfl)) rfl
theorem w1943 : Cond.code ⟨"SeriesVaultModel", "last", "(I)J"⟩ prog_14_method_32_code 2 (some FieldType.long) ∈ aW := aw_of (tb_10 (List.mem_of_getElem? (i := 18) rfl)) rfl
theorem w1944 : Cond.instanceMethod ⟨"SeriesVaultModel", "last", "(I)J"⟩ ∈ aW := aw_of (tb_10 (List.mem_of_getElem? (i := 16) rfl)) rfl
theorem w1945 : Cond.selects "SeriesVaultModel" ⟨"SeriesVaultModel", "last", "(I)J"⟩ ⟨"SeriesVaultModel", "last", "(I)J"⟩ ∈ aW := aw_of (tb_10 (List.mem_of_getElem? (i := 17) rfl)) rfl
set_option maxHeartbeats 4000000 in
set_option maxRecDepth 100000 in
theorem l9_20 {p : Program} {e : Env} {s : State} {m : MethodId} {below : List Frame} {meth : Method} {c : Code} (l : Launch) {b L : Nat} {xs : Nat → Int32} {D : va_G} {dA : Nat → ClassId} {e0 : Nat} {A : Nat → Prop} {H : Heap} {locs : List Loc} {ls : Array Slot} (hC : lS p l s m meth c b L xs D dA e0 A) {h : Nat} {ad : Nat → Nat} {x : VS} {mm : Nat} {mad : Nat → Nat} {M M1 : MS} {o : Nat} {og : Nat → Int64} {i fr1 lo1 fr2 lo2 mc9 ms9 cells slots : Nat} {F9 : VS → Prop} {b9 : Int64} {v9 : Int64} (hi : i + 6 ≤ L) (hL : L ≤ 3072) (hfr : fr1 ≤ 2000 ∧ lo1 ≤ 80000 ∧ fr2 ≤ 2000 ∧ lo2 ≤ 80000) (hrm : cells + mc9 ≤ 601024 ∧ slots + ms9 ≤ 7293034) (hcod : M1.cod = 0) (hv : v9 = b9) (hW : ∀ sz : Nat, Met l ⟨"SeriesVaultLaw", "last", "(LSeriesVault;I[J)I"⟩ [Cond.codeWith ⟨"SeriesVaultLaw", "last", "(LSeriesVault;I[J)I"⟩ method_22_code 4 (some FieldType.int) [(0, 8, 11, 29), (0, 8, 14, 35)]] { frames := fr1, cells := mc9, slots := ms9, locals := lo1 } (pC D dA [.ref h, .int (xs (i + 1)), .ref o] (([(o, .inl (dA 2, 1, .inr (.inl og)))] : va_W) ++ (VW dA h ad x)) sz) (va_Qi (fun (r9 : Int32) (u9 : VS) => r9 = 0 ∧ F9 u9) (fun (u9 : VS) t9 => bW D (va_A (([(o, .inl (dA 2, 1, .inr (.inl og)))] : va_W) ++ (VW dA h ad x)) sz) (([(o, .inl (dA 2, 1, .inr (.inl (va_up og 0 v9))))] : va_W) ++ (VW dA h ad u9)) t9) (va_A (([(o, .inl (dA 2, 1, .inr (.inl og)))] : va_W) ++ (VW dA h ad x)) sz)) mc9 ms9 (va_A (([(o, .inl (dA 2, 1, .inr (.inl og)))] : va_W) ++ (VW dA h ad x)) sz)) (hM : ∀ sz : Nat, Met l ⟨"SeriesVaultModel", "last", "(I)J"⟩ [Cond.code ⟨"SeriesVaultModel", "last", "(I)J"⟩ prog_14_method_32_code 2 (some FieldType.long)] { frames := fr2, cells := 0, slots := 0, locals := lo2 } (pC D dA [.ref mm, .int (xs (i + 1))] (MW dA mm mad M) sz) (va_Ql (fun (r9 : Int64) (u9 : Unit) => r9 = b9) (fun (u9 : Unit) t9 => bW D (va_A (MW dA mm mad M) sz) (MW dA mm mad M1) t9) (va_A (MW dA mm mad M) sz)) 0 0 (va_A (MW dA mm mad M) sz)) (hP : va_P D vwCl (MW dA mm mad M ++ (([(o, .inl (dA 2, 1, .inr (.inl og)))] : va_W) ++ (VW dA h ad x))) H) (hD : va_D A (MW dA mm mad M ++ (([(o, .inl (dA 2, 1, .inr (.inl og)))] : va_W) ++ (VW dA h ad x)))) (hS : va_S A s.heap H locs) (hl : lv_has ls 8 [(4, .int (nI i)), (3, .ref o), (2, .ref mm), (1, .ref h), (0, .ref b)]) (cont : ∀ (u : VS) (H1 : Heap) (locs1 : List Loc) (ls1 : Array Slot), F9 u → va_P D vwCl (MW dA mm mad M1 ++ (([(o, .inl (dA 2, 1, .inr (.inl (va_up og 0 v9))))] : va_W) ++ (VW dA h ad u))) H1 → va_D A (MW dA mm mad M1 ++ (([(o, .inl (dA 2, 1, .inr (.inl (va_up og 0 v9))))] : va_W) ++ (VW dA h ad u))) → va_S A s.heap H1 locs1 → lv_has ls1 8 [(4, .int (nI (i + 6))), (3, .ref o), (2, .ref mm), (1, .ref h), (0, .ref b)] → W p l e room_1 s m #[Value.ref b] below meth c H1 locs1 (cells + mc9 + 0 + 0) (slots + ms9 + 0 + 0) (lw_Z below #[Value.ref b] s) (F0 m 23 ls1 [])) : W p l e room_1 s m #[Value.ref b] below meth c H locs cells slots (lw_Z below #[Value.ref b] s) (F0 m 1598 ls []) := by
  have hC0 := hC
  obtain ⟨hx, hb, hr, hml, hown, hlk, hE, hK, hA, hN, hZ, hT, hX, hbl, hbA, hnew, htr⟩ := hC
  refine lv_aload_n hx hb d_SeriesVaultLaw_law_1598 rfl (lv_at hl 3 rfl) ?_
  refine lv_aload_n hx hb d_SeriesVaultLaw_law_1599 rfl (lv_at hl 4 rfl) ?_
  refine lv_iload hx hb d_SeriesVaultLaw_law_1600 (lv_at hl 0 rfl) ?_
  refine lv_iconst (v := 1) hx hb d_SeriesVaultLaw_law_1602 (by decide) ?_
  refine lv_iadd hx hb d_SeriesVaultLaw_law_1603 (tpi (y := nI (i + 1)) (nI_add (i) (1)) ?_)
  refine sldN hx hb hX hbl hbA hS (show i + 1 < L by omega) (show L ≤ 65536 by omega) d_SeriesVaultLaw_law_1604 ?_
  refine lv_aload_n hx hb d_SeriesVaultLaw_law_1605 rfl (lv_at hl 1 rfl) ?_
  have hPc : va_P D vwCl (([(o, .inl (dA 2, 1, .inr (.inl og)))] : va_W) ++ (VW dA h ad x)) H := spP (wr := MW dA mm mad M) hP
  have hDc : va_D A (([(o, .inl (dA 2, 1, .inr (.inl og)))] : va_W) ++ (VW dA h ad x)) := spD (wr := MW dA mm mad M) hD
  refine jkI (wr := MW dA mm mad M) (rnW (As := [.ref h, .int (xs (i + 1)), .ref o]) (rest := []) hx hb hml hown hE hK (hN _ _ hS) hPc hDc (hW H.size) w1940 w1939 w1941 w1793 rfl rfl ⟨⟨by decide, by decide⟩, rfl⟩ ⟨(show fr1 + 1 ≤ 2048 by omega), (show 8 + (4 + 11) + lo1 ≤ 84000 by omega)⟩ rfl hl.1 rfl (Nat.le_of_ble_eq_true rfl) d_SeriesVaultLaw_law_1606 ⟨(show cells + mc9 ≤ 601024 by omega), (show slots + ms9 ≤ 7293034 by omega)⟩) hP hD hS hA (fun k8 u8 H locs hp9 hP hD hS => ?_)
  obtain ⟨hp9, hf9⟩ := hp9
  replace hp9 : 0 = k8 := Eq.symm hp9
  subst hp9
  have hP : va_P D vwCl (MW dA mm mad M ++ (([(o, .inl (dA 2, 1, .inr (.inl (va_up og 0 v9))))] : va_W) ++ (VW dA h ad u8))) H := hP
  have hD : va_D A (MW dA mm mad M ++ (([(o, .inl (dA 2, 1, .inr (.inl (va_up og 0 v9))))] : va_W) ++ (VW dA h ad u8))) := hD
  refine lv_istore hx hb d_SeriesVaultLaw_law_1609 hl (by decide) rfl (fun ls hl => ?_)
  have hl : lv_has ls 8 [(5, .int 0), (4, .int (nI i)), (3, .ref o), (2, .ref mm), (1, .ref h), (0, .ref b)] := hl
  refine lv_aload_n hx hb d_SeriesVaultLaw_law_1611 rfl (lv_at hl 3 rfl) ?_
  refine lv_aload_n hx hb d_SeriesVaultLaw_law_1612 rfl (lv_at hl 5 rfl) ?_
  refine lv_iload hx hb d_SeriesVaultLaw_law_1613 (lv_at hl 1 rfl) ?_
  refine lv_iconst (v := 1) hx hb d_SeriesVaultLaw_law_1615 (by decide) ?_
  refine lv_iadd hx hb d_SeriesVaultLaw_law_1616 (tpi (y := nI (i + 1)) (nI_add (i) (1)) ?_)
  refine sldN hx hb hX hbl hbA hS (show i + 1 < L by omega) (show L ≤ 65536 by omega) d_SeriesVaultLaw_law_1617 ?_
  have hP := pmP (show List.Perm (α := Nat × va_E) (MW dA mm mad M ++ (([(o, .inl (dA 2, 1, .inr (.inl (va_up og 0 v9))))] : va_W) ++ (VW dA h ad u8))) (([(o, .inl (dA 2, 1, .inr (.inl (va_up og 0 v9))))] : va_W) ++ (MW dA mm mad M ++ (VW dA h ad u8))) from List.perm_append_comm_assoc (MW dA mm mad M) (([(o, .inl (dA 2, 1, .inr (.inl (va_up og 0 v9))))] : va_W)) (VW dA h ad u8)) hP
  have hD := pmD (show List.Perm (α := Nat × va_E) (MW dA mm mad M ++ (([(o, .inl (dA 2, 1, .inr (.inl (va_up og 0 v9))))] : va_W) ++ (VW dA h ad u8))) (([(o, .inl (dA 2, 1, .inr (.inl (va_up og 0 v9))))] : va_W) ++ (MW dA mm mad M ++ (VW dA h ad u8))) from List.perm_append_comm_assoc (MW dA mm mad M) (([(o, .inl (dA 2, 1, .inr (.inl (va_up og 0 v9))))] : va_W)) (VW dA h ad u8)) hD
  have hP := pmP (show List.Perm (α := Nat × va_E) (([(o, .inl (dA 2, 1, .inr (.inl (va_up og 0 v9))))] : va_W) ++ (MW dA mm mad M ++ (VW dA h ad u8))) (([(o, .inl (dA 2, 1, .inr (.inl (va_up og 0 v9))))] : va_W) ++ (VW dA h ad u8 ++ (MW dA mm mad M))) from List.Perm.append_left (([(o, .inl (dA 2, 1, .inr (.inl (va_up og 0 v9))))] : va_W)) (List.perm_append_comm)) hP
  have hD := pmD (show List.Perm (α := Nat × va_E) (([(o, .inl (dA 2, 1, .inr (.inl (va_up og 0 v9))))] : va_W) ++ (MW dA mm mad M ++ (VW dA h ad u8))) (([(o, .inl (dA 2, 1, .inr (.inl (va_up og 0 v9))))] : va_W) ++ (VW dA h ad u8 ++ (MW dA mm mad M))) from List.Perm.append_left (([(o, .inl (dA 2, 1, .inr (.inl (va_up og 0 v9))))] : va_W)) (List.perm_append_comm)) hD
  have hPc : va_P D vwCl (MW dA mm mad M) H := spP (wr := ([(o, .inl (dA 2, 1, .inr (.inl (va_up og 0 v9))))] : va_W) ++ (VW dA h ad u8)) hP
  have hDc : va_D A (MW dA mm mad M) := spD (wr := ([(o, .inl (dA 2, 1, .inr (.inl (va_up og 0 v9))))] : va_W) ++ (VW dA h ad u8)) hD
  refine jkL (wr := ([(o, .inl (dA 2, 1, .inr (.inl (va_up og 0 v9))))] : va_W) ++ (VW dA h ad u8)) (rnV (As := [.int (xs (i + 1))]) (rest := []) hx hb hml hown hE hK (hN _ _ hS) hPc hDc (hM H.size) (q0 := 0) rfl rfl w1943 w1942 w1944 w1945 w328 rfl rfl ⟨⟨by decide, by decide⟩, rfl⟩ ⟨(show fr2 + 1 ≤ 2048 by omega), (show 8 + (2 + 11) + lo2 ≤ 84000 by omega)⟩ rfl hl.1 rfl (Nat.le_of_ble_eq_true rfl) d_SeriesVaultLaw_law_1618 ⟨(show cells + mc9 + 0 ≤ 601024 by omega), (show slots + ms9 + 0 ≤ 7293034 by omega)⟩) hP hD hS hA (fun r7 u7 H locs hp9 hP hD hS => ?_)
  replace hp9 : b9 = r7 := Eq.symm hp9
  subst hp9
  have hP : va_P D vwCl (([(o, .inl (dA 2, 1, .inr (.inl (va_up og 0 v9))))] : va_W) ++ (VW dA h ad u8 ++ (MW dA mm mad M1))) H := hP
  have hD : va_D A (([(o, .inl (dA 2, 1, .inr (.inl (va_up og 0 v9))))] : va_W) ++ (VW dA h ad u8 ++ (MW dA mm mad M1))) := hD
  refine lv_lstore hx hb d_SeriesVaultLaw_law_1621 hl (by decide) rfl (fun ls hl => ?_)
  have hl : lv_has ls 8 [(6, .long b9), (5, .int 0), (4, .int (nI i)), (3, .ref o), (2, .ref mm), (1, .ref h), (0, .ref b)] := hl
  refine lv_aload_n hx hb d_SeriesVaultLaw_law_1623 rfl (lv_at hl 4 rfl) ?_
  have hPc : va_P D vwCl (MW dA mm mad M1) H := spP (wr := ([(o, .inl (dA 2, 1, .inr (.inl (va_up og 0 v9))))] : va_W) ++ (VW dA h ad u8)) hP
  have hDc : va_D A (MW dA mm mad M1) := spD (wr := ([(o, .inl (dA 2, 1, .inr (.inl (va_up og 0 v9))))] : va_W) ++ (VW dA h ad u8)) hD
  refine jkI (wr := ([(o, .inl (dA 2, 1, .inr (.inl (va_up og 0 v9))))] : va_W) ++ (VW dA h ad u8)) (rnV (As := []) (rest := []) hx hb hml hown hE hK (hN _ _ hS) hPc hDc (k_thrown l D dA H.size mm mad M1) (q0 := 0) rfl rfl w1801 w1800 w1802 w1803 w328 rfl rfl ⟨⟨by decide, by decide⟩, rfl⟩ ⟨(show 1 + 1 ≤ 2048 by omega), (show 8 + (1 + 11) + 0 ≤ 84000 by omega)⟩ rfl hl.1 rfl (Nat.le_of_ble_eq_true rfl) d_SeriesVaultLaw_law_1624 ⟨(show cells + mc9 + 0 ≤ 601024 by omega), (show slots + ms9 + 0 ≤ 7293034 by omega)⟩) hP hD hS hA (fun r7 u7 H locs hp9 hP hD hS => ?_)
  replace hp9 : 0 = r7 := Eq.symm (hp9.trans hcod)
  subst hp9
  have hP : va_P D vwCl (([(o, .inl (dA 2, 1, .inr (.inl (va_up og 0 v9))))] : va_W) ++ (VW dA h ad u8 ++ (MW dA mm mad M1))) H := hP
  have hD : va_D A (([(o, .inl (dA 2, 1, .inr (.inl (va_up og 0 v9))))] : va_W) ++ (VW dA h ad u8 ++ (MW dA mm mad M1))) := hD
  refine lv_iload hx hb d_SeriesVaultLaw_law_1627 (lv_at hl 1 rfl) ?_
  refine lv_icmp_eq hx hb d_SeriesVaultLaw_law_1629 (tgt := 1634) rfl (fun _ => ?_) (fun h9 => absurd rfl h9)
  refine lv_iload hx hb d_SeriesVaultLaw_law_1634 (lv_at hl 1 rfl) ?_
  refine lv_if_ne hx hb d_SeriesVaultLaw_law_1636 (tgt := 1650) rfl (fun h9 => absurd (by decide) h9) (fun _ => ?_)
  refine lv_aload_n hx hb d_SeriesVaultLaw_law_1639 rfl (lv_at hl 3 rfl) ?_
  refine lv_iconst (v := 0) hx hb d_SeriesVaultLaw_law_1640 (by decide) ?_
  refine nlld (f := (va_up og 0 v9)) (n := 1) hx hb hK hP (0) 2 rfl rfl (0) (by decide) (by decide) d_SeriesVaultLaw_law_1641 ?_
  refine tpl (y := v9) (va_up_self _ _ _) ?_
  refine lv_lload hx hb d_SeriesVaultLaw_law_1642 (lv_at hl 0 rfl) ?_
  refine W.lcmp hx hb d_SeriesVaultLaw_law_1644 ?_
  refine lv_if_eq hx hb d_SeriesVaultLaw_law_1645 (tgt := 1650) rfl (fun _ => ?_) (fun h9 => absurd ((lg_cmp_eq _ _).mpr hv) h9)
  refine lv_goto hx hb d_SeriesVaultLaw_law_1650 (tgt := 1770) rfl ?_
  refine lv_iinc (k := 2) (v := nI (i + 6)) hx hb d_SeriesVaultLaw_law_1770 hl rfl (iincN (i) 6 6 (by decide)) (by decide) rfl (fun ls hl => ?_)
  have hl : lv_has ls 8 [(4, .int (nI (i + 6))), (6, .long b9), (5, .int 0), (3, .ref o), (2, .ref mm), (1, .ref h), (0, .ref b)] := hl
  refine lv_goto hx hb d_SeriesVaultLaw_law_1773 (tgt := 23) rfl ?_
  have hP := pmP (show List.Perm (α := Nat × va_E) (([(o, .inl (dA 2, 1, .inr (.inl (va_up og 0 v9))))] : va_W) ++ (VW dA h ad u8 ++ (MW dA mm mad M1))) (MW dA mm mad M1 ++ (([(o, .inl (dA 2, 1, .inr (.inl (va_up og 0 v9))))] : va_W) ++ (VW dA h ad u8))) from (List.Perm.append_left (([(o, .inl (dA 2, 1, .inr (.inl (va_up og 0 v9))))] : va_W)) (List.perm_append_comm)).trans (List.perm_append_comm_assoc (([(o, .inl (dA 2, 1, .inr (.inl (va_up og 0 v9))))] : va_W)) (MW dA mm mad M1) (VW dA h ad u8))) hP
  have hD := pmD (show List.Perm (α := Nat × va_E) (([(o, .inl (dA 2, 1, .inr (.inl (va_up og 0 v9))))] : va_W) ++ (VW dA h ad u8 ++ (MW dA mm mad M1))) (MW dA mm mad M1 ++ (([(o, .inl (dA 2, 1, .inr (.inl (va_up og 0 v9))))] : va_W) ++ (VW dA h ad u8))) from (List.Perm.append_left (([(o, .inl (dA 2, 1, .inr (.inl (va_up og 0 v9))))] : va_W)) (List.perm_append_comm)).trans (List.perm_append_comm_assoc (([(o, .inl (dA 2, 1, .inr (.inl (va_up og 0 v9))))] : va_W)) (MW dA mm mad M1) (VW dA h ad u8))) hD
  have hP : va_P D vwCl (MW dA mm mad M1 ++ (([(o, .inl (dA 2, 1, .inr (.inl (va_up og 0 v9))))] : va_W) ++ (VW dA h ad u8))) H := hP
  have hD : va_D A (MW dA mm mad M1 ++ (([(o, .inl (dA 2, 1, .inr (.inl (va_up og 0 v9))))] : va_W) ++ (VW dA h ad u8))) := hD
  have hl := lv_sub (l' := [(4, .int (nI (i + 6))), (3, .ref o), (2, .ref mm), (1, .ref h), (0, .ref b)]) hl [0, 3, 4, 5, 6] rfl
  exact cont u8 H locs ls hf9 hP hD hS hl
set_option maxHeartbeats 4000000 in
set_option maxRecDepth 100000 in
theorem l9_20_x {p : Program} {e : Env} {s : State} {m : MethodId} {below : List Frame} {meth : Method} {c : Code} (l : Launch) {b L : Nat} {xs : Nat → Int32} {D : va_G} {dA : Nat → ClassId} {e0 : Nat} {A : Nat → Prop} {H : Heap} {locs : List Loc} {ls : Array Slot} (hC : lS p l s m meth c b L xs D dA e0 A) {h : Nat} {ad : Nat → Nat} {x : VS} {mm : Nat} {mad : Nat → Nat} {M M1 : MS} {o : Nat} {og : Nat → Int64} {i fr1 lo1 fr2 lo2 mc9 ms9 cells slots : Nat} {F9 : VS → Prop} {b9 : Int64} {k9 : Nat} (hi : i + 6 ≤ L) (hL : L ≤ 3072) (hfr : fr1 ≤ 2000 ∧ lo1 ≤ 80000 ∧ fr2 ≤ 2000 ∧ lo2 ≤ 80000) (hrm : cells + mc9 ≤ 601024 ∧ slots + ms9 ≤ 7293034) (hcod : M1.cod = nI k9) (hk9 : ¬ nI k9 = 0) (hW : ∀ sz : Nat, Met l ⟨"SeriesVaultLaw", "last", "(LSeriesVault;I[J)I"⟩ [Cond.codeWith ⟨"SeriesVaultLaw", "last", "(LSeriesVault;I[J)I"⟩ method_22_code 4 (some FieldType.int) [(0, 8, 11, 29), (0, 8, 14, 35)]] { frames := fr1, cells := mc9, slots := ms9, locals := lo1 } (pC D dA [.ref h, .int (xs (i + 1)), .ref o] (([(o, .inl (dA 2, 1, .inr (.inl og)))] : va_W) ++ (VW dA h ad x)) sz) (va_Qi (fun (r9 : Int32) (u9 : VS) => r9 = nI k9 ∧ F9 u9) (fun (u9 : VS) t9 => bW D (va_A (([(o, .inl (dA 2, 1, .inr (.inl og)))] : va_W) ++ (VW dA h ad x)) sz) (([(o, .inl (dA 2, 1, .inr (.inl (og))))] : va_W) ++ (VW dA h ad u9)) t9) (va_A (([(o, .inl (dA 2, 1, .inr (.inl og)))] : va_W) ++ (VW dA h ad x)) sz)) mc9 ms9 (va_A (([(o, .inl (dA 2, 1, .inr (.inl og)))] : va_W) ++ (VW dA h ad x)) sz)) (hM : ∀ sz : Nat, Met l ⟨"SeriesVaultModel", "last", "(I)J"⟩ [Cond.code ⟨"SeriesVaultModel", "last", "(I)J"⟩ prog_14_method_32_code 2 (some FieldType.long)] { frames := fr2, cells := 0, slots := 0, locals := lo2 } (pC D dA [.ref mm, .int (xs (i + 1))] (MW dA mm mad M) sz) (va_Ql (fun (r9 : Int64) (u9 : Unit) => r9 = b9) (fun (u9 : Unit) t9 => bW D (va_A (MW dA mm mad M) sz) (MW dA mm mad M1) t9) (va_A (MW dA mm mad M) sz)) 0 0 (va_A (MW dA mm mad M) sz)) (hP : va_P D vwCl (MW dA mm mad M ++ (([(o, .inl (dA 2, 1, .inr (.inl og)))] : va_W) ++ (VW dA h ad x))) H) (hD : va_D A (MW dA mm mad M ++ (([(o, .inl (dA 2, 1, .inr (.inl og)))] : va_W) ++ (VW dA h ad x)))) (hS : va_S A s.heap H locs) (hl : lv_has ls 8 [(4, .int (nI i)), (3, .ref o), (2, .ref mm), (1, .ref h), (0, .ref b)]) (cont : ∀ (u : VS) (H1 : Heap) (locs1 : List Loc) (ls1 : Array Slot), F9 u → va_P D vwCl (MW dA mm mad M1 ++ (([(o, .inl (dA 2, 1, .inr (.inl og)))] : va_W) ++ (VW dA h ad u))) H1 → va_D A (MW dA mm mad M1 ++ (([(o, .inl (dA 2, 1, .inr (.inl og)))] : va_W) ++ (VW dA h ad u))) → va_S A s.heap H1 locs1 → lv_has ls1 8 [(4, .int (nI (i + 6))), (3, .ref o), (2, .ref mm), (1, .ref h), (0, .ref b)] → W p l e room_1 s m #[Value.ref b] below meth c H1 locs1 (cells + mc9 + 0 + 0) (slots + ms9 + 0 + 0) (lw_Z below #[Value.ref b] s) (F0 m 23 ls1 [])) : W p l e room_1 s m #[Value.ref b] below meth c H locs cells slots (lw_Z below #[Value.ref b] s) (F0 m 1598 ls []) := by
  have hC0 := hC
  obtain ⟨hx, hb, hr, hml, hown, hlk, hE, hK, hA, hN, hZ, hT, hX, hbl, hbA, hnew, htr⟩ := hC
  refine lv_aload_n hx hb d_SeriesVaultLaw_law_1598 rfl (lv_at hl 3 rfl) ?_
  refine lv_aload_n hx hb d_SeriesVaultLaw_law_1599 rfl (lv_at hl 4 rfl) ?_
  refine lv_iload hx hb d_SeriesVaultLaw_law_1600 (lv_at hl 0 rfl) ?_
  refine lv_iconst (v := 1) hx hb d_SeriesVaultLaw_law_1602 (by decide) ?_
  refine lv_iadd hx hb d_SeriesVaultLaw_law_1603 (tpi (y := nI (i + 1)) (nI_add (i) (1)) ?_)
  refine sldN hx hb hX hbl hbA hS (show i + 1 < L by omega) (show L ≤ 65536 by omega) d_SeriesVaultLaw_law_1604 ?_
  refine lv_aload_n hx hb d_SeriesVaultLaw_law_1605 rfl (lv_at hl 1 rfl) ?_
  have hPc : va_P D vwCl (([(o, .inl (dA 2, 1, .inr (.inl og)))] : va_W) ++ (VW dA h ad x)) H := spP (wr := MW dA mm mad M) hP
  have hDc : va_D A (([(o, .inl (dA 2, 1, .inr (.inl og)))] : va_W) ++ (VW dA h ad x)) := spD (wr := MW dA mm mad M) hD
  refine jkI (wr := MW dA mm mad M) (rnW (As := [.ref h, .int (xs (i + 1)), .ref o]) (rest := []) hx hb hml hown hE hK (hN _ _ hS) hPc hDc (hW H.size) w1940 w1939 w1941 w1793 rfl rfl ⟨⟨by decide, by decide⟩, rfl⟩ ⟨(show fr1 + 1 ≤ 2048 by omega), (show 8 + (4 + 11) + lo1 ≤ 84000 by omega)⟩ rfl hl.1 rfl (Nat.le_of_ble_eq_true rfl) d_SeriesVaultLaw_law_1606 ⟨(show cells + mc9 ≤ 601024 by omega), (show slots + ms9 ≤ 7293034 by omega)⟩) hP hD hS hA (fun k8 u8 H locs hp9 hP hD hS => ?_)
  obtain ⟨hp9, hf9⟩ := hp9
  replace hp9 : nI k9 = k8 := Eq.symm hp9
  subst hp9
  have hP : va_P D vwCl (MW dA mm mad M ++ (([(o, .inl (dA 2, 1, .inr (.inl og)))] : va_W) ++ (VW dA h ad u8))) H := hP
  have hD : va_D A (MW dA mm mad M ++ (([(o, .inl (dA 2, 1, .inr (.inl og)))] : va_W) ++ (VW dA h ad u8))) := hD
  refine lv_istore hx hb d_SeriesVaultLaw_law_1609 hl (by decide) rfl (fun ls hl => ?_)
  have hl : lv_has ls 8 [(5, .int (nI k9)), (4, .int (nI i)), (3, .ref o), (2, .ref mm), (1, .ref h), (0, .ref b)] := hl
  refine lv_aload_n hx hb d_SeriesVaultLaw_law_1611 rfl (lv_at hl 3 rfl) ?_
  refine lv_aload_n hx hb d_SeriesVaultLaw_law_1612 rfl (lv_at hl 5 rfl) ?_
  refine lv_iload hx hb d_SeriesVaultLaw_law_1613 (lv_at hl 1 rfl) ?_
  refine lv_iconst (v := 1) hx hb d_SeriesVaultLaw_law_1615 (by decide) ?_
  refine lv_iadd hx hb d_SeriesVaultLaw_law_1616 (tpi (y := nI (i + 1)) (nI_add (i) (1)) ?_)
  refine sldN hx hb hX hbl hbA hS (show i + 1 < L by omega) (show L ≤ 65536 by omega) d_SeriesVaultLaw_law_1617 ?_
  have hP := pmP (show List.Perm (α := Nat × va_E) (MW dA mm mad M ++ (([(o, .inl (dA 2, 1, .inr (.inl og)))] : va_W) ++ (VW dA h ad u8))) (([(o, .inl (dA 2, 1, .inr (.inl og)))] : va_W) ++ (MW dA mm mad M ++ (VW dA h ad u8))) from List.perm_append_comm_assoc (MW dA mm mad M) (([(o, .inl (dA 2, 1, .inr (.inl og)))] : va_W)) (VW dA h ad u8)) hP
  have hD := pmD (show List.Perm (α := Nat × va_E) (MW dA mm mad M ++ (([(o, .inl (dA 2, 1, .inr (.inl og)))] : va_W) ++ (VW dA h ad u8))) (([(o, .inl (dA 2, 1, .inr (.inl og)))] : va_W) ++ (MW dA mm mad M ++ (VW dA h ad u8))) from List.perm_append_comm_assoc (MW dA mm mad M) (([(o, .inl (dA 2, 1, .inr (.inl og)))] : va_W)) (VW dA h ad u8)) hD
  have hP := pmP (show List.Perm (α := Nat × va_E) (([(o, .inl (dA 2, 1, .inr (.inl og)))] : va_W) ++ (MW dA mm mad M ++ (VW dA h ad u8))) (([(o, .inl (dA 2, 1, .inr (.inl og)))] : va_W) ++ (VW dA h ad u8 ++ (MW dA mm mad M))) from List.Perm.append_left (([(o, .inl (dA 2, 1, .inr (.inl og)))] : va_W)) (List.perm_append_comm)) hP
  have hD := pmD (show List.Perm (α := Nat × va_E) (([(o, .inl (dA 2, 1, .inr (.inl og)))] : va_W) ++ (MW dA mm mad M ++ (VW dA h ad u8))) (([(o, .inl (dA 2, 1, .inr (.inl og)))] : va_W) ++ (VW dA h ad u8 ++ (MW dA mm mad M))) from List.Perm.append_left (([(o, .inl (dA 2, 1, .inr (.inl og)))] : va_W)) (List.perm_append_comm)) hD
  have hPc : va_P D vwCl (MW dA mm mad M) H := spP (wr := ([(o, .inl (dA 2, 1, .inr (.inl og)))] : va_W) ++ (VW dA h ad u8)) hP
  have hDc : va_D A (MW dA mm mad M) := spD (wr := ([(o, .inl (dA 2, 1, .inr (.inl og)))] : va_W) ++ (VW dA h ad u8)) hD
  refine jkL (wr := ([(o, .inl (dA 2, 1, .inr (.inl og)))] : va_W) ++ (VW dA h ad u8)) (rnV (As := [.int (xs (i + 1))]) (rest := []) hx hb hml hown hE hK (hN _ _ hS) hPc hDc (hM H.size) (q0 := 0) rfl rfl w1943 w1942 w1944 w1945 w328 rfl rfl ⟨⟨by decide, by decide⟩, rfl⟩ ⟨(show fr2 + 1 ≤ 2048 by omega), (show 8 + (2 + 11) + lo2 ≤ 84000 by omega)⟩ rfl hl.1 rfl (Nat.le_of_ble_eq_true rfl) d_SeriesVaultLaw_law_1618 ⟨(show cells + mc9 + 0 ≤ 601024 by omega), (show slots + ms9 + 0 ≤ 7293034 by omega)⟩) hP hD hS hA (fun r7 u7 H locs hp9 hP hD hS => ?_)
  replace hp9 : b9 = r7 := Eq.symm hp9
  subst hp9
  have hP : va_P D vwCl (([(o, .inl (dA 2, 1, .inr (.inl og)))] : va_W) ++ (VW dA h ad u8 ++ (MW dA mm mad M1))) H := hP
  have hD : va_D A (([(o, .inl (dA 2, 1, .inr (.inl og)))] : va_W) ++ (VW dA h ad u8 ++ (MW dA mm mad M1))) := hD
  refine lv_lstore hx hb d_SeriesVaultLaw_law_1621 hl (by decide) rfl (fun ls hl => ?_)
  have hl : lv_has ls 8 [(6, .long b9), (5, .int (nI k9)), (4, .int (nI i)), (3, .ref o), (2, .ref mm), (1, .ref h), (0, .ref b)] := hl
  refine lv_aload_n hx hb d_SeriesVaultLaw_law_1623 rfl (lv_at hl 4 rfl) ?_
  have hPc : va_P D vwCl (MW dA mm mad M1) H := spP (wr := ([(o, .inl (dA 2, 1, .inr (.inl og)))] : va_W) ++ (VW dA h ad u8)) hP
  have hDc : va_D A (MW dA mm mad M1) := spD (wr := ([(o, .inl (dA 2, 1, .inr (.inl og)))] : va_W) ++ (VW dA h ad u8)) hD
  refine jkI (wr := ([(o, .inl (dA 2, 1, .inr (.inl og)))] : va_W) ++ (VW dA h ad u8)) (rnV (As := []) (rest := []) hx hb hml hown hE hK (hN _ _ hS) hPc hDc (k_thrown l D dA H.size mm mad M1) (q0 := 0) rfl rfl w1801 w1800 w1802 w1803 w328 rfl rfl ⟨⟨by decide, by decide⟩, rfl⟩ ⟨(show 1 + 1 ≤ 2048 by omega), (show 8 + (1 + 11) + 0 ≤ 84000 by omega)⟩ rfl hl.1 rfl (Nat.le_of_ble_eq_true rfl) d_SeriesVaultLaw_law_1624 ⟨(show cells + mc9 + 0 ≤ 601024 by omega), (show slots + ms9 + 0 ≤ 7293034 by omega)⟩) hP hD hS hA (fun r7 u7 H locs hp9 hP hD hS => ?_)
  replace hp9 : nI k9 = r7 := Eq.symm (hp9.trans hcod)
  subst hp9
  have hP : va_P D vwCl (([(o, .inl (dA 2, 1, .inr (.inl og)))] : va_W) ++ (VW dA h ad u8 ++ (MW dA mm mad M1))) H := hP
  have hD : va_D A (([(o, .inl (dA 2, 1, .inr (.inl og)))] : va_W) ++ (VW dA h ad u8 ++ (MW dA mm mad M1))) := hD
  refine lv_iload hx hb d_SeriesVaultLaw_law_1627 (lv_at hl 1 rfl) ?_
  refine lv_icmp_eq hx hb d_SeriesVaultLaw_law_1629 (tgt := 1634) rfl (fun _ => ?_) (fun h9 => absurd rfl h9)
  refine lv_iload hx hb d_SeriesVaultLaw_law_1634 (lv_at hl 1 rfl) ?_
  refine lv_if_ne hx hb d_SeriesVaultLaw_law_1636 (tgt := 1650) rfl (fun _ => ?_) (fun h9 => absurd h9 hk9)
  refine lv_goto hx hb d_SeriesVaultLaw_law_1650 (tgt := 1770) rfl ?_
  refine lv_iinc (k := 2) (v := nI (i + 6)) hx hb d_SeriesVaultLaw_law_1770 hl rfl (iincN (i) 6 6 (by decide)) (by decide) rfl (fun ls hl => ?_)
  have hl : lv_has ls 8 [(4, .int (nI (i + 6))), (6, .long b9), (5, .int (nI k9)), (3, .ref o), (2, .ref mm), (1, .ref h), (0, .ref b)] := hl
  refine lv_goto hx hb d_SeriesVaultLaw_law_1773 (tgt := 23) rfl ?_
  have hP := pmP (show List.Perm (α := Nat × va_E) (([(o, .inl (dA 2, 1, .inr (.inl og)))] : va_W) ++ (VW dA h ad u8 ++ (MW dA mm mad M1))) (MW dA mm mad M1 ++ (([(o, .inl (dA 2, 1, .inr (.inl og)))] : va_W) ++ (VW dA h ad u8))) from (List.Perm.append_left (([(o, .inl (dA 2, 1, .inr (.inl og)))] : va_W)) (List.perm_append_comm)).trans (List.perm_append_comm_assoc (([(o, .inl (dA 2, 1, .inr (.inl og)))] : va_W)) (MW dA mm mad M1) (VW dA h ad u8))) hP
  have hD := pmD (show List.Perm (α := Nat × va_E) (([(o, .inl (dA 2, 1, .inr (.inl og)))] : va_W) ++ (VW dA h ad u8 ++ (MW dA mm mad M1))) (MW dA mm mad M1 ++ (([(o, .inl (dA 2, 1, .inr (.inl og)))] : va_W) ++ (VW dA h ad u8))) from (List.Perm.append_left (([(o, .inl (dA 2, 1, .inr (.inl og)))] : va_W)) (List.perm_append_comm)).trans (List.perm_append_comm_assoc (([(o, .inl (dA 2, 1, .inr (.inl og)))] : va_W)) (MW dA mm mad M1) (VW dA h ad u8))) hD
  have hP : va_P D vwCl (MW dA mm mad M1 ++ (([(o, .inl (dA 2, 1, .inr (.inl og)))] : va_W) ++ (VW dA h ad u8))) H := hP
  have hD : va_D A (MW dA mm mad M1 ++ (([(o, .inl (dA 2, 1, .inr (.inl og)))] : va_W) ++ (VW dA h ad u8))) := hD
  have hl := lv_sub (l' := [(4, .int (nI (i + 6))), (3, .ref o), (2, .ref mm), (1, .ref h), (0, .ref b)]) hl [0, 3, 4, 5, 6] rfl
  exact cont u8 H locs ls hf9 hP hD hS hl
theorem d_SeriesVaultLaw_law_1653 : decode code 1653 = .ok (.aload_n 1, 1) := by decide +kernel
theorem d_SeriesVaultLaw_law_1654 : decode code 1654 = .ok (.invokevirtual 185, 3) := by decide +kernel
theorem d_SeriesVaultLaw_law_1657 : decode code 1657 = .ok (.aload_n 2, 1) := by decide +kernel
theorem d_SeriesVaultLaw_law_1658 : decode code 1658 = .ok (.invokevirtual 188, 3) := by decide +kernel
theorem d_SeriesVaultLaw_law_1661 : decode code 1661 = .ok (.if_icmp .eq 109, 3) := by decide +kernel
theorem w1946 : Cond.methodLink "SeriesVaultLaw" 185 ⟨"SeriesVault", "written", "()I"⟩ ∈ aW := aw_of (tb_3 (List.mem_of_getElem? (i := 20) rfl)) rfl
theorem w1947 : Cond.code ⟨"SeriesVault", "written", "()I"⟩ prog_1_method_10_code 1 (some FieldType.int) ∈ aW := aw_of (tb_3 (List.mem_of_getElem? (i := 23) rfl)) rfl
theorem w1948 : Cond.instanceMethod ⟨"SeriesVault", "written", "()I"⟩ ∈ aW := aw_of (tb_3 (List.mem_of_getElem? (i := 21) rfl)) rfl
theorem w1949 : Cond.selects "SeriesVault" ⟨"SeriesVault", "written", "()I"⟩ ⟨"SeriesVault", "written", "()I"⟩ ∈ aW := aw_of (tb_3 (List.mem_of_getElem? (i := 22) rfl)) rfl
theorem w1950 : Cond.methodLink "SeriesVaultLaw" 188 ⟨"SeriesVaultModel", "written", "()I"⟩ ∈ aW := aw_of (tb_10 (List.mem_of_getElem? (i := 133) rfl)) rfl
theorem w1951 : Cond.code ⟨"SeriesVaultModel", "written", "()I"⟩ prog_14_method_50_code 1 (some FieldType.int) ∈ aW := aw_of (tb_10 (List.mem_of_getElem? (i := 136) rfl)) rfl
theorem w1952 : Cond.instanceMethod ⟨"SeriesVaultModel", "written", "()I"⟩ ∈ aW := aw_of (tb_10 (List.mem_of_getElem? (i := 134) rfl)) rfl
theorem w1953 : Cond.selects "SeriesVaultModel" ⟨"SeriesVaultModel", "written", "()I"⟩ ⟨"SeriesVaultModel", "written", "()I"⟩ ∈ aW := aw_of (tb_10 (List.mem_of_getElem? (i := 135) rfl)) rfl
set_option maxHeartbeats 4000000 in
set_option maxRecDepth 100000 in
theorem l9_21 {p : Program} {e : Env} {s : State} {m : MethodId} {below : List Frame} {meth : Method} {c : Code} (l : Launch) {b L : Nat} {xs : Nat → Int32} {D : va_G} {dA : Nat → ClassId} {e0 : Nat} {A : Nat → Prop} {H : Heap} {locs : List Loc} {ls : Array Slot} (hC : lS p l s m meth c b L xs D dA e0 A) {h : Nat} {ad : Nat → Nat} {x : VS} {mm : Nat} {mad : Nat → Nat} {M M1 : MS} {o : Nat} {og : Nat → Int64} {i fr1 lo1 fr2 lo2 mc9 ms9 cells slots : Nat} {F9 : VS → Prop} {b9 : Int32} (hi : i + 6 ≤ L) (hL : L ≤ 3072) (hfr : fr1 ≤ 2000 ∧ lo1 ≤ 80000 ∧ fr2 ≤ 2000 ∧ lo2 ≤ 80000) (hrm : cells + mc9 ≤ 601024 ∧ slots + ms9 ≤ 7293034) (hW : ∀ sz : Nat, Met l ⟨"SeriesVault", "written", "()I"⟩ [Cond.code ⟨"SeriesVault", "written", "()I"⟩ prog_1_method_10_code 1 (some FieldType.int)] { frames := fr1, cells := mc9, slots := ms9, locals := lo1 } (pC D dA [.ref h] (VW dA h ad x) sz) (va_Qi (fun (r9 : Int32) (u9 : VS) => r9 = b9 ∧ F9 u9) (fun (u9 : VS) t9 => bW D (va_A (VW dA h ad x) sz) (VW dA h ad u9) t9) (va_A (VW dA h ad x) sz)) mc9 ms9 (va_A (VW dA h ad x) sz)) (hM : ∀ sz : Nat, Met l ⟨"SeriesVaultModel", "written", "()I"⟩ [Cond.code ⟨"SeriesVaultModel", "written", "()I"⟩ prog_14_method_50_code 1 (some FieldType.int)] { frames := fr2, cells := 0, slots := 0, locals := lo2 } (pC D dA [.ref mm] (MW dA mm mad M) sz) (va_Qi (fun (r9 : Int32) (u9 : Unit) => r9 = b9) (fun (u9 : Unit) t9 => bW D (va_A (MW dA mm mad M) sz) (MW dA mm mad M1) t9) (va_A (MW dA mm mad M) sz)) 0 0 (va_A (MW dA mm mad M) sz)) (hP : va_P D vwCl (MW dA mm mad M ++ (([(o, .inl (dA 2, 1, .inr (.inl og)))] : va_W) ++ (VW dA h ad x))) H) (hD : va_D A (MW dA mm mad M ++ (([(o, .inl (dA 2, 1, .inr (.inl og)))] : va_W) ++ (VW dA h ad x)))) (hS : va_S A s.heap H locs) (hl : lv_has ls 8 [(4, .int (nI i)), (3, .ref o), (2, .ref mm), (1, .ref h), (0, .ref b)]) (cont : ∀ (u : VS) (H1 : Heap) (locs1 : List Loc) (ls1 : Array Slot), F9 u → va_P D vwCl (MW dA mm mad M1 ++ (([(o, .inl (dA 2, 1, .inr (.inl og)))] : va_W) ++ (VW dA h ad u))) H1 → va_D A (MW dA mm mad M1 ++ (([(o, .inl (dA 2, 1, .inr (.inl og)))] : va_W) ++ (VW dA h ad u))) → va_S A s.heap H1 locs1 → lv_has ls1 8 [(4, .int (nI (i + 6))), (3, .ref o), (2, .ref mm), (1, .ref h), (0, .ref b)] → W p l e room_1 s m #[Value.ref b] below meth c H1 locs1 (cells + mc9 + 0) (slots + ms9 + 0) (lw_Z below #[Value.ref b] s) (F0 m 23 ls1 [])) : W p l e room_1 s m #[Value.ref b] below meth c H locs cells slots (lw_Z below #[Value.ref b] s) (F0 m 1653 ls []) := by
  have hC0 := hC
  obtain ⟨hx, hb, hr, hml, hown, hlk, hE, hK, hA, hN, hZ, hT, hX, hbl, hbA, hnew, htr⟩ := hC
  refine lv_aload_n hx hb d_SeriesVaultLaw_law_1653 rfl (lv_at hl 3 rfl) ?_
  have hPc : va_P D vwCl (VW dA h ad x) H := spP (wr := MW dA mm mad M ++ (([(o, .inl (dA 2, 1, .inr (.inl og)))] : va_W))) hP
  have hDc : va_D A (VW dA h ad x) := spD (wr := MW dA mm mad M ++ (([(o, .inl (dA 2, 1, .inr (.inl og)))] : va_W))) hD
  refine jkI (wr := MW dA mm mad M ++ (([(o, .inl (dA 2, 1, .inr (.inl og)))] : va_W))) (rnV (As := []) (rest := []) hx hb hml hown hE hK (hN _ _ hS) hPc hDc (hW H.size) (q0 := 0) rfl rfl w1947 w1946 w1948 w1949 w277 rfl rfl ⟨⟨by decide, by decide⟩, rfl⟩ ⟨(show fr1 + 1 ≤ 2048 by omega), (show 8 + (1 + 11) + lo1 ≤ 84000 by omega)⟩ rfl hl.1 rfl (Nat.le_of_ble_eq_true rfl) d_SeriesVaultLaw_law_1654 ⟨(show cells + mc9 ≤ 601024 by omega), (show slots + ms9 ≤ 7293034 by omega)⟩) hP hD hS hA (fun k8 u8 H locs hp9 hP hD hS => ?_)
  obtain ⟨hp9, hf9⟩ := hp9
  replace hp9 : b9 = k8 := Eq.symm hp9
  subst hp9
  have hP : va_P D vwCl (MW dA mm mad M ++ (([(o, .inl (dA 2, 1, .inr (.inl og)))] : va_W) ++ (VW dA h ad u8))) H := hP
  have hD : va_D A (MW dA mm mad M ++ (([(o, .inl (dA 2, 1, .inr (.inl og)))] : va_W) ++ (VW dA h ad u8))) := hD
  refine lv_aload_n hx hb d_SeriesVaultLaw_law_1657 rfl (lv_at hl 2 rfl) ?_
  have hP := pmP (show List.Perm (α := Nat × va_E) (MW dA mm mad M ++ (([(o, .inl (dA 2, 1, .inr (.inl og)))] : va_W) ++ (VW dA h ad u8))) (([(o, .inl (dA 2, 1, .inr (.inl og)))] : va_W) ++ (MW dA mm mad M ++ (VW dA h ad u8))) from List.perm_append_comm_assoc (MW dA mm mad M) (([(o, .inl (dA 2, 1, .inr (.inl og)))] : va_W)) (VW dA h ad u8)) hP
  have hD := pmD (show List.Perm (α := Nat × va_E) (MW dA mm mad M ++ (([(o, .inl (dA 2, 1, .inr (.inl og)))] : va_W) ++ (VW dA h ad u8))) (([(o, .inl (dA 2, 1, .inr (.inl og)))] : va_W) ++ (MW dA mm mad M ++ (VW dA h ad u8))) from List.perm_append_comm_assoc (MW dA mm mad M) (([(o, .inl (dA 2, 1, .inr (.inl og)))] : va_W)) (VW dA h ad u8)) hD
  have hP := pmP (show List.Perm (α := Nat × va_E) (([(o, .inl (dA 2, 1, .inr (.inl og)))] : va_W) ++ (MW dA mm mad M ++ (VW dA h ad u8))) (([(o, .inl (dA 2, 1, .inr (.inl og)))] : va_W) ++ (VW dA h ad u8 ++ (MW dA mm mad M))) from List.Perm.append_left (([(o, .inl (dA 2, 1, .inr (.inl og)))] : va_W)) (List.perm_append_comm)) hP
  have hD := pmD (show List.Perm (α := Nat × va_E) (([(o, .inl (dA 2, 1, .inr (.inl og)))] : va_W) ++ (MW dA mm mad M ++ (VW dA h ad u8))) (([(o, .inl (dA 2, 1, .inr (.inl og)))] : va_W) ++ (VW dA h ad u8 ++ (MW dA mm mad M))) from List.Perm.append_left (([(o, .inl (dA 2, 1, .inr (.inl og)))] : va_W)) (List.perm_append_comm)) hD
  have hPc : va_P D vwCl (MW dA mm mad M) H := spP (wr := ([(o, .inl (dA 2, 1, .inr (.inl og)))] : va_W) ++ (VW dA h ad u8)) hP
  have hDc : va_D A (MW dA mm mad M) := spD (wr := ([(o, .inl (dA 2, 1, .inr (.inl og)))] : va_W) ++ (VW dA h ad u8)) hD
  refine jkI (wr := ([(o, .inl (dA 2, 1, .inr (.inl og)))] : va_W) ++ (VW dA h ad u8)) (rnV (As := []) (rest := [.int b9]) hx hb hml hown hE hK (hN _ _ hS) hPc hDc (hM H.size) (q0 := 0) rfl rfl w1951 w1950 w1952 w1953 w328 rfl rfl ⟨⟨by decide, by decide⟩, rfl⟩ ⟨(show fr2 + 1 ≤ 2048 by omega), (show 8 + (1 + 11) + lo2 ≤ 84000 by omega)⟩ rfl hl.1 rfl (Nat.le_of_ble_eq_true rfl) d_SeriesVaultLaw_law_1658 ⟨(show cells + mc9 + 0 ≤ 601024 by omega), (show slots + ms9 + 0 ≤ 7293034 by omega)⟩) hP hD hS hA (fun r7 u7 H locs hp9 hP hD hS => ?_)
  replace hp9 : b9 = r7 := Eq.symm hp9
  subst hp9
  have hP : va_P D vwCl (([(o, .inl (dA 2, 1, .inr (.inl og)))] : va_W) ++ (VW dA h ad u8 ++ (MW dA mm mad M1))) H := hP
  have hD : va_D A (([(o, .inl (dA 2, 1, .inr (.inl og)))] : va_W) ++ (VW dA h ad u8 ++ (MW dA mm mad M1))) := hD
  refine lv_icmp_eq hx hb d_SeriesVaultLaw_law_1661 (tgt := 1770) rfl (fun _ => ?_) (fun h9 => absurd rfl h9)
  refine lv_iinc (k := 0) (v := nI (i + 6)) hx hb d_SeriesVaultLaw_law_1770 hl rfl (iincN (i) 6 6 (by decide)) (by decide) rfl (fun ls hl => ?_)
  have hl : lv_has ls 8 [(4, .int (nI (i + 6))), (3, .ref o), (2, .ref mm), (1, .ref h), (0, .ref b)] := hl
  refine lv_goto hx hb d_SeriesVaultLaw_law_1773 (tgt := 23) rfl ?_
  have hP := pmP (show List.Perm (α := Nat × va_E) (([(o, .inl (dA 2, 1, .inr (.inl og)))] : va_W) ++ (VW dA h ad u8 ++ (MW dA mm mad M1))) (MW dA mm mad M1 ++ (([(o, .inl (dA 2, 1, .inr (.inl og)))] : va_W) ++ (VW dA h ad u8))) from (List.Perm.append_left (([(o, .inl (dA 2, 1, .inr (.inl og)))] : va_W)) (List.perm_append_comm)).trans (List.perm_append_comm_assoc (([(o, .inl (dA 2, 1, .inr (.inl og)))] : va_W)) (MW dA mm mad M1) (VW dA h ad u8))) hP
  have hD := pmD (show List.Perm (α := Nat × va_E) (([(o, .inl (dA 2, 1, .inr (.inl og)))] : va_W) ++ (VW dA h ad u8 ++ (MW dA mm mad M1))) (MW dA mm mad M1 ++ (([(o, .inl (dA 2, 1, .inr (.inl og)))] : va_W) ++ (VW dA h ad u8))) from (List.Perm.append_left (([(o, .inl (dA 2, 1, .inr (.inl og)))] : va_W)) (List.perm_append_comm)).trans (List.perm_append_comm_assoc (([(o, .inl (dA 2, 1, .inr (.inl og)))] : va_W)) (MW dA mm mad M1) (VW dA h ad u8))) hD
  have hP : va_P D vwCl (MW dA mm mad M1 ++ (([(o, .inl (dA 2, 1, .inr (.inl og)))] : va_W) ++ (VW dA h ad u8))) H := hP
  have hD : va_D A (MW dA mm mad M1 ++ (([(o, .inl (dA 2, 1, .inr (.inl og)))] : va_W) ++ (VW dA h ad u8))) := hD
  have hl := lv_sub (l' := [(4, .int (nI (i + 6))), (3, .ref o), (2, .ref mm), (1, .ref h), (0, .ref b)]) hl [0, 1, 2, 3, 4] rfl
  exact cont u8 H locs ls hf9 hP hD hS hl
theorem d_SeriesVaultLaw_law_1666 : decode code 1666 = .ok (.aload_n 1, 1) := by decide +kernel
theorem d_SeriesVaultLaw_law_1667 : decode code 1667 = .ok (.aload_n 0, 1) := by decide +kernel
theorem d_SeriesVaultLaw_law_1668 : decode code 1668 = .ok (.iload 4, 2) := by decide +kernel
theorem d_SeriesVaultLaw_law_1670 : decode code 1670 = .ok (.iconst 1, 1) := by decide +kernel
theorem d_SeriesVaultLaw_law_1671 : decode code 1671 = .ok (.iadd, 1) := by decide +kernel
theorem d_SeriesVaultLaw_law_1672 : decode code 1672 = .ok (.iaload, 1) := by decide +kernel
theorem d_SeriesVaultLaw_law_1673 : decode code 1673 = .ok (.invokestatic 189, 3) := by decide +kernel
theorem d_SeriesVaultLaw_law_1676 : decode code 1676 = .ok (.istore 5, 2) := by decide +kernel
theorem d_SeriesVaultLaw_law_1678 : decode code 1678 = .ok (.aload_n 2, 1) := by decide +kernel
theorem d_SeriesVaultLaw_law_1679 : decode code 1679 = .ok (.aload_n 0, 1) := by decide +kernel
theorem d_SeriesVaultLaw_law_1680 : decode code 1680 = .ok (.iload 4, 2) := by decide +kernel
theorem d_SeriesVaultLaw_law_1682 : decode code 1682 = .ok (.iconst 1, 1) := by decide +kernel
theorem d_SeriesVaultLaw_law_1683 : decode code 1683 = .ok (.iadd, 1) := by decide +kernel
theorem d_SeriesVaultLaw_law_1684 : decode code 1684 = .ok (.iaload, 1) := by decide +kernel
theorem d_SeriesVaultLaw_law_1685 : decode code 1685 = .ok (.invokevirtual 191, 3) := by decide +kernel
theorem d_SeriesVaultLaw_law_1688 : decode code 1688 = .ok (.aload_n 2, 1) := by decide +kernel
theorem d_SeriesVaultLaw_law_1689 : decode code 1689 = .ok (.invokevirtual 110, 3) := by decide +kernel
theorem d_SeriesVaultLaw_law_1692 : decode code 1692 = .ok (.iload 5, 2) := by decide +kernel
theorem d_SeriesVaultLaw_law_1694 : decode code 1694 = .ok (.if_icmp .eq 5, 3) := by decide +kernel
theorem d_SeriesVaultLaw_law_1699 : decode code 1699 = .ok (.goto 71, 3) := by decide +kernel
theorem w1954 : Cond.methodLink "SeriesVaultLaw" 189 ⟨"SeriesVaultLaw", "cut", "(LSeriesVault;I)I"⟩ ∈ aW := aw_of (tb_8 (List.mem_of_getElem? (i := 138) rfl)) rfl
theorem w1955 : Cond.codeWith ⟨"SeriesVaultLaw", "cut", "(LSeriesVault;I)I"⟩ method_23_code 3 (some FieldType.int) [(0, 5, 8, 29), (0, 5, 11, 19)] ∈ aW := aw_of (tb_8 (List.mem_of_getElem? (i := 140) rfl)) rfl
theorem w1956 : Cond.static ⟨"SeriesVaultLaw", "cut", "(LSeriesVault;I)I"⟩ ∈ aW := aw_of (tb_8 (List.mem_of_getElem? (i := 139) rfl)) rfl
theorem w1957 : Cond.methodLink "SeriesVaultLaw" 191 ⟨"SeriesVaultModel", "cut", "(I)V"⟩ ∈ aW := aw_of (tb_10 (List.mem_of_getElem? (i := 137) rfl)) rfl
theorem w1958 : Cond.code ⟨"SeriesVaultModel", "cut", "(I)V"⟩ prog_14_method_51_code 2 none ∈ aW := aw_of (tb_10 (List.mem_of_getElem? (i := 140) rfl)) rfl
theorem w1959 : Cond.instanceMethod ⟨"SeriesVaultModel", "cut", "(I)V"⟩ ∈ aW := aw_of (tb_10 (List.mem_of_getElem? (i := 138) rfl)) rfl
theorem w1960 : Cond.selects "SeriesVaultModel" ⟨"SeriesVaultModel", "cut", "(I)V"⟩ ⟨"SeriesVaultModel", "cut", "(I)V"⟩ ∈ aW := aw_of (tb_10 (List.mem_of_getElem? (i := 139) rfl)) rfl
set_option maxHeartbeats 4000000 in
set_option maxRecDepth 100000 in
theorem l9_22 {p : Program} {e : Env} {s : State} {m : MethodId} {below : List Frame} {meth : Method} {c : Code} (l : Launch) {b L : Nat} {xs : Nat → Int32} {D : va_G} {dA : Nat → ClassId} {e0 : Nat} {A : Nat → Prop} {H : Heap} {locs : List Loc} {ls : Array Slot} (hC : lS p l s m meth c b L xs D dA e0 A) {h : Nat} {ad : Nat → Nat} {x : VS} {mm : Nat} {mad : Nat → Nat} {M M1 : MS} {o : Nat} {og : Nat → Int64} {i fr1 lo1 fr2 lo2 mc9 ms9 cells slots : Nat} {F9 : VS → Prop} (hi : i + 6 ≤ L) (hL : L ≤ 3072) (hfr : fr1 ≤ 2000 ∧ lo1 ≤ 80000 ∧ fr2 ≤ 2000 ∧ lo2 ≤ 80000) (hrm : cells + mc9 ≤ 601024 ∧ slots + ms9 ≤ 7293034) (hcod : M1.cod = 0) (hW : ∀ sz : Nat, Met l ⟨"SeriesVaultLaw", "cut", "(LSeriesVault;I)I"⟩ [Cond.codeWith ⟨"SeriesVaultLaw", "cut", "(LSeriesVault;I)I"⟩ method_23_code 3 (some FieldType.int) [(0, 5, 8, 29), (0, 5, 11, 19)]] { frames := fr1, cells := mc9, slots := ms9, locals := lo1 } (pC D dA [.ref h, .int (xs (i + 1))] (VW dA h ad x) sz) (va_Qi (fun (r9 : Int32) (u9 : VS) => r9 = 0 ∧ F9 u9) (fun (u9 : VS) t9 => bW D (va_A (VW dA h ad x) sz) (VW dA h ad u9) t9) (va_A (VW dA h ad x) sz)) mc9 ms9 (va_A (VW dA h ad x) sz)) (hM : ∀ sz : Nat, Met l ⟨"SeriesVaultModel", "cut", "(I)V"⟩ [Cond.code ⟨"SeriesVaultModel", "cut", "(I)V"⟩ prog_14_method_51_code 2 none] { frames := fr2, cells := 0, slots := 0, locals := lo2 } (pC D dA [.ref mm, .int (xs (i + 1))] (MW dA mm mad M) sz) (va_Qv (fun (u9 : Unit) => True) (fun (u9 : Unit) t9 => bW D (va_A (MW dA mm mad M) sz) (MW dA mm mad M1) t9) (va_A (MW dA mm mad M) sz)) 0 0 (va_A (MW dA mm mad M) sz)) (hP : va_P D vwCl (MW dA mm mad M ++ (([(o, .inl (dA 2, 1, .inr (.inl og)))] : va_W) ++ (VW dA h ad x))) H) (hD : va_D A (MW dA mm mad M ++ (([(o, .inl (dA 2, 1, .inr (.inl og)))] : va_W) ++ (VW dA h ad x)))) (hS : va_S A s.heap H locs) (hl : lv_has ls 8 [(4, .int (nI i)), (3, .ref o), (2, .ref mm), (1, .ref h), (0, .ref b)]) (cont : ∀ (u : VS) (H1 : Heap) (locs1 : List Loc) (ls1 : Array Slot), F9 u → va_P D vwCl (MW dA mm mad M1 ++ (([(o, .inl (dA 2, 1, .inr (.inl og)))] : va_W) ++ (VW dA h ad u))) H1 → va_D A (MW dA mm mad M1 ++ (([(o, .inl (dA 2, 1, .inr (.inl og)))] : va_W) ++ (VW dA h ad u))) → va_S A s.heap H1 locs1 → lv_has ls1 8 [(4, .int (nI (i + 6))), (3, .ref o), (2, .ref mm), (1, .ref h), (0, .ref b)] → W p l e room_1 s m #[Value.ref b] below meth c H1 locs1 (cells + mc9 + 0 + 0) (slots + ms9 + 0 + 0) (lw_Z below #[Value.ref b] s) (F0 m 23 ls1 [])) : W p l e room_1 s m #[Value.ref b] below meth c H locs cells slots (lw_Z below #[Value.ref b] s) (F0 m 1666 ls []) := by
  have hC0 := hC
  obtain ⟨hx, hb, hr, hml, hown, hlk, hE, hK, hA, hN, hZ, hT, hX, hbl, hbA, hnew, htr⟩ := hC
  refine lv_aload_n hx hb d_SeriesVaultLaw_law_1666 rfl (lv_at hl 3 rfl) ?_
  refine lv_aload_n hx hb d_SeriesVaultLaw_law_1667 rfl (lv_at hl 4 rfl) ?_
  refine lv_iload hx hb d_SeriesVaultLaw_law_1668 (lv_at hl 0 rfl) ?_
  refine lv_iconst (v := 1) hx hb d_SeriesVaultLaw_law_1670 (by decide) ?_
  refine lv_iadd hx hb d_SeriesVaultLaw_law_1671 (tpi (y := nI (i + 1)) (nI_add (i) (1)) ?_)
  refine sldN hx hb hX hbl hbA hS (show i + 1 < L by omega) (show L ≤ 65536 by omega) d_SeriesVaultLaw_law_1672 ?_
  have hPc : va_P D vwCl (VW dA h ad x) H := spP (wr := MW dA mm mad M ++ (([(o, .inl (dA 2, 1, .inr (.inl og)))] : va_W))) hP
  have hDc : va_D A (VW dA h ad x) := spD (wr := MW dA mm mad M ++ (([(o, .inl (dA 2, 1, .inr (.inl og)))] : va_W))) hD
  refine jkI (wr := MW dA mm mad M ++ (([(o, .inl (dA 2, 1, .inr (.inl og)))] : va_W))) (rnW (As := [.ref h, .int (xs (i + 1))]) (rest := []) hx hb hml hown hE hK (hN _ _ hS) hPc hDc (hW H.size) w1955 w1954 w1956 w1793 rfl rfl ⟨⟨by decide, by decide⟩, rfl⟩ ⟨(show fr1 + 1 ≤ 2048 by omega), (show 8 + (3 + 11) + lo1 ≤ 84000 by omega)⟩ rfl hl.1 rfl (Nat.le_of_ble_eq_true rfl) d_SeriesVaultLaw_law_1673 ⟨(show cells + mc9 ≤ 601024 by omega), (show slots + ms9 ≤ 7293034 by omega)⟩) hP hD hS hA (fun k8 u8 H locs hp9 hP hD hS => ?_)
  obtain ⟨hp9, hf9⟩ := hp9
  replace hp9 : 0 = k8 := Eq.symm hp9
  subst hp9
  have hP : va_P D vwCl (MW dA mm mad M ++ (([(o, .inl (dA 2, 1, .inr (.inl og)))] : va_W) ++ (VW dA h ad u8))) H := hP
  have hD : va_D A (MW dA mm mad M ++ (([(o, .inl (dA 2, 1, .inr (.inl og)))] : va_W) ++ (VW dA h ad u8))) := hD
  refine lv_istore hx hb d_SeriesVaultLaw_law_1676 hl (by decide) rfl (fun ls hl => ?_)
  have hl : lv_has ls 8 [(5, .int 0), (4, .int (nI i)), (3, .ref o), (2, .ref mm), (1, .ref h), (0, .ref b)] := hl
  refine lv_aload_n hx hb d_SeriesVaultLaw_law_1678 rfl (lv_at hl 3 rfl) ?_
  refine lv_aload_n hx hb d_SeriesVaultLaw_law_1679 rfl (lv_at hl 5 rfl) ?_
  refine lv_iload hx hb d_SeriesVaultLaw_law_1680 (lv_at hl 1 rfl) ?_
  refine lv_iconst (v := 1) hx hb d_SeriesVaultLaw_law_1682 (by decide) ?_
  refine lv_iadd hx hb d_SeriesVaultLaw_law_1683 (tpi (y := nI (i + 1)) (nI_add (i) (1)) ?_)
  refine sldN hx hb hX hbl hbA hS (show i + 1 < L by omega) (show L ≤ 65536 by omega) d_SeriesVaultLaw_law_1684 ?_
  have hP := pmP (show List.Perm (α := Nat × va_E) (MW dA mm mad M ++ (([(o, .inl (dA 2, 1, .inr (.inl og)))] : va_W) ++ (VW dA h ad u8))) (([(o, .inl (dA 2, 1, .inr (.inl og)))] : va_W) ++ (MW dA mm mad M ++ (VW dA h ad u8))) from List.perm_append_comm_assoc (MW dA mm mad M) (([(o, .inl (dA 2, 1, .inr (.inl og)))] : va_W)) (VW dA h ad u8)) hP
  have hD := pmD (show List.Perm (α := Nat × va_E) (MW dA mm mad M ++ (([(o, .inl (dA 2, 1, .inr (.inl og)))] : va_W) ++ (VW dA h ad u8))) (([(o, .inl (dA 2, 1, .inr (.inl og)))] : va_W) ++ (MW dA mm mad M ++ (VW dA h ad u8))) from List.perm_append_comm_assoc (MW dA mm mad M) (([(o, .inl (dA 2, 1, .inr (.inl og)))] : va_W)) (VW dA h ad u8)) hD
  have hP := pmP (show List.Perm (α := Nat × va_E) (([(o, .inl (dA 2, 1, .inr (.inl og)))] : va_W) ++ (MW dA mm mad M ++ (VW dA h ad u8))) (([(o, .inl (dA 2, 1, .inr (.inl og)))] : va_W) ++ (VW dA h ad u8 ++ (MW dA mm mad M))) from List.Perm.append_left (([(o, .inl (dA 2, 1, .inr (.inl og)))] : va_W)) (List.perm_append_comm)) hP
  have hD := pmD (show List.Perm (α := Nat × va_E) (([(o, .inl (dA 2, 1, .inr (.inl og)))] : va_W) ++ (MW dA mm mad M ++ (VW dA h ad u8))) (([(o, .inl (dA 2, 1, .inr (.inl og)))] : va_W) ++ (VW dA h ad u8 ++ (MW dA mm mad M))) from List.Perm.append_left (([(o, .inl (dA 2, 1, .inr (.inl og)))] : va_W)) (List.perm_append_comm)) hD
  have hPc : va_P D vwCl (MW dA mm mad M) H := spP (wr := ([(o, .inl (dA 2, 1, .inr (.inl og)))] : va_W) ++ (VW dA h ad u8)) hP
  have hDc : va_D A (MW dA mm mad M) := spD (wr := ([(o, .inl (dA 2, 1, .inr (.inl og)))] : va_W) ++ (VW dA h ad u8)) hD
  refine jkV (wr := ([(o, .inl (dA 2, 1, .inr (.inl og)))] : va_W) ++ (VW dA h ad u8)) (rnV (As := [.int (xs (i + 1))]) (rest := []) hx hb hml hown hE hK (hN _ _ hS) hPc hDc (hM H.size) (q0 := 0) rfl rfl w1958 w1957 w1959 w1960 w328 rfl rfl ⟨⟨by decide, by decide⟩, rfl⟩ ⟨(show fr2 + 1 ≤ 2048 by omega), (show 8 + (2 + 11) + lo2 ≤ 84000 by omega)⟩ rfl hl.1 rfl (Nat.le_of_ble_eq_true rfl) d_SeriesVaultLaw_law_1685 ⟨(show cells + mc9 + 0 ≤ 601024 by omega), (show slots + ms9 + 0 ≤ 7293034 by omega)⟩) hP hD hS hA (fun u7 H locs hp9 hP hD hS => ?_)
  have hP : va_P D vwCl (([(o, .inl (dA 2, 1, .inr (.inl og)))] : va_W) ++ (VW dA h ad u8 ++ (MW dA mm mad M1))) H := hP
  have hD : va_D A (([(o, .inl (dA 2, 1, .inr (.inl og)))] : va_W) ++ (VW dA h ad u8 ++ (MW dA mm mad M1))) := hD
  refine lv_aload_n hx hb d_SeriesVaultLaw_law_1688 rfl (lv_at hl 3 rfl) ?_
  have hPc : va_P D vwCl (MW dA mm mad M1) H := spP (wr := ([(o, .inl (dA 2, 1, .inr (.inl og)))] : va_W) ++ (VW dA h ad u8)) hP
  have hDc : va_D A (MW dA mm mad M1) := spD (wr := ([(o, .inl (dA 2, 1, .inr (.inl og)))] : va_W) ++ (VW dA h ad u8)) hD
  refine jkI (wr := ([(o, .inl (dA 2, 1, .inr (.inl og)))] : va_W) ++ (VW dA h ad u8)) (rnV (As := []) (rest := []) hx hb hml hown hE hK (hN _ _ hS) hPc hDc (k_thrown l D dA H.size mm mad M1) (q0 := 0) rfl rfl w1801 w1800 w1802 w1803 w328 rfl rfl ⟨⟨by decide, by decide⟩, rfl⟩ ⟨(show 1 + 1 ≤ 2048 by omega), (show 8 + (1 + 11) + 0 ≤ 84000 by omega)⟩ rfl hl.1 rfl (Nat.le_of_ble_eq_true rfl) d_SeriesVaultLaw_law_1689 ⟨(show cells + mc9 + 0 ≤ 601024 by omega), (show slots + ms9 + 0 ≤ 7293034 by omega)⟩) hP hD hS hA (fun r7 u7 H locs hp9 hP hD hS => ?_)
  replace hp9 : 0 = r7 := Eq.symm (hp9.trans hcod)
  subst hp9
  have hP : va_P D vwCl (([(o, .inl (dA 2, 1, .inr (.inl og)))] : va_W) ++ (VW dA h ad u8 ++ (MW dA mm mad M1))) H := hP
  have hD : va_D A (([(o, .inl (dA 2, 1, .inr (.inl og)))] : va_W) ++ (VW dA h ad u8 ++ (MW dA mm mad M1))) := hD
  refine lv_iload hx hb d_SeriesVaultLaw_law_1692 (lv_at hl 0 rfl) ?_
  refine lv_icmp_eq hx hb d_SeriesVaultLaw_law_1694 (tgt := 1699) rfl (fun _ => ?_) (fun h9 => absurd rfl h9)
  refine lv_goto hx hb d_SeriesVaultLaw_law_1699 (tgt := 1770) rfl ?_
  refine lv_iinc (k := 1) (v := nI (i + 6)) hx hb d_SeriesVaultLaw_law_1770 hl rfl (iincN (i) 6 6 (by decide)) (by decide) rfl (fun ls hl => ?_)
  have hl : lv_has ls 8 [(4, .int (nI (i + 6))), (5, .int 0), (3, .ref o), (2, .ref mm), (1, .ref h), (0, .ref b)] := hl
  refine lv_goto hx hb d_SeriesVaultLaw_law_1773 (tgt := 23) rfl ?_
  have hP := pmP (show List.Perm (α := Nat × va_E) (([(o, .inl (dA 2, 1, .inr (.inl og)))] : va_W) ++ (VW dA h ad u8 ++ (MW dA mm mad M1))) (MW dA mm mad M1 ++ (([(o, .inl (dA 2, 1, .inr (.inl og)))] : va_W) ++ (VW dA h ad u8))) from (List.Perm.append_left (([(o, .inl (dA 2, 1, .inr (.inl og)))] : va_W)) (List.perm_append_comm)).trans (List.perm_append_comm_assoc (([(o, .inl (dA 2, 1, .inr (.inl og)))] : va_W)) (MW dA mm mad M1) (VW dA h ad u8))) hP
  have hD := pmD (show List.Perm (α := Nat × va_E) (([(o, .inl (dA 2, 1, .inr (.inl og)))] : va_W) ++ (VW dA h ad u8 ++ (MW dA mm mad M1))) (MW dA mm mad M1 ++ (([(o, .inl (dA 2, 1, .inr (.inl og)))] : va_W) ++ (VW dA h ad u8))) from (List.Perm.append_left (([(o, .inl (dA 2, 1, .inr (.inl og)))] : va_W)) (List.perm_append_comm)).trans (List.perm_append_comm_assoc (([(o, .inl (dA 2, 1, .inr (.inl og)))] : va_W)) (MW dA mm mad M1) (VW dA h ad u8))) hD
  have hP : va_P D vwCl (MW dA mm mad M1 ++ (([(o, .inl (dA 2, 1, .inr (.inl og)))] : va_W) ++ (VW dA h ad u8))) H := hP
  have hD : va_D A (MW dA mm mad M1 ++ (([(o, .inl (dA 2, 1, .inr (.inl og)))] : va_W) ++ (VW dA h ad u8))) := hD
  have hl := lv_sub (l' := [(4, .int (nI (i + 6))), (3, .ref o), (2, .ref mm), (1, .ref h), (0, .ref b)]) hl [0, 2, 3, 4, 5] rfl
  exact cont u8 H locs ls hf9 hP hD hS hl
set_option maxHeartbeats 4000000 in
set_option maxRecDepth 100000 in
theorem l9_22_x {p : Program} {e : Env} {s : State} {m : MethodId} {below : List Frame} {meth : Method} {c : Code} (l : Launch) {b L : Nat} {xs : Nat → Int32} {D : va_G} {dA : Nat → ClassId} {e0 : Nat} {A : Nat → Prop} {H : Heap} {locs : List Loc} {ls : Array Slot} (hC : lS p l s m meth c b L xs D dA e0 A) {h : Nat} {ad : Nat → Nat} {x : VS} {mm : Nat} {mad : Nat → Nat} {M M1 : MS} {o : Nat} {og : Nat → Int64} {i fr1 lo1 fr2 lo2 mc9 ms9 cells slots : Nat} {F9 : VS → Prop} {k9 : Nat} (hi : i + 6 ≤ L) (hL : L ≤ 3072) (hfr : fr1 ≤ 2000 ∧ lo1 ≤ 80000 ∧ fr2 ≤ 2000 ∧ lo2 ≤ 80000) (hrm : cells + mc9 ≤ 601024 ∧ slots + ms9 ≤ 7293034) (hcod : M1.cod = nI k9) (hk9 : ¬ nI k9 = 0) (hW : ∀ sz : Nat, Met l ⟨"SeriesVaultLaw", "cut", "(LSeriesVault;I)I"⟩ [Cond.codeWith ⟨"SeriesVaultLaw", "cut", "(LSeriesVault;I)I"⟩ method_23_code 3 (some FieldType.int) [(0, 5, 8, 29), (0, 5, 11, 19)]] { frames := fr1, cells := mc9, slots := ms9, locals := lo1 } (pC D dA [.ref h, .int (xs (i + 1))] (VW dA h ad x) sz) (va_Qi (fun (r9 : Int32) (u9 : VS) => r9 = nI k9 ∧ F9 u9) (fun (u9 : VS) t9 => bW D (va_A (VW dA h ad x) sz) (VW dA h ad u9) t9) (va_A (VW dA h ad x) sz)) mc9 ms9 (va_A (VW dA h ad x) sz)) (hM : ∀ sz : Nat, Met l ⟨"SeriesVaultModel", "cut", "(I)V"⟩ [Cond.code ⟨"SeriesVaultModel", "cut", "(I)V"⟩ prog_14_method_51_code 2 none] { frames := fr2, cells := 0, slots := 0, locals := lo2 } (pC D dA [.ref mm, .int (xs (i + 1))] (MW dA mm mad M) sz) (va_Qv (fun (u9 : Unit) => True) (fun (u9 : Unit) t9 => bW D (va_A (MW dA mm mad M) sz) (MW dA mm mad M1) t9) (va_A (MW dA mm mad M) sz)) 0 0 (va_A (MW dA mm mad M) sz)) (hP : va_P D vwCl (MW dA mm mad M ++ (([(o, .inl (dA 2, 1, .inr (.inl og)))] : va_W) ++ (VW dA h ad x))) H) (hD : va_D A (MW dA mm mad M ++ (([(o, .inl (dA 2, 1, .inr (.inl og)))] : va_W) ++ (VW dA h ad x)))) (hS : va_S A s.heap H locs) (hl : lv_has ls 8 [(4, .int (nI i)), (3, .ref o), (2, .ref mm), (1, .ref h), (0, .ref b)]) (cont : ∀ (u : VS) (H1 : Heap) (locs1 : List Loc) (ls1 : Array Slot), F9 u → va_P D vwCl (MW dA mm mad M1 ++ (([(o, .inl (dA 2, 1, .inr (.inl og)))] : va_W) ++ (VW dA h ad u))) H1 → va_D A (MW dA mm mad M1 ++ (([(o, .inl (dA 2, 1, .inr (.inl og)))] : va_W) ++ (VW dA h ad u))) → va_S A s.heap H1 locs1 → lv_has ls1 8 [(4, .int (nI (i + 6))), (3, .ref o), (2, .ref mm), (1, .ref h), (0, .ref b)] → W p l e room_1 s m #[Value.ref b] below meth c H1 locs1 (cells + mc9 + 0 + 0) (slots + ms9 + 0 + 0) (lw_Z below #[Value.ref b] s) (F0 m 23 ls1 [])) : W p l e room_1 s m #[Value.ref b] below meth c H locs cells slots (lw_Z below #[Value.ref b] s) (F0 m 1666 ls []) := by
  have hC0 := hC
  obtain ⟨hx, hb, hr, hml, hown, hlk, hE, hK, hA, hN, hZ, hT, hX, hbl, hbA, hnew, htr⟩ := hC
  refine lv_aload_n hx hb d_SeriesVaultLaw_law_1666 rfl (lv_at hl 3 rfl) ?_
  refine lv_aload_n hx hb d_SeriesVaultLaw_law_1667 rfl (lv_at hl 4 rfl) ?_
  refine lv_iload hx hb d_SeriesVaultLaw_law_1668 (lv_at hl 0 rfl) ?_
  refine lv_iconst (v := 1) hx hb d_SeriesVaultLaw_law_1670 (by decide) ?_
  refine lv_iadd hx hb d_SeriesVaultLaw_law_1671 (tpi (y := nI (i + 1)) (nI_add (i) (1)) ?_)
  refine sldN hx hb hX hbl hbA hS (show i + 1 < L by omega) (show L ≤ 65536 by omega) d_SeriesVaultLaw_law_1672 ?_
  have hPc : va_P D vwCl (VW dA h ad x) H := spP (wr := MW dA mm mad M ++ (([(o, .inl (dA 2, 1, .inr (.inl og)))] : va_W))) hP
  have hDc : va_D A (VW dA h ad x) := spD (wr := MW dA mm mad M ++ (([(o, .inl (dA 2, 1, .inr (.inl og)))] : va_W))) hD
  refine jkI (wr := MW dA mm mad M ++ (([(o, .inl (dA 2, 1, .inr (.inl og)))] : va_W))) (rnW (As := [.ref h, .int (xs (i + 1))]) (rest := []) hx hb hml hown hE hK (hN _ _ hS) hPc hDc (hW H.size) w1955 w1954 w1956 w1793 rfl rfl ⟨⟨by decide, by decide⟩, rfl⟩ ⟨(show fr1 + 1 ≤ 2048 by omega), (show 8 + (3 + 11) + lo1 ≤ 84000 by omega)⟩ rfl hl.1 rfl (Nat.le_of_ble_eq_true rfl) d_SeriesVaultLaw_law_1673 ⟨(show cells + mc9 ≤ 601024 by omega), (show slots + ms9 ≤ 7293034 by omega)⟩) hP hD hS hA (fun k8 u8 H locs hp9 hP hD hS => ?_)
  obtain ⟨hp9, hf9⟩ := hp9
  replace hp9 : nI k9 = k8 := Eq.symm hp9
  subst hp9
  have hP : va_P D vwCl (MW dA mm mad M ++ (([(o, .inl (dA 2, 1, .inr (.inl og)))] : va_W) ++ (VW dA h ad u8))) H := hP
  have hD : va_D A (MW dA mm mad M ++ (([(o, .inl (dA 2, 1, .inr (.inl og)))] : va_W) ++ (VW dA h ad u8))) := hD
  refine lv_istore hx hb d_SeriesVaultLaw_law_1676 hl (by decide) rfl (fun ls hl => ?_)
  have hl : lv_has ls 8 [(5, .int (nI k9)), (4, .int (nI i)), (3, .ref o), (2, .ref mm), (1, .ref h), (0, .ref b)] := hl
  refine lv_aload_n hx hb d_SeriesVaultLaw_law_1678 rfl (lv_at hl 3 rfl) ?_
  refine lv_aload_n hx hb d_SeriesVaultLaw_law_1679 rfl (lv_at hl 5 rfl) ?_
  refine lv_iload hx hb d_SeriesVaultLaw_law_1680 (lv_at hl 1 rfl) ?_
  refine lv_iconst (v := 1) hx hb d_SeriesVaultLaw_law_1682 (by decide) ?_
  refine lv_iadd hx hb d_SeriesVaultLaw_law_1683 (tpi (y := nI (i + 1)) (nI_add (i) (1)) ?_)
  refine sldN hx hb hX hbl hbA hS (show i + 1 < L by omega) (show L ≤ 65536 by omega) d_SeriesVaultLaw_law_1684 ?_
  have hP := pmP (show List.Perm (α := Nat × va_E) (MW dA mm mad M ++ (([(o, .inl (dA 2, 1, .inr (.inl og)))] : va_W) ++ (VW dA h ad u8))) (([(o, .inl (dA 2, 1, .inr (.inl og)))] : va_W) ++ (MW dA mm mad M ++ (VW dA h ad u8))) from List.perm_append_comm_assoc (MW dA mm mad M) (([(o, .inl (dA 2, 1, .inr (.inl og)))] : va_W)) (VW dA h ad u8)) hP
  have hD := pmD (show List.Perm (α := Nat × va_E) (MW dA mm mad M ++ (([(o, .inl (dA 2, 1, .inr (.inl og)))] : va_W) ++ (VW dA h ad u8))) (([(o, .inl (dA 2, 1, .inr (.inl og)))] : va_W) ++ (MW dA mm mad M ++ (VW dA h ad u8))) from List.perm_append_comm_assoc (MW dA mm mad M) (([(o, .inl (dA 2, 1, .inr (.inl og)))] : va_W)) (VW dA h ad u8)) hD
  have hP := pmP (show List.Perm (α := Nat × va_E) (([(o, .inl (dA 2, 1, .inr (.inl og)))] : va_W) ++ (MW dA mm mad M ++ (VW dA h ad u8))) (([(o, .inl (dA 2, 1, .inr (.inl og)))] : va_W) ++ (VW dA h ad u8 ++ (MW dA mm mad M))) from List.Perm.append_left (([(o, .inl (dA 2, 1, .inr (.inl og)))] : va_W)) (List.perm_append_comm)) hP
  have hD := pmD (show List.Perm (α := Nat × va_E) (([(o, .inl (dA 2, 1, .inr (.inl og)))] : va_W) ++ (MW dA mm mad M ++ (VW dA h ad u8))) (([(o, .inl (dA 2, 1, .inr (.inl og)))] : va_W) ++ (VW dA h ad u8 ++ (MW dA mm mad M))) from List.Perm.append_left (([(o, .inl (dA 2, 1, .inr (.inl og)))] : va_W)) (List.perm_append_comm)) hD
  have hPc : va_P D vwCl (MW dA mm mad M) H := spP (wr := ([(o, .inl (dA 2, 1, .inr (.inl og)))] : va_W) ++ (VW dA h ad u8)) hP
  have hDc : va_D A (MW dA mm mad M) := spD (wr := ([(o, .inl (dA 2, 1, .inr (.inl og)))] : va_W) ++ (VW dA h ad u8)) hD
  refine jkV (wr := ([(o, .inl (dA 2, 1, .inr (.inl og)))] : va_W) ++ (VW dA h ad u8)) (rnV (As := [.int (xs (i + 1))]) (rest := []) hx hb hml hown hE hK (hN _ _ hS) hPc hDc (hM H.size) (q0 := 0) rfl rfl w1958 w1957 w1959 w1960 w328 rfl rfl ⟨⟨by decide, by decide⟩, rfl⟩ ⟨(show fr2 + 1 ≤ 2048 by omega), (show 8 + (2 + 11) + lo2 ≤ 84000 by omega)⟩ rfl hl.1 rfl (Nat.le_of_ble_eq_true rfl) d_SeriesVaultLaw_law_1685 ⟨(show cells + mc9 + 0 ≤ 601024 by omega), (show slots + ms9 + 0 ≤ 7293034 by omega)⟩) hP hD hS hA (fun u7 H locs hp9 hP hD hS => ?_)
  have hP : va_P D vwCl (([(o, .inl (dA 2, 1, .inr (.inl og)))] : va_W) ++ (VW dA h ad u8 ++ (MW dA mm mad M1))) H := hP
  have hD : va_D A (([(o, .inl (dA 2, 1, .inr (.inl og)))] : va_W) ++ (VW dA h ad u8 ++ (MW dA mm mad M1))) := hD
  refine lv_aload_n hx hb d_SeriesVaultLaw_law_1688 rfl (lv_at hl 3 rfl) ?_
  have hPc : va_P D vwCl (MW dA mm mad M1) H := spP (wr := ([(o, .inl (dA 2, 1, .inr (.inl og)))] : va_W) ++ (VW dA h ad u8)) hP
  have hDc : va_D A (MW dA mm mad M1) := spD (wr := ([(o, .inl (dA 2, 1, .inr (.inl og)))] : va_W) ++ (VW dA h ad u8)) hD
  refine jkI (wr := ([(o, .inl (dA 2, 1, .inr (.inl og)))] : va_W) ++ (VW dA h ad u8)) (rnV (As := []) (rest := []) hx hb hml hown hE hK (hN _ _ hS) hPc hDc (k_thrown l D dA H.size mm mad M1) (q0 := 0) rfl rfl w1801 w1800 w1802 w1803 w328 rfl rfl ⟨⟨by decide, by decide⟩, rfl⟩ ⟨(show 1 + 1 ≤ 2048 by omega), (show 8 + (1 + 11) + 0 ≤ 84000 by omega)⟩ rfl hl.1 rfl (Nat.le_of_ble_eq_true rfl) d_SeriesVaultLaw_law_1689 ⟨(show cells + mc9 + 0 ≤ 601024 by omega), (show slots + ms9 + 0 ≤ 7293034 by omega)⟩) hP hD hS hA (fun r7 u7 H locs hp9 hP hD hS => ?_)
  replace hp9 : nI k9 = r7 := Eq.symm (hp9.trans hcod)
  subst hp9
  have hP : va_P D vwCl (([(o, .inl (dA 2, 1, .inr (.inl og)))] : va_W) ++ (VW dA h ad u8 ++ (MW dA mm mad M1))) H := hP
  have hD : va_D A (([(o, .inl (dA 2, 1, .inr (.inl og)))] : va_W) ++ (VW dA h ad u8 ++ (MW dA mm mad M1))) := hD
  refine lv_iload hx hb d_SeriesVaultLaw_law_1692 (lv_at hl 0 rfl) ?_
  refine lv_icmp_eq hx hb d_SeriesVaultLaw_law_1694 (tgt := 1699) rfl (fun _ => ?_) (fun h9 => absurd rfl h9)
  refine lv_goto hx hb d_SeriesVaultLaw_law_1699 (tgt := 1770) rfl ?_
  refine lv_iinc (k := 1) (v := nI (i + 6)) hx hb d_SeriesVaultLaw_law_1770 hl rfl (iincN (i) 6 6 (by decide)) (by decide) rfl (fun ls hl => ?_)
  have hl : lv_has ls 8 [(4, .int (nI (i + 6))), (5, .int (nI k9)), (3, .ref o), (2, .ref mm), (1, .ref h), (0, .ref b)] := hl
  refine lv_goto hx hb d_SeriesVaultLaw_law_1773 (tgt := 23) rfl ?_
  have hP := pmP (show List.Perm (α := Nat × va_E) (([(o, .inl (dA 2, 1, .inr (.inl og)))] : va_W) ++ (VW dA h ad u8 ++ (MW dA mm mad M1))) (MW dA mm mad M1 ++ (([(o, .inl (dA 2, 1, .inr (.inl og)))] : va_W) ++ (VW dA h ad u8))) from (List.Perm.append_left (([(o, .inl (dA 2, 1, .inr (.inl og)))] : va_W)) (List.perm_append_comm)).trans (List.perm_append_comm_assoc (([(o, .inl (dA 2, 1, .inr (.inl og)))] : va_W)) (MW dA mm mad M1) (VW dA h ad u8))) hP
  have hD := pmD (show List.Perm (α := Nat × va_E) (([(o, .inl (dA 2, 1, .inr (.inl og)))] : va_W) ++ (VW dA h ad u8 ++ (MW dA mm mad M1))) (MW dA mm mad M1 ++ (([(o, .inl (dA 2, 1, .inr (.inl og)))] : va_W) ++ (VW dA h ad u8))) from (List.Perm.append_left (([(o, .inl (dA 2, 1, .inr (.inl og)))] : va_W)) (List.perm_append_comm)).trans (List.perm_append_comm_assoc (([(o, .inl (dA 2, 1, .inr (.inl og)))] : va_W)) (MW dA mm mad M1) (VW dA h ad u8))) hD
  have hP : va_P D vwCl (MW dA mm mad M1 ++ (([(o, .inl (dA 2, 1, .inr (.inl og)))] : va_W) ++ (VW dA h ad u8))) H := hP
  have hD : va_D A (MW dA mm mad M1 ++ (([(o, .inl (dA 2, 1, .inr (.inl og)))] : va_W) ++ (VW dA h ad u8))) := hD
  have hl := lv_sub (l' := [(4, .int (nI (i + 6))), (3, .ref o), (2, .ref mm), (1, .ref h), (0, .ref b)]) hl [0, 2, 3, 4, 5] rfl
  exact cont u8 H locs ls hf9 hP hD hS hl
theorem d_SeriesVaultLaw_law_1702 : decode code 1702 = .ok (.aload_n 1, 1) := by decide +kernel
theorem d_SeriesVaultLaw_law_1703 : decode code 1703 = .ok (.invokestatic 192, 3) := by decide +kernel
theorem d_SeriesVaultLaw_law_1706 : decode code 1706 = .ok (.istore 5, 2) := by decide +kernel
theorem d_SeriesVaultLaw_law_1708 : decode code 1708 = .ok (.aload_n 2, 1) := by decide +kernel
theorem d_SeriesVaultLaw_law_1709 : decode code 1709 = .ok (.invokevirtual 195, 3) := by decide +kernel
theorem d_SeriesVaultLaw_law_1712 : decode code 1712 = .ok (.aload_n 2, 1) := by decide +kernel
theorem d_SeriesVaultLaw_law_1713 : decode code 1713 = .ok (.invokevirtual 110, 3) := by decide +kernel
theorem d_SeriesVaultLaw_law_1716 : decode code 1716 = .ok (.iload 5, 2) := by decide +kernel
theorem d_SeriesVaultLaw_law_1718 : decode code 1718 = .ok (.if_icmp .eq 5, 3) := by decide +kernel
theorem d_SeriesVaultLaw_law_1723 : decode code 1723 = .ok (.goto 47, 3) := by decide +kernel
theorem w1961 : Cond.methodLink "SeriesVaultLaw" 192 ⟨"SeriesVaultLaw", "off", "(LSeriesVault;)I"⟩ ∈ aW := aw_of (tb_8 (List.mem_of_getElem? (i := 145) rfl)) rfl
theorem w1962 : Cond.codeWith ⟨"SeriesVaultLaw", "off", "(LSeriesVault;)I"⟩ method_24_code 2 (some FieldType.int) [(0, 4, 7, 29)] ∈ aW := aw_of (tb_8 (List.mem_of_getElem? (i := 147) rfl)) rfl
theorem w1963 : Cond.static ⟨"SeriesVaultLaw", "off", "(LSeriesVault;)I"⟩ ∈ aW := aw_of (tb_8 (List.mem_of_getElem? (i := 146) rfl)) rfl
theorem w1964 : Cond.methodLink "SeriesVaultLaw" 195 ⟨"SeriesVaultModel", "off", "()V"⟩ ∈ aW := aw_of (tb_10 (List.mem_of_getElem? (i := 141) rfl)) rfl
theorem w1965 : Cond.code ⟨"SeriesVaultModel", "off", "()V"⟩ prog_14_method_52_code 1 none ∈ aW := aw_of (tb_10 (List.mem_of_getElem? (i := 144) rfl)) rfl
theorem w1966 : Cond.instanceMethod ⟨"SeriesVaultModel", "off", "()V"⟩ ∈ aW := aw_of (tb_10 (List.mem_of_getElem? (i := 142) rfl)) rfl
theorem w1967 : Cond.selects "SeriesVaultModel" ⟨"SeriesVaultModel", "off", "()V"⟩ ⟨"SeriesVaultModel", "off", "()V"⟩ ∈ aW := aw_of (tb_10 (List.mem_of_getElem? (i := 143) rfl)) rfl
set_option maxHeartbeats 4000000 in
set_option maxRecDepth 100000 in
theorem l9_23 {p : Program} {e : Env} {s : State} {m : MethodId} {below : List Frame} {meth : Method} {c : Code} (l : Launch) {b L : Nat} {xs : Nat → Int32} {D : va_G} {dA : Nat → ClassId} {e0 : Nat} {A : Nat → Prop} {H : Heap} {locs : List Loc} {ls : Array Slot} (hC : lS p l s m meth c b L xs D dA e0 A) {h : Nat} {ad : Nat → Nat} {x : VS} {mm : Nat} {mad : Nat → Nat} {M M1 : MS} {o : Nat} {og : Nat → Int64} {i fr1 lo1 fr2 lo2 mc9 ms9 cells slots : Nat} {F9 : VS → Prop} (hi : i + 6 ≤ L) (hL : L ≤ 3072) (hfr : fr1 ≤ 2000 ∧ lo1 ≤ 80000 ∧ fr2 ≤ 2000 ∧ lo2 ≤ 80000) (hrm : cells + mc9 ≤ 601024 ∧ slots + ms9 ≤ 7293034) (hcod : M1.cod = 0) (hW : ∀ sz : Nat, Met l ⟨"SeriesVaultLaw", "off", "(LSeriesVault;)I"⟩ [Cond.codeWith ⟨"SeriesVaultLaw", "off", "(LSeriesVault;)I"⟩ method_24_code 2 (some FieldType.int) [(0, 4, 7, 29)]] { frames := fr1, cells := mc9, slots := ms9, locals := lo1 } (pC D dA [.ref h] (VW dA h ad x) sz) (va_Qi (fun (r9 : Int32) (u9 : VS) => r9 = 0 ∧ F9 u9) (fun (u9 : VS) t9 => bW D (va_A (VW dA h ad x) sz) (VW dA h ad u9) t9) (va_A (VW dA h ad x) sz)) mc9 ms9 (va_A (VW dA h ad x) sz)) (hM : ∀ sz : Nat, Met l ⟨"SeriesVaultModel", "off", "()V"⟩ [Cond.code ⟨"SeriesVaultModel", "off", "()V"⟩ prog_14_method_52_code 1 none] { frames := fr2, cells := 0, slots := 0, locals := lo2 } (pC D dA [.ref mm] (MW dA mm mad M) sz) (va_Qv (fun (u9 : Unit) => True) (fun (u9 : Unit) t9 => bW D (va_A (MW dA mm mad M) sz) (MW dA mm mad M1) t9) (va_A (MW dA mm mad M) sz)) 0 0 (va_A (MW dA mm mad M) sz)) (hP : va_P D vwCl (MW dA mm mad M ++ (([(o, .inl (dA 2, 1, .inr (.inl og)))] : va_W) ++ (VW dA h ad x))) H) (hD : va_D A (MW dA mm mad M ++ (([(o, .inl (dA 2, 1, .inr (.inl og)))] : va_W) ++ (VW dA h ad x)))) (hS : va_S A s.heap H locs) (hl : lv_has ls 8 [(4, .int (nI i)), (3, .ref o), (2, .ref mm), (1, .ref h), (0, .ref b)]) (cont : ∀ (u : VS) (H1 : Heap) (locs1 : List Loc) (ls1 : Array Slot), F9 u → va_P D vwCl (MW dA mm mad M1 ++ (([(o, .inl (dA 2, 1, .inr (.inl og)))] : va_W) ++ (VW dA h ad u))) H1 → va_D A (MW dA mm mad M1 ++ (([(o, .inl (dA 2, 1, .inr (.inl og)))] : va_W) ++ (VW dA h ad u))) → va_S A s.heap H1 locs1 → lv_has ls1 8 [(4, .int (nI (i + 6))), (3, .ref o), (2, .ref mm), (1, .ref h), (0, .ref b)] → W p l e room_1 s m #[Value.ref b] below meth c H1 locs1 (cells + mc9 + 0 + 0) (slots + ms9 + 0 + 0) (lw_Z below #[Value.ref b] s) (F0 m 23 ls1 [])) : W p l e room_1 s m #[Value.ref b] below meth c H locs cells slots (lw_Z below #[Value.ref b] s) (F0 m 1702 ls []) := by
  have hC0 := hC
  obtain ⟨hx, hb, hr, hml, hown, hlk, hE, hK, hA, hN, hZ, hT, hX, hbl, hbA, hnew, htr⟩ := hC
  refine lv_aload_n hx hb d_SeriesVaultLaw_law_1702 rfl (lv_at hl 3 rfl) ?_
  have hPc : va_P D vwCl (VW dA h ad x) H := spP (wr := MW dA mm mad M ++ (([(o, .inl (dA 2, 1, .inr (.inl og)))] : va_W))) hP
  have hDc : va_D A (VW dA h ad x) := spD (wr := MW dA mm mad M ++ (([(o, .inl (dA 2, 1, .inr (.inl og)))] : va_W))) hD
  refine jkI (wr := MW dA mm mad M ++ (([(o, .inl (dA 2, 1, .inr (.inl og)))] : va_W))) (rnW (As := [.ref h]) (rest := []) hx hb hml hown hE hK (hN _ _ hS) hPc hDc (hW H.size) w1962 w1961 w1963 w1793 rfl rfl ⟨⟨by decide, by decide⟩, rfl⟩ ⟨(show fr1 + 1 ≤ 2048 by omega), (show 8 + (2 + 11) + lo1 ≤ 84000 by omega)⟩ rfl hl.1 rfl (Nat.le_of_ble_eq_true rfl) d_SeriesVaultLaw_law_1703 ⟨(show cells + mc9 ≤ 601024 by omega), (show slots + ms9 ≤ 7293034 by omega)⟩) hP hD hS hA (fun k8 u8 H locs hp9 hP hD hS => ?_)
  obtain ⟨hp9, hf9⟩ := hp9
  replace hp9 : 0 = k8 := Eq.symm hp9
  subst hp9
  have hP : va_P D vwCl (MW dA mm mad M ++ (([(o, .inl (dA 2, 1, .inr (.inl og)))] : va_W) ++ (VW dA h ad u8))) H := hP
  have hD : va_D A (MW dA mm mad M ++ (([(o, .inl (dA 2, 1, .inr (.inl og)))] : va_W) ++ (VW dA h ad u8))) := hD
  refine lv_istore hx hb d_SeriesVaultLaw_law_1706 hl (by decide) rfl (fun ls hl => ?_)
  have hl : lv_has ls 8 [(5, .int 0), (4, .int (nI i)), (3, .ref o), (2, .ref mm), (1, .ref h), (0, .ref b)] := hl
  refine lv_aload_n hx hb d_SeriesVaultLaw_law_1708 rfl (lv_at hl 3 rfl) ?_
  have hP := pmP (show List.Perm (α := Nat × va_E) (MW dA mm mad M ++ (([(o, .inl (dA 2, 1, .inr (.inl og)))] : va_W) ++ (VW dA h ad u8))) (([(o, .inl (dA 2, 1, .inr (.inl og)))] : va_W) ++ (MW dA mm mad M ++ (VW dA h ad u8))) from List.perm_append_comm_assoc (MW dA mm mad M) (([(o, .inl (dA 2, 1, .inr (.inl og)))] : va_W)) (VW dA h ad u8)) hP
  have hD := pmD (show List.Perm (α := Nat × va_E) (MW dA mm mad M ++ (([(o, .inl (dA 2, 1, .inr (.inl og)))] : va_W) ++ (VW dA h ad u8))) (([(o, .inl (dA 2, 1, .inr (.inl og)))] : va_W) ++ (MW dA mm mad M ++ (VW dA h ad u8))) from List.perm_append_comm_assoc (MW dA mm mad M) (([(o, .inl (dA 2, 1, .inr (.inl og)))] : va_W)) (VW dA h ad u8)) hD
  have hP := pmP (show List.Perm (α := Nat × va_E) (([(o, .inl (dA 2, 1, .inr (.inl og)))] : va_W) ++ (MW dA mm mad M ++ (VW dA h ad u8))) (([(o, .inl (dA 2, 1, .inr (.inl og)))] : va_W) ++ (VW dA h ad u8 ++ (MW dA mm mad M))) from List.Perm.append_left (([(o, .inl (dA 2, 1, .inr (.inl og)))] : va_W)) (List.perm_append_comm)) hP
  have hD := pmD (show List.Perm (α := Nat × va_E) (([(o, .inl (dA 2, 1, .inr (.inl og)))] : va_W) ++ (MW dA mm mad M ++ (VW dA h ad u8))) (([(o, .inl (dA 2, 1, .inr (.inl og)))] : va_W) ++ (VW dA h ad u8 ++ (MW dA mm mad M))) from List.Perm.append_left (([(o, .inl (dA 2, 1, .inr (.inl og)))] : va_W)) (List.perm_append_comm)) hD
  have hPc : va_P D vwCl (MW dA mm mad M) H := spP (wr := ([(o, .inl (dA 2, 1, .inr (.inl og)))] : va_W) ++ (VW dA h ad u8)) hP
  have hDc : va_D A (MW dA mm mad M) := spD (wr := ([(o, .inl (dA 2, 1, .inr (.inl og)))] : va_W) ++ (VW dA h ad u8)) hD
  refine jkV (wr := ([(o, .inl (dA 2, 1, .inr (.inl og)))] : va_W) ++ (VW dA h ad u8)) (rnV (As := []) (rest := []) hx hb hml hown hE hK (hN _ _ hS) hPc hDc (hM H.size) (q0 := 0) rfl rfl w1965 w1964 w1966 w1967 w328 rfl rfl ⟨⟨by decide, by decide⟩, rfl⟩ ⟨(show fr2 + 1 ≤ 2048 by omega), (show 8 + (1 + 11) + lo2 ≤ 84000 by omega)⟩ rfl hl.1 rfl (Nat.le_of_ble_eq_true rfl) d_SeriesVaultLaw_law_1709 ⟨(show cells + mc9 + 0 ≤ 601024 by omega), (show slots + ms9 + 0 ≤ 7293034 by omega)⟩) hP hD hS hA (fun u7 H locs hp9 hP hD hS => ?_)
  have hP : va_P D vwCl (([(o, .inl (dA 2, 1, .inr (.inl og)))] : va_W) ++ (VW dA h ad u8 ++ (MW dA mm mad M1))) H := hP
  have hD : va_D A (([(o, .inl (dA 2, 1, .inr (.inl og)))] : va_W) ++ (VW dA h ad u8 ++ (MW dA mm mad M1))) := hD
  refine lv_aload_n hx hb d_SeriesVaultLaw_law_1712 rfl (lv_at hl 3 rfl) ?_
  have hPc : va_P D vwCl (MW dA mm mad M1) H := spP (wr := ([(o, .inl (dA 2, 1, .inr (.inl og)))] : va_W) ++ (VW dA h ad u8)) hP
  have hDc : va_D A (MW dA mm mad M1) := spD (wr := ([(o, .inl (dA 2, 1, .inr (.inl og)))] : va_W) ++ (VW dA h ad u8)) hD
  refine jkI (wr := ([(o, .inl (dA 2, 1, .inr (.inl og)))] : va_W) ++ (VW dA h ad u8)) (rnV (As := []) (rest := []) hx hb hml hown hE hK (hN _ _ hS) hPc hDc (k_thrown l D dA H.size mm mad M1) (q0 := 0) rfl rfl w1801 w1800 w1802 w1803 w328 rfl rfl ⟨⟨by decide, by decide⟩, rfl⟩ ⟨(show 1 + 1 ≤ 2048 by omega), (show 8 + (1 + 11) + 0 ≤ 84000 by omega)⟩ rfl hl.1 rfl (Nat.le_of_ble_eq_true rfl) d_SeriesVaultLaw_law_1713 ⟨(show cells + mc9 + 0 ≤ 601024 by omega), (show slots + ms9 + 0 ≤ 7293034 by omega)⟩) hP hD hS hA (fun r7 u7 H locs hp9 hP hD hS => ?_)
  replace hp9 : 0 = r7 := Eq.symm (hp9.trans hcod)
  subst hp9
  have hP : va_P D vwCl (([(o, .inl (dA 2, 1, .inr (.inl og)))] : va_W) ++ (VW dA h ad u8 ++ (MW dA mm mad M1))) H := hP
  have hD : va_D A (([(o, .inl (dA 2, 1, .inr (.inl og)))] : va_W) ++ (VW dA h ad u8 ++ (MW dA mm mad M1))) := hD
  refine lv_iload hx hb d_SeriesVaultLaw_law_1716 (lv_at hl 0 rfl) ?_
  refine lv_icmp_eq hx hb d_SeriesVaultLaw_law_1718 (tgt := 1723) rfl (fun _ => ?_) (fun h9 => absurd rfl h9)
  refine lv_goto hx hb d_SeriesVaultLaw_law_1723 (tgt := 1770) rfl ?_
  refine lv_iinc (k := 1) (v := nI (i + 6)) hx hb d_SeriesVaultLaw_law_1770 hl rfl (iincN (i) 6 6 (by decide)) (by decide) rfl (fun ls hl => ?_)
  have hl : lv_has ls 8 [(4, .int (nI (i + 6))), (5, .int 0), (3, .ref o), (2, .ref mm), (1, .ref h), (0, .ref b)] := hl
  refine lv_goto hx hb d_SeriesVaultLaw_law_1773 (tgt := 23) rfl ?_
  have hP := pmP (show List.Perm (α := Nat × va_E) (([(o, .inl (dA 2, 1, .inr (.inl og)))] : va_W) ++ (VW dA h ad u8 ++ (MW dA mm mad M1))) (MW dA mm mad M1 ++ (([(o, .inl (dA 2, 1, .inr (.inl og)))] : va_W) ++ (VW dA h ad u8))) from (List.Perm.append_left (([(o, .inl (dA 2, 1, .inr (.inl og)))] : va_W)) (List.perm_append_comm)).trans (List.perm_append_comm_assoc (([(o, .inl (dA 2, 1, .inr (.inl og)))] : va_W)) (MW dA mm mad M1) (VW dA h ad u8))) hP
  have hD := pmD (show List.Perm (α := Nat × va_E) (([(o, .inl (dA 2, 1, .inr (.inl og)))] : va_W) ++ (VW dA h ad u8 ++ (MW dA mm mad M1))) (MW dA mm mad M1 ++ (([(o, .inl (dA 2, 1, .inr (.inl og)))] : va_W) ++ (VW dA h ad u8))) from (List.Perm.append_left (([(o, .inl (dA 2, 1, .inr (.inl og)))] : va_W)) (List.perm_append_comm)).trans (List.perm_append_comm_assoc (([(o, .inl (dA 2, 1, .inr (.inl og)))] : va_W)) (MW dA mm mad M1) (VW dA h ad u8))) hD
  have hP : va_P D vwCl (MW dA mm mad M1 ++ (([(o, .inl (dA 2, 1, .inr (.inl og)))] : va_W) ++ (VW dA h ad u8))) H := hP
  have hD : va_D A (MW dA mm mad M1 ++ (([(o, .inl (dA 2, 1, .inr (.inl og)))] : va_W) ++ (VW dA h ad u8))) := hD
  have hl := lv_sub (l' := [(4, .int (nI (i + 6))), (3, .ref o), (2, .ref mm), (1, .ref h), (0, .ref b)]) hl [0, 2, 3, 4, 5] rfl
  exact cont u8 H locs ls hf9 hP hD hS hl
set_option maxHeartbeats 4000000 in
set_option maxRecDepth 100000 in
theorem l9_23_x {p : Program} {e : Env} {s : State} {m : MethodId} {below : List Frame} {meth : Method} {c : Code} (l : Launch) {b L : Nat} {xs : Nat → Int32} {D : va_G} {dA : Nat → ClassId} {e0 : Nat} {A : Nat → Prop} {H : Heap} {locs : List Loc} {ls : Array Slot} (hC : lS p l s m meth c b L xs D dA e0 A) {h : Nat} {ad : Nat → Nat} {x : VS} {mm : Nat} {mad : Nat → Nat} {M M1 : MS} {o : Nat} {og : Nat → Int64} {i fr1 lo1 fr2 lo2 mc9 ms9 cells slots : Nat} {F9 : VS → Prop} {k9 : Nat} (hi : i + 6 ≤ L) (hL : L ≤ 3072) (hfr : fr1 ≤ 2000 ∧ lo1 ≤ 80000 ∧ fr2 ≤ 2000 ∧ lo2 ≤ 80000) (hrm : cells + mc9 ≤ 601024 ∧ slots + ms9 ≤ 7293034) (hcod : M1.cod = nI k9) (hk9 : ¬ nI k9 = 0) (hW : ∀ sz : Nat, Met l ⟨"SeriesVaultLaw", "off", "(LSeriesVault;)I"⟩ [Cond.codeWith ⟨"SeriesVaultLaw", "off", "(LSeriesVault;)I"⟩ method_24_code 2 (some FieldType.int) [(0, 4, 7, 29)]] { frames := fr1, cells := mc9, slots := ms9, locals := lo1 } (pC D dA [.ref h] (VW dA h ad x) sz) (va_Qi (fun (r9 : Int32) (u9 : VS) => r9 = nI k9 ∧ F9 u9) (fun (u9 : VS) t9 => bW D (va_A (VW dA h ad x) sz) (VW dA h ad u9) t9) (va_A (VW dA h ad x) sz)) mc9 ms9 (va_A (VW dA h ad x) sz)) (hM : ∀ sz : Nat, Met l ⟨"SeriesVaultModel", "off", "()V"⟩ [Cond.code ⟨"SeriesVaultModel", "off", "()V"⟩ prog_14_method_52_code 1 none] { frames := fr2, cells := 0, slots := 0, locals := lo2 } (pC D dA [.ref mm] (MW dA mm mad M) sz) (va_Qv (fun (u9 : Unit) => True) (fun (u9 : Unit) t9 => bW D (va_A (MW dA mm mad M) sz) (MW dA mm mad M1) t9) (va_A (MW dA mm mad M) sz)) 0 0 (va_A (MW dA mm mad M) sz)) (hP : va_P D vwCl (MW dA mm mad M ++ (([(o, .inl (dA 2, 1, .inr (.inl og)))] : va_W) ++ (VW dA h ad x))) H) (hD : va_D A (MW dA mm mad M ++ (([(o, .inl (dA 2, 1, .inr (.inl og)))] : va_W) ++ (VW dA h ad x)))) (hS : va_S A s.heap H locs) (hl : lv_has ls 8 [(4, .int (nI i)), (3, .ref o), (2, .ref mm), (1, .ref h), (0, .ref b)]) (cont : ∀ (u : VS) (H1 : Heap) (locs1 : List Loc) (ls1 : Array Slot), F9 u → va_P D vwCl (MW dA mm mad M1 ++ (([(o, .inl (dA 2, 1, .inr (.inl og)))] : va_W) ++ (VW dA h ad u))) H1 → va_D A (MW dA mm mad M1 ++ (([(o, .inl (dA 2, 1, .inr (.inl og)))] : va_W) ++ (VW dA h ad u))) → va_S A s.heap H1 locs1 → lv_has ls1 8 [(4, .int (nI (i + 6))), (3, .ref o), (2, .ref mm), (1, .ref h), (0, .ref b)] → W p l e room_1 s m #[Value.ref b] below meth c H1 locs1 (cells + mc9 + 0 + 0) (slots + ms9 + 0 + 0) (lw_Z below #[Value.ref b] s) (F0 m 23 ls1 [])) : W p l e room_1 s m #[Value.ref b] below meth c H locs cells slots (lw_Z below #[Value.ref b] s) (F0 m 1702 ls []) := by
  have hC0 := hC
  obtain ⟨hx, hb, hr, hml, hown, hlk, hE, hK, hA, hN, hZ, hT, hX, hbl, hbA, hnew, htr⟩ := hC
  refine lv_aload_n hx hb d_SeriesVaultLaw_law_1702 rfl (lv_at hl 3 rfl) ?_
  have hPc : va_P D vwCl (VW dA h ad x) H := spP (wr := MW dA mm mad M ++ (([(o, .inl (dA 2, 1, .inr (.inl og)))] : va_W))) hP
  have hDc : va_D A (VW dA h ad x) := spD (wr := MW dA mm mad M ++ (([(o, .inl (dA 2, 1, .inr (.inl og)))] : va_W))) hD
  refine jkI (wr := MW dA mm mad M ++ (([(o, .inl (dA 2, 1, .inr (.inl og)))] : va_W))) (rnW (As := [.ref h]) (rest := []) hx hb hml hown hE hK (hN _ _ hS) hPc hDc (hW H.size) w1962 w1961 w1963 w1793 rfl rfl ⟨⟨by decide, by decide⟩, rfl⟩ ⟨(show fr1 + 1 ≤ 2048 by omega), (show 8 + (2 + 11) + lo1 ≤ 84000 by omega)⟩ rfl hl.1 rfl (Nat.le_of_ble_eq_true rfl) d_SeriesVaultLaw_law_1703 ⟨(show cells + mc9 ≤ 601024 by omega), (show slots + ms9 ≤ 7293034 by omega)⟩) hP hD hS hA (fun k8 u8 H locs hp9 hP hD hS => ?_)
  obtain ⟨hp9, hf9⟩ := hp9
  replace hp9 : nI k9 = k8 := Eq.symm hp9
  subst hp9
  have hP : va_P D vwCl (MW dA mm mad M ++ (([(o, .inl (dA 2, 1, .inr (.inl og)))] : va_W) ++ (VW dA h ad u8))) H := hP
  have hD : va_D A (MW dA mm mad M ++ (([(o, .inl (dA 2, 1, .inr (.inl og)))] : va_W) ++ (VW dA h ad u8))) := hD
  refine lv_istore hx hb d_SeriesVaultLaw_law_1706 hl (by decide) rfl (fun ls hl => ?_)
  have hl : lv_has ls 8 [(5, .int (nI k9)), (4, .int (nI i)), (3, .ref o), (2, .ref mm), (1, .ref h), (0, .ref b)] := hl
  refine lv_aload_n hx hb d_SeriesVaultLaw_law_1708 rfl (lv_at hl 3 rfl) ?_
  have hP := pmP (show List.Perm (α := Nat × va_E) (MW dA mm mad M ++ (([(o, .inl (dA 2, 1, .inr (.inl og)))] : va_W) ++ (VW dA h ad u8))) (([(o, .inl (dA 2, 1, .inr (.inl og)))] : va_W) ++ (MW dA mm mad M ++ (VW dA h ad u8))) from List.perm_append_comm_assoc (MW dA mm mad M) (([(o, .inl (dA 2, 1, .inr (.inl og)))] : va_W)) (VW dA h ad u8)) hP
  have hD := pmD (show List.Perm (α := Nat × va_E) (MW dA mm mad M ++ (([(o, .inl (dA 2, 1, .inr (.inl og)))] : va_W) ++ (VW dA h ad u8))) (([(o, .inl (dA 2, 1, .inr (.inl og)))] : va_W) ++ (MW dA mm mad M ++ (VW dA h ad u8))) from List.perm_append_comm_assoc (MW dA mm mad M) (([(o, .inl (dA 2, 1, .inr (.inl og)))] : va_W)) (VW dA h ad u8)) hD
  have hP := pmP (show List.Perm (α := Nat × va_E) (([(o, .inl (dA 2, 1, .inr (.inl og)))] : va_W) ++ (MW dA mm mad M ++ (VW dA h ad u8))) (([(o, .inl (dA 2, 1, .inr (.inl og)))] : va_W) ++ (VW dA h ad u8 ++ (MW dA mm mad M))) from List.Perm.append_left (([(o, .inl (dA 2, 1, .inr (.inl og)))] : va_W)) (List.perm_append_comm)) hP
  have hD := pmD (show List.Perm (α := Nat × va_E) (([(o, .inl (dA 2, 1, .inr (.inl og)))] : va_W) ++ (MW dA mm mad M ++ (VW dA h ad u8))) (([(o, .inl (dA 2, 1, .inr (.inl og)))] : va_W) ++ (VW dA h ad u8 ++ (MW dA mm mad M))) from List.Perm.append_left (([(o, .inl (dA 2, 1, .inr (.inl og)))] : va_W)) (List.perm_append_comm)) hD
  have hPc : va_P D vwCl (MW dA mm mad M) H := spP (wr := ([(o, .inl (dA 2, 1, .inr (.inl og)))] : va_W) ++ (VW dA h ad u8)) hP
  have hDc : va_D A (MW dA mm mad M) := spD (wr := ([(o, .inl (dA 2, 1, .inr (.inl og)))] : va_W) ++ (VW dA h ad u8)) hD
  refine jkV (wr := ([(o, .inl (dA 2, 1, .inr (.inl og)))] : va_W) ++ (VW dA h ad u8)) (rnV (As := []) (rest := []) hx hb hml hown hE hK (hN _ _ hS) hPc hDc (hM H.size) (q0 := 0) rfl rfl w1965 w1964 w1966 w1967 w328 rfl rfl ⟨⟨by decide, by decide⟩, rfl⟩ ⟨(show fr2 + 1 ≤ 2048 by omega), (show 8 + (1 + 11) + lo2 ≤ 84000 by omega)⟩ rfl hl.1 rfl (Nat.le_of_ble_eq_true rfl) d_SeriesVaultLaw_law_1709 ⟨(show cells + mc9 + 0 ≤ 601024 by omega), (show slots + ms9 + 0 ≤ 7293034 by omega)⟩) hP hD hS hA (fun u7 H locs hp9 hP hD hS => ?_)
  have hP : va_P D vwCl (([(o, .inl (dA 2, 1, .inr (.inl og)))] : va_W) ++ (VW dA h ad u8 ++ (MW dA mm mad M1))) H := hP
  have hD : va_D A (([(o, .inl (dA 2, 1, .inr (.inl og)))] : va_W) ++ (VW dA h ad u8 ++ (MW dA mm mad M1))) := hD
  refine lv_aload_n hx hb d_SeriesVaultLaw_law_1712 rfl (lv_at hl 3 rfl) ?_
  have hPc : va_P D vwCl (MW dA mm mad M1) H := spP (wr := ([(o, .inl (dA 2, 1, .inr (.inl og)))] : va_W) ++ (VW dA h ad u8)) hP
  have hDc : va_D A (MW dA mm mad M1) := spD (wr := ([(o, .inl (dA 2, 1, .inr (.inl og)))] : va_W) ++ (VW dA h ad u8)) hD
  refine jkI (wr := ([(o, .inl (dA 2, 1, .inr (.inl og)))] : va_W) ++ (VW dA h ad u8)) (rnV (As := []) (rest := []) hx hb hml hown hE hK (hN _ _ hS) hPc hDc (k_thrown l D dA H.size mm mad M1) (q0 := 0) rfl rfl w1801 w1800 w1802 w1803 w328 rfl rfl ⟨⟨by decide, by decide⟩, rfl⟩ ⟨(show 1 + 1 ≤ 2048 by omega), (show 8 + (1 + 11) + 0 ≤ 84000 by omega)⟩ rfl hl.1 rfl (Nat.le_of_ble_eq_true rfl) d_SeriesVaultLaw_law_1713 ⟨(show cells + mc9 + 0 ≤ 601024 by omega), (show slots + ms9 + 0 ≤ 7293034 by omega)⟩) hP hD hS hA (fun r7 u7 H locs hp9 hP hD hS => ?_)
  replace hp9 : nI k9 = r7 := Eq.symm (hp9.trans hcod)
  subst hp9
  have hP : va_P D vwCl (([(o, .inl (dA 2, 1, .inr (.inl og)))] : va_W) ++ (VW dA h ad u8 ++ (MW dA mm mad M1))) H := hP
  have hD : va_D A (([(o, .inl (dA 2, 1, .inr (.inl og)))] : va_W) ++ (VW dA h ad u8 ++ (MW dA mm mad M1))) := hD
  refine lv_iload hx hb d_SeriesVaultLaw_law_1716 (lv_at hl 0 rfl) ?_
  refine lv_icmp_eq hx hb d_SeriesVaultLaw_law_1718 (tgt := 1723) rfl (fun _ => ?_) (fun h9 => absurd rfl h9)
  refine lv_goto hx hb d_SeriesVaultLaw_law_1723 (tgt := 1770) rfl ?_
  refine lv_iinc (k := 1) (v := nI (i + 6)) hx hb d_SeriesVaultLaw_law_1770 hl rfl (iincN (i) 6 6 (by decide)) (by decide) rfl (fun ls hl => ?_)
  have hl : lv_has ls 8 [(4, .int (nI (i + 6))), (5, .int (nI k9)), (3, .ref o), (2, .ref mm), (1, .ref h), (0, .ref b)] := hl
  refine lv_goto hx hb d_SeriesVaultLaw_law_1773 (tgt := 23) rfl ?_
  have hP := pmP (show List.Perm (α := Nat × va_E) (([(o, .inl (dA 2, 1, .inr (.inl og)))] : va_W) ++ (VW dA h ad u8 ++ (MW dA mm mad M1))) (MW dA mm mad M1 ++ (([(o, .inl (dA 2, 1, .inr (.inl og)))] : va_W) ++ (VW dA h ad u8))) from (List.Perm.append_left (([(o, .inl (dA 2, 1, .inr (.inl og)))] : va_W)) (List.perm_append_comm)).trans (List.perm_append_comm_assoc (([(o, .inl (dA 2, 1, .inr (.inl og)))] : va_W)) (MW dA mm mad M1) (VW dA h ad u8))) hP
  have hD := pmD (show List.Perm (α := Nat × va_E) (([(o, .inl (dA 2, 1, .inr (.inl og)))] : va_W) ++ (VW dA h ad u8 ++ (MW dA mm mad M1))) (MW dA mm mad M1 ++ (([(o, .inl (dA 2, 1, .inr (.inl og)))] : va_W) ++ (VW dA h ad u8))) from (List.Perm.append_left (([(o, .inl (dA 2, 1, .inr (.inl og)))] : va_W)) (List.perm_append_comm)).trans (List.perm_append_comm_assoc (([(o, .inl (dA 2, 1, .inr (.inl og)))] : va_W)) (MW dA mm mad M1) (VW dA h ad u8))) hD
  have hP : va_P D vwCl (MW dA mm mad M1 ++ (([(o, .inl (dA 2, 1, .inr (.inl og)))] : va_W) ++ (VW dA h ad u8))) H := hP
  have hD : va_D A (MW dA mm mad M1 ++ (([(o, .inl (dA 2, 1, .inr (.inl og)))] : va_W) ++ (VW dA h ad u8))) := hD
  have hl := lv_sub (l' := [(4, .int (nI (i + 6))), (3, .ref o), (2, .ref mm), (1, .ref h), (0, .ref b)]) hl [0, 2, 3, 4, 5] rfl
  exact cont u8 H locs ls hf9 hP hD hS hl
theorem d_SeriesVaultLaw_law_1726 : decode code 1726 = .ok (.aload_n 1, 1) := by decide +kernel
theorem d_SeriesVaultLaw_law_1727 : decode code 1727 = .ok (.aload_n 3, 1) := by decide +kernel
theorem d_SeriesVaultLaw_law_1728 : decode code 1728 = .ok (.invokestatic 196, 3) := by decide +kernel
theorem d_SeriesVaultLaw_law_1731 : decode code 1731 = .ok (.istore 5, 2) := by decide +kernel
theorem d_SeriesVaultLaw_law_1733 : decode code 1733 = .ok (.aload_n 2, 1) := by decide +kernel
theorem d_SeriesVaultLaw_law_1734 : decode code 1734 = .ok (.invokevirtual 198, 3) := by decide +kernel
theorem d_SeriesVaultLaw_law_1737 : decode code 1737 = .ok (.istore 6, 2) := by decide +kernel
theorem d_SeriesVaultLaw_law_1739 : decode code 1739 = .ok (.aload_n 2, 1) := by decide +kernel
theorem d_SeriesVaultLaw_law_1740 : decode code 1740 = .ok (.invokevirtual 110, 3) := by decide +kernel
theorem d_SeriesVaultLaw_law_1743 : decode code 1743 = .ok (.iload 5, 2) := by decide +kernel
theorem d_SeriesVaultLaw_law_1745 : decode code 1745 = .ok (.if_icmp .eq 5, 3) := by decide +kernel
theorem d_SeriesVaultLaw_law_1750 : decode code 1750 = .ok (.iload 5, 2) := by decide +kernel
theorem d_SeriesVaultLaw_law_1752 : decode code 1752 = .ok (.ifCond .ne 15, 3) := by decide +kernel
theorem d_SeriesVaultLaw_law_1755 : decode code 1755 = .ok (.aload_n 3, 1) := by decide +kernel
theorem d_SeriesVaultLaw_law_1756 : decode code 1756 = .ok (.iconst 0, 1) := by decide +kernel
theorem d_SeriesVaultLaw_law_1757 : decode code 1757 = .ok (.laload, 1) := by decide +kernel
theorem d_SeriesVaultLaw_law_1758 : decode code 1758 = .ok (.iload 6, 2) := by decide +kernel
theorem d_SeriesVaultLaw_law_1760 : decode code 1760 = .ok (.i2l, 1) := by decide +kernel
theorem d_SeriesVaultLaw_law_1761 : decode code 1761 = .ok (.lcmp, 1) := by decide +kernel
theorem d_SeriesVaultLaw_law_1762 : decode code 1762 = .ok (.ifCond .eq 5, 3) := by decide +kernel
theorem d_SeriesVaultLaw_law_1767 : decode code 1767 = .ok (.goto 3, 3) := by decide +kernel
theorem w1968 : Cond.methodLink "SeriesVaultLaw" 196 ⟨"SeriesVaultLaw", "start", "(LSeriesVault;[J)I"⟩ ∈ aW := aw_of (tb_8 (List.mem_of_getElem? (i := 152) rfl)) rfl
theorem w1969 : Cond.codeWith ⟨"SeriesVaultLaw", "start", "(LSeriesVault;[J)I"⟩ method_25_code 3 (some FieldType.int) [(0, 8, 11, 29)] ∈ aW := aw_of (tb_8 (List.mem_of_getElem? (i := 154) rfl)) rfl
theorem w1970 : Cond.static ⟨"SeriesVaultLaw", "start", "(LSeriesVault;[J)I"⟩ ∈ aW := aw_of (tb_8 (List.mem_of_getElem? (i := 153) rfl)) rfl
theorem w1971 : Cond.methodLink "SeriesVaultLaw" 198 ⟨"SeriesVaultModel", "start", "()I"⟩ ∈ aW := aw_of (tb_10 (List.mem_of_getElem? (i := 145) rfl)) rfl
theorem w1972 : Cond.code ⟨"SeriesVaultModel", "start", "()I"⟩ prog_14_method_53_code 2 (some FieldType.int) ∈ aW := aw_of (tb_10 (List.mem_of_getElem? (i := 148) rfl)) rfl
theorem w1973 : Cond.instanceMethod ⟨"SeriesVaultModel", "start", "()I"⟩ ∈ aW := aw_of (tb_10 (List.mem_of_getElem? (i := 146) rfl)) rfl
theorem w1974 : Cond.selects "SeriesVaultModel" ⟨"SeriesVaultModel", "start", "()I"⟩ ⟨"SeriesVaultModel", "start", "()I"⟩ ∈ aW := aw_of (tb_10 (List.mem_of_getElem? (i := 147) rfl)) rfl
set_option maxHeartbeats 4000000 in
set_option maxRecDepth 100000 in
theorem l9_24 {p : Program} {e : Env} {s : State} {m : MethodId} {below : List Frame} {meth : Method} {c : Code} (l : Launch) {b L : Nat} {xs : Nat → Int32} {D : va_G} {dA : Nat → ClassId} {e0 : Nat} {A : Nat → Prop} {H : Heap} {locs : List Loc} {ls : Array Slot} (hC : lS p l s m meth c b L xs D dA e0 A) {h : Nat} {ad : Nat → Nat} {x : VS} {mm : Nat} {mad : Nat → Nat} {M M1 : MS} {o : Nat} {og : Nat → Int64} {i fr1 lo1 fr2 lo2 mc9 ms9 cells slots : Nat} {F9 : VS → Prop} {b9 : Int32} {v9 : Int64} (hi : i + 6 ≤ L) (hL : L ≤ 3072) (hfr : fr1 ≤ 2000 ∧ lo1 ≤ 80000 ∧ fr2 ≤ 2000 ∧ lo2 ≤ 80000) (hrm : cells + mc9 ≤ 601024 ∧ slots + ms9 ≤ 7293034) (hcod : M1.cod = 0) (hv : v9 = b9.toInt64) (hW : ∀ sz : Nat, Met l ⟨"SeriesVaultLaw", "start", "(LSeriesVault;[J)I"⟩ [Cond.codeWith ⟨"SeriesVaultLaw", "start", "(LSeriesVault;[J)I"⟩ method_25_code 3 (some FieldType.int) [(0, 8, 11, 29)]] { frames := fr1, cells := mc9, slots := ms9, locals := lo1 } (pC D dA [.ref h, .ref o] (([(o, .inl (dA 2, 1, .inr (.inl og)))] : va_W) ++ (VW dA h ad x)) sz) (va_Qi (fun (r9 : Int32) (u9 : VS) => r9 = 0 ∧ F9 u9) (fun (u9 : VS) t9 => bW D (va_A (([(o, .inl (dA 2, 1, .inr (.inl og)))] : va_W) ++ (VW dA h ad x)) sz) (([(o, .inl (dA 2, 1, .inr (.inl (va_up og 0 v9))))] : va_W) ++ (VW dA h ad u9)) t9) (va_A (([(o, .inl (dA 2, 1, .inr (.inl og)))] : va_W) ++ (VW dA h ad x)) sz)) mc9 ms9 (va_A (([(o, .inl (dA 2, 1, .inr (.inl og)))] : va_W) ++ (VW dA h ad x)) sz)) (hM : ∀ sz : Nat, Met l ⟨"SeriesVaultModel", "start", "()I"⟩ [Cond.code ⟨"SeriesVaultModel", "start", "()I"⟩ prog_14_method_53_code 2 (some FieldType.int)] { frames := fr2, cells := 0, slots := 0, locals := lo2 } (pC D dA [.ref mm] (MW dA mm mad M) sz) (va_Qi (fun (r9 : Int32) (u9 : Unit) => r9 = b9) (fun (u9 : Unit) t9 => bW D (va_A (MW dA mm mad M) sz) (MW dA mm mad M1) t9) (va_A (MW dA mm mad M) sz)) 0 0 (va_A (MW dA mm mad M) sz)) (hP : va_P D vwCl (MW dA mm mad M ++ (([(o, .inl (dA 2, 1, .inr (.inl og)))] : va_W) ++ (VW dA h ad x))) H) (hD : va_D A (MW dA mm mad M ++ (([(o, .inl (dA 2, 1, .inr (.inl og)))] : va_W) ++ (VW dA h ad x)))) (hS : va_S A s.heap H locs) (hl : lv_has ls 8 [(4, .int (nI i)), (3, .ref o), (2, .ref mm), (1, .ref h), (0, .ref b)]) (cont : ∀ (u : VS) (H1 : Heap) (locs1 : List Loc) (ls1 : Array Slot), F9 u → va_P D vwCl (MW dA mm mad M1 ++ (([(o, .inl (dA 2, 1, .inr (.inl (va_up og 0 v9))))] : va_W) ++ (VW dA h ad u))) H1 → va_D A (MW dA mm mad M1 ++ (([(o, .inl (dA 2, 1, .inr (.inl (va_up og 0 v9))))] : va_W) ++ (VW dA h ad u))) → va_S A s.heap H1 locs1 → lv_has ls1 8 [(4, .int (nI (i + 6))), (3, .ref o), (2, .ref mm), (1, .ref h), (0, .ref b)] → W p l e room_1 s m #[Value.ref b] below meth c H1 locs1 (cells + mc9 + 0 + 0) (slots + ms9 + 0 + 0) (lw_Z below #[Value.ref b] s) (F0 m 23 ls1 [])) : W p l e room_1 s m #[Value.ref b] below meth c H locs cells slots (lw_Z below #[Value.ref b] s) (F0 m 1726 ls []) := by
  have hC0 := hC
  obtain ⟨hx, hb, hr, hml, hown, hlk, hE, hK, hA, hN, hZ, hT, hX, hbl, hbA, hnew, htr⟩ := hC
  refine lv_aload_n hx hb d_SeriesVaultLaw_law_1726 rfl (lv_at hl 3 rfl) ?_
  refine lv_aload_n hx hb d_SeriesVaultLaw_law_1727 rfl (lv_at hl 1 rfl) ?_
  have hPc : va_P D vwCl (([(o, .inl (dA 2, 1, .inr (.inl og)))] : va_W) ++ (VW dA h ad x)) H := spP (wr := MW dA mm mad M) hP
  have hDc : va_D A (([(o, .inl (dA 2, 1, .inr (.inl og)))] : va_W) ++ (VW dA h ad x)) := spD (wr := MW dA mm mad M) hD
  refine jkI (wr := MW dA mm mad M) (rnW (As := [.ref h, .ref o]) (rest := []) hx hb hml hown hE hK (hN _ _ hS) hPc hDc (hW H.size) w1969 w1968 w1970 w1793 rfl rfl ⟨⟨by decide, by decide⟩, rfl⟩ ⟨(show fr1 + 1 ≤ 2048 by omega), (show 8 + (3 + 11) + lo1 ≤ 84000 by omega)⟩ rfl hl.1 rfl (Nat.le_of_ble_eq_true rfl) d_SeriesVaultLaw_law_1728 ⟨(show cells + mc9 ≤ 601024 by omega), (show slots + ms9 ≤ 7293034 by omega)⟩) hP hD hS hA (fun k8 u8 H locs hp9 hP hD hS => ?_)
  obtain ⟨hp9, hf9⟩ := hp9
  replace hp9 : 0 = k8 := Eq.symm hp9
  subst hp9
  have hP : va_P D vwCl (MW dA mm mad M ++ (([(o, .inl (dA 2, 1, .inr (.inl (va_up og 0 v9))))] : va_W) ++ (VW dA h ad u8))) H := hP
  have hD : va_D A (MW dA mm mad M ++ (([(o, .inl (dA 2, 1, .inr (.inl (va_up og 0 v9))))] : va_W) ++ (VW dA h ad u8))) := hD
  refine lv_istore hx hb d_SeriesVaultLaw_law_1731 hl (by decide) rfl (fun ls hl => ?_)
  have hl : lv_has ls 8 [(5, .int 0), (4, .int (nI i)), (3, .ref o), (2, .ref mm), (1, .ref h), (0, .ref b)] := hl
  refine lv_aload_n hx hb d_SeriesVaultLaw_law_1733 rfl (lv_at hl 3 rfl) ?_
  have hP := pmP (show List.Perm (α := Nat × va_E) (MW dA mm mad M ++ (([(o, .inl (dA 2, 1, .inr (.inl (va_up og 0 v9))))] : va_W) ++ (VW dA h ad u8))) (([(o, .inl (dA 2, 1, .inr (.inl (va_up og 0 v9))))] : va_W) ++ (MW dA mm mad M ++ (VW dA h ad u8))) from List.perm_append_comm_assoc (MW dA mm mad M) (([(o, .inl (dA 2, 1, .inr (.inl (va_up og 0 v9))))] : va_W)) (VW dA h ad u8)) hP
  have hD := pmD (show List.Perm (α := Nat × va_E) (MW dA mm mad M ++ (([(o, .inl (dA 2, 1, .inr (.inl (va_up og 0 v9))))] : va_W) ++ (VW dA h ad u8))) (([(o, .inl (dA 2, 1, .inr (.inl (va_up og 0 v9))))] : va_W) ++ (MW dA mm mad M ++ (VW dA h ad u8))) from List.perm_append_comm_assoc (MW dA mm mad M) (([(o, .inl (dA 2, 1, .inr (.inl (va_up og 0 v9))))] : va_W)) (VW dA h ad u8)) hD
  have hP := pmP (show List.Perm (α := Nat × va_E) (([(o, .inl (dA 2, 1, .inr (.inl (va_up og 0 v9))))] : va_W) ++ (MW dA mm mad M ++ (VW dA h ad u8))) (([(o, .inl (dA 2, 1, .inr (.inl (va_up og 0 v9))))] : va_W) ++ (VW dA h ad u8 ++ (MW dA mm mad M))) from List.Perm.append_left (([(o, .inl (dA 2, 1, .inr (.inl (va_up og 0 v9))))] : va_W)) (List.perm_append_comm)) hP
  have hD := pmD (show List.Perm (α := Nat × va_E) (([(o, .inl (dA 2, 1, .inr (.inl (va_up og 0 v9))))] : va_W) ++ (MW dA mm mad M ++ (VW dA h ad u8))) (([(o, .inl (dA 2, 1, .inr (.inl (va_up og 0 v9))))] : va_W) ++ (VW dA h ad u8 ++ (MW dA mm mad M))) from List.Perm.append_left (([(o, .inl (dA 2, 1, .inr (.inl (va_up og 0 v9))))] : va_W)) (List.perm_append_comm)) hD
  have hPc : va_P D vwCl (MW dA mm mad M) H := spP (wr := ([(o, .inl (dA 2, 1, .inr (.inl (va_up og 0 v9))))] : va_W) ++ (VW dA h ad u8)) hP
  have hDc : va_D A (MW dA mm mad M) := spD (wr := ([(o, .inl (dA 2, 1, .inr (.inl (va_up og 0 v9))))] : va_W) ++ (VW dA h ad u8)) hD
  refine jkI (wr := ([(o, .inl (dA 2, 1, .inr (.inl (va_up og 0 v9))))] : va_W) ++ (VW dA h ad u8)) (rnV (As := []) (rest := []) hx hb hml hown hE hK (hN _ _ hS) hPc hDc (hM H.size) (q0 := 0) rfl rfl w1972 w1971 w1973 w1974 w328 rfl rfl ⟨⟨by decide, by decide⟩, rfl⟩ ⟨(show fr2 + 1 ≤ 2048 by omega), (show 8 + (2 + 11) + lo2 ≤ 84000 by omega)⟩ rfl hl.1 rfl (Nat.le_of_ble_eq_true rfl) d_SeriesVaultLaw_law_1734 ⟨(show cells + mc9 + 0 ≤ 601024 by omega), (show slots + ms9 + 0 ≤ 7293034 by omega)⟩) hP hD hS hA (fun r7 u7 H locs hp9 hP hD hS => ?_)
  replace hp9 : b9 = r7 := Eq.symm hp9
  subst hp9
  have hP : va_P D vwCl (([(o, .inl (dA 2, 1, .inr (.inl (va_up og 0 v9))))] : va_W) ++ (VW dA h ad u8 ++ (MW dA mm mad M1))) H := hP
  have hD : va_D A (([(o, .inl (dA 2, 1, .inr (.inl (va_up og 0 v9))))] : va_W) ++ (VW dA h ad u8 ++ (MW dA mm mad M1))) := hD
  refine lv_istore hx hb d_SeriesVaultLaw_law_1737 hl (by decide) rfl (fun ls hl => ?_)
  have hl : lv_has ls 8 [(6, .int b9), (5, .int 0), (4, .int (nI i)), (3, .ref o), (2, .ref mm), (1, .ref h), (0, .ref b)] := hl
  refine lv_aload_n hx hb d_SeriesVaultLaw_law_1739 rfl (lv_at hl 4 rfl) ?_
  have hPc : va_P D vwCl (MW dA mm mad M1) H := spP (wr := ([(o, .inl (dA 2, 1, .inr (.inl (va_up og 0 v9))))] : va_W) ++ (VW dA h ad u8)) hP
  have hDc : va_D A (MW dA mm mad M1) := spD (wr := ([(o, .inl (dA 2, 1, .inr (.inl (va_up og 0 v9))))] : va_W) ++ (VW dA h ad u8)) hD
  refine jkI (wr := ([(o, .inl (dA 2, 1, .inr (.inl (va_up og 0 v9))))] : va_W) ++ (VW dA h ad u8)) (rnV (As := []) (rest := []) hx hb hml hown hE hK (hN _ _ hS) hPc hDc (k_thrown l D dA H.size mm mad M1) (q0 := 0) rfl rfl w1801 w1800 w1802 w1803 w328 rfl rfl ⟨⟨by decide, by decide⟩, rfl⟩ ⟨(show 1 + 1 ≤ 2048 by omega), (show 8 + (1 + 11) + 0 ≤ 84000 by omega)⟩ rfl hl.1 rfl (Nat.le_of_ble_eq_true rfl) d_SeriesVaultLaw_law_1740 ⟨(show cells + mc9 + 0 ≤ 601024 by omega), (show slots + ms9 + 0 ≤ 7293034 by omega)⟩) hP hD hS hA (fun r7 u7 H locs hp9 hP hD hS => ?_)
  replace hp9 : 0 = r7 := Eq.symm (hp9.trans hcod)
  subst hp9
  have hP : va_P D vwCl (([(o, .inl (dA 2, 1, .inr (.inl (va_up og 0 v9))))] : va_W) ++ (VW dA h ad u8 ++ (MW dA mm mad M1))) H := hP
  have hD : va_D A (([(o, .inl (dA 2, 1, .inr (.inl (va_up og 0 v9))))] : va_W) ++ (VW dA h ad u8 ++ (MW dA mm mad M1))) := hD
  refine lv_iload hx hb d_SeriesVaultLaw_law_1743 (lv_at hl 1 rfl) ?_
  refine lv_icmp_eq hx hb d_SeriesVaultLaw_law_1745 (tgt := 1750) rfl (fun _ => ?_) (fun h9 => absurd rfl h9)
  refine lv_iload hx hb d_SeriesVaultLaw_law_1750 (lv_at hl 1 rfl) ?_
  refine lv_if_ne hx hb d_SeriesVaultLaw_law_1752 (tgt := 1767) rfl (fun h9 => absurd (by decide) h9) (fun _ => ?_)
  refine lv_aload_n hx hb d_SeriesVaultLaw_law_1755 rfl (lv_at hl 3 rfl) ?_
  refine lv_iconst (v := 0) hx hb d_SeriesVaultLaw_law_1756 (by decide) ?_
  refine nlld (f := (va_up og 0 v9)) (n := 1) hx hb hK hP (0) 2 rfl rfl (0) (by decide) (by decide) d_SeriesVaultLaw_law_1757 ?_
  refine tpl (y := v9) (va_up_self _ _ _) ?_
  refine lv_iload hx hb d_SeriesVaultLaw_law_1758 (lv_at hl 0 rfl) ?_
  refine lv_i2l hx hb d_SeriesVaultLaw_law_1760 rfl ?_
  refine W.lcmp hx hb d_SeriesVaultLaw_law_1761 ?_
  refine lv_if_eq hx hb d_SeriesVaultLaw_law_1762 (tgt := 1767) rfl (fun _ => ?_) (fun h9 => absurd ((lg_cmp_eq _ _).mpr hv) h9)
  refine lv_goto hx hb d_SeriesVaultLaw_law_1767 (tgt := 1770) rfl ?_
  refine lv_iinc (k := 2) (v := nI (i + 6)) hx hb d_SeriesVaultLaw_law_1770 hl rfl (iincN (i) 6 6 (by decide)) (by decide) rfl (fun ls hl => ?_)
  have hl : lv_has ls 8 [(4, .int (nI (i + 6))), (6, .int b9), (5, .int 0), (3, .ref o), (2, .ref mm), (1, .ref h), (0, .ref b)] := hl
  refine lv_goto hx hb d_SeriesVaultLaw_law_1773 (tgt := 23) rfl ?_
  have hP := pmP (show List.Perm (α := Nat × va_E) (([(o, .inl (dA 2, 1, .inr (.inl (va_up og 0 v9))))] : va_W) ++ (VW dA h ad u8 ++ (MW dA mm mad M1))) (MW dA mm mad M1 ++ (([(o, .inl (dA 2, 1, .inr (.inl (va_up og 0 v9))))] : va_W) ++ (VW dA h ad u8))) from (List.Perm.append_left (([(o, .inl (dA 2, 1, .inr (.inl (va_up og 0 v9))))] : va_W)) (List.perm_append_comm)).trans (List.perm_append_comm_assoc (([(o, .inl (dA 2, 1, .inr (.inl (va_up og 0 v9))))] : va_W)) (MW dA mm mad M1) (VW dA h ad u8))) hP
  have hD := pmD (show List.Perm (α := Nat × va_E) (([(o, .inl (dA 2, 1, .inr (.inl (va_up og 0 v9))))] : va_W) ++ (VW dA h ad u8 ++ (MW dA mm mad M1))) (MW dA mm mad M1 ++ (([(o, .inl (dA 2, 1, .inr (.inl (va_up og 0 v9))))] : va_W) ++ (VW dA h ad u8))) from (List.Perm.append_left (([(o, .inl (dA 2, 1, .inr (.inl (va_up og 0 v9))))] : va_W)) (List.perm_append_comm)).trans (List.perm_append_comm_assoc (([(o, .inl (dA 2, 1, .inr (.inl (va_up og 0 v9))))] : va_W)) (MW dA mm mad M1) (VW dA h ad u8))) hD
  have hP : va_P D vwCl (MW dA mm mad M1 ++ (([(o, .inl (dA 2, 1, .inr (.inl (va_up og 0 v9))))] : va_W) ++ (VW dA h ad u8))) H := hP
  have hD : va_D A (MW dA mm mad M1 ++ (([(o, .inl (dA 2, 1, .inr (.inl (va_up og 0 v9))))] : va_W) ++ (VW dA h ad u8))) := hD
  have hl := lv_sub (l' := [(4, .int (nI (i + 6))), (3, .ref o), (2, .ref mm), (1, .ref h), (0, .ref b)]) hl [0, 3, 4, 5, 6] rfl
  exact cont u8 H locs ls hf9 hP hD hS hl
set_option maxHeartbeats 4000000 in
set_option maxRecDepth 100000 in
theorem l9_24_x {p : Program} {e : Env} {s : State} {m : MethodId} {below : List Frame} {meth : Method} {c : Code} (l : Launch) {b L : Nat} {xs : Nat → Int32} {D : va_G} {dA : Nat → ClassId} {e0 : Nat} {A : Nat → Prop} {H : Heap} {locs : List Loc} {ls : Array Slot} (hC : lS p l s m meth c b L xs D dA e0 A) {h : Nat} {ad : Nat → Nat} {x : VS} {mm : Nat} {mad : Nat → Nat} {M M1 : MS} {o : Nat} {og : Nat → Int64} {i fr1 lo1 fr2 lo2 mc9 ms9 cells slots : Nat} {F9 : VS → Prop} {b9 : Int32} {k9 : Nat} (hi : i + 6 ≤ L) (hL : L ≤ 3072) (hfr : fr1 ≤ 2000 ∧ lo1 ≤ 80000 ∧ fr2 ≤ 2000 ∧ lo2 ≤ 80000) (hrm : cells + mc9 ≤ 601024 ∧ slots + ms9 ≤ 7293034) (hcod : M1.cod = nI k9) (hk9 : ¬ nI k9 = 0) (hW : ∀ sz : Nat, Met l ⟨"SeriesVaultLaw", "start", "(LSeriesVault;[J)I"⟩ [Cond.codeWith ⟨"SeriesVaultLaw", "start", "(LSeriesVault;[J)I"⟩ method_25_code 3 (some FieldType.int) [(0, 8, 11, 29)]] { frames := fr1, cells := mc9, slots := ms9, locals := lo1 } (pC D dA [.ref h, .ref o] (([(o, .inl (dA 2, 1, .inr (.inl og)))] : va_W) ++ (VW dA h ad x)) sz) (va_Qi (fun (r9 : Int32) (u9 : VS) => r9 = nI k9 ∧ F9 u9) (fun (u9 : VS) t9 => bW D (va_A (([(o, .inl (dA 2, 1, .inr (.inl og)))] : va_W) ++ (VW dA h ad x)) sz) (([(o, .inl (dA 2, 1, .inr (.inl (og))))] : va_W) ++ (VW dA h ad u9)) t9) (va_A (([(o, .inl (dA 2, 1, .inr (.inl og)))] : va_W) ++ (VW dA h ad x)) sz)) mc9 ms9 (va_A (([(o, .inl (dA 2, 1, .inr (.inl og)))] : va_W) ++ (VW dA h ad x)) sz)) (hM : ∀ sz : Nat, Met l ⟨"SeriesVaultModel", "start", "()I"⟩ [Cond.code ⟨"SeriesVaultModel", "start", "()I"⟩ prog_14_method_53_code 2 (some FieldType.int)] { frames := fr2, cells := 0, slots := 0, locals := lo2 } (pC D dA [.ref mm] (MW dA mm mad M) sz) (va_Qi (fun (r9 : Int32) (u9 : Unit) => r9 = b9) (fun (u9 : Unit) t9 => bW D (va_A (MW dA mm mad M) sz) (MW dA mm mad M1) t9) (va_A (MW dA mm mad M) sz)) 0 0 (va_A (MW dA mm mad M) sz)) (hP : va_P D vwCl (MW dA mm mad M ++ (([(o, .inl (dA 2, 1, .inr (.inl og)))] : va_W) ++ (VW dA h ad x))) H) (hD : va_D A (MW dA mm mad M ++ (([(o, .inl (dA 2, 1, .inr (.inl og)))] : va_W) ++ (VW dA h ad x)))) (hS : va_S A s.heap H locs) (hl : lv_has ls 8 [(4, .int (nI i)), (3, .ref o), (2, .ref mm), (1, .ref h), (0, .ref b)]) (cont : ∀ (u : VS) (H1 : Heap) (locs1 : List Loc) (ls1 : Array Slot), F9 u → va_P D vwCl (MW dA mm mad M1 ++ (([(o, .inl (dA 2, 1, .inr (.inl og)))] : va_W) ++ (VW dA h ad u))) H1 → va_D A (MW dA mm mad M1 ++ (([(o, .inl (dA 2, 1, .inr (.inl og)))] : va_W) ++ (VW dA h ad u))) → va_S A s.heap H1 locs1 → lv_has ls1 8 [(4, .int (nI (i + 6))), (3, .ref o), (2, .ref mm), (1, .ref h), (0, .ref b)] → W p l e room_1 s m #[Value.ref b] below meth c H1 locs1 (cells + mc9 + 0 + 0) (slots + ms9 + 0 + 0) (lw_Z below #[Value.ref b] s) (F0 m 23 ls1 [])) : W p l e room_1 s m #[Value.ref b] below meth c H locs cells slots (lw_Z below #[Value.ref b] s) (F0 m 1726 ls []) := by
  have hC0 := hC
  obtain ⟨hx, hb, hr, hml, hown, hlk, hE, hK, hA, hN, hZ, hT, hX, hbl, hbA, hnew, htr⟩ := hC
  refine lv_aload_n hx hb d_SeriesVaultLaw_law_1726 rfl (lv_at hl 3 rfl) ?_
  refine lv_aload_n hx hb d_SeriesVaultLaw_law_1727 rfl (lv_at hl 1 rfl) ?_
  have hPc : va_P D vwCl (([(o, .inl (dA 2, 1, .inr (.inl og)))] : va_W) ++ (VW dA h ad x)) H := spP (wr := MW dA mm mad M) hP
  have hDc : va_D A (([(o, .inl (dA 2, 1, .inr (.inl og)))] : va_W) ++ (VW dA h ad x)) := spD (wr := MW dA mm mad M) hD
  refine jkI (wr := MW dA mm mad M) (rnW (As := [.ref h, .ref o]) (rest := []) hx hb hml hown hE hK (hN _ _ hS) hPc hDc (hW H.size) w1969 w1968 w1970 w1793 rfl rfl ⟨⟨by decide, by decide⟩, rfl⟩ ⟨(show fr1 + 1 ≤ 2048 by omega), (show 8 + (3 + 11) + lo1 ≤ 84000 by omega)⟩ rfl hl.1 rfl (Nat.le_of_ble_eq_true rfl) d_SeriesVaultLaw_law_1728 ⟨(show cells + mc9 ≤ 601024 by omega), (show slots + ms9 ≤ 7293034 by omega)⟩) hP hD hS hA (fun k8 u8 H locs hp9 hP hD hS => ?_)
  obtain ⟨hp9, hf9⟩ := hp9
  replace hp9 : nI k9 = k8 := Eq.symm hp9
  subst hp9
  have hP : va_P D vwCl (MW dA mm mad M ++ (([(o, .inl (dA 2, 1, .inr (.inl og)))] : va_W) ++ (VW dA h ad u8))) H := hP
  have hD : va_D A (MW dA mm mad M ++ (([(o, .inl (dA 2, 1, .inr (.inl og)))] : va_W) ++ (VW dA h ad u8))) := hD
  refine lv_istore hx hb d_SeriesVaultLaw_law_1731 hl (by decide) rfl (fun ls hl => ?_)
  have hl : lv_has ls 8 [(5, .int (nI k9)), (4, .int (nI i)), (3, .ref o), (2, .ref mm), (1, .ref h), (0, .ref b)] := hl
  refine lv_aload_n hx hb d_SeriesVaultLaw_law_1733 rfl (lv_at hl 3 rfl) ?_
  have hP := pmP (show List.Perm (α := Nat × va_E) (MW dA mm mad M ++ (([(o, .inl (dA 2, 1, .inr (.inl og)))] : va_W) ++ (VW dA h ad u8))) (([(o, .inl (dA 2, 1, .inr (.inl og)))] : va_W) ++ (MW dA mm mad M ++ (VW dA h ad u8))) from List.perm_append_comm_assoc (MW dA mm mad M) (([(o, .inl (dA 2, 1, .inr (.inl og)))] : va_W)) (VW dA h ad u8)) hP
  have hD := pmD (show List.Perm (α := Nat × va_E) (MW dA mm mad M ++ (([(o, .inl (dA 2, 1, .inr (.inl og)))] : va_W) ++ (VW dA h ad u8))) (([(o, .inl (dA 2, 1, .inr (.inl og)))] : va_W) ++ (MW dA mm mad M ++ (VW dA h ad u8))) from List.perm_append_comm_assoc (MW dA mm mad M) (([(o, .inl (dA 2, 1, .inr (.inl og)))] : va_W)) (VW dA h ad u8)) hD
  have hP := pmP (show List.Perm (α := Nat × va_E) (([(o, .inl (dA 2, 1, .inr (.inl og)))] : va_W) ++ (MW dA mm mad M ++ (VW dA h ad u8))) (([(o, .inl (dA 2, 1, .inr (.inl og)))] : va_W) ++ (VW dA h ad u8 ++ (MW dA mm mad M))) from List.Perm.append_left (([(o, .inl (dA 2, 1, .inr (.inl og)))] : va_W)) (List.perm_append_comm)) hP
  have hD := pmD (show List.Perm (α := Nat × va_E) (([(o, .inl (dA 2, 1, .inr (.inl og)))] : va_W) ++ (MW dA mm mad M ++ (VW dA h ad u8))) (([(o, .inl (dA 2, 1, .inr (.inl og)))] : va_W) ++ (VW dA h ad u8 ++ (MW dA mm mad M))) from List.Perm.append_left (([(o, .inl (dA 2, 1, .inr (.inl og)))] : va_W)) (List.perm_append_comm)) hD
  have hPc : va_P D vwCl (MW dA mm mad M) H := spP (wr := ([(o, .inl (dA 2, 1, .inr (.inl og)))] : va_W) ++ (VW dA h ad u8)) hP
  have hDc : va_D A (MW dA mm mad M) := spD (wr := ([(o, .inl (dA 2, 1, .inr (.inl og)))] : va_W) ++ (VW dA h ad u8)) hD
  refine jkI (wr := ([(o, .inl (dA 2, 1, .inr (.inl og)))] : va_W) ++ (VW dA h ad u8)) (rnV (As := []) (rest := []) hx hb hml hown hE hK (hN _ _ hS) hPc hDc (hM H.size) (q0 := 0) rfl rfl w1972 w1971 w1973 w1974 w328 rfl rfl ⟨⟨by decide, by decide⟩, rfl⟩ ⟨(show fr2 + 1 ≤ 2048 by omega), (show 8 + (2 + 11) + lo2 ≤ 84000 by omega)⟩ rfl hl.1 rfl (Nat.le_of_ble_eq_true rfl) d_SeriesVaultLaw_law_1734 ⟨(show cells + mc9 + 0 ≤ 601024 by omega), (show slots + ms9 + 0 ≤ 7293034 by omega)⟩) hP hD hS hA (fun r7 u7 H locs hp9 hP hD hS => ?_)
  replace hp9 : b9 = r7 := Eq.symm hp9
  subst hp9
  have hP : va_P D vwCl (([(o, .inl (dA 2, 1, .inr (.inl og)))] : va_W) ++ (VW dA h ad u8 ++ (MW dA mm mad M1))) H := hP
  have hD : va_D A (([(o, .inl (dA 2, 1, .inr (.inl og)))] : va_W) ++ (VW dA h ad u8 ++ (MW dA mm mad M1))) := hD
  refine lv_istore hx hb d_SeriesVaultLaw_law_1737 hl (by decide) rfl (fun ls hl => ?_)
  have hl : lv_has ls 8 [(6, .int b9), (5, .int (nI k9)), (4, .int (nI i)), (3, .ref o), (2, .ref mm), (1, .ref h), (0, .ref b)] := hl
  refine lv_aload_n hx hb d_SeriesVaultLaw_law_1739 rfl (lv_at hl 4 rfl) ?_
  have hPc : va_P D vwCl (MW dA mm mad M1) H := spP (wr := ([(o, .inl (dA 2, 1, .inr (.inl og)))] : va_W) ++ (VW dA h ad u8)) hP
  have hDc : va_D A (MW dA mm mad M1) := spD (wr := ([(o, .inl (dA 2, 1, .inr (.inl og)))] : va_W) ++ (VW dA h ad u8)) hD
  refine jkI (wr := ([(o, .inl (dA 2, 1, .inr (.inl og)))] : va_W) ++ (VW dA h ad u8)) (rnV (As := []) (rest := []) hx hb hml hown hE hK (hN _ _ hS) hPc hDc (k_thrown l D dA H.size mm mad M1) (q0 := 0) rfl rfl w1801 w1800 w1802 w1803 w328 rfl rfl ⟨⟨by decide, by decide⟩, rfl⟩ ⟨(show 1 + 1 ≤ 2048 by omega), (show 8 + (1 + 11) + 0 ≤ 84000 by omega)⟩ rfl hl.1 rfl (Nat.le_of_ble_eq_true rfl) d_SeriesVaultLaw_law_1740 ⟨(show cells + mc9 + 0 ≤ 601024 by omega), (show slots + ms9 + 0 ≤ 7293034 by omega)⟩) hP hD hS hA (fun r7 u7 H locs hp9 hP hD hS => ?_)
  replace hp9 : nI k9 = r7 := Eq.symm (hp9.trans hcod)
  subst hp9
  have hP : va_P D vwCl (([(o, .inl (dA 2, 1, .inr (.inl og)))] : va_W) ++ (VW dA h ad u8 ++ (MW dA mm mad M1))) H := hP
  have hD : va_D A (([(o, .inl (dA 2, 1, .inr (.inl og)))] : va_W) ++ (VW dA h ad u8 ++ (MW dA mm mad M1))) := hD
  refine lv_iload hx hb d_SeriesVaultLaw_law_1743 (lv_at hl 1 rfl) ?_
  refine lv_icmp_eq hx hb d_SeriesVaultLaw_law_1745 (tgt := 1750) rfl (fun _ => ?_) (fun h9 => absurd rfl h9)
  refine lv_iload hx hb d_SeriesVaultLaw_law_1750 (lv_at hl 1 rfl) ?_
  refine lv_if_ne hx hb d_SeriesVaultLaw_law_1752 (tgt := 1767) rfl (fun _ => ?_) (fun h9 => absurd h9 hk9)
  refine lv_goto hx hb d_SeriesVaultLaw_law_1767 (tgt := 1770) rfl ?_
  refine lv_iinc (k := 2) (v := nI (i + 6)) hx hb d_SeriesVaultLaw_law_1770 hl rfl (iincN (i) 6 6 (by decide)) (by decide) rfl (fun ls hl => ?_)
  have hl : lv_has ls 8 [(4, .int (nI (i + 6))), (6, .int b9), (5, .int (nI k9)), (3, .ref o), (2, .ref mm), (1, .ref h), (0, .ref b)] := hl
  refine lv_goto hx hb d_SeriesVaultLaw_law_1773 (tgt := 23) rfl ?_
  have hP := pmP (show List.Perm (α := Nat × va_E) (([(o, .inl (dA 2, 1, .inr (.inl og)))] : va_W) ++ (VW dA h ad u8 ++ (MW dA mm mad M1))) (MW dA mm mad M1 ++ (([(o, .inl (dA 2, 1, .inr (.inl og)))] : va_W) ++ (VW dA h ad u8))) from (List.Perm.append_left (([(o, .inl (dA 2, 1, .inr (.inl og)))] : va_W)) (List.perm_append_comm)).trans (List.perm_append_comm_assoc (([(o, .inl (dA 2, 1, .inr (.inl og)))] : va_W)) (MW dA mm mad M1) (VW dA h ad u8))) hP
  have hD := pmD (show List.Perm (α := Nat × va_E) (([(o, .inl (dA 2, 1, .inr (.inl og)))] : va_W) ++ (VW dA h ad u8 ++ (MW dA mm mad M1))) (MW dA mm mad M1 ++ (([(o, .inl (dA 2, 1, .inr (.inl og)))] : va_W) ++ (VW dA h ad u8))) from (List.Perm.append_left (([(o, .inl (dA 2, 1, .inr (.inl og)))] : va_W)) (List.perm_append_comm)).trans (List.perm_append_comm_assoc (([(o, .inl (dA 2, 1, .inr (.inl og)))] : va_W)) (MW dA mm mad M1) (VW dA h ad u8))) hD
  have hP : va_P D vwCl (MW dA mm mad M1 ++ (([(o, .inl (dA 2, 1, .inr (.inl og)))] : va_W) ++ (VW dA h ad u8))) H := hP
  have hD : va_D A (MW dA mm mad M1 ++ (([(o, .inl (dA 2, 1, .inr (.inl og)))] : va_W) ++ (VW dA h ad u8))) := hD
  have hl := lv_sub (l' := [(4, .int (nI (i + 6))), (3, .ref o), (2, .ref mm), (1, .ref h), (0, .ref b)]) hl [0, 3, 4, 5, 6] rfl
  exact cont u8 H locs ls hf9 hP hD hS hl
end
section
/-! The law's turns counted. -/
theorem n32_le {a b : Nat} (ha : a ≤ 65536) (hb : b ≤ 65536) : nI b - 6 < nI a ↔ b < a + 6 := by
  have e1 : (nI a).toInt = a := nI_toInt (by omega)
  have e2 : (nI b).toInt = b := nI_toInt (by omega)
  rw [Int32.lt_iff_toInt_lt, Int32.toInt_sub, e1, e2, show (6 : Int32).toInt = 6 by decide, Int.bmod_eq_of_le (by omega) (by omega)]
  omega
theorem d_SeriesVaultLaw_law_23 : decode code 23 = .ok (.iload 4, 2) := by decide +kernel
theorem d_SeriesVaultLaw_law_25 : decode code 25 = .ok (.aload_n 0, 1) := by decide +kernel
theorem d_SeriesVaultLaw_law_26 : decode code 26 = .ok (.arraylength, 1) := by decide +kernel
theorem d_SeriesVaultLaw_law_27 : decode code 27 = .ok (.bipush 6, 2) := by decide +kernel
theorem d_SeriesVaultLaw_law_29 : decode code 29 = .ok (.isub, 1) := by decide +kernel
theorem d_SeriesVaultLaw_law_30 : decode code 30 = .ok (.if_icmp .gt 1746, 3) := by decide +kernel
theorem d_SeriesVaultLaw_law_33 : decode code 33 = .ok (.aload_n 0, 1) := by decide +kernel
theorem d_SeriesVaultLaw_law_34 : decode code 34 = .ok (.iload 4, 2) := by decide +kernel
theorem d_SeriesVaultLaw_law_36 : decode code 36 = .ok (.iaload, 1) := by decide +kernel
theorem d_SeriesVaultLaw_law_37 : decode code 37 = .ok (.bipush 31, 2) := by decide +kernel
theorem d_SeriesVaultLaw_law_39 : decode code 39 = .ok (.iand, 1) := by decide +kernel
theorem l9_head {p : Program} {e : Env} {s : State} {m : MethodId} {below : List Frame} {meth : Method} {c : Code} (l : Launch) {b L : Nat} {xs : Nat → Int32} {D : va_G} {dA : Nat → ClassId} {e0 : Nat} {A : Nat → Prop} {H : Heap} {locs : List Loc} {ls : Array Slot} (hC : lS p l s m meth c b L xs D dA e0 A) {h mm o i cells slots : Nat} (hi : i + 6 ≤ L) (hL : L ≤ 3072) (hS : va_S A s.heap H locs) (hl : lv_has ls 8 [(4, .int (nI i)), (3, .ref o), (2, .ref mm), (1, .ref h), (0, .ref b)]) (cont : W p l e room_1 s m #[Value.ref b] below meth c H locs cells slots (lw_Z below #[Value.ref b] s) (F0 m 40 ls [.int (xs i &&& 31)])) : W p l e room_1 s m #[Value.ref b] below meth c H locs cells slots (lw_Z below #[Value.ref b] s) (F0 m 23 ls []) := by
  have hC0 := hC
  obtain ⟨hx, hb, hr, hml, hown, hlk, hE, hK, hA, hN, hZ, hT, hX, hbl, hbA, hnew, htr⟩ := hC
  refine lv_iload hx hb d_SeriesVaultLaw_law_23 (lv_at hl 0 rfl) ?_
  refine lv_aload_n hx hb d_SeriesVaultLaw_law_25 rfl (lv_at hl 4 rfl) ?_
  refine va_slen hx hb hX hbl hbA hS d_SeriesVaultLaw_law_26 ?_
  refine lv_bipush (v := 6) hx hb d_SeriesVaultLaw_law_27 (by decide) ?_
  refine lv_isub hx hb d_SeriesVaultLaw_law_29 ?_
  refine lv_icmp_gt hx hb d_SeriesVaultLaw_law_30 (tgt := 1776) rfl (fun h9 => absurd h9 (mt (n32_le (by omega) (by omega)).mp (by omega))) (fun _ => ?_)
  refine lv_aload_n hx hb d_SeriesVaultLaw_law_33 rfl (lv_at hl 4 rfl) ?_
  refine lv_iload hx hb d_SeriesVaultLaw_law_34 (lv_at hl 0 rfl) ?_
  refine sldN hx hb hX hbl hbA hS (show i < L by omega) (show L ≤ 65536 by omega) d_SeriesVaultLaw_law_36 ?_
  refine lv_bipush (v := 31) hx hb d_SeriesVaultLaw_law_37 (by decide) ?_
  refine lv_iand hx hb d_SeriesVaultLaw_law_39 ?_
  exact cont
theorem d_SeriesVaultLaw_law_1776 : decode code 1776 = .ok (.iconst 1, 1) := by decide +kernel
theorem d_SeriesVaultLaw_law_1777 : decode code 1777 = .ok (.ireturn, 1) := by decide +kernel
theorem l9_end {p : Program} {e : Env} {s : State} {m : MethodId} {below : List Frame} {meth : Method} {c : Code} (l : Launch) {b L : Nat} {xs : Nat → Int32} {D : va_G} {dA : Nat → ClassId} {e0 : Nat} {A : Nat → Prop} {H : Heap} {locs : List Loc} {ls : Array Slot} (hC : lS p l s m meth c b L xs D dA e0 A) {h mm o i cells slots : Nat} (hi : L < i + 6) (hi2 : i ≤ 3072) (hL : L ≤ 3072) (hc : cells ≤ 601024) (hs : slots ≤ 7293034) (hS : va_S A s.heap H locs) (hl : lv_has ls 8 [(4, .int (nI i)), (3, .ref o), (2, .ref mm), (1, .ref h), (0, .ref b)]) : W p l e room_1 s m #[Value.ref b] below meth c H locs cells slots (lw_Z below #[Value.ref b] s) (F0 m 23 ls []) := by
  have hC0 := hC
  obtain ⟨hx, hb, hr, hml, hown, hlk, hE, hK, hA, hN, hZ, hT, hX, hbl, hbA, hnew, htr⟩ := hC
  refine lv_iload hx hb d_SeriesVaultLaw_law_23 (lv_at hl 0 rfl) ?_
  refine lv_aload_n hx hb d_SeriesVaultLaw_law_25 rfl (lv_at hl 4 rfl) ?_
  refine va_slen hx hb hX hbl hbA hS d_SeriesVaultLaw_law_26 ?_
  refine lv_bipush (v := 6) hx hb d_SeriesVaultLaw_law_27 (by decide) ?_
  refine lv_isub hx hb d_SeriesVaultLaw_law_29 ?_
  refine lv_icmp_gt hx hb d_SeriesVaultLaw_law_30 (tgt := 1776) rfl (fun _ => ?_) (fun h9 => absurd ((n32_le (by omega) (by omega)).mpr (by omega)) h9)
  exact lv_iconst (v := 1) hx hb d_SeriesVaultLaw_law_1776 (by decide) (lw_fin hC0 hS hc hs d_SeriesVaultLaw_law_1777)
theorem l9_d {p : Program} {e : Env} {s : State} {m : MethodId} {below : List Frame} {meth : Method} {c : Code} (l : Launch) {b L : Nat} {xs : Nat → Int32} {D : va_G} {dA : Nat → ClassId} {e0 : Nat} {A : Nat → Prop} {H : Heap} {locs : List Loc} {ls : Array Slot} (hC : lS p l s m meth c b L xs D dA e0 A) {h mm o i cells slots : Nat} (hi : i + 6 ≤ L) (hL : L ≤ 3072) (hS : va_S A s.heap H locs) (hl : lv_has ls 8 [(4, .int (nI i)), (3, .ref o), (2, .ref mm), (1, .ref h), (0, .ref b)]) (cont : ∀ ls1 : Array Slot, lv_has ls1 8 [(4, .int (nI (i + 6))), (3, .ref o), (2, .ref mm), (1, .ref h), (0, .ref b)] → W p l e room_1 s m #[Value.ref b] below meth c H locs cells slots (lw_Z below #[Value.ref b] s) (F0 m 23 ls1 [])) : W p l e room_1 s m #[Value.ref b] below meth c H locs cells slots (lw_Z below #[Value.ref b] s) (F0 m 1770 ls []) := by
  have hC0 := hC
  obtain ⟨hx, hb, hr, hml, hown, hlk, hE, hK, hA, hN, hZ, hT, hX, hbl, hbA, hnew, htr⟩ := hC
  refine lv_iinc (k := 0) (v := nI (i + 6)) hx hb d_SeriesVaultLaw_law_1770 hl rfl (iincN (i) 6 6 (by decide)) (by decide) rfl (fun ls hl => ?_)
  have hl : lv_has ls 8 [(4, .int (nI (i + 6))), (3, .ref o), (2, .ref mm), (1, .ref h), (0, .ref b)] := hl
  refine lv_goto hx hb d_SeriesVaultLaw_law_1773 (tgt := 23) rfl ?_
  exact cont ls (lv_sub (l' := [(4, .int (nI (i + 6))), (3, .ref o), (2, .ref mm), (1, .ref h), (0, .ref b)]) hl [0, 1, 2, 3, 4] rfl)
theorem d_SeriesVaultLaw_law_40 : decode code 40 = .ok (.tableswitch 1730 0 24 #[116, 220, 256, 304, 348, 404, 472, 616, 672, 816, 867, 911, 967, 1055, 1199, 1212, 1292, 1367, 1434, 1490, 1558, 1613, 1626, 1662, 1686], 116) := by decide +kernel
/-- where a call goes -/
def tg9 : Nat → Nat
  | 0 => 156
  | 1 => 260
  | 2 => 296
  | 3 => 344
  | 4 => 388
  | 5 => 444
  | 6 => 512
  | 7 => 656
  | 8 => 712
  | 9 => 856
  | 10 => 907
  | 11 => 951
  | 12 => 1007
  | 13 => 1095
  | 14 => 1239
  | 15 => 1252
  | 16 => 1332
  | 17 => 1407
  | 18 => 1474
  | 19 => 1530
  | 20 => 1598
  | 21 => 1653
  | 22 => 1666
  | 23 => 1702
  | 24 => 1726
  | _ => 1770
theorem t9_out {k : Nat} (h1 : 25 ≤ k) (h2 : k < 2 ^ 5) : (24 : Int) < (nI k).toInt := by
  have h3 : k = 25 ∨ k = 26 ∨ k = 27 ∨ k = 28 ∨ k = 29 ∨ k = 30 ∨ k = 31 := by omega
  rcases h3 with rfl | rfl | rfl | rfl | rfl | rfl | rfl <;> decide
theorem l9_sw {p : Program} {e : Env} {s : State} {m : MethodId} {below : List Frame} {meth : Method} {c : Code} (l : Launch) {b L : Nat} {xs : Nat → Int32} {D : va_G} {dA : Nat → ClassId} {e0 : Nat} {A : Nat → Prop} {H : Heap} {locs : List Loc} {ls : Array Slot} (hC : lS p l s m meth c b L xs D dA e0 A) {v : Int32} {cells slots : Nat} (cont : ∀ k : Nat, k < 32 → v &&& 31 = nI k → W p l e room_1 s m #[Value.ref b] below meth c H locs cells slots (lw_Z below #[Value.ref b] s) (F0 m (tg9 k) ls [])) : W p l e room_1 s m #[Value.ref b] below meth c H locs cells slots (lw_Z below #[Value.ref b] s) (F0 m 40 ls [.int (v &&& 31)]) := by
  have hC0 := hC
  obtain ⟨hx, hb, hr, hml, hown, hlk, hE, hK, hA, hN, hZ, hT, hX, hbl, hbA, hnew, htr⟩ := hC
  obtain ⟨k, hk, hv⟩ := pk_andE v (m := 31) 5 (by decide)
  have ct := cont k hk hv
  refine tpi (y := nI k) hv ?_
  have h3 : k = 0 ∨ k = 1 ∨ k = 2 ∨ k = 3 ∨ k = 4 ∨ k = 5 ∨ k = 6 ∨ k = 7 ∨ k = 8 ∨ k = 9 ∨ k = 10 ∨ k = 11 ∨ k = 12 ∨ k = 13 ∨ k = 14 ∨ k = 15 ∨ k = 16 ∨ k = 17 ∨ k = 18 ∨ k = 19 ∨ k = 20 ∨ k = 21 ∨ k = 22 ∨ k = 23 ∨ k = 24 ∨ 25 ≤ k := by omega
  rcases h3 with rfl | rfl | rfl | rfl | rfl | rfl | rfl | rfl | rfl | rfl | rfl | rfl | rfl | rfl | rfl | rfl | rfl | rfl | rfl | rfl | rfl | rfl | rfl | rfl | rfl | hq
  · exact lv_tableIn (x := nI 0) (off := 116) (tgt := 156) hx hb d_SeriesVaultLaw_law_40 (by decide) (by decide) (by decide) rfl ct
  · exact lv_tableIn (x := nI 1) (off := 220) (tgt := 260) hx hb d_SeriesVaultLaw_law_40 (by decide) (by decide) (by decide) rfl ct
  · exact lv_tableIn (x := nI 2) (off := 256) (tgt := 296) hx hb d_SeriesVaultLaw_law_40 (by decide) (by decide) (by decide) rfl ct
  · exact lv_tableIn (x := nI 3) (off := 304) (tgt := 344) hx hb d_SeriesVaultLaw_law_40 (by decide) (by decide) (by decide) rfl ct
  · exact lv_tableIn (x := nI 4) (off := 348) (tgt := 388) hx hb d_SeriesVaultLaw_law_40 (by decide) (by decide) (by decide) rfl ct
  · exact lv_tableIn (x := nI 5) (off := 404) (tgt := 444) hx hb d_SeriesVaultLaw_law_40 (by decide) (by decide) (by decide) rfl ct
  · exact lv_tableIn (x := nI 6) (off := 472) (tgt := 512) hx hb d_SeriesVaultLaw_law_40 (by decide) (by decide) (by decide) rfl ct
  · exact lv_tableIn (x := nI 7) (off := 616) (tgt := 656) hx hb d_SeriesVaultLaw_law_40 (by decide) (by decide) (by decide) rfl ct
  · exact lv_tableIn (x := nI 8) (off := 672) (tgt := 712) hx hb d_SeriesVaultLaw_law_40 (by decide) (by decide) (by decide) rfl ct
  · exact lv_tableIn (x := nI 9) (off := 816) (tgt := 856) hx hb d_SeriesVaultLaw_law_40 (by decide) (by decide) (by decide) rfl ct
  · exact lv_tableIn (x := nI 10) (off := 867) (tgt := 907) hx hb d_SeriesVaultLaw_law_40 (by decide) (by decide) (by decide) rfl ct
  · exact lv_tableIn (x := nI 11) (off := 911) (tgt := 951) hx hb d_SeriesVaultLaw_law_40 (by decide) (by decide) (by decide) rfl ct
  · exact lv_tableIn (x := nI 12) (off := 967) (tgt := 1007) hx hb d_SeriesVaultLaw_law_40 (by decide) (by decide) (by decide) rfl ct
  · exact lv_tableIn (x := nI 13) (off := 1055) (tgt := 1095) hx hb d_SeriesVaultLaw_law_40 (by decide) (by decide) (by decide) rfl ct
  · exact lv_tableIn (x := nI 14) (off := 1199) (tgt := 1239) hx hb d_SeriesVaultLaw_law_40 (by decide) (by decide) (by decide) rfl ct
  · exact lv_tableIn (x := nI 15) (off := 1212) (tgt := 1252) hx hb d_SeriesVaultLaw_law_40 (by decide) (by decide) (by decide) rfl ct
  · exact lv_tableIn (x := nI 16) (off := 1292) (tgt := 1332) hx hb d_SeriesVaultLaw_law_40 (by decide) (by decide) (by decide) rfl ct
  · exact lv_tableIn (x := nI 17) (off := 1367) (tgt := 1407) hx hb d_SeriesVaultLaw_law_40 (by decide) (by decide) (by decide) rfl ct
  · exact lv_tableIn (x := nI 18) (off := 1434) (tgt := 1474) hx hb d_SeriesVaultLaw_law_40 (by decide) (by decide) (by decide) rfl ct
  · exact lv_tableIn (x := nI 19) (off := 1490) (tgt := 1530) hx hb d_SeriesVaultLaw_law_40 (by decide) (by decide) (by decide) rfl ct
  · exact lv_tableIn (x := nI 20) (off := 1558) (tgt := 1598) hx hb d_SeriesVaultLaw_law_40 (by decide) (by decide) (by decide) rfl ct
  · exact lv_tableIn (x := nI 21) (off := 1613) (tgt := 1653) hx hb d_SeriesVaultLaw_law_40 (by decide) (by decide) (by decide) rfl ct
  · exact lv_tableIn (x := nI 22) (off := 1626) (tgt := 1666) hx hb d_SeriesVaultLaw_law_40 (by decide) (by decide) (by decide) rfl ct
  · exact lv_tableIn (x := nI 23) (off := 1662) (tgt := 1702) hx hb d_SeriesVaultLaw_law_40 (by decide) (by decide) (by decide) rfl ct
  · exact lv_tableIn (x := nI 24) (off := 1686) (tgt := 1726) hx hb d_SeriesVaultLaw_law_40 (by decide) (by decide) (by decide) rfl ct
  · have e9 : tg9 k = 1770 := by
      have h4 : k = 25 ∨ k = 26 ∨ k = 27 ∨ k = 28 ∨ k = 29 ∨ k = 30 ∨ k = 31 := by omega
      rcases h4 with rfl | rfl | rfl | rfl | rfl | rfl | rfl <;> rfl
    rw [e9] at ct
    exact lv_tableOut (x := nI k) (tgt := 1770) hx hb d_SeriesVaultLaw_law_40 (Or.inr (t9_out hq hk)) rfl ct
end
section
/-! The law's loop. -/
theorem tg9_d {k : Nat} (h1 : 25 ≤ k) (h2 : k < 32) : tg9 k = 1770 := by
  have h4 : k = 25 ∨ k = 26 ∨ k = 27 ∨ k = 28 ∨ k = 29 ∨ k = 30 ∨ k = 31 := by omega
  rcases h4 with rfl | rfl | rfl | rfl | rfl | rfl | rfl <;> rfl
section LP
variable (p : Program) (l : Launch) (e : Env) (s : State) (m : MethodId) (below : List Frame) (meth : Method) (c : Code) (b : Nat) (D : va_G) (dA : Nat → ClassId) (A : Nat → Prop) (h : Nat) (ad : Nat → Nat) (mm : Nat) (mad : Nat → Nat) (o : Nat)
/-- from here on the law comes to its end -/
def At9 (pc i : Nat) (x : VS) (M : MS) (cells slots : Nat) : Prop := ∀ (og : Nat → Int64) (H : Heap) (locs : List Loc) (ls : Array Slot), va_P D vwCl (MW dA mm mad M ++ ([(o, .inl (dA 2, 1, .inr (.inl og)))] ++ (VW dA h ad x))) H → va_D A (MW dA mm mad M ++ ([(o, .inl (dA 2, 1, .inr (.inl og)))] ++ (VW dA h ad x))) → va_S A s.heap H locs → lv_has ls 8 [(4, .int (nI i)), (3, .ref o), (2, .ref mm), (1, .ref h), (0, .ref b)] → W p l e room_1 s m #[Value.ref b] below meth c H locs cells slots (lw_Z below #[Value.ref b] s) (F0 m pc ls [])
end LP
section LQ
variable {p : Program} {e : Env} {s : State} {m : MethodId} {below : List Frame} {meth : Method} {c : Code} {b L : Nat} {xs : Nat → Int32} {D : va_G} {dA : Nat → ClassId} {e0 : Nat} {A : Nat → Prop} {h : Nat} {ad : Nat → Nat} {mm : Nat} {mad : Nat → Nat} {o : Nat}
theorem loop9 (l : Launch) (hC : lS p l s m meth c b L xs D dA e0 A) (hL : L ≤ 3072) {Rel : Nat → VS → MS → Nat → Nat → Prop} (hrm : ∀ i x M cs ss, Rel i x M cs ss → cs ≤ 601024 ∧ ss ≤ 7293034) (hskip : ∀ i x M cs ss, i + 6 ≤ L → Rel i x M cs ss → Rel (i + 6) x M cs ss) (hcall : ∀ k, k < 25 → ∀ i x M cs ss, i + 6 ≤ L → Rel i x M cs ss → (∀ x' M' cs' ss', Rel (i + 6) x' M' cs' ss' → At9 p l e s m below meth c b D dA A h ad mm mad o 23 (i + 6) x' M' cs' ss') → At9 p l e s m below meth c b D dA A h ad mm mad o (tg9 k) i x M cs ss) : ∀ n i x M cs ss, L - i ≤ n → i ≤ L → Rel i x M cs ss → At9 p l e s m below meth c b D dA A h ad mm mad o 23 i x M cs ss := by
  intro n
  induction n with
  | zero =>
    intro i x M cs ss hn hi hR og H locs ls hP hD hS hl
    obtain ⟨r1, r2⟩ := hrm i x M cs ss hR
    exact l9_end l hC (by omega) (by omega) hL r1 r2 hS hl
  | succ n ih =>
    intro i x M cs ss hn hi hR og H locs ls hP hD hS hl
    by_cases c6 : i + 6 ≤ L
    · refine l9_head l hC c6 hL hS hl ?_
      refine l9_sw l hC (fun k hk hv => ?_)
      by_cases k5 : k < 25
      · exact hcall k k5 i x M cs ss c6 hR (fun x' M' cs' ss' hR' => ih (i + 6) x' M' cs' ss' (by omega) (by omega) hR') og H locs ls hP hD hS hl
      · rw [tg9_d (by omega) hk]
        exact l9_d l hC c6 hL hS hl (fun ls1 hl1 => ih (i + 6) x M cs ss (by omega) (by omega) (hskip i x M cs ss c6 hR) og H locs ls1 hP hD hS hl1)
    · obtain ⟨r1, r2⟩ := hrm i x M cs ss hR
      exact l9_end l hC (by omega) (by omega) hL r1 r2 hS hl
end LQ
end
