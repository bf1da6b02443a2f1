/-! The law's turns counted. -/
theorem n32_le {a b : Nat} (ha : a ≤ 65536) (hb : b ≤ 65536) : nI b - 6 < nI a ↔ b < a + 6 := by
  have e1 : (nI a).toInt = a := nI_toInt (by omega)
  have e2 : (nI b).toInt = b := nI_toInt (by omega)
  rw [Int32.lt_iff_toInt_lt, Int32.toInt_sub, e1, e2, show (6 : Int32).toInt = 6 by decide, Int.bmod_eq_of_le (by omega) (by omega)]
  omega
theorem d_SeriesVaultLaw_law_23 : decode code 23 = .ok (.iload 4, 2) := by decide +kernel
theorem d_SeriesVaultLaw_law_25 : decode code 25 = .ok (.aload_n 0, 1) := by decide +kernel
theorem d_SeriesVaultLaw_law_26 : decode code 26 = .ok (.arraylength, 1) := by decide +kernel
theorem d_SeriesVaultLaw_law_27 : decode code 27 = .ok (.bipush 6, 2) := by decide +kernel
theorem d_SeriesVaultLaw_law_29 : decode code 29 = .ok (.isub, 1) := by decide +kernel
theorem d_SeriesVaultLaw_law_30 : decode code 30 = .ok (.if_icmp .gt 1746, 3) := by decide +kernel
theorem d_SeriesVaultLaw_law_33 : decode code 33 = .ok (.aload_n 0, 1) := by decide +kernel
theorem d_SeriesVaultLaw_law_34 : decode code 34 = .ok (.iload 4, 2) := by decide +kernel
theorem d_SeriesVaultLaw_law_36 : decode code 36 = .ok (.iaload, 1) := by decide +kernel
theorem d_SeriesVaultLaw_law_37 : decode code 37 = .ok (.bipush 31, 2) := by decide +kernel
theorem d_SeriesVaultLaw_law_39 : decode code 39 = .ok (.iand, 1) := by decide +kernel
theorem l9_head {p : Program} {e : Env} {s : State} {m : MethodId} {below : List Frame} {meth : Method} {c : Code} (l : Launch) {b L : Nat} {xs : Nat → Int32} {D : va_G} {dA : Nat → ClassId} {e0 : Nat} {A : Nat → Prop} {H : Heap} {locs : List Loc} {ls : Array Slot} (hC : lS p l s m meth c b L xs D dA e0 A) {h mm o i cells slots : Nat} (hi : i + 6 ≤ L) (hL : L ≤ 3072) (hS : va_S A s.heap H locs) (hl : lv_has ls 8 [(4, .int (nI i)), (3, .ref o), (2, .ref mm), (1, .ref h), (0, .ref b)]) (cont : W p l e room_1 s m #[Value.ref b] below meth c H locs cells slots (lw_Z below #[Value.ref b] s) (F0 m 40 ls [.int (xs i &&& 31)])) : W p l e room_1 s m #[Value.ref b] below meth c H locs cells slots (lw_Z below #[Value.ref b] s) (F0 m 23 ls []) := by
  have hC0 := hC
  obtain ⟨hx, hb, hr, hml, hown, hlk, hE, hK, hA, hN, hZ, hT, hX, hbl, hbA, hnew, htr⟩ := hC
  refine lv_iload hx hb d_SeriesVaultLaw_law_23 (lv_at hl 0 rfl) ?_
  refine lv_aload_n hx hb d_SeriesVaultLaw_law_25 rfl (lv_at hl 4 rfl) ?_
  refine va_slen hx hb hX hbl hbA hS d_SeriesVaultLaw_law_26 ?_
  refine lv_bipush (v := 6) hx hb d_SeriesVaultLaw_law_27 (by decide) ?_
  refine lv_isub hx hb d_SeriesVaultLaw_law_29 ?_
  refine lv_icmp_gt hx hb d_SeriesVaultLaw_law_30 (tgt := 1776) rfl (fun h9 => absurd h9 (mt (n32_le (by omega) (by omega)).mp (by omega))) (fun _ => ?_)
  refine lv_aload_n hx hb d_SeriesVaultLaw_law_33 rfl (lv_at hl 4 rfl) ?_
  refine lv_iload hx hb d_SeriesVaultLaw_law_34 (lv_at hl 0 rfl) ?_
  refine sldN hx hb hX hbl hbA hS (show i < L by omega) (show L ≤ 65536 by omega) d_SeriesVaultLaw_law_36 ?_
  refine lv_bipush (v := 31) hx hb d_SeriesVaultLaw_law_37 (by decide) ?_
  refine lv_iand hx hb d_SeriesVaultLaw_law_39 ?_
  exact cont
theorem d_SeriesVaultLaw_law_1776 : decode code 1776 = .ok (.iconst 1, 1) := by decide +kernel
theorem d_SeriesVaultLaw_law_1777 : decode code 1777 = .ok (.ireturn, 1) := by decide +kernel
theorem l9_end {p : Program} {e : Env} {s : State} {m : MethodId} {below : List Frame} {meth : Method} {c : Code} (l : Launch) {b L : Nat} {xs : Nat → Int32} {D : va_G} {dA : Nat → ClassId} {e0 : Nat} {A : Nat → Prop} {H : Heap} {locs : List Loc} {ls : Array Slot} (hC : lS p l s m meth c b L xs D dA e0 A) {h mm o i cells slots : Nat} (hi : L < i + 6) (hi2 : i ≤ 3072) (hL : L ≤ 3072) (hc : cells ≤ 601024) (hs : slots ≤ 7293034) (hS : va_S A s.heap H locs) (hl : lv_has ls 8 [(4, .int (nI i)), (3, .ref o), (2, .ref mm), (1, .ref h), (0, .ref b)]) : W p l e room_1 s m #[Value.ref b] below meth c H locs cells slots (lw_Z below #[Value.ref b] s) (F0 m 23 ls []) := by
  have hC0 := hC
  obtain ⟨hx, hb, hr, hml, hown, hlk, hE, hK, hA, hN, hZ, hT, hX, hbl, hbA, hnew, htr⟩ := hC
  refine lv_iload hx hb d_SeriesVaultLaw_law_23 (lv_at hl 0 rfl) ?_
  refine lv_aload_n hx hb d_SeriesVaultLaw_law_25 rfl (lv_at hl 4 rfl) ?_
  refine va_slen hx hb hX hbl hbA hS d_SeriesVaultLaw_law_26 ?_
  refine lv_bipush (v := 6) hx hb d_SeriesVaultLaw_law_27 (by decide) ?_
  refine lv_isub hx hb d_SeriesVaultLaw_law_29 ?_
  refine lv_icmp_gt hx hb d_SeriesVaultLaw_law_30 (tgt := 1776) rfl (fun _ => ?_) (fun h9 => absurd ((n32_le (by omega) (by omega)).mpr (by omega)) h9)
  exact lv_iconst (v := 1) hx hb d_SeriesVaultLaw_law_1776 (by decide) (lw_fin hC0 hS hc hs d_SeriesVaultLaw_law_1777)
theorem l9_d {p : Program} {e : Env} {s : State} {m : MethodId} {below : List Frame} {meth : Method} {c : Code} (l : Launch) {b L : Nat} {xs : Nat → Int32} {D : va_G} {dA : Nat → ClassId} {e0 : Nat} {A : Nat → Prop} {H : Heap} {locs : List Loc} {ls : Array Slot} (hC : lS p l s m meth c b L xs D dA e0 A) {h mm o i cells slots : Nat} (hi : i + 6 ≤ L) (hL : L ≤ 3072) (hS : va_S A s.heap H locs) (hl : lv_has ls 8 [(4, .int (nI i)), (3, .ref o), (2, .ref mm), (1, .ref h), (0, .ref b)]) (cont : ∀ ls1 : Array Slot, lv_has ls1 8 [(4, .int (nI (i + 6))), (3, .ref o), (2, .ref mm), (1, .ref h), (0, .ref b)] → W p l e room_1 s m #[Value.ref b] below meth c H locs cells slots (lw_Z below #[Value.ref b] s) (F0 m 23 ls1 [])) : W p l e room_1 s m #[Value.ref b] below meth c H locs cells slots (lw_Z below #[Value.ref b] s) (F0 m 1770 ls []) := by
  have hC0 := hC
  obtain ⟨hx, hb, hr, hml, hown, hlk, hE, hK, hA, hN, hZ, hT, hX, hbl, hbA, hnew, htr⟩ := hC
  refine lv_iinc (k := 0) (v := nI (i + 6)) hx hb d_SeriesVaultLaw_law_1770 hl rfl (iincN (i) 6 6 (by decide)) (by decide) rfl (fun ls hl => ?_)
  have hl : lv_has ls 8 [(4, .int (nI (i + 6))), (3, .ref o), (2, .ref mm), (1, .ref h), (0, .ref b)] := hl
  refine lv_goto hx hb d_SeriesVaultLaw_law_1773 (tgt := 23) rfl ?_
  exact cont ls (lv_sub (l' := [(4, .int (nI (i + 6))), (3, .ref o), (2, .ref mm), (1, .ref h), (0, .ref b)]) hl [0, 1, 2, 3, 4] rfl)
theorem d_SeriesVaultLaw_law_40 : decode code 40 = .ok (.tableswitch 1730 0 24 #[116, 220, 256, 304, 348, 404, 472, 616, 672, 816, 867, 911, 967, 1055, 1199, 1212, 1292, 1367, 1434, 1490, 1558, 1613, 1626, 1662, 1686], 116) := by decide +kernel
/-- where a call goes -/
def tg9 : Nat → Nat
  | 0 => 156
  | 1 => 260
  | 2 => 296
  | 3 => 344
  | 4 => 388
  | 5 => 444
  | 6 => 512
  | 7 => 656
  | 8 => 712
  | 9 => 856
  | 10 => 907
  | 11 => 951
  | 12 => 1007
  | 13 => 1095
  | 14 => 1239
  | 15 => 1252
  | 16 => 1332
  | 17 => 1407
  | 18 => 1474
  | 19 => 1530
  | 20 => 1598
  | 21 => 1653
  | 22 => 1666
  | 23 => 1702
  | 24 => 1726
  | _ => 1770
theorem t9_out {k : Nat} (h1 : 25 ≤ k) (h2 : k < 2 ^ 5) : (24 : Int) < (nI k).toInt := by
  have h3 : k = 25 ∨ k = 26 ∨ k = 27 ∨ k = 28 ∨ k = 29 ∨ k = 30 ∨ k = 31 := by omega
  rcases h3 with rfl | rfl | rfl | rfl | rfl | rfl | rfl <;> decide
theorem l9_sw {p : Program} {e : Env} {s : State} {m : MethodId} {below : List Frame} {meth : Method} {c : Code} (l : Launch) {b L : Nat} {xs : Nat → Int32} {D : va_G} {dA : Nat → ClassId} {e0 : Nat} {A : Nat → Prop} {H : Heap} {locs : List Loc} {ls : Array Slot} (hC : lS p l s m meth c b L xs D dA e0 A) {v : Int32} {cells slots : Nat} (cont : ∀ k : Nat, k < 32 → v &&& 31 = nI k → W p l e room_1 s m #[Value.ref b] below meth c H locs cells slots (lw_Z below #[Value.ref b] s) (F0 m (tg9 k) ls [])) : W p l e room_1 s m #[Value.ref b] below meth c H locs cells slots (lw_Z below #[Value.ref b] s) (F0 m 40 ls [.int (v &&& 31)]) := by
  have hC0 := hC
  obtain ⟨hx, hb, hr, hml, hown, hlk, hE, hK, hA, hN, hZ, hT, hX, hbl, hbA, hnew, htr⟩ := hC
  obtain ⟨k, hk, hv⟩ := pk_andE v (m := 31) 5 (by decide)
  have ct := cont k hk hv
  refine tpi (y := nI k) hv ?_
  have h3 : k = 0 ∨ k = 1 ∨ k = 2 ∨ k = 3 ∨ k = 4 ∨ k = 5 ∨ k = 6 ∨ k = 7 ∨ k = 8 ∨ k = 9 ∨ k = 10 ∨ k = 11 ∨ k = 12 ∨ k = 13 ∨ k = 14 ∨ k = 15 ∨ k = 16 ∨ k = 17 ∨ k = 18 ∨ k = 19 ∨ k = 20 ∨ k = 21 ∨ k = 22 ∨ k = 23 ∨ k = 24 ∨ 25 ≤ k := by omega
  rcases h3 with rfl | rfl | rfl | rfl | rfl | rfl | rfl | rfl | rfl | rfl | rfl | rfl | rfl | rfl | rfl | rfl | rfl | rfl | rfl | rfl | rfl | rfl | rfl | rfl | rfl | hq
  · exact lv_tableIn (x := nI 0) (off := 116) (tgt := 156) hx hb d_SeriesVaultLaw_law_40 (by decide) (by decide) (by decide) rfl ct
  · exact lv_tableIn (x := nI 1) (off := 220) (tgt := 260) hx hb d_SeriesVaultLaw_law_40 (by decide) (by decide) (by decide) rfl ct
  · exact lv_tableIn (x := nI 2) (off := 256) (tgt := 296) hx hb d_SeriesVaultLaw_law_40 (by decide) (by decide) (by decide) rfl ct
  · exact lv_tableIn (x := nI 3) (off := 304) (tgt := 344) hx hb d_SeriesVaultLaw_law_40 (by decide) (by decide) (by decide) rfl ct
  · exact lv_tableIn (x := nI 4) (off := 348) (tgt := 388) hx hb d_SeriesVaultLaw_law_40 (by decide) (by decide) (by decide) rfl ct
  · exact lv_tableIn (x := nI 5) (off := 404) (tgt := 444) hx hb d_SeriesVaultLaw_law_40 (by decide) (by decide) (by decide) rfl ct
  · exact lv_tableIn (x := nI 6) (off := 472) (tgt := 512) hx hb d_SeriesVaultLaw_law_40 (by decide) (by decide) (by decide) rfl ct
  · exact lv_tableIn (x := nI 7) (off := 616) (tgt := 656) hx hb d_SeriesVaultLaw_law_40 (by decide) (by decide) (by decide) rfl ct
  · exact lv_tableIn (x := nI 8) (off := 672) (tgt := 712) hx hb d_SeriesVaultLaw_law_40 (by decide) (by decide) (by decide) rfl ct
  · exact lv_tableIn (x := nI 9) (off := 816) (tgt := 856) hx hb d_SeriesVaultLaw_law_40 (by decide) (by decide) (by decide) rfl ct
  · exact lv_tableIn (x := nI 10) (off := 867) (tgt := 907) hx hb d_SeriesVaultLaw_law_40 (by decide) (by decide) (by decide) rfl ct
  · exact lv_tableIn (x := nI 11) (off := 911) (tgt := 951) hx hb d_SeriesVaultLaw_law_40 (by decide) (by decide) (by decide) rfl ct
  · exact lv_tableIn (x := nI 12) (off := 967) (tgt := 1007) hx hb d_SeriesVaultLaw_law_40 (by decide) (by decide) (by decide) rfl ct
  · exact lv_tableIn (x := nI 13) (off := 1055) (tgt := 1095) hx hb d_SeriesVaultLaw_law_40 (by decide) (by decide) (by decide) rfl ct
  · exact lv_tableIn (x := nI 14) (off := 1199) (tgt := 1239) hx hb d_SeriesVaultLaw_law_40 (by decide) (by decide) (by decide) rfl ct
  · exact lv_tableIn (x := nI 15) (off := 1212) (tgt := 1252) hx hb d_SeriesVaultLaw_law_40 (by decide) (by decide) (by decide) rfl ct
  · exact lv_tableIn (x := nI 16) (off := 1292) (tgt := 1332) hx hb d_SeriesVaultLaw_law_40 (by decide) (by decide) (by decide) rfl ct
  · exact lv_tableIn (x := nI 17) (off := 1367) (tgt := 1407) hx hb d_SeriesVaultLaw_law_40 (by decide) (by decide) (by decide) rfl ct
  · exact lv_tableIn (x := nI 18) (off := 1434) (tgt := 1474) hx hb d_SeriesVaultLaw_law_40 (by decide) (by decide) (by decide) rfl ct
  · exact lv_tableIn (x := nI 19) (off := 1490) (tgt := 1530) hx hb d_SeriesVaultLaw_law_40 (by decide) (by decide) (by decide) rfl ct
  · exact lv_tableIn (x := nI 20) (off := 1558) (tgt := 1598) hx hb d_SeriesVaultLaw_law_40 (by decide) (by decide) (by decide) rfl ct
  · exact lv_tableIn (x := nI 21) (off := 1613) (tgt := 1653) hx hb d_SeriesVaultLaw_law_40 (by decide) (by decide) (by decide) rfl ct
  · exact lv_tableIn (x := nI 22) (off := 1626) (tgt := 1666) hx hb d_SeriesVaultLaw_law_40 (by decide) (by decide) (by decide) rfl ct
  · exact lv_tableIn (x := nI 23) (off := 1662) (tgt := 1702) hx hb d_SeriesVaultLaw_law_40 (by decide) (by decide) (by decide) rfl ct
  · exact lv_tableIn (x := nI 24) (off := 1686) (tgt := 1726) hx hb d_SeriesVaultLaw_law_40 (by decide) (by decide) (by decide) rfl ct
  · have e9 : tg9 k = 1770 := by
      have h4 : k = 25 ∨ k = 26 ∨ k = 27 ∨ k = 28 ∨ k = 29 ∨ k = 30 ∨ k = 31 := by omega
      rcases h4 with rfl | rfl | rfl | rfl | rfl | rfl | rfl <;> rfl
    rw [e9] at ct
    exact lv_tableOut (x := nI k) (tgt := 1770) hx hb d_SeriesVaultLaw_law_40 (Or.inr (t9_out hq hk)) rfl ct
