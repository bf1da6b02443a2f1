theorem d_SeriesVaultLaw_law_856 : decode code 856 = .ok (.aload_n 1, 1) := by decide +kernel
theorem d_SeriesVaultLaw_law_857 : decode code 857 = .ok (.aload_n 3, 1) := by decide +kernel
theorem d_SeriesVaultLaw_law_858 : decode code 858 = .ok (.invokestatic 145, 3) := by decide +kernel
theorem d_SeriesVaultLaw_law_861 : decode code 861 = .ok (.istore 5, 2) := by decide +kernel
theorem d_SeriesVaultLaw_law_863 : decode code 863 = .ok (.aload_n 2, 1) := by decide +kernel
theorem d_SeriesVaultLaw_law_864 : decode code 864 = .ok (.invokevirtual 147, 3) := by decide +kernel
theorem d_SeriesVaultLaw_law_867 : decode code 867 = .ok (.istore 6, 2) := by decide +kernel
theorem d_SeriesVaultLaw_law_869 : decode code 869 = .ok (.aload_n 2, 1) := by decide +kernel
theorem d_SeriesVaultLaw_law_870 : decode code 870 = .ok (.invokevirtual 110, 3) := by decide +kernel
theorem d_SeriesVaultLaw_law_873 : decode code 873 = .ok (.iload 5, 2) := by decide +kernel
theorem d_SeriesVaultLaw_law_875 : decode code 875 = .ok (.if_icmp .eq 5, 3) := by decide +kernel
theorem d_SeriesVaultLaw_law_880 : decode code 880 = .ok (.iload 5, 2) := by decide +kernel
theorem d_SeriesVaultLaw_law_882 : decode code 882 = .ok (.ifCond .ne 22, 3) := by decide +kernel
theorem d_SeriesVaultLaw_law_885 : decode code 885 = .ok (.aload_n 3, 1) := by decide +kernel
theorem d_SeriesVaultLaw_law_886 : decode code 886 = .ok (.iconst 0, 1) := by decide +kernel
theorem d_SeriesVaultLaw_law_887 : decode code 887 = .ok (.laload, 1) := by decide +kernel
theorem d_SeriesVaultLaw_law_888 : decode code 888 = .ok (.iload 6, 2) := by decide +kernel
theorem d_SeriesVaultLaw_law_890 : decode code 890 = .ok (.ifCond .eq 7, 3) := by decide +kernel
theorem d_SeriesVaultLaw_law_893 : decode code 893 = .ok (.lconst 1, 1) := by decide +kernel
theorem d_SeriesVaultLaw_law_894 : decode code 894 = .ok (.goto 4, 3) := by decide +kernel
theorem d_SeriesVaultLaw_law_898 : decode code 898 = .ok (.lcmp, 1) := by decide +kernel
theorem d_SeriesVaultLaw_law_899 : decode code 899 = .ok (.ifCond .eq 5, 3) := by decide +kernel
theorem d_SeriesVaultLaw_law_904 : decode code 904 = .ok (.goto 866, 3) := by decide +kernel
theorem w1861 : Cond.methodLink "SeriesVaultLaw" 145 ⟨"SeriesVaultLaw", "sync", "(LSeriesVault;[J)I"⟩ ∈ aW := aw_of (tb_5 (List.mem_of_getElem? (i := 223) rfl)) rfl
theorem w1862 : Cond.codeWith ⟨"SeriesVaultLaw", "sync", "(LSeriesVault;[J)I"⟩ method_12_code 3 (some FieldType.int) [(0, 15, 18, 29)] ∈ aW := aw_of (tb_5 (List.mem_of_getElem? (i := 225) rfl)) rfl
theorem w1863 : Cond.static ⟨"SeriesVaultLaw", "sync", "(LSeriesVault;[J)I"⟩ ∈ aW := aw_of (tb_5 (List.mem_of_getElem? (i := 224) rfl)) rfl
theorem w1864 : Cond.methodLink "SeriesVaultLaw" 147 ⟨"SeriesVaultModel", "sync", "()Z"⟩ ∈ aW := aw_of (tb_10 (List.mem_of_getElem? (i := 64) rfl)) rfl
theorem w1865 : Cond.code ⟨"SeriesVaultModel", "sync", "()Z"⟩ prog_14_method_43_code 2 (some FieldType.boolean) ∈ aW := aw_of (tb_10 (List.mem_of_getElem? (i := 67) rfl)) rfl
theorem w1866 : Cond.instanceMethod ⟨"SeriesVaultModel", "sync", "()Z"⟩ ∈ aW := aw_of (tb_10 (List.mem_of_getElem? (i := 65) rfl)) rfl
theorem w1867 : Cond.selects "SeriesVaultModel" ⟨"SeriesVaultModel", "sync", "()Z"⟩ ⟨"SeriesVaultModel", "sync", "()Z"⟩ ∈ aW := aw_of (tb_10 (List.mem_of_getElem? (i := 66) rfl)) rfl
set_option maxHeartbeats 4000000 in
set_option maxRecDepth 100000 in
theorem l9_9_1 {p : Program} {e : Env} {s : State} {m : MethodId} {below : List Frame} {meth : Method} {c : Code} (l : Launch) {b L : Nat} {xs : Nat → Int32} {D : va_G} {dA : Nat → ClassId} {e0 : Nat} {A : Nat → Prop} {H : Heap} {locs : List Loc} {ls : Array Slot} (hC : lS p l s m meth c b L xs D dA e0 A) {h : Nat} {ad : Nat → Nat} {x : VS} {mm : Nat} {mad : Nat → Nat} {M M1 : MS} {o : Nat} {og : Nat → Int64} {i fr1 lo1 fr2 lo2 mc9 ms9 cells slots : Nat} {F9 : VS → Prop} {v9 : Int64} (hi : i + 6 ≤ L) (hL : L ≤ 3072) (hfr : fr1 ≤ 2000 ∧ lo1 ≤ 80000 ∧ fr2 ≤ 2000 ∧ lo2 ≤ 80000) (hrm : cells + mc9 ≤ 601024 ∧ slots + ms9 ≤ 7293034) (hcod : M1.cod = 0) (hv : v9 = 1) (hW : ∀ sz : Nat, Met l ⟨"SeriesVaultLaw", "sync", "(LSeriesVault;[J)I"⟩ [Cond.codeWith ⟨"SeriesVaultLaw", "sync", "(LSeriesVault;[J)I"⟩ method_12_code 3 (some FieldType.int) [(0, 15, 18, 29)]] { frames := fr1, cells := mc9, slots := ms9, locals := lo1 } (pC D dA [.ref h, .ref o] (([(o, .inl (dA 2, 1, .inr (.inl og)))] : va_W) ++ (VW dA h ad x)) sz) (va_Qi (fun (r9 : Int32) (u9 : VS) => r9 = 0 ∧ F9 u9) (fun (u9 : VS) t9 => bW D (va_A (([(o, .inl (dA 2, 1, .inr (.inl og)))] : va_W) ++ (VW dA h ad x)) sz) (([(o, .inl (dA 2, 1, .inr (.inl (va_up og 0 v9))))] : va_W) ++ (VW dA h ad u9)) t9) (va_A (([(o, .inl (dA 2, 1, .inr (.inl og)))] : va_W) ++ (VW dA h ad x)) sz)) mc9 ms9 (va_A (([(o, .inl (dA 2, 1, .inr (.inl og)))] : va_W) ++ (VW dA h ad x)) sz)) (hM : ∀ sz : Nat, Met l ⟨"SeriesVaultModel", "sync", "()Z"⟩ [Cond.code ⟨"SeriesVaultModel", "sync", "()Z"⟩ prog_14_method_43_code 2 (some FieldType.boolean)] { frames := fr2, cells := 0, slots := 0, locals := lo2 } (pC D dA [.ref mm] (MW dA mm mad M) sz) (va_Qi (fun (r9 : Int32) (u9 : Unit) => r9 = 1) (fun (u9 : Unit) t9 => bW D (va_A (MW dA mm mad M) sz) (MW dA mm mad M1) t9) (va_A (MW dA mm mad M) sz)) 0 0 (va_A (MW dA mm mad M) sz)) (hP : va_P D vwCl (MW dA mm mad M ++ (([(o, .inl (dA 2, 1, .inr (.inl og)))] : va_W) ++ (VW dA h ad x))) H) (hD : va_D A (MW dA mm mad M ++ (([(o, .inl (dA 2, 1, .inr (.inl og)))] : va_W) ++ (VW dA h ad x)))) (hS : va_S A s.heap H locs) (hl : lv_has ls 8 [(4, .int (nI i)), (3, .ref o), (2, .ref mm), (1, .ref h), (0, .ref b)]) (cont : ∀ (u : VS) (H1 : Heap) (locs1 : List Loc) (ls1 : Array Slot), F9 u → va_P D vwCl (MW dA mm mad M1 ++ (([(o, .inl (dA 2, 1, .inr (.inl (va_up og 0 v9))))] : va_W) ++ (VW dA h ad u))) H1 → va_D A (MW dA mm mad M1 ++ (([(o, .inl (dA 2, 1, .inr (.inl (va_up og 0 v9))))] : va_W) ++ (VW dA h ad u))) → va_S A s.heap H1 locs1 → lv_has ls1 8 [(4, .int (nI (i + 6))), (3, .ref o), (2, .ref mm), (1, .ref h), (0, .ref b)] → W p l e room_1 s m #[Value.ref b] below meth c H1 locs1 (cells + mc9 + 0 + 0) (slots + ms9 + 0 + 0) (lw_Z below #[Value.ref b] s) (F0 m 23 ls1 [])) : W p l e room_1 s m #[Value.ref b] below meth c H locs cells slots (lw_Z below #[Value.ref b] s) (F0 m 856 ls []) := by
  have hC0 := hC
  obtain ⟨hx, hb, hr, hml, hown, hlk, hE, hK, hA, hN, hZ, hT, hX, hbl, hbA, hnew, htr⟩ := hC
  refine lv_aload_n hx hb d_SeriesVaultLaw_law_856 rfl (lv_at hl 3 rfl) ?_
  refine lv_aload_n hx hb d_SeriesVaultLaw_law_857 rfl (lv_at hl 1 rfl) ?_
  have hPc : va_P D vwCl (([(o, .inl (dA 2, 1, .inr (.inl og)))] : va_W) ++ (VW dA h ad x)) H := spP (wr := MW dA mm mad M) hP
  have hDc : va_D A (([(o, .inl (dA 2, 1, .inr (.inl og)))] : va_W) ++ (VW dA h ad x)) := spD (wr := MW dA mm mad M) hD
  refine jkI (wr := MW dA mm mad M) (rnW (As := [.ref h, .ref o]) (rest := []) hx hb hml hown hE hK (hN _ _ hS) hPc hDc (hW H.size) w1862 w1861 w1863 w1793 rfl rfl ⟨⟨by decide, by decide⟩, rfl⟩ ⟨(show fr1 + 1 ≤ 2048 by omega), (show 8 + (3 + 11) + lo1 ≤ 84000 by omega)⟩ rfl hl.1 rfl (Nat.le_of_ble_eq_true rfl) d_SeriesVaultLaw_law_858 ⟨(show cells + mc9 ≤ 601024 by omega), (show slots + ms9 ≤ 7293034 by omega)⟩) hP hD hS hA (fun k8 u8 H locs hp9 hP hD hS => ?_)
  obtain ⟨hp9, hf9⟩ := hp9
  replace hp9 : 0 = k8 := Eq.symm hp9
  subst hp9
  have hP : va_P D vwCl (MW dA mm mad M ++ (([(o, .inl (dA 2, 1, .inr (.inl (va_up og 0 v9))))] : va_W) ++ (VW dA h ad u8))) H := hP
  have hD : va_D A (MW dA mm mad M ++ (([(o, .inl (dA 2, 1, .inr (.inl (va_up og 0 v9))))] : va_W) ++ (VW dA h ad u8))) := hD
  refine lv_istore hx hb d_SeriesVaultLaw_law_861 hl (by decide) rfl (fun ls hl => ?_)
  have hl : lv_has ls 8 [(5, .int 0), (4, .int (nI i)), (3, .ref o), (2, .ref mm), (1, .ref h), (0, .ref b)] := hl
  refine lv_aload_n hx hb d_SeriesVaultLaw_law_863 rfl (lv_at hl 3 rfl) ?_
  have hP := pmP (show List.Perm (α := Nat × va_E) (MW dA mm mad M ++ (([(o, .inl (dA 2, 1, .inr (.inl (va_up og 0 v9))))] : va_W) ++ (VW dA h ad u8))) (([(o, .inl (dA 2, 1, .inr (.inl (va_up og 0 v9))))] : va_W) ++ (MW dA mm mad M ++ (VW dA h ad u8))) from List.perm_append_comm_assoc (MW dA mm mad M) (([(o, .inl (dA 2, 1, .inr (.inl (va_up og 0 v9))))] : va_W)) (VW dA h ad u8)) hP
  have hD := pmD (show List.Perm (α := Nat × va_E) (MW dA mm mad M ++ (([(o, .inl (dA 2, 1, .inr (.inl (va_up og 0 v9))))] : va_W) ++ (VW dA h ad u8))) (([(o, .inl (dA 2, 1, .inr (.inl (va_up og 0 v9))))] : va_W) ++ (MW dA mm mad M ++ (VW dA h ad u8))) from List.perm_append_comm_assoc (MW dA mm mad M) (([(o, .inl (dA 2, 1, .inr (.inl (va_up og 0 v9))))] : va_W)) (VW dA h ad u8)) hD
  have hP := pmP (show List.Perm (α := Nat × va_E) (([(o, .inl (dA 2, 1, .inr (.inl (va_up og 0 v9))))] : va_W) ++ (MW dA mm mad M ++ (VW dA h ad u8))) (([(o, .inl (dA 2, 1, .inr (.inl (va_up og 0 v9))))] : va_W) ++ (VW dA h ad u8 ++ (MW dA mm mad M))) from List.Perm.append_left (([(o, .inl (dA 2, 1, .inr (.inl (va_up og 0 v9))))] : va_W)) (List.perm_append_comm)) hP
  have hD := pmD (show List.Perm (α := Nat × va_E) (([(o, .inl (dA 2, 1, .inr (.inl (va_up og 0 v9))))] : va_W) ++ (MW dA mm mad M ++ (VW dA h ad u8))) (([(o, .inl (dA 2, 1, .inr (.inl (va_up og 0 v9))))] : va_W) ++ (VW dA h ad u8 ++ (MW dA mm mad M))) from List.Perm.append_left (([(o, .inl (dA 2, 1, .inr (.inl (va_up og 0 v9))))] : va_W)) (List.perm_append_comm)) hD
  have hPc : va_P D vwCl (MW dA mm mad M) H := spP (wr := ([(o, .inl (dA 2, 1, .inr (.inl (va_up og 0 v9))))] : va_W) ++ (VW dA h ad u8)) hP
  have hDc : va_D A (MW dA mm mad M) := spD (wr := ([(o, .inl (dA 2, 1, .inr (.inl (va_up og 0 v9))))] : va_W) ++ (VW dA h ad u8)) hD
  refine jkI (wr := ([(o, .inl (dA 2, 1, .inr (.inl (va_up og 0 v9))))] : va_W) ++ (VW dA h ad u8)) (rnV (As := []) (rest := []) hx hb hml hown hE hK (hN _ _ hS) hPc hDc (hM H.size) (q0 := 0) rfl rfl w1865 w1864 w1866 w1867 w328 rfl rfl ⟨⟨by decide, by decide⟩, rfl⟩ ⟨(show fr2 + 1 ≤ 2048 by omega), (show 8 + (2 + 11) + lo2 ≤ 84000 by omega)⟩ rfl hl.1 rfl (Nat.le_of_ble_eq_true rfl) d_SeriesVaultLaw_law_864 ⟨(show cells + mc9 + 0 ≤ 601024 by omega), (show slots + ms9 + 0 ≤ 7293034 by omega)⟩) hP hD hS hA (fun r7 u7 H locs hp9 hP hD hS => ?_)
  replace hp9 : 1 = r7 := Eq.symm hp9
  subst hp9
  have hP : va_P D vwCl (([(o, .inl (dA 2, 1, .inr (.inl (va_up og 0 v9))))] : va_W) ++ (VW dA h ad u8 ++ (MW dA mm mad M1))) H := hP
  have hD : va_D A (([(o, .inl (dA 2, 1, .inr (.inl (va_up og 0 v9))))] : va_W) ++ (VW dA h ad u8 ++ (MW dA mm mad M1))) := hD
  refine lv_istore hx hb d_SeriesVaultLaw_law_867 hl (by decide) rfl (fun ls hl => ?_)
  have hl : lv_has ls 8 [(6, .int 1), (5, .int 0), (4, .int (nI i)), (3, .ref o), (2, .ref mm), (1, .ref h), (0, .ref b)] := hl
  refine lv_aload_n hx hb d_SeriesVaultLaw_law_869 rfl (lv_at hl 4 rfl) ?_
  have hPc : va_P D vwCl (MW dA mm mad M1) H := spP (wr := ([(o, .inl (dA 2, 1, .inr (.inl (va_up og 0 v9))))] : va_W) ++ (VW dA h ad u8)) hP
  have hDc : va_D A (MW dA mm mad M1) := spD (wr := ([(o, .inl (dA 2, 1, .inr (.inl (va_up og 0 v9))))] : va_W) ++ (VW dA h ad u8)) hD
  refine jkI (wr := ([(o, .inl (dA 2, 1, .inr (.inl (va_up og 0 v9))))] : va_W) ++ (VW dA h ad u8)) (rnV (As := []) (rest := []) hx hb hml hown hE hK (hN _ _ hS) hPc hDc (k_thrown l D dA H.size mm mad M1) (q0 := 0) rfl rfl w1801 w1800 w1802 w1803 w328 rfl rfl ⟨⟨by decide, by decide⟩, rfl⟩ ⟨(show 1 + 1 ≤ 2048 by omega), (show 8 + (1 + 11) + 0 ≤ 84000 by omega)⟩ rfl hl.1 rfl (Nat.le_of_ble_eq_true rfl) d_SeriesVaultLaw_law_870 ⟨(show cells + mc9 + 0 ≤ 601024 by omega), (show slots + ms9 + 0 ≤ 7293034 by omega)⟩) hP hD hS hA (fun r7 u7 H locs hp9 hP hD hS => ?_)
  replace hp9 : 0 = r7 := Eq.symm (hp9.trans hcod)
  subst hp9
  have hP : va_P D vwCl (([(o, .inl (dA 2, 1, .inr (.inl (va_up og 0 v9))))] : va_W) ++ (VW dA h ad u8 ++ (MW dA mm mad M1))) H := hP
  have hD : va_D A (([(o, .inl (dA 2, 1, .inr (.inl (va_up og 0 v9))))] : va_W) ++ (VW dA h ad u8 ++ (MW dA mm mad M1))) := hD
  refine lv_iload hx hb d_SeriesVaultLaw_law_873 (lv_at hl 1 rfl) ?_
  refine lv_icmp_eq hx hb d_SeriesVaultLaw_law_875 (tgt := 880) rfl (fun _ => ?_) (fun h9 => absurd rfl h9)
  refine lv_iload hx hb d_SeriesVaultLaw_law_880 (lv_at hl 1 rfl) ?_
  refine lv_if_ne hx hb d_SeriesVaultLaw_law_882 (tgt := 904) rfl (fun h9 => absurd (by decide) h9) (fun _ => ?_)
  refine lv_aload_n hx hb d_SeriesVaultLaw_law_885 rfl (lv_at hl 3 rfl) ?_
  refine lv_iconst (v := 0) hx hb d_SeriesVaultLaw_law_886 (by decide) ?_
  refine nlld (f := (va_up og 0 v9)) (n := 1) hx hb hK hP (0) 2 rfl rfl (0) (by decide) (by decide) d_SeriesVaultLaw_law_887 ?_
  refine tpl (y := v9) (va_up_self _ _ _) ?_
  refine lv_iload hx hb d_SeriesVaultLaw_law_888 (lv_at hl 0 rfl) ?_
  refine lv_if_eq hx hb d_SeriesVaultLaw_law_890 (tgt := 897) rfl (fun h9 => absurd h9 (by decide)) (fun _ => ?_)
  refine lv_lconst (v := 1) hx hb d_SeriesVaultLaw_law_893 (by decide) ?_
  refine lv_goto hx hb d_SeriesVaultLaw_law_894 (tgt := 898) rfl ?_
  refine W.lcmp hx hb d_SeriesVaultLaw_law_898 ?_
  refine lv_if_eq hx hb d_SeriesVaultLaw_law_899 (tgt := 904) rfl (fun _ => ?_) (fun h9 => absurd ((lg_cmp_eq _ _).mpr hv) h9)
  refine lv_goto hx hb d_SeriesVaultLaw_law_904 (tgt := 1770) rfl ?_
  refine lv_iinc (k := 2) (v := nI (i + 6)) hx hb d_SeriesVaultLaw_law_1770 hl rfl (iincN (i) 6 6 (by decide)) (by decide) rfl (fun ls hl => ?_)
  have hl : lv_has ls 8 [(4, .int (nI (i + 6))), (6, .int 1), (5, .int 0), (3, .ref o), (2, .ref mm), (1, .ref h), (0, .ref b)] := hl
  refine lv_goto hx hb d_SeriesVaultLaw_law_1773 (tgt := 23) rfl ?_
  have hP := pmP (show List.Perm (α := Nat × va_E) (([(o, .inl (dA 2, 1, .inr (.inl (va_up og 0 v9))))] : va_W) ++ (VW dA h ad u8 ++ (MW dA mm mad M1))) (MW dA mm mad M1 ++ (([(o, .inl (dA 2, 1, .inr (.inl (va_up og 0 v9))))] : va_W) ++ (VW dA h ad u8))) from (List.Perm.append_left (([(o, .inl (dA 2, 1, .inr (.inl (va_up og 0 v9))))] : va_W)) (List.perm_append_comm)).trans (List.perm_append_comm_assoc (([(o, .inl (dA 2, 1, .inr (.inl (va_up og 0 v9))))] : va_W)) (MW dA mm mad M1) (VW dA h ad u8))) hP
  have hD := pmD (show List.Perm (α := Nat × va_E) (([(o, .inl (dA 2, 1, .inr (.inl (va_up og 0 v9))))] : va_W) ++ (VW dA h ad u8 ++ (MW dA mm mad M1))) (MW dA mm mad M1 ++ (([(o, .inl (dA 2, 1, .inr (.inl (va_up og 0 v9))))] : va_W) ++ (VW dA h ad u8))) from (List.Perm.append_left (([(o, .inl (dA 2, 1, .inr (.inl (va_up og 0 v9))))] : va_W)) (List.perm_append_comm)).trans (List.perm_append_comm_assoc (([(o, .inl (dA 2, 1, .inr (.inl (va_up og 0 v9))))] : va_W)) (MW dA mm mad M1) (VW dA h ad u8))) hD
  have hP : va_P D vwCl (MW dA mm mad M1 ++ (([(o, .inl (dA 2, 1, .inr (.inl (va_up og 0 v9))))] : va_W) ++ (VW dA h ad u8))) H := hP
  have hD : va_D A (MW dA mm mad M1 ++ (([(o, .inl (dA 2, 1, .inr (.inl (va_up og 0 v9))))] : va_W) ++ (VW dA h ad u8))) := hD
  have hl := lv_sub (l' := [(4, .int (nI (i + 6))), (3, .ref o), (2, .ref mm), (1, .ref h), (0, .ref b)]) hl [0, 3, 4, 5, 6] rfl
  exact cont u8 H locs ls hf9 hP hD hS hl
theorem d_SeriesVaultLaw_law_897 : decode code 897 = .ok (.lconst 0, 1) := by decide +kernel
set_option maxHeartbeats 4000000 in
set_option maxRecDepth 100000 in
theorem l9_9_0 {p : Program} {e : Env} {s : State} {m : MethodId} {below : List Frame} {meth : Method} {c : Code} (l : Launch) {b L : Nat} {xs : Nat → Int32} {D : va_G} {dA : Nat → ClassId} {e0 : Nat} {A : Nat → Prop} {H : Heap} {locs : List Loc} {ls : Array Slot} (hC : lS p l s m meth c b L xs D dA e0 A) {h : Nat} {ad : Nat → Nat} {x : VS} {mm : Nat} {mad : Nat → Nat} {M M1 : MS} {o : Nat} {og : Nat → Int64} {i fr1 lo1 fr2 lo2 mc9 ms9 cells slots : Nat} {F9 : VS → Prop} {v9 : Int64} (hi : i + 6 ≤ L) (hL : L ≤ 3072) (hfr : fr1 ≤ 2000 ∧ lo1 ≤ 80000 ∧ fr2 ≤ 2000 ∧ lo2 ≤ 80000) (hrm : cells + mc9 ≤ 601024 ∧ slots + ms9 ≤ 7293034) (hcod : M1.cod = 0) (hv : v9 = 0) (hW : ∀ sz : Nat, Met l ⟨"SeriesVaultLaw", "sync", "(LSeriesVault;[J)I"⟩ [Cond.codeWith ⟨"SeriesVaultLaw", "sync", "(LSeriesVault;[J)I"⟩ method_12_code 3 (some FieldType.int) [(0, 15, 18, 29)]] { frames := fr1, cells := mc9, slots := ms9, locals := lo1 } (pC D dA [.ref h, .ref o] (([(o, .inl (dA 2, 1, .inr (.inl og)))] : va_W) ++ (VW dA h ad x)) sz) (va_Qi (fun (r9 : Int32) (u9 : VS) => r9 = 0 ∧ F9 u9) (fun (u9 : VS) t9 => bW D (va_A (([(o, .inl (dA 2, 1, .inr (.inl og)))] : va_W) ++ (VW dA h ad x)) sz) (([(o, .inl (dA 2, 1, .inr (.inl (va_up og 0 v9))))] : va_W) ++ (VW dA h ad u9)) t9) (va_A (([(o, .inl (dA 2, 1, .inr (.inl og)))] : va_W) ++ (VW dA h ad x)) sz)) mc9 ms9 (va_A (([(o, .inl (dA 2, 1, .inr (.inl og)))] : va_W) ++ (VW dA h ad x)) sz)) (hM : ∀ sz : Nat, Met l ⟨"SeriesVaultModel", "sync", "()Z"⟩ [Cond.code ⟨"SeriesVaultModel", "sync", "()Z"⟩ prog_14_method_43_code 2 (some FieldType.boolean)] { frames := fr2, cells := 0, slots := 0, locals := lo2 } (pC D dA [.ref mm] (MW dA mm mad M) sz) (va_Qi (fun (r9 : Int32) (u9 : Unit) => r9 = 0) (fun (u9 : Unit) t9 => bW D (va_A (MW dA mm mad M) sz) (MW dA mm mad M1) t9) (va_A (MW dA mm mad M) sz)) 0 0 (va_A (MW dA mm mad M) sz)) (hP : va_P D vwCl (MW dA mm mad M ++ (([(o, .inl (dA 2, 1, .inr (.inl og)))] : va_W) ++ (VW dA h ad x))) H) (hD : va_D A (MW dA mm mad M ++ (([(o, .inl (dA 2, 1, .inr (.inl og)))] : va_W) ++ (VW dA h ad x)))) (hS : va_S A s.heap H locs) (hl : lv_has ls 8 [(4, .int (nI i)), (3, .ref o), (2, .ref mm), (1, .ref h), (0, .ref b)]) (cont : ∀ (u : VS) (H1 : Heap) (locs1 : List Loc) (ls1 : Array Slot), F9 u → va_P D vwCl (MW dA mm mad M1 ++ (([(o, .inl (dA 2, 1, .inr (.inl (va_up og 0 v9))))] : va_W) ++ (VW dA h ad u))) H1 → va_D A (MW dA mm mad M1 ++ (([(o, .inl (dA 2, 1, .inr (.inl (va_up og 0 v9))))] : va_W) ++ (VW dA h ad u))) → va_S A s.heap H1 locs1 → lv_has ls1 8 [(4, .int (nI (i + 6))), (3, .ref o), (2, .ref mm), (1, .ref h), (0, .ref b)] → W p l e room_1 s m #[Value.ref b] below meth c H1 locs1 (cells + mc9 + 0 + 0) (slots + ms9 + 0 + 0) (lw_Z below #[Value.ref b] s) (F0 m 23 ls1 [])) : W p l e room_1 s m #[Value.ref b] below meth c H locs cells slots (lw_Z below #[Value.ref b] s) (F0 m 856 ls []) := by
  have hC0 := hC
  obtain ⟨hx, hb, hr, hml, hown, hlk, hE, hK, hA, hN, hZ, hT, hX, hbl, hbA, hnew, htr⟩ := hC
  refine lv_aload_n hx hb d_SeriesVaultLaw_law_856 rfl (lv_at hl 3 rfl) ?_
  refine lv_aload_n hx hb d_SeriesVaultLaw_law_857 rfl (lv_at hl 1 rfl) ?_
  have hPc : va_P D vwCl (([(o, .inl (dA 2, 1, .inr (.inl og)))] : va_W) ++ (VW dA h ad x)) H := spP (wr := MW dA mm mad M) hP
  have hDc : va_D A (([(o, .inl (dA 2, 1, .inr (.inl og)))] : va_W) ++ (VW dA h ad x)) := spD (wr := MW dA mm mad M) hD
  refine jkI (wr := MW dA mm mad M) (rnW (As := [.ref h, .ref o]) (rest := []) hx hb hml hown hE hK (hN _ _ hS) hPc hDc (hW H.size) w1862 w1861 w1863 w1793 rfl rfl ⟨⟨by decide, by decide⟩, rfl⟩ ⟨(show fr1 + 1 ≤ 2048 by omega), (show 8 + (3 + 11) + lo1 ≤ 84000 by omega)⟩ rfl hl.1 rfl (Nat.le_of_ble_eq_true rfl) d_SeriesVaultLaw_law_858 ⟨(show cells + mc9 ≤ 601024 by omega), (show slots + ms9 ≤ 7293034 by omega)⟩) hP hD hS hA (fun k8 u8 H locs hp9 hP hD hS => ?_)
  obtain ⟨hp9, hf9⟩ := hp9
  replace hp9 : 0 = k8 := Eq.symm hp9
  subst hp9
  have hP : va_P D vwCl (MW dA mm mad M ++ (([(o, .inl (dA 2, 1, .inr (.inl (va_up og 0 v9))))] : va_W) ++ (VW dA h ad u8))) H := hP
  have hD : va_D A (MW dA mm mad M ++ (([(o, .inl (dA 2, 1, .inr (.inl (va_up og 0 v9))))] : va_W) ++ (VW dA h ad u8))) := hD
  refine lv_istore hx hb d_SeriesVaultLaw_law_861 hl (by decide) rfl (fun ls hl => ?_)
  have hl : lv_has ls 8 [(5, .int 0), (4, .int (nI i)), (3, .ref o), (2, .ref mm), (1, .ref h), (0, .ref b)] := hl
  refine lv_aload_n hx hb d_SeriesVaultLaw_law_863 rfl (lv_at hl 3 rfl) ?_
  have hP := pmP (show List.Perm (α := Nat × va_E) (MW dA mm mad M ++ (([(o, .inl (dA 2, 1, .inr (.inl (va_up og 0 v9))))] : va_W) ++ (VW dA h ad u8))) (([(o, .inl (dA 2, 1, .inr (.inl (va_up og 0 v9))))] : va_W) ++ (MW dA mm mad M ++ (VW dA h ad u8))) from List.perm_append_comm_assoc (MW dA mm mad M) (([(o, .inl (dA 2, 1, .inr (.inl (va_up og 0 v9))))] : va_W)) (VW dA h ad u8)) hP
  have hD := pmD (show List.Perm (α := Nat × va_E) (MW dA mm mad M ++ (([(o, .inl (dA 2, 1, .inr (.inl (va_up og 0 v9))))] : va_W) ++ (VW dA h ad u8))) (([(o, .inl (dA 2, 1, .inr (.inl (va_up og 0 v9))))] : va_W) ++ (MW dA mm mad M ++ (VW dA h ad u8))) from List.perm_append_comm_assoc (MW dA mm mad M) (([(o, .inl (dA 2, 1, .inr (.inl (va_up og 0 v9))))] : va_W)) (VW dA h ad u8)) hD
  have hP := pmP (show List.Perm (α := Nat × va_E) (([(o, .inl (dA 2, 1, .inr (.inl (va_up og 0 v9))))] : va_W) ++ (MW dA mm mad M ++ (VW dA h ad u8))) (([(o, .inl (dA 2, 1, .inr (.inl (va_up og 0 v9))))] : va_W) ++ (VW dA h ad u8 ++ (MW dA mm mad M))) from List.Perm.append_left (([(o, .inl (dA 2, 1, .inr (.inl (va_up og 0 v9))))] : va_W)) (List.perm_append_comm)) hP
  have hD := pmD (show List.Perm (α := Nat × va_E) (([(o, .inl (dA 2, 1, .inr (.inl (va_up og 0 v9))))] : va_W) ++ (MW dA mm mad M ++ (VW dA h ad u8))) (([(o, .inl (dA 2, 1, .inr (.inl (va_up og 0 v9))))] : va_W) ++ (VW dA h ad u8 ++ (MW dA mm mad M))) from List.Perm.append_left (([(o, .inl (dA 2, 1, .inr (.inl (va_up og 0 v9))))] : va_W)) (List.perm_append_comm)) hD
  have hPc : va_P D vwCl (MW dA mm mad M) H := spP (wr := ([(o, .inl (dA 2, 1, .inr (.inl (va_up og 0 v9))))] : va_W) ++ (VW dA h ad u8)) hP
  have hDc : va_D A (MW dA mm mad M) := spD (wr := ([(o, .inl (dA 2, 1, .inr (.inl (va_up og 0 v9))))] : va_W) ++ (VW dA h ad u8)) hD
  refine jkI (wr := ([(o, .inl (dA 2, 1, .inr (.inl (va_up og 0 v9))))] : va_W) ++ (VW dA h ad u8)) (rnV (As := []) (rest := []) hx hb hml hown hE hK (hN _ _ hS) hPc hDc (hM H.size) (q0 := 0) rfl rfl w1865 w1864 w1866 w1867 w328 rfl rfl ⟨⟨by decide, by decide⟩, rfl⟩ ⟨(show fr2 + 1 ≤ 2048 by omega), (show 8 + (2 + 11) + lo2 ≤ 84000 by omega)⟩ rfl hl.1 rfl (Nat.le_of_ble_eq_true rfl) d_SeriesVaultLaw_law_864 ⟨(show cells + mc9 + 0 ≤ 601024 by omega), (show slots + ms9 + 0 ≤ 7293034 by omega)⟩) hP hD hS hA (fun r7 u7 H locs hp9 hP hD hS => ?_)
  replace hp9 : 0 = r7 := Eq.symm hp9
  subst hp9
  have hP : va_P D vwCl (([(o, .inl (dA 2, 1, .inr (.inl (va_up og 0 v9))))] : va_W) ++ (VW dA h ad u8 ++ (MW dA mm mad M1))) H := hP
  have hD : va_D A (([(o, .inl (dA 2, 1, .inr (.inl (va_up og 0 v9))))] : va_W) ++ (VW dA h ad u8 ++ (MW dA mm mad M1))) := hD
  refine lv_istore hx hb d_SeriesVaultLaw_law_867 hl (by decide) rfl (fun ls hl => ?_)
  have hl : lv_has ls 8 [(6, .int 0), (5, .int 0), (4, .int (nI i)), (3, .ref o), (2, .ref mm), (1, .ref h), (0, .ref b)] := hl
  refine lv_aload_n hx hb d_SeriesVaultLaw_law_869 rfl (lv_at hl 4 rfl) ?_
  have hPc : va_P D vwCl (MW dA mm mad M1) H := spP (wr := ([(o, .inl (dA 2, 1, .inr (.inl (va_up og 0 v9))))] : va_W) ++ (VW dA h ad u8)) hP
  have hDc : va_D A (MW dA mm mad M1) := spD (wr := ([(o, .inl (dA 2, 1, .inr (.inl (va_up og 0 v9))))] : va_W) ++ (VW dA h ad u8)) hD
  refine jkI (wr := ([(o, .inl (dA 2, 1, .inr (.inl (va_up og 0 v9))))] : va_W) ++ (VW dA h ad u8)) (rnV (As := []) (rest := []) hx hb hml hown hE hK (hN _ _ hS) hPc hDc (k_thrown l D dA H.size mm mad M1) (q0 := 0) rfl rfl w1801 w1800 w1802 w1803 w328 rfl rfl ⟨⟨by decide, by decide⟩, rfl⟩ ⟨(show 1 + 1 ≤ 2048 by omega), (show 8 + (1 + 11) + 0 ≤ 84000 by omega)⟩ rfl hl.1 rfl (Nat.le_of_ble_eq_true rfl) d_SeriesVaultLaw_law_870 ⟨(show cells + mc9 + 0 ≤ 601024 by omega), (show slots + ms9 + 0 ≤ 7293034 by omega)⟩) hP hD hS hA (fun r7 u7 H locs hp9 hP hD hS => ?_)
  replace hp9 : 0 = r7 := Eq.symm (hp9.trans hcod)
  subst hp9
  have hP : va_P D vwCl (([(o, .inl (dA 2, 1, .inr (.inl (va_up og 0 v9))))] : va_W) ++ (VW dA h ad u8 ++ (MW dA mm mad M1))) H := hP
  have hD : va_D A (([(o, .inl (dA 2, 1, .inr (.inl (va_up og 0 v9))))] : va_W) ++ (VW dA h ad u8 ++ (MW dA mm mad M1))) := hD
  refine lv_iload hx hb d_SeriesVaultLaw_law_873 (lv_at hl 1 rfl) ?_
  refine lv_icmp_eq hx hb d_SeriesVaultLaw_law_875 (tgt := 880) rfl (fun _ => ?_) (fun h9 => absurd rfl h9)
  refine lv_iload hx hb d_SeriesVaultLaw_law_880 (lv_at hl 1 rfl) ?_
  refine lv_if_ne hx hb d_SeriesVaultLaw_law_882 (tgt := 904) rfl (fun h9 => absurd (by decide) h9) (fun _ => ?_)
  refine lv_aload_n hx hb d_SeriesVaultLaw_law_885 rfl (lv_at hl 3 rfl) ?_
  refine lv_iconst (v := 0) hx hb d_SeriesVaultLaw_law_886 (by decide) ?_
  refine nlld (f := (va_up og 0 v9)) (n := 1) hx hb hK hP (0) 2 rfl rfl (0) (by decide) (by decide) d_SeriesVaultLaw_law_887 ?_
  refine tpl (y := v9) (va_up_self _ _ _) ?_
  refine lv_iload hx hb d_SeriesVaultLaw_law_888 (lv_at hl 0 rfl) ?_
  refine lv_if_eq hx hb d_SeriesVaultLaw_law_890 (tgt := 897) rfl (fun _ => ?_) (fun h9 => absurd (by decide) h9)
  refine lv_lconst (v := 0) hx hb d_SeriesVaultLaw_law_897 (by decide) ?_
  refine W.lcmp hx hb d_SeriesVaultLaw_law_898 ?_
  refine lv_if_eq hx hb d_SeriesVaultLaw_law_899 (tgt := 904) rfl (fun _ => ?_) (fun h9 => absurd ((lg_cmp_eq _ _).mpr hv) h9)
  refine lv_goto hx hb d_SeriesVaultLaw_law_904 (tgt := 1770) rfl ?_
  refine lv_iinc (k := 2) (v := nI (i + 6)) hx hb d_SeriesVaultLaw_law_1770 hl rfl (iincN (i) 6 6 (by decide)) (by decide) rfl (fun ls hl => ?_)
  have hl : lv_has ls 8 [(4, .int (nI (i + 6))), (6, .int 0), (5, .int 0), (3, .ref o), (2, .ref mm), (1, .ref h), (0, .ref b)] := hl
  refine lv_goto hx hb d_SeriesVaultLaw_law_1773 (tgt := 23) rfl ?_
  have hP := pmP (show List.Perm (α := Nat × va_E) (([(o, .inl (dA 2, 1, .inr (.inl (va_up og 0 v9))))] : va_W) ++ (VW dA h ad u8 ++ (MW dA mm mad M1))) (MW dA mm mad M1 ++ (([(o, .inl (dA 2, 1, .inr (.inl (va_up og 0 v9))))] : va_W) ++ (VW dA h ad u8))) from (List.Perm.append_left (([(o, .inl (dA 2, 1, .inr (.inl (va_up og 0 v9))))] : va_W)) (List.perm_append_comm)).trans (List.perm_append_comm_assoc (([(o, .inl (dA 2, 1, .inr (.inl (va_up og 0 v9))))] : va_W)) (MW dA mm mad M1) (VW dA h ad u8))) hP
  have hD := pmD (show List.Perm (α := Nat × va_E) (([(o, .inl (dA 2, 1, .inr (.inl (va_up og 0 v9))))] : va_W) ++ (VW dA h ad u8 ++ (MW dA mm mad M1))) (MW dA mm mad M1 ++ (([(o, .inl (dA 2, 1, .inr (.inl (va_up og 0 v9))))] : va_W) ++ (VW dA h ad u8))) from (List.Perm.append_left (([(o, .inl (dA 2, 1, .inr (.inl (va_up og 0 v9))))] : va_W)) (List.perm_append_comm)).trans (List.perm_append_comm_assoc (([(o, .inl (dA 2, 1, .inr (.inl (va_up og 0 v9))))] : va_W)) (MW dA mm mad M1) (VW dA h ad u8))) hD
  have hP : va_P D vwCl (MW dA mm mad M1 ++ (([(o, .inl (dA 2, 1, .inr (.inl (va_up og 0 v9))))] : va_W) ++ (VW dA h ad u8))) H := hP
  have hD : va_D A (MW dA mm mad M1 ++ (([(o, .inl (dA 2, 1, .inr (.inl (va_up og 0 v9))))] : va_W) ++ (VW dA h ad u8))) := hD
  have hl := lv_sub (l' := [(4, .int (nI (i + 6))), (3, .ref o), (2, .ref mm), (1, .ref h), (0, .ref b)]) hl [0, 3, 4, 5, 6] rfl
  exact cont u8 H locs ls hf9 hP hD hS hl
set_option maxHeartbeats 4000000 in
set_option maxRecDepth 100000 in
theorem l9_9_x {p : Program} {e : Env} {s : State} {m : MethodId} {below : List Frame} {meth : Method} {c : Code} (l : Launch) {b L : Nat} {xs : Nat → Int32} {D : va_G} {dA : Nat → ClassId} {e0 : Nat} {A : Nat → Prop} {H : Heap} {locs : List Loc} {ls : Array Slot} (hC : lS p l s m meth c b L xs D dA e0 A) {h : Nat} {ad : Nat → Nat} {x : VS} {mm : Nat} {mad : Nat → Nat} {M M1 : MS} {o : Nat} {og : Nat → Int64} {i fr1 lo1 fr2 lo2 mc9 ms9 cells slots : Nat} {F9 : VS → Prop} {b9 : Bool} {k9 : Nat} (hi : i + 6 ≤ L) (hL : L ≤ 3072) (hfr : fr1 ≤ 2000 ∧ lo1 ≤ 80000 ∧ fr2 ≤ 2000 ∧ lo2 ≤ 80000) (hrm : cells + mc9 ≤ 601024 ∧ slots + ms9 ≤ 7293034) (hcod : M1.cod = nI k9) (hk9 : ¬ nI k9 = 0) (hW : ∀ sz : Nat, Met l ⟨"SeriesVaultLaw", "sync", "(LSeriesVault;[J)I"⟩ [Cond.codeWith ⟨"SeriesVaultLaw", "sync", "(LSeriesVault;[J)I"⟩ method_12_code 3 (some FieldType.int) [(0, 15, 18, 29)]] { frames := fr1, cells := mc9, slots := ms9, locals := lo1 } (pC D dA [.ref h, .ref o] (([(o, .inl (dA 2, 1, .inr (.inl og)))] : va_W) ++ (VW dA h ad x)) sz) (va_Qi (fun (r9 : Int32) (u9 : VS) => r9 = nI k9 ∧ F9 u9) (fun (u9 : VS) t9 => bW D (va_A (([(o, .inl (dA 2, 1, .inr (.inl og)))] : va_W) ++ (VW dA h ad x)) sz) (([(o, .inl (dA 2, 1, .inr (.inl (og))))] : va_W) ++ (VW dA h ad u9)) t9) (va_A (([(o, .inl (dA 2, 1, .inr (.inl og)))] : va_W) ++ (VW dA h ad x)) sz)) mc9 ms9 (va_A (([(o, .inl (dA 2, 1, .inr (.inl og)))] : va_W) ++ (VW dA h ad x)) sz)) (hM : ∀ sz : Nat, Met l ⟨"SeriesVaultModel", "sync", "()Z"⟩ [Cond.code ⟨"SeriesVaultModel", "sync", "()Z"⟩ prog_14_method_43_code 2 (some FieldType.boolean)] { frames := fr2, cells := 0, slots := 0, locals := lo2 } (pC D dA [.ref mm] (MW dA mm mad M) sz) (va_Qi (fun (r9 : Int32) (u9 : Unit) => r9 = bI b9) (fun (u9 : Unit) t9 => bW D (va_A (MW dA mm mad M) sz) (MW dA mm mad M1) t9) (va_A (MW dA mm mad M) sz)) 0 0 (va_A (MW dA mm mad M) sz)) (hP : va_P D vwCl (MW dA mm mad M ++ (([(o, .inl (dA 2, 1, .inr (.inl og)))] : va_W) ++ (VW dA h ad x))) H) (hD : va_D A (MW dA mm mad M ++ (([(o, .inl (dA 2, 1, .inr (.inl og)))] : va_W) ++ (VW dA h ad x)))) (hS : va_S A s.heap H locs) (hl : lv_has ls 8 [(4, .int (nI i)), (3, .ref o), (2, .ref mm), (1, .ref h), (0, .ref b)]) (cont : ∀ (u : VS) (H1 : Heap) (locs1 : List Loc) (ls1 : Array Slot), F9 u → va_P D vwCl (MW dA mm mad M1 ++ (([(o, .inl (dA 2, 1, .inr (.inl og)))] : va_W) ++ (VW dA h ad u))) H1 → va_D A (MW dA mm mad M1 ++ (([(o, .inl (dA 2, 1, .inr (.inl og)))] : va_W) ++ (VW dA h ad u))) → va_S A s.heap H1 locs1 → lv_has ls1 8 [(4, .int (nI (i + 6))), (3, .ref o), (2, .ref mm), (1, .ref h), (0, .ref b)] → W p l e room_1 s m #[Value.ref b] below meth c H1 locs1 (cells + mc9 + 0 + 0) (slots + ms9 + 0 + 0) (lw_Z below #[Value.ref b] s) (F0 m 23 ls1 [])) : W p l e room_1 s m #[Value.ref b] below meth c H locs cells slots (lw_Z below #[Value.ref b] s) (F0 m 856 ls []) := by
  have hC0 := hC
  obtain ⟨hx, hb, hr, hml, hown, hlk, hE, hK, hA, hN, hZ, hT, hX, hbl, hbA, hnew, htr⟩ := hC
  refine lv_aload_n hx hb d_SeriesVaultLaw_law_856 rfl (lv_at hl 3 rfl) ?_
  refine lv_aload_n hx hb d_SeriesVaultLaw_law_857 rfl (lv_at hl 1 rfl) ?_
  have hPc : va_P D vwCl (([(o, .inl (dA 2, 1, .inr (.inl og)))] : va_W) ++ (VW dA h ad x)) H := spP (wr := MW dA mm mad M) hP
  have hDc : va_D A (([(o, .inl (dA 2, 1, .inr (.inl og)))] : va_W) ++ (VW dA h ad x)) := spD (wr := MW dA mm mad M) hD
  refine jkI (wr := MW dA mm mad M) (rnW (As := [.ref h, .ref o]) (rest := []) hx hb hml hown hE hK (hN _ _ hS) hPc hDc (hW H.size) w1862 w1861 w1863 w1793 rfl rfl ⟨⟨by decide, by decide⟩, rfl⟩ ⟨(show fr1 + 1 ≤ 2048 by omega), (show 8 + (3 + 11) + lo1 ≤ 84000 by omega)⟩ rfl hl.1 rfl (Nat.le_of_ble_eq_true rfl) d_SeriesVaultLaw_law_858 ⟨(show cells + mc9 ≤ 601024 by omega), (show slots + ms9 ≤ 7293034 by omega)⟩) hP hD hS hA (fun k8 u8 H locs hp9 hP hD hS => ?_)
  obtain ⟨hp9, hf9⟩ := hp9
  replace hp9 : nI k9 = k8 := Eq.symm hp9
  subst hp9
  have hP : va_P D vwCl (MW dA mm mad M ++ (([(o, .inl (dA 2, 1, .inr (.inl og)))] : va_W) ++ (VW dA h ad u8))) H := hP
  have hD : va_D A (MW dA mm mad M ++ (([(o, .inl (dA 2, 1, .inr (.inl og)))] : va_W) ++ (VW dA h ad u8))) := hD
  refine lv_istore hx hb d_SeriesVaultLaw_law_861 hl (by decide) rfl (fun ls hl => ?_)
  have hl : lv_has ls 8 [(5, .int (nI k9)), (4, .int (nI i)), (3, .ref o), (2, .ref mm), (1, .ref h), (0, .ref b)] := hl
  refine lv_aload_n hx hb d_SeriesVaultLaw_law_863 rfl (lv_at hl 3 rfl) ?_
  have hP := pmP (show List.Perm (α := Nat × va_E) (MW dA mm mad M ++ (([(o, .inl (dA 2, 1, .inr (.inl og)))] : va_W) ++ (VW dA h ad u8))) (([(o, .inl (dA 2, 1, .inr (.inl og)))] : va_W) ++ (MW dA mm mad M ++ (VW dA h ad u8))) from List.perm_append_comm_assoc (MW dA mm mad M) (([(o, .inl (dA 2, 1, .inr (.inl og)))] : va_W)) (VW dA h ad u8)) hP
  have hD := pmD (show List.Perm (α := Nat × va_E) (MW dA mm mad M ++ (([(o, .inl (dA 2, 1, .inr (.inl og)))] : va_W) ++ (VW dA h ad u8))) (([(o, .inl (dA 2, 1, .inr (.inl og)))] : va_W) ++ (MW dA mm mad M ++ (VW dA h ad u8))) from List.perm_append_comm_assoc (MW dA mm mad M) (([(o, .inl (dA 2, 1, .inr (.inl og)))] : va_W)) (VW dA h ad u8)) hD
  have hP := pmP (show List.Perm (α := Nat × va_E) (([(o, .inl (dA 2, 1, .inr (.inl og)))] : va_W) ++ (MW dA mm mad M ++ (VW dA h ad u8))) (([(o, .inl (dA 2, 1, .inr (.inl og)))] : va_W) ++ (VW dA h ad u8 ++ (MW dA mm mad M))) from List.Perm.append_left (([(o, .inl (dA 2, 1, .inr (.inl og)))] : va_W)) (List.perm_append_comm)) hP
  have hD := pmD (show List.Perm (α := Nat × va_E) (([(o, .inl (dA 2, 1, .inr (.inl og)))] : va_W) ++ (MW dA mm mad M ++ (VW dA h ad u8))) (([(o, .inl (dA 2, 1, .inr (.inl og)))] : va_W) ++ (VW dA h ad u8 ++ (MW dA mm mad M))) from List.Perm.append_left (([(o, .inl (dA 2, 1, .inr (.inl og)))] : va_W)) (List.perm_append_comm)) hD
  have hPc : va_P D vwCl (MW dA mm mad M) H := spP (wr := ([(o, .inl (dA 2, 1, .inr (.inl og)))] : va_W) ++ (VW dA h ad u8)) hP
  have hDc : va_D A (MW dA mm mad M) := spD (wr := ([(o, .inl (dA 2, 1, .inr (.inl og)))] : va_W) ++ (VW dA h ad u8)) hD
  refine jkI (wr := ([(o, .inl (dA 2, 1, .inr (.inl og)))] : va_W) ++ (VW dA h ad u8)) (rnV (As := []) (rest := []) hx hb hml hown hE hK (hN _ _ hS) hPc hDc (hM H.size) (q0 := 0) rfl rfl w1865 w1864 w1866 w1867 w328 rfl rfl ⟨⟨by decide, by decide⟩, rfl⟩ ⟨(show fr2 + 1 ≤ 2048 by omega), (show 8 + (2 + 11) + lo2 ≤ 84000 by omega)⟩ rfl hl.1 rfl (Nat.le_of_ble_eq_true rfl) d_SeriesVaultLaw_law_864 ⟨(show cells + mc9 + 0 ≤ 601024 by omega), (show slots + ms9 + 0 ≤ 7293034 by omega)⟩) hP hD hS hA (fun r7 u7 H locs hp9 hP hD hS => ?_)
  replace hp9 : bI b9 = r7 := Eq.symm hp9
  subst hp9
  have hP : va_P D vwCl (([(o, .inl (dA 2, 1, .inr (.inl og)))] : va_W) ++ (VW dA h ad u8 ++ (MW dA mm mad M1))) H := hP
  have hD : va_D A (([(o, .inl (dA 2, 1, .inr (.inl og)))] : va_W) ++ (VW dA h ad u8 ++ (MW dA mm mad M1))) := hD
  refine lv_istore hx hb d_SeriesVaultLaw_law_867 hl (by decide) rfl (fun ls hl => ?_)
  have hl : lv_has ls 8 [(6, .int (bI b9)), (5, .int (nI k9)), (4, .int (nI i)), (3, .ref o), (2, .ref mm), (1, .ref h), (0, .ref b)] := hl
  refine lv_aload_n hx hb d_SeriesVaultLaw_law_869 rfl (lv_at hl 4 rfl) ?_
  have hPc : va_P D vwCl (MW dA mm mad M1) H := spP (wr := ([(o, .inl (dA 2, 1, .inr (.inl og)))] : va_W) ++ (VW dA h ad u8)) hP
  have hDc : va_D A (MW dA mm mad M1) := spD (wr := ([(o, .inl (dA 2, 1, .inr (.inl og)))] : va_W) ++ (VW dA h ad u8)) hD
  refine jkI (wr := ([(o, .inl (dA 2, 1, .inr (.inl og)))] : va_W) ++ (VW dA h ad u8)) (rnV (As := []) (rest := []) hx hb hml hown hE hK (hN _ _ hS) hPc hDc (k_thrown l D dA H.size mm mad M1) (q0 := 0) rfl rfl w1801 w1800 w1802 w1803 w328 rfl rfl ⟨⟨by decide, by decide⟩, rfl⟩ ⟨(show 1 + 1 ≤ 2048 by omega), (show 8 + (1 + 11) + 0 ≤ 84000 by omega)⟩ rfl hl.1 rfl (Nat.le_of_ble_eq_true rfl) d_SeriesVaultLaw_law_870 ⟨(show cells + mc9 + 0 ≤ 601024 by omega), (show slots + ms9 + 0 ≤ 7293034 by omega)⟩) hP hD hS hA (fun r7 u7 H locs hp9 hP hD hS => ?_)
  replace hp9 : nI k9 = r7 := Eq.symm (hp9.trans hcod)
  subst hp9
  have hP : va_P D vwCl (([(o, .inl (dA 2, 1, .inr (.inl og)))] : va_W) ++ (VW dA h ad u8 ++ (MW dA mm mad M1))) H := hP
  have hD : va_D A (([(o, .inl (dA 2, 1, .inr (.inl og)))] : va_W) ++ (VW dA h ad u8 ++ (MW dA mm mad M1))) := hD
  refine lv_iload hx hb d_SeriesVaultLaw_law_873 (lv_at hl 1 rfl) ?_
  refine lv_icmp_eq hx hb d_SeriesVaultLaw_law_875 (tgt := 880) rfl (fun _ => ?_) (fun h9 => absurd rfl h9)
  refine lv_iload hx hb d_SeriesVaultLaw_law_880 (lv_at hl 1 rfl) ?_
  refine lv_if_ne hx hb d_SeriesVaultLaw_law_882 (tgt := 904) rfl (fun _ => ?_) (fun h9 => absurd h9 hk9)
  refine lv_goto hx hb d_SeriesVaultLaw_law_904 (tgt := 1770) rfl ?_
  refine lv_iinc (k := 2) (v := nI (i + 6)) hx hb d_SeriesVaultLaw_law_1770 hl rfl (iincN (i) 6 6 (by decide)) (by decide) rfl (fun ls hl => ?_)
  have hl : lv_has ls 8 [(4, .int (nI (i + 6))), (6, .int (bI b9)), (5, .int (nI k9)), (3, .ref o), (2, .ref mm), (1, .ref h), (0, .ref b)] := hl
  refine lv_goto hx hb d_SeriesVaultLaw_law_1773 (tgt := 23) rfl ?_
  have hP := pmP (show List.Perm (α := Nat × va_E) (([(o, .inl (dA 2, 1, .inr (.inl og)))] : va_W) ++ (VW dA h ad u8 ++ (MW dA mm mad M1))) (MW dA mm mad M1 ++ (([(o, .inl (dA 2, 1, .inr (.inl og)))] : va_W) ++ (VW dA h ad u8))) from (List.Perm.append_left (([(o, .inl (dA 2, 1, .inr (.inl og)))] : va_W)) (List.perm_append_comm)).trans (List.perm_append_comm_assoc (([(o, .inl (dA 2, 1, .inr (.inl og)))] : va_W)) (MW dA mm mad M1) (VW dA h ad u8))) hP
  have hD := pmD (show List.Perm (α := Nat × va_E) (([(o, .inl (dA 2, 1, .inr (.inl og)))] : va_W) ++ (VW dA h ad u8 ++ (MW dA mm mad M1))) (MW dA mm mad M1 ++ (([(o, .inl (dA 2, 1, .inr (.inl og)))] : va_W) ++ (VW dA h ad u8))) from (List.Perm.append_left (([(o, .inl (dA 2, 1, .inr (.inl og)))] : va_W)) (List.perm_append_comm)).trans (List.perm_append_comm_assoc (([(o, .inl (dA 2, 1, .inr (.inl og)))] : va_W)) (MW dA mm mad M1) (VW dA h ad u8))) hD
  have hP : va_P D vwCl (MW dA mm mad M1 ++ (([(o, .inl (dA 2, 1, .inr (.inl og)))] : va_W) ++ (VW dA h ad u8))) H := hP
  have hD : va_D A (MW dA mm mad M1 ++ (([(o, .inl (dA 2, 1, .inr (.inl og)))] : va_W) ++ (VW dA h ad u8))) := hD
  have hl := lv_sub (l' := [(4, .int (nI (i + 6))), (3, .ref o), (2, .ref mm), (1, .ref h), (0, .ref b)]) hl [0, 3, 4, 5, 6] rfl
  exact cont u8 H locs ls hf9 hP hD hS hl
theorem d_SeriesVaultLaw_law_907 : decode code 907 = .ok (.aload_n 1, 1) := by decide +kernel
theorem d_SeriesVaultLaw_law_908 : decode code 908 = .ok (.aload_n 3, 1) := by decide +kernel
theorem d_SeriesVaultLaw_law_909 : decode code 909 = .ok (.invokestatic 148, 3) := by decide +kernel
theorem d_SeriesVaultLaw_law_912 : decode code 912 = .ok (.istore 5, 2) := by decide +kernel
theorem d_SeriesVaultLaw_law_914 : decode code 914 = .ok (.aload_n 2, 1) := by decide +kernel
theorem d_SeriesVaultLaw_law_915 : decode code 915 = .ok (.invokevirtual 150, 3) := by decide +kernel
theorem d_SeriesVaultLaw_law_918 : decode code 918 = .ok (.istore 6, 2) := by decide +kernel
theorem d_SeriesVaultLaw_law_920 : decode code 920 = .ok (.aload_n 2, 1) := by decide +kernel
theorem d_SeriesVaultLaw_law_921 : decode code 921 = .ok (.invokevirtual 110, 3) := by decide +kernel
theorem d_SeriesVaultLaw_law_924 : decode code 924 = .ok (.iload 5, 2) := by decide +kernel
theorem d_SeriesVaultLaw_law_926 : decode code 926 = .ok (.if_icmp .eq 5, 3) := by decide +kernel
theorem d_SeriesVaultLaw_law_931 : decode code 931 = .ok (.iload 5, 2) := by decide +kernel
theorem d_SeriesVaultLaw_law_933 : decode code 933 = .ok (.ifCond .ne 15, 3) := by decide +kernel
theorem d_SeriesVaultLaw_law_936 : decode code 936 = .ok (.aload_n 3, 1) := by decide +kernel
theorem d_SeriesVaultLaw_law_937 : decode code 937 = .ok (.iconst 0, 1) := by decide +kernel
theorem d_SeriesVaultLaw_law_938 : decode code 938 = .ok (.laload, 1) := by decide +kernel
theorem d_SeriesVaultLaw_law_939 : decode code 939 = .ok (.iload 6, 2) := by decide +kernel
theorem d_SeriesVaultLaw_law_941 : decode code 941 = .ok (.i2l, 1) := by decide +kernel
theorem d_SeriesVaultLaw_law_942 : decode code 942 = .ok (.lcmp, 1) := by decide +kernel
theorem d_SeriesVaultLaw_law_943 : decode code 943 = .ok (.ifCond .eq 5, 3) := by decide +kernel
theorem d_SeriesVaultLaw_law_948 : decode code 948 = .ok (.goto 822, 3) := by decide +kernel
theorem w1868 : Cond.methodLink "SeriesVaultLaw" 148 ⟨"SeriesVaultLaw", "flush", "(LSeriesVault;[J)I"⟩ ∈ aW := aw_of (tb_5 (List.mem_of_getElem? (i := 230) rfl)) rfl
theorem w1869 : Cond.codeWith ⟨"SeriesVaultLaw", "flush", "(LSeriesVault;[J)I"⟩ method_13_code 3 (some FieldType.int) [(0, 8, 11, 29), (0, 8, 14, 13)] ∈ aW := aw_of (tb_5 (List.mem_of_getElem? (i := 232) rfl)) rfl
theorem w1870 : Cond.static ⟨"SeriesVaultLaw", "flush", "(LSeriesVault;[J)I"⟩ ∈ aW := aw_of (tb_5 (List.mem_of_getElem? (i := 231) rfl)) rfl
theorem w1871 : Cond.methodLink "SeriesVaultLaw" 150 ⟨"SeriesVaultModel", "flush", "()I"⟩ ∈ aW := aw_of (tb_10 (List.mem_of_getElem? (i := 68) rfl)) rfl
theorem w1872 : Cond.code ⟨"SeriesVaultModel", "flush", "()I"⟩ prog_14_method_44_code 5 (some FieldType.int) ∈ aW := aw_of (tb_10 (List.mem_of_getElem? (i := 71) rfl)) rfl
theorem w1873 : Cond.instanceMethod ⟨"SeriesVaultModel", "flush", "()I"⟩ ∈ aW := aw_of (tb_10 (List.mem_of_getElem? (i := 69) rfl)) rfl
theorem w1874 : Cond.selects "SeriesVaultModel" ⟨"SeriesVaultModel", "flush", "()I"⟩ ⟨"SeriesVaultModel", "flush", "()I"⟩ ∈ aW := aw_of (tb_10 (List.mem_of_getElem? (i := 70) rfl)) rfl
set_option maxHeartbeats 4000000 in
set_option maxRecDepth 100000 in
theorem l9_10 {p : Program} {e : Env} {s : State} {m : MethodId} {below : List Frame} {meth : Method} {c : Code} (l : Launch) {b L : Nat} {xs : Nat → Int32} {D : va_G} {dA : Nat → ClassId} {e0 : Nat} {A : Nat → Prop} {H : Heap} {locs : List Loc} {ls : Array Slot} (hC : lS p l s m meth c b L xs D dA e0 A) {h : Nat} {ad : Nat → Nat} {x : VS} {mm : Nat} {mad : Nat → Nat} {M M1 : MS} {o : Nat} {og : Nat → Int64} {i fr1 lo1 fr2 lo2 mc9 ms9 cells slots : Nat} {F9 : VS → Prop} {b9 : Int32} {v9 : Int64} (hi : i + 6 ≤ L) (hL : L ≤ 3072) (hfr : fr1 ≤ 2000 ∧ lo1 ≤ 80000 ∧ fr2 ≤ 2000 ∧ lo2 ≤ 80000) (hrm : cells + mc9 ≤ 601024 ∧ slots + ms9 ≤ 7293034) (hcod : M1.cod = 0) (hv : v9 = b9.toInt64) (hW : ∀ sz : Nat, Met l ⟨"SeriesVaultLaw", "flush", "(LSeriesVault;[J)I"⟩ [Cond.codeWith ⟨"SeriesVaultLaw", "flush", "(LSeriesVault;[J)I"⟩ method_13_code 3 (some FieldType.int) [(0, 8, 11, 29), (0, 8, 14, 13)]] { frames := fr1, cells := mc9, slots := ms9, locals := lo1 } (pC D dA [.ref h, .ref o] (([(o, .inl (dA 2, 1, .inr (.inl og)))] : va_W) ++ (VW dA h ad x)) sz) (va_Qi (fun (r9 : Int32) (u9 : VS) => r9 = 0 ∧ F9 u9) (fun (u9 : VS) t9 => bW D (va_A (([(o, .inl (dA 2, 1, .inr (.inl og)))] : va_W) ++ (VW dA h ad x)) sz) (([(o, .inl (dA 2, 1, .inr (.inl (va_up og 0 v9))))] : va_W) ++ (VW dA h ad u9)) t9) (va_A (([(o, .inl (dA 2, 1, .inr (.inl og)))] : va_W) ++ (VW dA h ad x)) sz)) mc9 ms9 (va_A (([(o, .inl (dA 2, 1, .inr (.inl og)))] : va_W) ++ (VW dA h ad x)) sz)) (hM : ∀ sz : Nat, Met l ⟨"SeriesVaultModel", "flush", "()I"⟩ [Cond.code ⟨"SeriesVaultModel", "flush", "()I"⟩ prog_14_method_44_code 5 (some FieldType.int)] { frames := fr2, cells := 0, slots := 0, locals := lo2 } (pC D dA [.ref mm] (MW dA mm mad M) sz) (va_Qi (fun (r9 : Int32) (u9 : Unit) => r9 = b9) (fun (u9 : Unit) t9 => bW D (va_A (MW dA mm mad M) sz) (MW dA mm mad M1) t9) (va_A (MW dA mm mad M) sz)) 0 0 (va_A (MW dA mm mad M) sz)) (hP : va_P D vwCl (MW dA mm mad M ++ (([(o, .inl (dA 2, 1, .inr (.inl og)))] : va_W) ++ (VW dA h ad x))) H) (hD : va_D A (MW dA mm mad M ++ (([(o, .inl (dA 2, 1, .inr (.inl og)))] : va_W) ++ (VW dA h ad x)))) (hS : va_S A s.heap H locs) (hl : lv_has ls 8 [(4, .int (nI i)), (3, .ref o), (2, .ref mm), (1, .ref h), (0, .ref b)]) (cont : ∀ (u : VS) (H1 : Heap) (locs1 : List Loc) (ls1 : Array Slot), F9 u → va_P D vwCl (MW dA mm mad M1 ++ (([(o, .inl (dA 2, 1, .inr (.inl (va_up og 0 v9))))] : va_W) ++ (VW dA h ad u))) H1 → va_D A (MW dA mm mad M1 ++ (([(o, .inl (dA 2, 1, .inr (.inl (va_up og 0 v9))))] : va_W) ++ (VW dA h ad u))) → va_S A s.heap H1 locs1 → lv_has ls1 8 [(4, .int (nI (i + 6))), (3, .ref o), (2, .ref mm), (1, .ref h), (0, .ref b)] → W p l e room_1 s m #[Value.ref b] below meth c H1 locs1 (cells + mc9 + 0 + 0) (slots + ms9 + 0 + 0) (lw_Z below #[Value.ref b] s) (F0 m 23 ls1 [])) : W p l e room_1 s m #[Value.ref b] below meth c H locs cells slots (lw_Z below #[Value.ref b] s) (F0 m 907 ls []) := by
  have hC0 := hC
  obtain ⟨hx, hb, hr, hml, hown, hlk, hE, hK, hA, hN, hZ, hT, hX, hbl, hbA, hnew, htr⟩ := hC
  refine lv_aload_n hx hb d_SeriesVaultLaw_law_907 rfl (lv_at hl 3 rfl) ?_
  refine lv_aload_n hx hb d_SeriesVaultLaw_law_908 rfl (lv_at hl 1 rfl) ?_
  have hPc : va_P D vwCl (([(o, .inl (dA 2, 1, .inr (.inl og)))] : va_W) ++ (VW dA h ad x)) H := spP (wr := MW dA mm mad M) hP
  have hDc : va_D A (([(o, .inl (dA 2, 1, .inr (.inl og)))] : va_W) ++ (VW dA h ad x)) := spD (wr := MW dA mm mad M) hD
  refine jkI (wr := MW dA mm mad M) (rnW (As := [.ref h, .ref o]) (rest := []) hx hb hml hown hE hK (hN _ _ hS) hPc hDc (hW H.size) w1869 w1868 w1870 w1793 rfl rfl ⟨⟨by decide, by decide⟩, rfl⟩ ⟨(show fr1 + 1 ≤ 2048 by omega), (show 8 + (3 + 11) + lo1 ≤ 84000 by omega)⟩ rfl hl.1 rfl (Nat.le_of_ble_eq_true rfl) d_SeriesVaultLaw_law_909 ⟨(show cells + mc9 ≤ 601024 by omega), (show slots + ms9 ≤ 7293034 by omega)⟩) hP hD hS hA (fun k8 u8 H locs hp9 hP hD hS => ?_)
  obtain ⟨hp9, hf9⟩ := hp9
  replace hp9 : 0 = k8 := Eq.symm hp9
  subst hp9
  have hP : va_P D vwCl (MW dA mm mad M ++ (([(o, .inl (dA 2, 1, .inr (.inl (va_up og 0 v9))))] : va_W) ++ (VW dA h ad u8))) H := hP
  have hD : va_D A (MW dA mm mad M ++ (([(o, .inl (dA 2, 1, .inr (.inl (va_up og 0 v9))))] : va_W) ++ (VW dA h ad u8))) := hD
  refine lv_istore hx hb d_SeriesVaultLaw_law_912 hl (by decide) rfl (fun ls hl => ?_)
  have hl : lv_has ls 8 [(5, .int 0), (4, .int (nI i)), (3, .ref o), (2, .ref mm), (1, .ref h), (0, .ref b)] := hl
  refine lv_aload_n hx hb d_SeriesVaultLaw_law_914 rfl (lv_at hl 3 rfl) ?_
  have hP := pmP (show List.Perm (α := Nat × va_E) (MW dA mm mad M ++ (([(o, .inl (dA 2, 1, .inr (.inl (va_up og 0 v9))))] : va_W) ++ (VW dA h ad u8))) (([(o, .inl (dA 2, 1, .inr (.inl (va_up og 0 v9))))] : va_W) ++ (MW dA mm mad M ++ (VW dA h ad u8))) from List.perm_append_comm_assoc (MW dA mm mad M) (([(o, .inl (dA 2, 1, .inr (.inl (va_up og 0 v9))))] : va_W)) (VW dA h ad u8)) hP
  have hD := pmD (show List.Perm (α := Nat × va_E) (MW dA mm mad M ++ (([(o, .inl (dA 2, 1, .inr (.inl (va_up og 0 v9))))] : va_W) ++ (VW dA h ad u8))) (([(o, .inl (dA 2, 1, .inr (.inl (va_up og 0 v9))))] : va_W) ++ (MW dA mm mad M ++ (VW dA h ad u8))) from List.perm_append_comm_assoc (MW dA mm mad M) (([(o, .inl (dA 2, 1, .inr (.inl (va_up og 0 v9))))] : va_W)) (VW dA h ad u8)) hD
  have hP := pmP (show List.Perm (α := Nat × va_E) (([(o, .inl (dA 2, 1, .inr (.inl (va_up og 0 v9))))] : va_W) ++ (MW dA mm mad M ++ (VW dA h ad u8))) (([(o, .inl (dA 2, 1, .inr (.inl (va_up og 0 v9))))] : va_W) ++ (VW dA h ad u8 ++ (MW dA mm mad M))) from List.Perm.append_left (([(o, .inl (dA 2, 1, .inr (.inl (va_up og 0 v9))))] : va_W)) (List.perm_append_comm)) hP
  have hD := pmD (show List.Perm (α := Nat × va_E) (([(o, .inl (dA 2, 1, .inr (.inl (va_up og 0 v9))))] : va_W) ++ (MW dA mm mad M ++ (VW dA h ad u8))) (([(o, .inl (dA 2, 1, .inr (.inl (va_up og 0 v9))))] : va_W) ++ (VW dA h ad u8 ++ (MW dA mm mad M))) from List.Perm.append_left (([(o, .inl (dA 2, 1, .inr (.inl (va_up og 0 v9))))] : va_W)) (List.perm_append_comm)) hD
  have hPc : va_P D vwCl (MW dA mm mad M) H := spP (wr := ([(o, .inl (dA 2, 1, .inr (.inl (va_up og 0 v9))))] : va_W) ++ (VW dA h ad u8)) hP
  have hDc : va_D A (MW dA mm mad M) := spD (wr := ([(o, .inl (dA 2, 1, .inr (.inl (va_up og 0 v9))))] : va_W) ++ (VW dA h ad u8)) hD
  refine jkI (wr := ([(o, .inl (dA 2, 1, .inr (.inl (va_up og 0 v9))))] : va_W) ++ (VW dA h ad u8)) (rnV (As := []) (rest := []) hx hb hml hown hE hK (hN _ _ hS) hPc hDc (hM H.size) (q0 := 0) rfl rfl w1872 w1871 w1873 w1874 w328 rfl rfl ⟨⟨by decide, by decide⟩, rfl⟩ ⟨(show fr2 + 1 ≤ 2048 by omega), (show 8 + (5 + 11) + lo2 ≤ 84000 by omega)⟩ rfl hl.1 rfl (Nat.le_of_ble_eq_true rfl) d_SeriesVaultLaw_law_915 ⟨(show cells + mc9 + 0 ≤ 601024 by omega), (show slots + ms9 + 0 ≤ 7293034 by omega)⟩) hP hD hS hA (fun r7 u7 H locs hp9 hP hD hS => ?_)
  replace hp9 : b9 = r7 := Eq.symm hp9
  subst hp9
  have hP : va_P D vwCl (([(o, .inl (dA 2, 1, .inr (.inl (va_up og 0 v9))))] : va_W) ++ (VW dA h ad u8 ++ (MW dA mm mad M1))) H := hP
  have hD : va_D A (([(o, .inl (dA 2, 1, .inr (.inl (va_up og 0 v9))))] : va_W) ++ (VW dA h ad u8 ++ (MW dA mm mad M1))) := hD
  refine lv_istore hx hb d_SeriesVaultLaw_law_918 hl (by decide) rfl (fun ls hl => ?_)
  have hl : lv_has ls 8 [(6, .int b9), (5, .int 0), (4, .int (nI i)), (3, .ref o), (2, .ref mm), (1, .ref h), (0, .ref b)] := hl
  refine lv_aload_n hx hb d_SeriesVaultLaw_law_920 rfl (lv_at hl 4 rfl) ?_
  have hPc : va_P D vwCl (MW dA mm mad M1) H := spP (wr := ([(o, .inl (dA 2, 1, .inr (.inl (va_up og 0 v9))))] : va_W) ++ (VW dA h ad u8)) hP
  have hDc : va_D A (MW dA mm mad M1) := spD (wr := ([(o, .inl (dA 2, 1, .inr (.inl (va_up og 0 v9))))] : va_W) ++ (VW dA h ad u8)) hD
  refine jkI (wr := ([(o, .inl (dA 2, 1, .inr (.inl (va_up og 0 v9))))] : va_W) ++ (VW dA h ad u8)) (rnV (As := []) (rest := []) hx hb hml hown hE hK (hN _ _ hS) hPc hDc (k_thrown l D dA H.size mm mad M1) (q0 := 0) rfl rfl w1801 w1800 w1802 w1803 w328 rfl rfl ⟨⟨by decide, by decide⟩, rfl⟩ ⟨(show 1 + 1 ≤ 2048 by omega), (show 8 + (1 + 11) + 0 ≤ 84000 by omega)⟩ rfl hl.1 rfl (Nat.le_of_ble_eq_true rfl) d_SeriesVaultLaw_law_921 ⟨(show cells + mc9 + 0 ≤ 601024 by omega), (show slots + ms9 + 0 ≤ 7293034 by omega)⟩) hP hD hS hA (fun r7 u7 H locs hp9 hP hD hS => ?_)
  replace hp9 : 0 = r7 := Eq.symm (hp9.trans hcod)
  subst hp9
  have hP : va_P D vwCl (([(o, .inl (dA 2, 1, .inr (.inl (va_up og 0 v9))))] : va_W) ++ (VW dA h ad u8 ++ (MW dA mm mad M1))) H := hP
  have hD : va_D A (([(o, .inl (dA 2, 1, .inr (.inl (va_up og 0 v9))))] : va_W) ++ (VW dA h ad u8 ++ (MW dA mm mad M1))) := hD
  refine lv_iload hx hb d_SeriesVaultLaw_law_924 (lv_at hl 1 rfl) ?_
  refine lv_icmp_eq hx hb d_SeriesVaultLaw_law_926 (tgt := 931) rfl (fun _ => ?_) (fun h9 => absurd rfl h9)
  refine lv_iload hx hb d_SeriesVaultLaw_law_931 (lv_at hl 1 rfl) ?_
  refine lv_if_ne hx hb d_SeriesVaultLaw_law_933 (tgt := 948) rfl (fun h9 => absurd (by decide) h9) (fun _ => ?_)
  refine lv_aload_n hx hb d_SeriesVaultLaw_law_936 rfl (lv_at hl 3 rfl) ?_
  refine lv_iconst (v := 0) hx hb d_SeriesVaultLaw_law_937 (by decide) ?_
  refine nlld (f := (va_up og 0 v9)) (n := 1) hx hb hK hP (0) 2 rfl rfl (0) (by decide) (by decide) d_SeriesVaultLaw_law_938 ?_
  refine tpl (y := v9) (va_up_self _ _ _) ?_
  refine lv_iload hx hb d_SeriesVaultLaw_law_939 (lv_at hl 0 rfl) ?_
  refine lv_i2l hx hb d_SeriesVaultLaw_law_941 rfl ?_
  refine W.lcmp hx hb d_SeriesVaultLaw_law_942 ?_
  refine lv_if_eq hx hb d_SeriesVaultLaw_law_943 (tgt := 948) rfl (fun _ => ?_) (fun h9 => absurd ((lg_cmp_eq _ _).mpr hv) h9)
  refine lv_goto hx hb d_SeriesVaultLaw_law_948 (tgt := 1770) rfl ?_
  refine lv_iinc (k := 2) (v := nI (i + 6)) hx hb d_SeriesVaultLaw_law_1770 hl rfl (iincN (i) 6 6 (by decide)) (by decide) rfl (fun ls hl => ?_)
  have hl : lv_has ls 8 [(4, .int (nI (i + 6))), (6, .int b9), (5, .int 0), (3, .ref o), (2, .ref mm), (1, .ref h), (0, .ref b)] := hl
  refine lv_goto hx hb d_SeriesVaultLaw_law_1773 (tgt := 23) rfl ?_
  have hP := pmP (show List.Perm (α := Nat × va_E) (([(o, .inl (dA 2, 1, .inr (.inl (va_up og 0 v9))))] : va_W) ++ (VW dA h ad u8 ++ (MW dA mm mad M1))) (MW dA mm mad M1 ++ (([(o, .inl (dA 2, 1, .inr (.inl (va_up og 0 v9))))] : va_W) ++ (VW dA h ad u8))) from (List.Perm.append_left (([(o, .inl (dA 2, 1, .inr (.inl (va_up og 0 v9))))] : va_W)) (List.perm_append_comm)).trans (List.perm_append_comm_assoc (([(o, .inl (dA 2, 1, .inr (.inl (va_up og 0 v9))))] : va_W)) (MW dA mm mad M1) (VW dA h ad u8))) hP
  have hD := pmD (show List.Perm (α := Nat × va_E) (([(o, .inl (dA 2, 1, .inr (.inl (va_up og 0 v9))))] : va_W) ++ (VW dA h ad u8 ++ (MW dA mm mad M1))) (MW dA mm mad M1 ++ (([(o, .inl (dA 2, 1, .inr (.inl (va_up og 0 v9))))] : va_W) ++ (VW dA h ad u8))) from (List.Perm.append_left (([(o, .inl (dA 2, 1, .inr (.inl (va_up og 0 v9))))] : va_W)) (List.perm_append_comm)).trans (List.perm_append_comm_assoc (([(o, .inl (dA 2, 1, .inr (.inl (va_up og 0 v9))))] : va_W)) (MW dA mm mad M1) (VW dA h ad u8))) hD
  have hP : va_P D vwCl (MW dA mm mad M1 ++ (([(o, .inl (dA 2, 1, .inr (.inl (va_up og 0 v9))))] : va_W) ++ (VW dA h ad u8))) H := hP
  have hD : va_D A (MW dA mm mad M1 ++ (([(o, .inl (dA 2, 1, .inr (.inl (va_up og 0 v9))))] : va_W) ++ (VW dA h ad u8))) := hD
  have hl := lv_sub (l' := [(4, .int (nI (i + 6))), (3, .ref o), (2, .ref mm), (1, .ref h), (0, .ref b)]) hl [0, 3, 4, 5, 6] rfl
  exact cont u8 H locs ls hf9 hP hD hS hl
set_option maxHeartbeats 4000000 in
set_option maxRecDepth 100000 in
theorem l9_10_x {p : Program} {e : Env} {s : State} {m : MethodId} {below : List Frame} {meth : Method} {c : Code} (l : Launch) {b L : Nat} {xs : Nat → Int32} {D : va_G} {dA : Nat → ClassId} {e0 : Nat} {A : Nat → Prop} {H : Heap} {locs : List Loc} {ls : Array Slot} (hC : lS p l s m meth c b L xs D dA e0 A) {h : Nat} {ad : Nat → Nat} {x : VS} {mm : Nat} {mad : Nat → Nat} {M M1 : MS} {o : Nat} {og : Nat → Int64} {i fr1 lo1 fr2 lo2 mc9 ms9 cells slots : Nat} {F9 : VS → Prop} {b9 : Int32} {k9 : Nat} (hi : i + 6 ≤ L) (hL : L ≤ 3072) (hfr : fr1 ≤ 2000 ∧ lo1 ≤ 80000 ∧ fr2 ≤ 2000 ∧ lo2 ≤ 80000) (hrm : cells + mc9 ≤ 601024 ∧ slots + ms9 ≤ 7293034) (hcod : M1.cod = nI k9) (hk9 : ¬ nI k9 = 0) (hW : ∀ sz : Nat, Met l ⟨"SeriesVaultLaw", "flush", "(LSeriesVault;[J)I"⟩ [Cond.codeWith ⟨"SeriesVaultLaw", "flush", "(LSeriesVault;[J)I"⟩ method_13_code 3 (some FieldType.int) [(0, 8, 11, 29), (0, 8, 14, 13)]] { frames := fr1, cells := mc9, slots := ms9, locals := lo1 } (pC D dA [.ref h, .ref o] (([(o, .inl (dA 2, 1, .inr (.inl og)))] : va_W) ++ (VW dA h ad x)) sz) (va_Qi (fun (r9 : Int32) (u9 : VS) => r9 = nI k9 ∧ F9 u9) (fun (u9 : VS) t9 => bW D (va_A (([(o, .inl (dA 2, 1, .inr (.inl og)))] : va_W) ++ (VW dA h ad x)) sz) (([(o, .inl (dA 2, 1, .inr (.inl (og))))] : va_W) ++ (VW dA h ad u9)) t9) (va_A (([(o, .inl (dA 2, 1, .inr (.inl og)))] : va_W) ++ (VW dA h ad x)) sz)) mc9 ms9 (va_A (([(o, .inl (dA 2, 1, .inr (.inl og)))] : va_W) ++ (VW dA h ad x)) sz)) (hM : ∀ sz : Nat, Met l ⟨"SeriesVaultModel", "flush", "()I"⟩ [Cond.code ⟨"SeriesVaultModel", "flush", "()I"⟩ prog_14_method_44_code 5 (some FieldType.int)] { frames := fr2, cells := 0, slots := 0, locals := lo2 } (pC D dA [.ref mm] (MW dA mm mad M) sz) (va_Qi (fun (r9 : Int32) (u9 : Unit) => r9 = b9) (fun (u9 : Unit) t9 => bW D (va_A (MW dA mm mad M) sz) (MW dA mm mad M1) t9) (va_A (MW dA mm mad M) sz)) 0 0 (va_A (MW dA mm mad M) sz)) (hP : va_P D vwCl (MW dA mm mad M ++ (([(o, .inl (dA 2, 1, .inr (.inl og)))] : va_W) ++ (VW dA h ad x))) H) (hD : va_D A (MW dA mm mad M ++ (([(o, .inl (dA 2, 1, .inr (.inl og)))] : va_W) ++ (VW dA h ad x)))) (hS : va_S A s.heap H locs) (hl : lv_has ls 8 [(4, .int (nI i)), (3, .ref o), (2, .ref mm), (1, .ref h), (0, .ref b)]) (cont : ∀ (u : VS) (H1 : Heap) (locs1 : List Loc) (ls1 : Array Slot), F9 u → va_P D vwCl (MW dA mm mad M1 ++ (([(o, .inl (dA 2, 1, .inr (.inl og)))] : va_W) ++ (VW dA h ad u))) H1 → va_D A (MW dA mm mad M1 ++ (([(o, .inl (dA 2, 1, .inr (.inl og)))] : va_W) ++ (VW dA h ad u))) → va_S A s.heap H1 locs1 → lv_has ls1 8 [(4, .int (nI (i + 6))), (3, .ref o), (2, .ref mm), (1, .ref h), (0, .ref b)] → W p l e room_1 s m #[Value.ref b] below meth c H1 locs1 (cells + mc9 + 0 + 0) (slots + ms9 + 0 + 0) (lw_Z below #[Value.ref b] s) (F0 m 23 ls1 [])) : W p l e room_1 s m #[Value.ref b] below meth c H locs cells slots (lw_Z below #[Value.ref b] s) (F0 m 907 ls []) := by
  have hC0 := hC
  obtain ⟨hx, hb, hr, hml, hown, hlk, hE, hK, hA, hN, hZ, hT, hX, hbl, hbA, hnew, htr⟩ := hC
  refine lv_aload_n hx hb d_SeriesVaultLaw_law_907 rfl (lv_at hl 3 rfl) ?_
  refine lv_aload_n hx hb d_SeriesVaultLaw_law_908 rfl (lv_at hl 1 rfl) ?_
  have hPc : va_P D vwCl (([(o, .inl (dA 2, 1, .inr (.inl og)))] : va_W) ++ (VW dA h ad x)) H := spP (wr := MW dA mm mad M) hP
  have hDc : va_D A (([(o, .inl (dA 2, 1, .inr (.inl og)))] : va_W) ++ (VW dA h ad x)) := spD (wr := MW dA mm mad M) hD
  refine jkI (wr := MW dA mm mad M) (rnW (As := [.ref h, .ref o]) (rest := []) hx hb hml hown hE hK (hN _ _ hS) hPc hDc (hW H.size) w1869 w1868 w1870 w1793 rfl rfl ⟨⟨by decide, by decide⟩, rfl⟩ ⟨(show fr1 + 1 ≤ 2048 by omega), (show 8 + (3 + 11) + lo1 ≤ 84000 by omega)⟩ rfl hl.1 rfl (Nat.le_of_ble_eq_true rfl) d_SeriesVaultLaw_law_909 ⟨(show cells + mc9 ≤ 601024 by omega), (show slots + ms9 ≤ 7293034 by omega)⟩) hP hD hS hA (fun k8 u8 H locs hp9 hP hD hS => ?_)
  obtain ⟨hp9, hf9⟩ := hp9
  replace hp9 : nI k9 = k8 := Eq.symm hp9
  subst hp9
  have hP : va_P D vwCl (MW dA mm mad M ++ (([(o, .inl (dA 2, 1, .inr (.inl og)))] : va_W) ++ (VW dA h ad u8))) H := hP
  have hD : va_D A (MW dA mm mad M ++ (([(o, .inl (dA 2, 1, .inr (.inl og)))] : va_W) ++ (VW dA h ad u8))) := hD
  refine lv_istore hx hb d_SeriesVaultLaw_law_912 hl (by decide) rfl (fun ls hl => ?_)
  have hl : lv_has ls 8 [(5, .int (nI k9)), (4, .int (nI i)), (3, .ref o), (2, .ref mm), (1, .ref h), (0, .ref b)] := hl
  refine lv_aload_n hx hb d_SeriesVaultLaw_law_914 rfl (lv_at hl 3 rfl) ?_
  have hP := pmP (show List.Perm (α := Nat × va_E) (MW dA mm mad M ++ (([(o, .inl (dA 2, 1, .inr (.inl og)))] : va_W) ++ (VW dA h ad u8))) (([(o, .inl (dA 2, 1, .inr (.inl og)))] : va_W) ++ (MW dA mm mad M ++ (VW dA h ad u8))) from List.perm_append_comm_assoc (MW dA mm mad M) (([(o, .inl (dA 2, 1, .inr (.inl og)))] : va_W)) (VW dA h ad u8)) hP
  have hD := pmD (show List.Perm (α := Nat × va_E) (MW dA mm mad M ++ (([(o, .inl (dA 2, 1, .inr (.inl og)))] : va_W) ++ (VW dA h ad u8))) (([(o, .inl (dA 2, 1, .inr (.inl og)))] : va_W) ++ (MW dA mm mad M ++ (VW dA h ad u8))) from List.perm_append_comm_assoc (MW dA mm mad M) (([(o, .inl (dA 2, 1, .inr (.inl og)))] : va_W)) (VW dA h ad u8)) hD
  have hP := pmP (show List.Perm (α := Nat × va_E) (([(o, .inl (dA 2, 1, .inr (.inl og)))] : va_W) ++ (MW dA mm mad M ++ (VW dA h ad u8))) (([(o, .inl (dA 2, 1, .inr (.inl og)))] : va_W) ++ (VW dA h ad u8 ++ (MW dA mm mad M))) from List.Perm.append_left (([(o, .inl (dA 2, 1, .inr (.inl og)))] : va_W)) (List.perm_append_comm)) hP
  have hD := pmD (show List.Perm (α := Nat × va_E) (([(o, .inl (dA 2, 1, .inr (.inl og)))] : va_W) ++ (MW dA mm mad M ++ (VW dA h ad u8))) (([(o, .inl (dA 2, 1, .inr (.inl og)))] : va_W) ++ (VW dA h ad u8 ++ (MW dA mm mad M))) from List.Perm.append_left (([(o, .inl (dA 2, 1, .inr (.inl og)))] : va_W)) (List.perm_append_comm)) hD
  have hPc : va_P D vwCl (MW dA mm mad M) H := spP (wr := ([(o, .inl (dA 2, 1, .inr (.inl og)))] : va_W) ++ (VW dA h ad u8)) hP
  have hDc : va_D A (MW dA mm mad M) := spD (wr := ([(o, .inl (dA 2, 1, .inr (.inl og)))] : va_W) ++ (VW dA h ad u8)) hD
  refine jkI (wr := ([(o, .inl (dA 2, 1, .inr (.inl og)))] : va_W) ++ (VW dA h ad u8)) (rnV (As := []) (rest := []) hx hb hml hown hE hK (hN _ _ hS) hPc hDc (hM H.size) (q0 := 0) rfl rfl w1872 w1871 w1873 w1874 w328 rfl rfl ⟨⟨by decide, by decide⟩, rfl⟩ ⟨(show fr2 + 1 ≤ 2048 by omega), (show 8 + (5 + 11) + lo2 ≤ 84000 by omega)⟩ rfl hl.1 rfl (Nat.le_of_ble_eq_true rfl) d_SeriesVaultLaw_law_915 ⟨(show cells + mc9 + 0 ≤ 601024 by omega), (show slots + ms9 + 0 ≤ 7293034 by omega)⟩) hP hD hS hA (fun r7 u7 H locs hp9 hP hD hS => ?_)
  replace hp9 : b9 = r7 := Eq.symm hp9
  subst hp9
  have hP : va_P D vwCl (([(o, .inl (dA 2, 1, .inr (.inl og)))] : va_W) ++ (VW dA h ad u8 ++ (MW dA mm mad M1))) H := hP
  have hD : va_D A (([(o, .inl (dA 2, 1, .inr (.inl og)))] : va_W) ++ (VW dA h ad u8 ++ (MW dA mm mad M1))) := hD
  refine lv_istore hx hb d_SeriesVaultLaw_law_918 hl (by decide) rfl (fun ls hl => ?_)
  have hl : lv_has ls 8 [(6, .int b9), (5, .int (nI k9)), (4, .int (nI i)), (3, .ref o), (2, .ref mm), (1, .ref h), (0, .ref b)] := hl
  refine lv_aload_n hx hb d_SeriesVaultLaw_law_920 rfl (lv_at hl 4 rfl) ?_
  have hPc : va_P D vwCl (MW dA mm mad M1) H := spP (wr := ([(o, .inl (dA 2, 1, .inr (.inl og)))] : va_W) ++ (VW dA h ad u8)) hP
  have hDc : va_D A (MW dA mm mad M1) := spD (wr := ([(o, .inl (dA 2, 1, .inr (.inl og)))] : va_W) ++ (VW dA h ad u8)) hD
  refine jkI (wr := ([(o, .inl (dA 2, 1, .inr (.inl og)))] : va_W) ++ (VW dA h ad u8)) (rnV (As := []) (rest := []) hx hb hml hown hE hK (hN _ _ hS) hPc hDc (k_thrown l D dA H.size mm mad M1) (q0 := 0) rfl rfl w1801 w1800 w1802 w1803 w328 rfl rfl ⟨⟨by decide, by decide⟩, rfl⟩ ⟨(show 1 + 1 ≤ 2048 by omega), (show 8 + (1 + 11) + 0 ≤ 84000 by omega)⟩ rfl hl.1 rfl (Nat.le_of_ble_eq_true rfl) d_SeriesVaultLaw_law_921 ⟨(show cells + mc9 + 0 ≤ 601024 by omega), (show slots + ms9 + 0 ≤ 7293034 by omega)⟩) hP hD hS hA (fun r7 u7 H locs hp9 hP hD hS => ?_)
  replace hp9 : nI k9 = r7 := Eq.symm (hp9.trans hcod)
  subst hp9
  have hP : va_P D vwCl (([(o, .inl (dA 2, 1, .inr (.inl og)))] : va_W) ++ (VW dA h ad u8 ++ (MW dA mm mad M1))) H := hP
  have hD : va_D A (([(o, .inl (dA 2, 1, .inr (.inl og)))] : va_W) ++ (VW dA h ad u8 ++ (MW dA mm mad M1))) := hD
  refine lv_iload hx hb d_SeriesVaultLaw_law_924 (lv_at hl 1 rfl) ?_
  refine lv_icmp_eq hx hb d_SeriesVaultLaw_law_926 (tgt := 931) rfl (fun _ => ?_) (fun h9 => absurd rfl h9)
  refine lv_iload hx hb d_SeriesVaultLaw_law_931 (lv_at hl 1 rfl) ?_
  refine lv_if_ne hx hb d_SeriesVaultLaw_law_933 (tgt := 948) rfl (fun _ => ?_) (fun h9 => absurd h9 hk9)
  refine lv_goto hx hb d_SeriesVaultLaw_law_948 (tgt := 1770) rfl ?_
  refine lv_iinc (k := 2) (v := nI (i + 6)) hx hb d_SeriesVaultLaw_law_1770 hl rfl (iincN (i) 6 6 (by decide)) (by decide) rfl (fun ls hl => ?_)
  have hl : lv_has ls 8 [(4, .int (nI (i + 6))), (6, .int b9), (5, .int (nI k9)), (3, .ref o), (2, .ref mm), (1, .ref h), (0, .ref b)] := hl
  refine lv_goto hx hb d_SeriesVaultLaw_law_1773 (tgt := 23) rfl ?_
  have hP := pmP (show List.Perm (α := Nat × va_E) (([(o, .inl (dA 2, 1, .inr (.inl og)))] : va_W) ++ (VW dA h ad u8 ++ (MW dA mm mad M1))) (MW dA mm mad M1 ++ (([(o, .inl (dA 2, 1, .inr (.inl og)))] : va_W) ++ (VW dA h ad u8))) from (List.Perm.append_left (([(o, .inl (dA 2, 1, .inr (.inl og)))] : va_W)) (List.perm_append_comm)).trans (List.perm_append_comm_assoc (([(o, .inl (dA 2, 1, .inr (.inl og)))] : va_W)) (MW dA mm mad M1) (VW dA h ad u8))) hP
  have hD := pmD (show List.Perm (α := Nat × va_E) (([(o, .inl (dA 2, 1, .inr (.inl og)))] : va_W) ++ (VW dA h ad u8 ++ (MW dA mm mad M1))) (MW dA mm mad M1 ++ (([(o, .inl (dA 2, 1, .inr (.inl og)))] : va_W) ++ (VW dA h ad u8))) from (List.Perm.append_left (([(o, .inl (dA 2, 1, .inr (.inl og)))] : va_W)) (List.perm_append_comm)).trans (List.perm_append_comm_assoc (([(o, .inl (dA 2, 1, .inr (.inl og)))] : va_W)) (MW dA mm mad M1) (VW dA h ad u8))) hD
  have hP : va_P D vwCl (MW dA mm mad M1 ++ (([(o, .inl (dA 2, 1, .inr (.inl og)))] : va_W) ++ (VW dA h ad u8))) H := hP
  have hD : va_D A (MW dA mm mad M1 ++ (([(o, .inl (dA 2, 1, .inr (.inl og)))] : va_W) ++ (VW dA h ad u8))) := hD
  have hl := lv_sub (l' := [(4, .int (nI (i + 6))), (3, .ref o), (2, .ref mm), (1, .ref h), (0, .ref b)]) hl [0, 3, 4, 5, 6] rfl
  exact cont u8 H locs ls hf9 hP hD hS hl
theorem d_SeriesVaultLaw_law_951 : decode code 951 = .ok (.aload_n 1, 1) := by decide +kernel
theorem d_SeriesVaultLaw_law_952 : decode code 952 = .ok (.aload_n 0, 1) := by decide +kernel
theorem d_SeriesVaultLaw_law_953 : decode code 953 = .ok (.iload 4, 2) := by decide +kernel
theorem d_SeriesVaultLaw_law_955 : decode code 955 = .ok (.iconst 1, 1) := by decide +kernel
theorem d_SeriesVaultLaw_law_956 : decode code 956 = .ok (.iadd, 1) := by decide +kernel
theorem d_SeriesVaultLaw_law_957 : decode code 957 = .ok (.iaload, 1) := by decide +kernel
theorem d_SeriesVaultLaw_law_958 : decode code 958 = .ok (.aload_n 3, 1) := by decide +kernel
theorem d_SeriesVaultLaw_law_959 : decode code 959 = .ok (.invokestatic 151, 3) := by decide +kernel
theorem d_SeriesVaultLaw_law_962 : decode code 962 = .ok (.istore 5, 2) := by decide +kernel
theorem d_SeriesVaultLaw_law_964 : decode code 964 = .ok (.aload_n 2, 1) := by decide +kernel
theorem d_SeriesVaultLaw_law_965 : decode code 965 = .ok (.aload_n 0, 1) := by decide +kernel
theorem d_SeriesVaultLaw_law_966 : decode code 966 = .ok (.iload 4, 2) := by decide +kernel
theorem d_SeriesVaultLaw_law_968 : decode code 968 = .ok (.iconst 1, 1) := by decide +kernel
theorem d_SeriesVaultLaw_law_969 : decode code 969 = .ok (.iadd, 1) := by decide +kernel
theorem d_SeriesVaultLaw_law_970 : decode code 970 = .ok (.iaload, 1) := by decide +kernel
theorem d_SeriesVaultLaw_law_971 : decode code 971 = .ok (.invokevirtual 153, 3) := by decide +kernel
theorem d_SeriesVaultLaw_law_974 : decode code 974 = .ok (.istore 6, 2) := by decide +kernel
theorem d_SeriesVaultLaw_law_976 : decode code 976 = .ok (.aload_n 2, 1) := by decide +kernel
theorem d_SeriesVaultLaw_law_977 : decode code 977 = .ok (.invokevirtual 110, 3) := by decide +kernel
theorem d_SeriesVaultLaw_law_980 : decode code 980 = .ok (.iload 5, 2) := by decide +kernel
theorem d_SeriesVaultLaw_law_982 : decode code 982 = .ok (.if_icmp .eq 5, 3) := by decide +kernel
theorem d_SeriesVaultLaw_law_987 : decode code 987 = .ok (.iload 5, 2) := by decide +kernel
theorem d_SeriesVaultLaw_law_989 : decode code 989 = .ok (.ifCond .ne 15, 3) := by decide +kernel
theorem d_SeriesVaultLaw_law_992 : decode code 992 = .ok (.aload_n 3, 1) := by decide +kernel
theorem d_SeriesVaultLaw_law_993 : decode code 993 = .ok (.iconst 0, 1) := by decide +kernel
theorem d_SeriesVaultLaw_law_994 : decode code 994 = .ok (.laload, 1) := by decide +kernel
theorem d_SeriesVaultLaw_law_995 : decode code 995 = .ok (.iload 6, 2) := by decide +kernel
theorem d_SeriesVaultLaw_law_997 : decode code 997 = .ok (.i2l, 1) := by decide +kernel
theorem d_SeriesVaultLaw_law_998 : decode code 998 = .ok (.lcmp, 1) := by decide +kernel
theorem d_SeriesVaultLaw_law_999 : decode code 999 = .ok (.ifCond .eq 5, 3) := by decide +kernel
theorem d_SeriesVaultLaw_law_1004 : decode code 1004 = .ok (.goto 766, 3) := by decide +kernel
theorem w1875 : Cond.methodLink "SeriesVaultLaw" 151 ⟨"SeriesVaultLaw", "compact", "(LSeriesVault;I[J)I"⟩ ∈ aW := aw_of (tb_6 (List.mem_of_getElem? (i := 116) rfl)) rfl
theorem w1876 : Cond.codeWith ⟨"SeriesVaultLaw", "compact", "(LSeriesVault;I[J)I"⟩ method_14_code 4 (some FieldType.int) [(0, 9, 12, 29), (0, 9, 15, 35), (0, 9, 18, 13)] ∈ aW := aw_of (tb_6 (List.mem_of_getElem? (i := 118) rfl)) rfl
theorem w1877 : Cond.static ⟨"SeriesVaultLaw", "compact", "(LSeriesVault;I[J)I"⟩ ∈ aW := aw_of (tb_6 (List.mem_of_getElem? (i := 117) rfl)) rfl
theorem w1878 : Cond.methodLink "SeriesVaultLaw" 153 ⟨"SeriesVaultModel", "compact", "(I)I"⟩ ∈ aW := aw_of (tb_10 (List.mem_of_getElem? (i := 113) rfl)) rfl
theorem w1879 : Cond.code ⟨"SeriesVaultModel", "compact", "(I)I"⟩ prog_14_method_45_code 7 (some FieldType.int) ∈ aW := aw_of (tb_10 (List.mem_of_getElem? (i := 116) rfl)) rfl
theorem w1880 : Cond.instanceMethod ⟨"SeriesVaultModel", "compact", "(I)I"⟩ ∈ aW := aw_of (tb_10 (List.mem_of_getElem? (i := 114) rfl)) rfl
theorem w1881 : Cond.selects "SeriesVaultModel" ⟨"SeriesVaultModel", "compact", "(I)I"⟩ ⟨"SeriesVaultModel", "compact", "(I)I"⟩ ∈ aW := aw_of (tb_10 (List.mem_of_getElem? (i := 115) rfl)) rfl
set_option maxHeartbeats 4000000 in
set_option maxRecDepth 100000 in
theorem l9_11 {p : Program} {e : Env} {s : State} {m : MethodId} {below : List Frame} {meth : Method} {c : Code} (l : Launch) {b L : Nat} {xs : Nat → Int32} {D : va_G} {dA : Nat → ClassId} {e0 : Nat} {A : Nat → Prop} {H : Heap} {locs : List Loc} {ls : Array Slot} (hC : lS p l s m meth c b L xs D dA e0 A) {h : Nat} {ad : Nat → Nat} {x : VS} {mm : Nat} {mad : Nat → Nat} {M M1 : MS} {o : Nat} {og : Nat → Int64} {i fr1 lo1 fr2 lo2 mc9 ms9 cells slots : Nat} {F9 : VS → Prop} {b9 : Int32} {v9 : Int64} (hi : i + 6 ≤ L) (hL : L ≤ 3072) (hfr : fr1 ≤ 2000 ∧ lo1 ≤ 80000 ∧ fr2 ≤ 2000 ∧ lo2 ≤ 80000) (hrm : cells + mc9 ≤ 601024 ∧ slots + ms9 ≤ 7293034) (hcod : M1.cod = 0) (hv : v9 = b9.toInt64) (hW : ∀ sz : Nat, Met l ⟨"SeriesVaultLaw", "compact", "(LSeriesVault;I[J)I"⟩ [Cond.codeWith ⟨"SeriesVaultLaw", "compact", "(LSeriesVault;I[J)I"⟩ method_14_code 4 (some FieldType.int) [(0, 9, 12, 29), (0, 9, 15, 35), (0, 9, 18, 13)]] { frames := fr1, cells := mc9, slots := ms9, locals := lo1 } (pC D dA [.ref h, .int (xs (i + 1)), .ref o] (([(o, .inl (dA 2, 1, .inr (.inl og)))] : va_W) ++ (VW dA h ad x)) sz) (va_Qi (fun (r9 : Int32) (u9 : VS) => r9 = 0 ∧ F9 u9) (fun (u9 : VS) t9 => bW D (va_A (([(o, .inl (dA 2, 1, .inr (.inl og)))] : va_W) ++ (VW dA h ad x)) sz) (([(o, .inl (dA 2, 1, .inr (.inl (va_up og 0 v9))))] : va_W) ++ (VW dA h ad u9)) t9) (va_A (([(o, .inl (dA 2, 1, .inr (.inl og)))] : va_W) ++ (VW dA h ad x)) sz)) mc9 ms9 (va_A (([(o, .inl (dA 2, 1, .inr (.inl og)))] : va_W) ++ (VW dA h ad x)) sz)) (hM : ∀ sz : Nat, Met l ⟨"SeriesVaultModel", "compact", "(I)I"⟩ [Cond.code ⟨"SeriesVaultModel", "compact", "(I)I"⟩ prog_14_method_45_code 7 (some FieldType.int)] { frames := fr2, cells := 0, slots := 0, locals := lo2 } (pC D dA [.ref mm, .int (xs (i + 1))] (MW dA mm mad M) sz) (va_Qi (fun (r9 : Int32) (u9 : Unit) => r9 = b9) (fun (u9 : Unit) t9 => bW D (va_A (MW dA mm mad M) sz) (MW dA mm mad M1) t9) (va_A (MW dA mm mad M) sz)) 0 0 (va_A (MW dA mm mad M) sz)) (hP : va_P D vwCl (MW dA mm mad M ++ (([(o, .inl (dA 2, 1, .inr (.inl og)))] : va_W) ++ (VW dA h ad x))) H) (hD : va_D A (MW dA mm mad M ++ (([(o, .inl (dA 2, 1, .inr (.inl og)))] : va_W) ++ (VW dA h ad x)))) (hS : va_S A s.heap H locs) (hl : lv_has ls 8 [(4, .int (nI i)), (3, .ref o), (2, .ref mm), (1, .ref h), (0, .ref b)]) (cont : ∀ (u : VS) (H1 : Heap) (locs1 : List Loc) (ls1 : Array Slot), F9 u → va_P D vwCl (MW dA mm mad M1 ++ (([(o, .inl (dA 2, 1, .inr (.inl (va_up og 0 v9))))] : va_W) ++ (VW dA h ad u))) H1 → va_D A (MW dA mm mad M1 ++ (([(o, .inl (dA 2, 1, .inr (.inl (va_up og 0 v9))))] : va_W) ++ (VW dA h ad u))) → va_S A s.heap H1 locs1 → lv_has ls1 8 [(4, .int (nI (i + 6))), (3, .ref o), (2, .ref mm), (1, .ref h), (0, .ref b)] → W p l e room_1 s m #[Value.ref b] below meth c H1 locs1 (cells + mc9 + 0 + 0) (slots + ms9 + 0 + 0) (lw_Z below #[Value.ref b] s) (F0 m 23 ls1 [])) : W p l e room_1 s m #[Value.ref b] below meth c H locs cells slots (lw_Z below #[Value.ref b] s) (F0 m 951 ls []) := by
  have hC0 := hC
  obtain ⟨hx, hb, hr, hml, hown, hlk, hE, hK, hA, hN, hZ, hT, hX, hbl, hbA, hnew, htr⟩ := hC
  refine lv_aload_n hx hb d_SeriesVaultLaw_law_951 rfl (lv_at hl 3 rfl) ?_
  refine lv_aload_n hx hb d_SeriesVaultLaw_law_952 rfl (lv_at hl 4 rfl) ?_
  refine lv_iload hx hb d_SeriesVaultLaw_law_953 (lv_at hl 0 rfl) ?_
  refine lv_iconst (v := 1) hx hb d_SeriesVaultLaw_law_955 (by decide) ?_
  refine lv_iadd hx hb d_SeriesVaultLaw_law_956 (tpi (y := nI (i + 1)) (nI_add (i) (1)) ?_)
  refine sldN hx hb hX hbl hbA hS (show i + 1 < L by omega) (show L ≤ 65536 by omega) d_SeriesVaultLaw_law_957 ?_
  refine lv_aload_n hx hb d_SeriesVaultLaw_law_958 rfl (lv_at hl 1 rfl) ?_
  have hPc : va_P D vwCl (([(o, .inl (dA 2, 1, .inr (.inl og)))] : va_W) ++ (VW dA h ad x)) H := spP (wr := MW dA mm mad M) hP
  have hDc : va_D A (([(o, .inl (dA 2, 1, .inr (.inl og)))] : va_W) ++ (VW dA h ad x)) := spD (wr := MW dA mm mad M) hD
  refine jkI (wr := MW dA mm mad M) (rnW (As := [.ref h, .int (xs (i + 1)), .ref o]) (rest := []) hx hb hml hown hE hK (hN _ _ hS) hPc hDc (hW H.size) w1876 w1875 w1877 w1793 rfl rfl ⟨⟨by decide, by decide⟩, rfl⟩ ⟨(show fr1 + 1 ≤ 2048 by omega), (show 8 + (4 + 11) + lo1 ≤ 84000 by omega)⟩ rfl hl.1 rfl (Nat.le_of_ble_eq_true rfl) d_SeriesVaultLaw_law_959 ⟨(show cells + mc9 ≤ 601024 by omega), (show slots + ms9 ≤ 7293034 by omega)⟩) hP hD hS hA (fun k8 u8 H locs hp9 hP hD hS => ?_)
  obtain ⟨hp9, hf9⟩ := hp9
  replace hp9 : 0 = k8 := Eq.symm hp9
  subst hp9
  have hP : va_P D vwCl (MW dA mm mad M ++ (([(o, .inl (dA 2, 1, .inr (.inl (va_up og 0 v9))))] : va_W) ++ (VW dA h ad u8))) H := hP
  have hD : va_D A (MW dA mm mad M ++ (([(o, .inl (dA 2, 1, .inr (.inl (va_up og 0 v9))))] : va_W) ++ (VW dA h ad u8))) := hD
  refine lv_istore hx hb d_SeriesVaultLaw_law_962 hl (by decide) rfl (fun ls hl => ?_)
  have hl : lv_has ls 8 [(5, .int 0), (4, .int (nI i)), (3, .ref o), (2, .ref mm), (1, .ref h), (0, .ref b)] := hl
  refine lv_aload_n hx hb d_SeriesVaultLaw_law_964 rfl (lv_at hl 3 rfl) ?_
  refine lv_aload_n hx hb d_SeriesVaultLaw_law_965 rfl (lv_at hl 5 rfl) ?_
  refine lv_iload hx hb d_SeriesVaultLaw_law_966 (lv_at hl 1 rfl) ?_
  refine lv_iconst (v := 1) hx hb d_SeriesVaultLaw_law_968 (by decide) ?_
  refine lv_iadd hx hb d_SeriesVaultLaw_law_969 (tpi (y := nI (i + 1)) (nI_add (i) (1)) ?_)
  refine sldN hx hb hX hbl hbA hS (show i + 1 < L by omega) (show L ≤ 65536 by omega) d_SeriesVaultLaw_law_970 ?_
  have hP := pmP (show List.Perm (α := Nat × va_E) (MW dA mm mad M ++ (([(o, .inl (dA 2, 1, .inr (.inl (va_up og 0 v9))))] : va_W) ++ (VW dA h ad u8))) (([(o, .inl (dA 2, 1, .inr (.inl (va_up og 0 v9))))] : va_W) ++ (MW dA mm mad M ++ (VW dA h ad u8))) from List.perm_append_comm_assoc (MW dA mm mad M) (([(o, .inl (dA 2, 1, .inr (.inl (va_up og 0 v9))))] : va_W)) (VW dA h ad u8)) hP
  have hD := pmD (show List.Perm (α := Nat × va_E) (MW dA mm mad M ++ (([(o, .inl (dA 2, 1, .inr (.inl (va_up og 0 v9))))] : va_W) ++ (VW dA h ad u8))) (([(o, .inl (dA 2, 1, .inr (.inl (va_up og 0 v9))))] : va_W) ++ (MW dA mm mad M ++ (VW dA h ad u8))) from List.perm_append_comm_assoc (MW dA mm mad M) (([(o, .inl (dA 2, 1, .inr (.inl (va_up og 0 v9))))] : va_W)) (VW dA h ad u8)) hD
  have hP := pmP (show List.Perm (α := Nat × va_E) (([(o, .inl (dA 2, 1, .inr (.inl (va_up og 0 v9))))] : va_W) ++ (MW dA mm mad M ++ (VW dA h ad u8))) (([(o, .inl (dA 2, 1, .inr (.inl (va_up og 0 v9))))] : va_W) ++ (VW dA h ad u8 ++ (MW dA mm mad M))) from List.Perm.append_left (([(o, .inl (dA 2, 1, .inr (.inl (va_up og 0 v9))))] : va_W)) (List.perm_append_comm)) hP
  have hD := pmD (show List.Perm (α := Nat × va_E) (([(o, .inl (dA 2, 1, .inr (.inl (va_up og 0 v9))))] : va_W) ++ (MW dA mm mad M ++ (VW dA h ad u8))) (([(o, .inl (dA 2, 1, .inr (.inl (va_up og 0 v9))))] : va_W) ++ (VW dA h ad u8 ++ (MW dA mm mad M))) from List.Perm.append_left (([(o, .inl (dA 2, 1, .inr (.inl (va_up og 0 v9))))] : va_W)) (List.perm_append_comm)) hD
  have hPc : va_P D vwCl (MW dA mm mad M) H := spP (wr := ([(o, .inl (dA 2, 1, .inr (.inl (va_up og 0 v9))))] : va_W) ++ (VW dA h ad u8)) hP
  have hDc : va_D A (MW dA mm mad M) := spD (wr := ([(o, .inl (dA 2, 1, .inr (.inl (va_up og 0 v9))))] : va_W) ++ (VW dA h ad u8)) hD
  refine jkI (wr := ([(o, .inl (dA 2, 1, .inr (.inl (va_up og 0 v9))))] : va_W) ++ (VW dA h ad u8)) (rnV (As := [.int (xs (i + 1))]) (rest := []) hx hb hml hown hE hK (hN _ _ hS) hPc hDc (hM H.size) (q0 := 0) rfl rfl w1879 w1878 w1880 w1881 w328 rfl rfl ⟨⟨by decide, by decide⟩, rfl⟩ ⟨(show fr2 + 1 ≤ 2048 by omega), (show 8 + (7 + 11) + lo2 ≤ 84000 by omega)⟩ rfl hl.1 rfl (Nat.le_of_ble_eq_true rfl) d_SeriesVaultLaw_law_971 ⟨(show cells + mc9 + 0 ≤ 601024 by omega), (show slots + ms9 + 0 ≤ 7293034 by omega)⟩) hP hD hS hA (fun r7 u7 H locs hp9 hP hD hS => ?_)
  replace hp9 : b9 = r7 := Eq.symm hp9
  subst hp9
  have hP : va_P D vwCl (([(o, .inl (dA 2, 1, .inr (.inl (va_up og 0 v9))))] : va_W) ++ (VW dA h ad u8 ++ (MW dA mm mad M1))) H := hP
  have hD : va_D A (([(o, .inl (dA 2, 1, .inr (.inl (va_up og 0 v9))))] : va_W) ++ (VW dA h ad u8 ++ (MW dA mm mad M1))) := hD
  refine lv_istore hx hb d_SeriesVaultLaw_law_974 hl (by decide) rfl (fun ls hl => ?_)
  have hl : lv_has ls 8 [(6, .int b9), (5, .int 0), (4, .int (nI i)), (3, .ref o), (2, .ref mm), (1, .ref h), (0, .ref b)] := hl
  refine lv_aload_n hx hb d_SeriesVaultLaw_law_976 rfl (lv_at hl 4 rfl) ?_
  have hPc : va_P D vwCl (MW dA mm mad M1) H := spP (wr := ([(o, .inl (dA 2, 1, .inr (.inl (va_up og 0 v9))))] : va_W) ++ (VW dA h ad u8)) hP
  have hDc : va_D A (MW dA mm mad M1) := spD (wr := ([(o, .inl (dA 2, 1, .inr (.inl (va_up og 0 v9))))] : va_W) ++ (VW dA h ad u8)) hD
  refine jkI (wr := ([(o, .inl (dA 2, 1, .inr (.inl (va_up og 0 v9))))] : va_W) ++ (VW dA h ad u8)) (rnV (As := []) (rest := []) hx hb hml hown hE hK (hN _ _ hS) hPc hDc (k_thrown l D dA H.size mm mad M1) (q0 := 0) rfl rfl w1801 w1800 w1802 w1803 w328 rfl rfl ⟨⟨by decide, by decide⟩, rfl⟩ ⟨(show 1 + 1 ≤ 2048 by omega), (show 8 + (1 + 11) + 0 ≤ 84000 by omega)⟩ rfl hl.1 rfl (Nat.le_of_ble_eq_true rfl) d_SeriesVaultLaw_law_977 ⟨(show cells + mc9 + 0 ≤ 601024 by omega), (show slots + ms9 + 0 ≤ 7293034 by omega)⟩) hP hD hS hA (fun r7 u7 H locs hp9 hP hD hS => ?_)
  replace hp9 : 0 = r7 := Eq.symm (hp9.trans hcod)
  subst hp9
  have hP : va_P D vwCl (([(o, .inl (dA 2, 1, .inr (.inl (va_up og 0 v9))))] : va_W) ++ (VW dA h ad u8 ++ (MW dA mm mad M1))) H := hP
  have hD : va_D A (([(o, .inl (dA 2, 1, .inr (.inl (va_up og 0 v9))))] : va_W) ++ (VW dA h ad u8 ++ (MW dA mm mad M1))) := hD
  refine lv_iload hx hb d_SeriesVaultLaw_law_980 (lv_at hl 1 rfl) ?_
  refine lv_icmp_eq hx hb d_SeriesVaultLaw_law_982 (tgt := 987) rfl (fun _ => ?_) (fun h9 => absurd rfl h9)
  refine lv_iload hx hb d_SeriesVaultLaw_law_987 (lv_at hl 1 rfl) ?_
  refine lv_if_ne hx hb d_SeriesVaultLaw_law_989 (tgt := 1004) rfl (fun h9 => absurd (by decide) h9) (fun _ => ?_)
  refine lv_aload_n hx hb d_SeriesVaultLaw_law_992 rfl (lv_at hl 3 rfl) ?_
  refine lv_iconst (v := 0) hx hb d_SeriesVaultLaw_law_993 (by decide) ?_
  refine nlld (f := (va_up og 0 v9)) (n := 1) hx hb hK hP (0) 2 rfl rfl (0) (by decide) (by decide) d_SeriesVaultLaw_law_994 ?_
  refine tpl (y := v9) (va_up_self _ _ _) ?_
  refine lv_iload hx hb d_SeriesVaultLaw_law_995 (lv_at hl 0 rfl) ?_
  refine lv_i2l hx hb d_SeriesVaultLaw_law_997 rfl ?_
  refine W.lcmp hx hb d_SeriesVaultLaw_law_998 ?_
  refine lv_if_eq hx hb d_SeriesVaultLaw_law_999 (tgt := 1004) rfl (fun _ => ?_) (fun h9 => absurd ((lg_cmp_eq _ _).mpr hv) h9)
  refine lv_goto hx hb d_SeriesVaultLaw_law_1004 (tgt := 1770) rfl ?_
  refine lv_iinc (k := 2) (v := nI (i + 6)) hx hb d_SeriesVaultLaw_law_1770 hl rfl (iincN (i) 6 6 (by decide)) (by decide) rfl (fun ls hl => ?_)
  have hl : lv_has ls 8 [(4, .int (nI (i + 6))), (6, .int b9), (5, .int 0), (3, .ref o), (2, .ref mm), (1, .ref h), (0, .ref b)] := hl
  refine lv_goto hx hb d_SeriesVaultLaw_law_1773 (tgt := 23) rfl ?_
  have hP := pmP (show List.Perm (α := Nat × va_E) (([(o, .inl (dA 2, 1, .inr (.inl (va_up og 0 v9))))] : va_W) ++ (VW dA h ad u8 ++ (MW dA mm mad M1))) (MW dA mm mad M1 ++ (([(o, .inl (dA 2, 1, .inr (.inl (va_up og 0 v9))))] : va_W) ++ (VW dA h ad u8))) from (List.Perm.append_left (([(o, .inl (dA 2, 1, .inr (.inl (va_up og 0 v9))))] : va_W)) (List.perm_append_comm)).trans (List.perm_append_comm_assoc (([(o, .inl (dA 2, 1, .inr (.inl (va_up og 0 v9))))] : va_W)) (MW dA mm mad M1) (VW dA h ad u8))) hP
  have hD := pmD (show List.Perm (α := Nat × va_E) (([(o, .inl (dA 2, 1, .inr (.inl (va_up og 0 v9))))] : va_W) ++ (VW dA h ad u8 ++ (MW dA mm mad M1))) (MW dA mm mad M1 ++ (([(o, .inl (dA 2, 1, .inr (.inl (va_up og 0 v9))))] : va_W) ++ (VW dA h ad u8))) from (List.Perm.append_left (([(o, .inl (dA 2, 1, .inr (.inl (va_up og 0 v9))))] : va_W)) (List.perm_append_comm)).trans (List.perm_append_comm_assoc (([(o, .inl (dA 2, 1, .inr (.inl (va_up og 0 v9))))] : va_W)) (MW dA mm mad M1) (VW dA h ad u8))) hD
  have hP : va_P D vwCl (MW dA mm mad M1 ++ (([(o, .inl (dA 2, 1, .inr (.inl (va_up og 0 v9))))] : va_W) ++ (VW dA h ad u8))) H := hP
  have hD : va_D A (MW dA mm mad M1 ++ (([(o, .inl (dA 2, 1, .inr (.inl (va_up og 0 v9))))] : va_W) ++ (VW dA h ad u8))) := hD
  have hl := lv_sub (l' := [(4, .int (nI (i + 6))), (3, .ref o), (2, .ref mm), (1, .ref h), (0, .ref b)]) hl [0, 3, 4, 5, 6] rfl
  exact cont u8 H locs ls hf9 hP hD hS hl
set_option maxHeartbeats 4000000 in
set_option maxRecDepth 100000 in
theorem l9_11_x {p : Program} {e : Env} {s : State} {m : MethodId} {below : List Frame} {meth : Method} {c : Code} (l : Launch) {b L : Nat} {xs : Nat → Int32} {D : va_G} {dA : Nat → ClassId} {e0 : Nat} {A : Nat → Prop} {H : Heap} {locs : List Loc} {ls : Array Slot} (hC : lS p l s m meth c b L xs D dA e0 A) {h : Nat} {ad : Nat → Nat} {x : VS} {mm : Nat} {mad : Nat → Nat} {M M1 : MS} {o : Nat} {og : Nat → Int64} {i fr1 lo1 fr2 lo2 mc9 ms9 cells slots : Nat} {F9 : VS → Prop} {b9 : Int32} {k9 : Nat} (hi : i + 6 ≤ L) (hL : L ≤ 3072) (hfr : fr1 ≤ 2000 ∧ lo1 ≤ 80000 ∧ fr2 ≤ 2000 ∧ lo2 ≤ 80000) (hrm : cells + mc9 ≤ 601024 ∧ slots + ms9 ≤ 7293034) (hcod : M1.cod = nI k9) (hk9 : ¬ nI k9 = 0) (hW : ∀ sz : Nat, Met l ⟨"SeriesVaultLaw", "compact", "(LSeriesVault;I[J)I"⟩ [Cond.codeWith ⟨"SeriesVaultLaw", "compact", "(LSeriesVault;I[J)I"⟩ method_14_code 4 (some FieldType.int) [(0, 9, 12, 29), (0, 9, 15, 35), (0, 9, 18, 13)]] { frames := fr1, cells := mc9, slots := ms9, locals := lo1 } (pC D dA [.ref h, .int (xs (i + 1)), .ref o] (([(o, .inl (dA 2, 1, .inr (.inl og)))] : va_W) ++ (VW dA h ad x)) sz) (va_Qi (fun (r9 : Int32) (u9 : VS) => r9 = nI k9 ∧ F9 u9) (fun (u9 : VS) t9 => bW D (va_A (([(o, .inl (dA 2, 1, .inr (.inl og)))] : va_W) ++ (VW dA h ad x)) sz) (([(o, .inl (dA 2, 1, .inr (.inl (og))))] : va_W) ++ (VW dA h ad u9)) t9) (va_A (([(o, .inl (dA 2, 1, .inr (.inl og)))] : va_W) ++ (VW dA h ad x)) sz)) mc9 ms9 (va_A (([(o, .inl (dA 2, 1, .inr (.inl og)))] : va_W) ++ (VW dA h ad x)) sz)) (hM : ∀ sz : Nat, Met l ⟨"SeriesVaultModel", "compact", "(I)I"⟩ [Cond.code ⟨"SeriesVaultModel", "compact", "(I)I"⟩ prog_14_method_45_code 7 (some FieldType.int)] { frames := fr2, cells := 0, slots := 0, locals := lo2 } (pC D dA [.ref mm, .int (xs (i + 1))] (MW dA mm mad M) sz) (va_Qi (fun (r9 : Int32) (u9 : Unit) => r9 = b9) (fun (u9 : Unit) t9 => bW D (va_A (MW dA mm mad M) sz) (MW dA mm mad M1) t9) (va_A (MW dA mm mad M) sz)) 0 0 (va_A (MW dA mm mad M) sz)) (hP : va_P D vwCl (MW dA mm mad M ++ (([(o, .inl (dA 2, 1, .inr (.inl og)))] : va_W) ++ (VW dA h ad x))) H) (hD : va_D A (MW dA mm mad M ++ (([(o, .inl (dA 2, 1, .inr (.inl og)))] : va_W) ++ (VW dA h ad x)))) (hS : va_S A s.heap H locs) (hl : lv_has ls 8 [(4, .int (nI i)), (3, .ref o), (2, .ref mm), (1, .ref h), (0, .ref b)]) (cont : ∀ (u : VS) (H1 : Heap) (locs1 : List Loc) (ls1 : Array Slot), F9 u → va_P D vwCl (MW dA mm mad M1 ++ (([(o, .inl (dA 2, 1, .inr (.inl og)))] : va_W) ++ (VW dA h ad u))) H1 → va_D A (MW dA mm mad M1 ++ (([(o, .inl (dA 2, 1, .inr (.inl og)))] : va_W) ++ (VW dA h ad u))) → va_S A s.heap H1 locs1 → lv_has ls1 8 [(4, .int (nI (i + 6))), (3, .ref o), (2, .ref mm), (1, .ref h), (0, .ref b)] → W p l e room_1 s m #[Value.ref b] below meth c H1 locs1 (cells + mc9 + 0 + 0) (slots + ms9 + 0 + 0) (lw_Z below #[Value.ref b] s) (F0 m 23 ls1 [])) : W p l e room_1 s m #[Value.ref b] below meth c H locs cells slots (lw_Z below #[Value.ref b] s) (F0 m 951 ls []) := by
  have hC0 := hC
  obtain ⟨hx, hb, hr, hml, hown, hlk, hE, hK, hA, hN, hZ, hT, hX, hbl, hbA, hnew, htr⟩ := hC
  refine lv_aload_n hx hb d_SeriesVaultLaw_law_951 rfl (lv_at hl 3 rfl) ?_
  refine lv_aload_n hx hb d_SeriesVaultLaw_law_952 rfl (lv_at hl 4 rfl) ?_
  refine lv_iload hx hb d_SeriesVaultLaw_law_953 (lv_at hl 0 rfl) ?_
  refine lv_iconst (v := 1) hx hb d_SeriesVaultLaw_law_955 (by decide) ?_
  refine lv_iadd hx hb d_SeriesVaultLaw_law_956 (tpi (y := nI (i + 1)) (nI_add (i) (1)) ?_)
  refine sldN hx hb hX hbl hbA hS (show i + 1 < L by omega) (show L ≤ 65536 by omega) d_SeriesVaultLaw_law_957 ?_
  refine lv_aload_n hx hb d_SeriesVaultLaw_law_958 rfl (lv_at hl 1 rfl) ?_
  have hPc : va_P D vwCl (([(o, .inl (dA 2, 1, .inr (.inl og)))] : va_W) ++ (VW dA h ad x)) H := spP (wr := MW dA mm mad M) hP
  have hDc : va_D A (([(o, .inl (dA 2, 1, .inr (.inl og)))] : va_W) ++ (VW dA h ad x)) := spD (wr := MW dA mm mad M) hD
  refine jkI (wr := MW dA mm mad M) (rnW (As := [.ref h, .int (xs (i + 1)), .ref o]) (rest := []) hx hb hml hown hE hK (hN _ _ hS) hPc hDc (hW H.size) w1876 w1875 w1877 w1793 rfl rfl ⟨⟨by decide, by decide⟩, rfl⟩ ⟨(show fr1 + 1 ≤ 2048 by omega), (show 8 + (4 + 11) + lo1 ≤ 84000 by omega)⟩ rfl hl.1 rfl (Nat.le_of_ble_eq_true rfl) d_SeriesVaultLaw_law_959 ⟨(show cells + mc9 ≤ 601024 by omega), (show slots + ms9 ≤ 7293034 by omega)⟩) hP hD hS hA (fun k8 u8 H locs hp9 hP hD hS => ?_)
  obtain ⟨hp9, hf9⟩ := hp9
  replace hp9 : nI k9 = k8 := Eq.symm hp9
  subst hp9
  have hP : va_P D vwCl (MW dA mm mad M ++ (([(o, .inl (dA 2, 1, .inr (.inl og)))] : va_W) ++ (VW dA h ad u8))) H := hP
  have hD : va_D A (MW dA mm mad M ++ (([(o, .inl (dA 2, 1, .inr (.inl og)))] : va_W) ++ (VW dA h ad u8))) := hD
  refine lv_istore hx hb d_SeriesVaultLaw_law_962 hl (by decide) rfl (fun ls hl => ?_)
  have hl : lv_has ls 8 [(5, .int (nI k9)), (4, .int (nI i)), (3, .ref o), (2, .ref mm), (1, .ref h), (0, .ref b)] := hl
  refine lv_aload_n hx hb d_SeriesVaultLaw_law_964 rfl (lv_at hl 3 rfl) ?_
  refine lv_aload_n hx hb d_SeriesVaultLaw_law_965 rfl (lv_at hl 5 rfl) ?_
  refine lv_iload hx hb d_SeriesVaultLaw_law_966 (lv_at hl 1 rfl) ?_
  refine lv_iconst (v := 1) hx hb d_SeriesVaultLaw_law_968 (by decide) ?_
  refine lv_iadd hx hb d_SeriesVaultLaw_law_969 (tpi (y := nI (i + 1)) (nI_add (i) (1)) ?_)
  refine sldN hx hb hX hbl hbA hS (show i + 1 < L by omega) (show L ≤ 65536 by omega) d_SeriesVaultLaw_law_970 ?_
  have hP := pmP (show List.Perm (α := Nat × va_E) (MW dA mm mad M ++ (([(o, .inl (dA 2, 1, .inr (.inl og)))] : va_W) ++ (VW dA h ad u8))) (([(o, .inl (dA 2, 1, .inr (.inl og)))] : va_W) ++ (MW dA mm mad M ++ (VW dA h ad u8))) from List.perm_append_comm_assoc (MW dA mm mad M) (([(o, .inl (dA 2, 1, .inr (.inl og)))] : va_W)) (VW dA h ad u8)) hP
  have hD := pmD (show List.Perm (α := Nat × va_E) (MW dA mm mad M ++ (([(o, .inl (dA 2, 1, .inr (.inl og)))] : va_W) ++ (VW dA h ad u8))) (([(o, .inl (dA 2, 1, .inr (.inl og)))] : va_W) ++ (MW dA mm mad M ++ (VW dA h ad u8))) from List.perm_append_comm_assoc (MW dA mm mad M) (([(o, .inl (dA 2, 1, .inr (.inl og)))] : va_W)) (VW dA h ad u8)) hD
  have hP := pmP (show List.Perm (α := Nat × va_E) (([(o, .inl (dA 2, 1, .inr (.inl og)))] : va_W) ++ (MW dA mm mad M ++ (VW dA h ad u8))) (([(o, .inl (dA 2, 1, .inr (.inl og)))] : va_W) ++ (VW dA h ad u8 ++ (MW dA mm mad M))) from List.Perm.append_left (([(o, .inl (dA 2, 1, .inr (.inl og)))] : va_W)) (List.perm_append_comm)) hP
  have hD := pmD (show List.Perm (α := Nat × va_E) (([(o, .inl (dA 2, 1, .inr (.inl og)))] : va_W) ++ (MW dA mm mad M ++ (VW dA h ad u8))) (([(o, .inl (dA 2, 1, .inr (.inl og)))] : va_W) ++ (VW dA h ad u8 ++ (MW dA mm mad M))) from List.Perm.append_left (([(o, .inl (dA 2, 1, .inr (.inl og)))] : va_W)) (List.perm_append_comm)) hD
  have hPc : va_P D vwCl (MW dA mm mad M) H := spP (wr := ([(o, .inl (dA 2, 1, .inr (.inl og)))] : va_W) ++ (VW dA h ad u8)) hP
  have hDc : va_D A (MW dA mm mad M) := spD (wr := ([(o, .inl (dA 2, 1, .inr (.inl og)))] : va_W) ++ (VW dA h ad u8)) hD
  refine jkI (wr := ([(o, .inl (dA 2, 1, .inr (.inl og)))] : va_W) ++ (VW dA h ad u8)) (rnV (As := [.int (xs (i + 1))]) (rest := []) hx hb hml hown hE hK (hN _ _ hS) hPc hDc (hM H.size) (q0 := 0) rfl rfl w1879 w1878 w1880 w1881 w328 rfl rfl ⟨⟨by decide, by decide⟩, rfl⟩ ⟨(show fr2 + 1 ≤ 2048 by omega), (show 8 + (7 + 11) + lo2 ≤ 84000 by omega)⟩ rfl hl.1 rfl (Nat.le_of_ble_eq_true rfl) d_SeriesVaultLaw_law_971 ⟨(show cells + mc9 + 0 ≤ 601024 by omega), (show slots + ms9 + 0 ≤ 7293034 by omega)⟩) hP hD hS hA (fun r7 u7 H locs hp9 hP hD hS => ?_)
  replace hp9 : b9 = r7 := Eq.symm hp9
  subst hp9
  have hP : va_P D vwCl (([(o, .inl (dA 2, 1, .inr (.inl og)))] : va_W) ++ (VW dA h ad u8 ++ (MW dA mm mad M1))) H := hP
  have hD : va_D A (([(o, .inl (dA 2, 1, .inr (.inl og)))] : va_W) ++ (VW dA h ad u8 ++ (MW dA mm mad M1))) := hD
  refine lv_istore hx hb d_SeriesVaultLaw_law_974 hl (by decide) rfl (fun ls hl => ?_)
  have hl : lv_has ls 8 [(6, .int b9), (5, .int (nI k9)), (4, .int (nI i)), (3, .ref o), (2, .ref mm), (1, .ref h), (0, .ref b)] := hl
  refine lv_aload_n hx hb d_SeriesVaultLaw_law_976 rfl (lv_at hl 4 rfl) ?_
  have hPc : va_P D vwCl (MW dA mm mad M1) H := spP (wr := ([(o, .inl (dA 2, 1, .inr (.inl og)))] : va_W) ++ (VW dA h ad u8)) hP
  have hDc : va_D A (MW dA mm mad M1) := spD (wr := ([(o, .inl (dA 2, 1, .inr (.inl og)))] : va_W) ++ (VW dA h ad u8)) hD
  refine jkI (wr := ([(o, .inl (dA 2, 1, .inr (.inl og)))] : va_W) ++ (VW dA h ad u8)) (rnV (As := []) (rest := []) hx hb hml hown hE hK (hN _ _ hS) hPc hDc (k_thrown l D dA H.size mm mad M1) (q0 := 0) rfl rfl w1801 w1800 w1802 w1803 w328 rfl rfl ⟨⟨by decide, by decide⟩, rfl⟩ ⟨(show 1 + 1 ≤ 2048 by omega), (show 8 + (1 + 11) + 0 ≤ 84000 by omega)⟩ rfl hl.1 rfl (Nat.le_of_ble_eq_true rfl) d_SeriesVaultLaw_law_977 ⟨(show cells + mc9 + 0 ≤ 601024 by omega), (show slots + ms9 + 0 ≤ 7293034 by omega)⟩) hP hD hS hA (fun r7 u7 H locs hp9 hP hD hS => ?_)
  replace hp9 : nI k9 = r7 := Eq.symm (hp9.trans hcod)
  subst hp9
  have hP : va_P D vwCl (([(o, .inl (dA 2, 1, .inr (.inl og)))] : va_W) ++ (VW dA h ad u8 ++ (MW dA mm mad M1))) H := hP
  have hD : va_D A (([(o, .inl (dA 2, 1, .inr (.inl og)))] : va_W) ++ (VW dA h ad u8 ++ (MW dA mm mad M1))) := hD
  refine lv_iload hx hb d_SeriesVaultLaw_law_980 (lv_at hl 1 rfl) ?_
  refine lv_icmp_eq hx hb d_SeriesVaultLaw_law_982 (tgt := 987) rfl (fun _ => ?_) (fun h9 => absurd rfl h9)
  refine lv_iload hx hb d_SeriesVaultLaw_law_987 (lv_at hl 1 rfl) ?_
  refine lv_if_ne hx hb d_SeriesVaultLaw_law_989 (tgt := 1004) rfl (fun _ => ?_) (fun h9 => absurd h9 hk9)
  refine lv_goto hx hb d_SeriesVaultLaw_law_1004 (tgt := 1770) rfl ?_
  refine lv_iinc (k := 2) (v := nI (i + 6)) hx hb d_SeriesVaultLaw_law_1770 hl rfl (iincN (i) 6 6 (by decide)) (by decide) rfl (fun ls hl => ?_)
  have hl : lv_has ls 8 [(4, .int (nI (i + 6))), (6, .int b9), (5, .int (nI k9)), (3, .ref o), (2, .ref mm), (1, .ref h), (0, .ref b)] := hl
  refine lv_goto hx hb d_SeriesVaultLaw_law_1773 (tgt := 23) rfl ?_
  have hP := pmP (show List.Perm (α := Nat × va_E) (([(o, .inl (dA 2, 1, .inr (.inl og)))] : va_W) ++ (VW dA h ad u8 ++ (MW dA mm mad M1))) (MW dA mm mad M1 ++ (([(o, .inl (dA 2, 1, .inr (.inl og)))] : va_W) ++ (VW dA h ad u8))) from (List.Perm.append_left (([(o, .inl (dA 2, 1, .inr (.inl og)))] : va_W)) (List.perm_append_comm)).trans (List.perm_append_comm_assoc (([(o, .inl (dA 2, 1, .inr (.inl og)))] : va_W)) (MW dA mm mad M1) (VW dA h ad u8))) hP
  have hD := pmD (show List.Perm (α := Nat × va_E) (([(o, .inl (dA 2, 1, .inr (.inl og)))] : va_W) ++ (VW dA h ad u8 ++ (MW dA mm mad M1))) (MW dA mm mad M1 ++ (([(o, .inl (dA 2, 1, .inr (.inl og)))] : va_W) ++ (VW dA h ad u8))) from (List.Perm.append_left (([(o, .inl (dA 2, 1, .inr (.inl og)))] : va_W)) (List.perm_append_comm)).trans (List.perm_append_comm_assoc (([(o, .inl (dA 2, 1, .inr (.inl og)))] : va_W)) (MW dA mm mad M1) (VW dA h ad u8))) hD
  have hP : va_P D vwCl (MW dA mm mad M1 ++ (([(o, .inl (dA 2, 1, .inr (.inl og)))] : va_W) ++ (VW dA h ad u8))) H := hP
  have hD : va_D A (MW dA mm mad M1 ++ (([(o, .inl (dA 2, 1, .inr (.inl og)))] : va_W) ++ (VW dA h ad u8))) := hD
  have hl := lv_sub (l' := [(4, .int (nI (i + 6))), (3, .ref o), (2, .ref mm), (1, .ref h), (0, .ref b)]) hl [0, 3, 4, 5, 6] rfl
  exact cont u8 H locs ls hf9 hP hD hS hl
theorem d_SeriesVaultLaw_law_1007 : decode code 1007 = .ok (.aload_n 1, 1) := by decide +kernel
theorem d_SeriesVaultLaw_law_1008 : decode code 1008 = .ok (.aload_n 0, 1) := by decide +kernel
theorem d_SeriesVaultLaw_law_1009 : decode code 1009 = .ok (.iload 4, 2) := by decide +kernel
theorem d_SeriesVaultLaw_law_1011 : decode code 1011 = .ok (.iconst 1, 1) := by decide +kernel
theorem d_SeriesVaultLaw_law_1012 : decode code 1012 = .ok (.iadd, 1) := by decide +kernel
theorem d_SeriesVaultLaw_law_1013 : decode code 1013 = .ok (.iaload, 1) := by decide +kernel
theorem d_SeriesVaultLaw_law_1014 : decode code 1014 = .ok (.i2l, 1) := by decide +kernel
theorem d_SeriesVaultLaw_law_1015 : decode code 1015 = .ok (.bipush 32, 2) := by decide +kernel
theorem d_SeriesVaultLaw_law_1017 : decode code 1017 = .ok (.lshl, 1) := by decide +kernel
theorem d_SeriesVaultLaw_law_1018 : decode code 1018 = .ok (.aload_n 0, 1) := by decide +kernel
theorem d_SeriesVaultLaw_law_1019 : decode code 1019 = .ok (.iload 4, 2) := by decide +kernel
theorem d_SeriesVaultLaw_law_1021 : decode code 1021 = .ok (.iconst 2, 1) := by decide +kernel
theorem d_SeriesVaultLaw_law_1022 : decode code 1022 = .ok (.iadd, 1) := by decide +kernel
theorem d_SeriesVaultLaw_law_1023 : decode code 1023 = .ok (.iaload, 1) := by decide +kernel
theorem d_SeriesVaultLaw_law_1024 : decode code 1024 = .ok (.i2l, 1) := by decide +kernel
theorem d_SeriesVaultLaw_law_1025 : decode code 1025 = .ok (.ldc2_w 133, 3) := by decide +kernel
theorem d_SeriesVaultLaw_law_1028 : decode code 1028 = .ok (.land, 1) := by decide +kernel
theorem d_SeriesVaultLaw_law_1029 : decode code 1029 = .ok (.lor, 1) := by decide +kernel
theorem d_SeriesVaultLaw_law_1030 : decode code 1030 = .ok (.aload_n 3, 1) := by decide +kernel
theorem d_SeriesVaultLaw_law_1031 : decode code 1031 = .ok (.invokestatic 154, 3) := by decide +kernel
theorem d_SeriesVaultLaw_law_1034 : decode code 1034 = .ok (.istore 5, 2) := by decide +kernel
theorem d_SeriesVaultLaw_law_1036 : decode code 1036 = .ok (.aload_n 2, 1) := by decide +kernel
theorem d_SeriesVaultLaw_law_1037 : decode code 1037 = .ok (.aload_n 0, 1) := by decide +kernel
theorem d_SeriesVaultLaw_law_1038 : decode code 1038 = .ok (.iload 4, 2) := by decide +kernel
theorem d_SeriesVaultLaw_law_1040 : decode code 1040 = .ok (.iconst 1, 1) := by decide +kernel
theorem d_SeriesVaultLaw_law_1041 : decode code 1041 = .ok (.iadd, 1) := by decide +kernel
theorem d_SeriesVaultLaw_law_1042 : decode code 1042 = .ok (.iaload, 1) := by decide +kernel
theorem d_SeriesVaultLaw_law_1043 : decode code 1043 = .ok (.i2l, 1) := by decide +kernel
theorem d_SeriesVaultLaw_law_1044 : decode code 1044 = .ok (.bipush 32, 2) := by decide +kernel
theorem d_SeriesVaultLaw_law_1046 : decode code 1046 = .ok (.lshl, 1) := by decide +kernel
theorem d_SeriesVaultLaw_law_1047 : decode code 1047 = .ok (.aload_n 0, 1) := by decide +kernel
theorem d_SeriesVaultLaw_law_1048 : decode code 1048 = .ok (.iload 4, 2) := by decide +kernel
theorem d_SeriesVaultLaw_law_1050 : decode code 1050 = .ok (.iconst 2, 1) := by decide +kernel
theorem d_SeriesVaultLaw_law_1051 : decode code 1051 = .ok (.iadd, 1) := by decide +kernel
theorem d_SeriesVaultLaw_law_1052 : decode code 1052 = .ok (.iaload, 1) := by decide +kernel
theorem d_SeriesVaultLaw_law_1053 : decode code 1053 = .ok (.i2l, 1) := by decide +kernel
theorem d_SeriesVaultLaw_law_1054 : decode code 1054 = .ok (.ldc2_w 133, 3) := by decide +kernel
theorem d_SeriesVaultLaw_law_1057 : decode code 1057 = .ok (.land, 1) := by decide +kernel
theorem d_SeriesVaultLaw_law_1058 : decode code 1058 = .ok (.lor, 1) := by decide +kernel
theorem d_SeriesVaultLaw_law_1059 : decode code 1059 = .ok (.invokevirtual 157, 3) := by decide +kernel
theorem d_SeriesVaultLaw_law_1062 : decode code 1062 = .ok (.istore 6, 2) := by decide +kernel
theorem d_SeriesVaultLaw_law_1064 : decode code 1064 = .ok (.aload_n 2, 1) := by decide +kernel
theorem d_SeriesVaultLaw_law_1065 : decode code 1065 = .ok (.invokevirtual 110, 3) := by decide +kernel
theorem d_SeriesVaultLaw_law_1068 : decode code 1068 = .ok (.iload 5, 2) := by decide +kernel
theorem d_SeriesVaultLaw_law_1070 : decode code 1070 = .ok (.if_icmp .eq 5, 3) := by decide +kernel
theorem d_SeriesVaultLaw_law_1075 : decode code 1075 = .ok (.iload 5, 2) := by decide +kernel
theorem d_SeriesVaultLaw_law_1077 : decode code 1077 = .ok (.ifCond .ne 15, 3) := by decide +kernel
theorem d_SeriesVaultLaw_law_1080 : decode code 1080 = .ok (.aload_n 3, 1) := by decide +kernel
theorem d_SeriesVaultLaw_law_1081 : decode code 1081 = .ok (.iconst 0, 1) := by decide +kernel
theorem d_SeriesVaultLaw_law_1082 : decode code 1082 = .ok (.laload, 1) := by decide +kernel
theorem d_SeriesVaultLaw_law_1083 : decode code 1083 = .ok (.iload 6, 2) := by decide +kernel
theorem d_SeriesVaultLaw_law_1085 : decode code 1085 = .ok (.i2l, 1) := by decide +kernel
theorem d_SeriesVaultLaw_law_1086 : decode code 1086 = .ok (.lcmp, 1) := by decide +kernel
theorem d_SeriesVaultLaw_law_1087 : decode code 1087 = .ok (.ifCond .eq 5, 3) := by decide +kernel
theorem d_SeriesVaultLaw_law_1092 : decode code 1092 = .ok (.goto 678, 3) := by decide +kernel
theorem w1882 : Cond.methodLink "SeriesVaultLaw" 154 ⟨"SeriesVaultLaw", "retain", "(LSeriesVault;J[J)I"⟩ ∈ aW := aw_of (tb_6 (List.mem_of_getElem? (i := 147) rfl)) rfl
theorem w1883 : Cond.codeWith ⟨"SeriesVaultLaw", "retain", "(LSeriesVault;J[J)I"⟩ method_15_code 5 (some FieldType.int) [(0, 9, 12, 29), (0, 9, 16, 19)] ∈ aW := aw_of (tb_6 (List.mem_of_getElem? (i := 149) rfl)) rfl
theorem w1884 : Cond.static ⟨"SeriesVaultLaw", "retain", "(LSeriesVault;J[J)I"⟩ ∈ aW := aw_of (tb_6 (List.mem_of_getElem? (i := 148) rfl)) rfl
theorem w1885 : Cond.methodLink "SeriesVaultLaw" 157 ⟨"SeriesVaultModel", "retain", "(J)I"⟩ ∈ aW := aw_of (tb_10 (List.mem_of_getElem? (i := 121) rfl)) rfl
theorem w1886 : Cond.code ⟨"SeriesVaultModel", "retain", "(J)I"⟩ prog_14_method_47_code 7 (some FieldType.int) ∈ aW := aw_of (tb_10 (List.mem_of_getElem? (i := 124) rfl)) rfl
theorem w1887 : Cond.instanceMethod ⟨"SeriesVaultModel", "retain", "(J)I"⟩ ∈ aW := aw_of (tb_10 (List.mem_of_getElem? (i := 122) rfl)) rfl
theorem w1888 : Cond.selects "SeriesVaultModel" ⟨"SeriesVaultModel", "retain", "(J)I"⟩ ⟨"SeriesVaultModel", "retain", "(J)I"⟩ ∈ aW := aw_of (tb_10 (List.mem_of_getElem? (i := 123) rfl)) rfl
set_option maxHeartbeats 4000000 in
set_option maxRecDepth 100000 in
theorem l9_12 {p : Program} {e : Env} {s : State} {m : MethodId} {below : List Frame} {meth : Method} {c : Code} (l : Launch) {b L : Nat} {xs : Nat → Int32} {D : va_G} {dA : Nat → ClassId} {e0 : Nat} {A : Nat → Prop} {H : Heap} {locs : List Loc} {ls : Array Slot} (hC : lS p l s m meth c b L xs D dA e0 A) {h : Nat} {ad : Nat → Nat} {x : VS} {mm : Nat} {mad : Nat → Nat} {M M1 : MS} {o : Nat} {og : Nat → Int64} {i fr1 lo1 fr2 lo2 mc9 ms9 cells slots : Nat} {F9 : VS → Prop} {b9 : Int32} {v9 : Int64} (hi : i + 6 ≤ L) (hL : L ≤ 3072) (hfr : fr1 ≤ 2000 ∧ lo1 ≤ 80000 ∧ fr2 ≤ 2000 ∧ lo2 ≤ 80000) (hrm : cells + mc9 ≤ 601024 ∧ slots + ms9 ≤ 7293034) (hcod : M1.cod = 0) (hv : v9 = b9.toInt64) (hW : ∀ sz : Nat, Met l ⟨"SeriesVaultLaw", "retain", "(LSeriesVault;J[J)I"⟩ [Cond.codeWith ⟨"SeriesVaultLaw", "retain", "(LSeriesVault;J[J)I"⟩ method_15_code 5 (some FieldType.int) [(0, 9, 12, 29), (0, 9, 16, 19)]] { frames := fr1, cells := mc9, slots := ms9, locals := lo1 } (pC D dA [.ref h, .long ((((xs (i + 1)).toInt64) <<< ((32 : Int32).toInt64 &&& 63)) ||| (((xs (i + 2)).toInt64) &&& 4294967295)), .ref o] (([(o, .inl (dA 2, 1, .inr (.inl og)))] : va_W) ++ (VW dA h ad x)) sz) (va_Qi (fun (r9 : Int32) (u9 : VS) => r9 = 0 ∧ F9 u9) (fun (u9 : VS) t9 => bW D (va_A (([(o, .inl (dA 2, 1, .inr (.inl og)))] : va_W) ++ (VW dA h ad x)) sz) (([(o, .inl (dA 2, 1, .inr (.inl (va_up og 0 v9))))] : va_W) ++ (VW dA h ad u9)) t9) (va_A (([(o, .inl (dA 2, 1, .inr (.inl og)))] : va_W) ++ (VW dA h ad x)) sz)) mc9 ms9 (va_A (([(o, .inl (dA 2, 1, .inr (.inl og)))] : va_W) ++ (VW dA h ad x)) sz)) (hM : ∀ sz : Nat, Met l ⟨"SeriesVaultModel", "retain", "(J)I"⟩ [Cond.code ⟨"SeriesVaultModel", "retain", "(J)I"⟩ prog_14_method_47_code 7 (some FieldType.int)] { frames := fr2, cells := 0, slots := 0, locals := lo2 } (pC D dA [.ref mm, .long ((((xs (i + 1)).toInt64) <<< ((32 : Int32).toInt64 &&& 63)) ||| (((xs (i + 2)).toInt64) &&& 4294967295))] (MW dA mm mad M) sz) (va_Qi (fun (r9 : Int32) (u9 : Unit) => r9 = b9) (fun (u9 : Unit) t9 => bW D (va_A (MW dA mm mad M) sz) (MW dA mm mad M1) t9) (va_A (MW dA mm mad M) sz)) 0 0 (va_A (MW dA mm mad M) sz)) (hP : va_P D vwCl (MW dA mm mad M ++ (([(o, .inl (dA 2, 1, .inr (.inl og)))] : va_W) ++ (VW dA h ad x))) H) (hD : va_D A (MW dA mm mad M ++ (([(o, .inl (dA 2, 1, .inr (.inl og)))] : va_W) ++ (VW dA h ad x)))) (hS : va_S A s.heap H locs) (hl : lv_has ls 8 [(4, .int (nI i)), (3, .ref o), (2, .ref mm), (1, .ref h), (0, .ref b)]) (cont : ∀ (u : VS) (H1 : Heap) (locs1 : List Loc) (ls1 : Array Slot), F9 u → va_P D vwCl (MW dA mm mad M1 ++ (([(o, .inl (dA 2, 1, .inr (.inl (va_up og 0 v9))))] : va_W) ++ (VW dA h ad u))) H1 → va_D A (MW dA mm mad M1 ++ (([(o, .inl (dA 2, 1, .inr (.inl (va_up og 0 v9))))] : va_W) ++ (VW dA h ad u))) → va_S A s.heap H1 locs1 → lv_has ls1 8 [(4, .int (nI (i + 6))), (3, .ref o), (2, .ref mm), (1, .ref h), (0, .ref b)] → W p l e room_1 s m #[Value.ref b] below meth c H1 locs1 (cells + mc9 + 0 + 0) (slots + ms9 + 0 + 0) (lw_Z below #[Value.ref b] s) (F0 m 23 ls1 [])) : W p l e room_1 s m #[Value.ref b] below meth c H locs cells slots (lw_Z below #[Value.ref b] s) (F0 m 1007 ls []) := by
  have hC0 := hC
  obtain ⟨hx, hb, hr, hml, hown, hlk, hE, hK, hA, hN, hZ, hT, hX, hbl, hbA, hnew, htr⟩ := hC
  refine lv_aload_n hx hb d_SeriesVaultLaw_law_1007 rfl (lv_at hl 3 rfl) ?_
  refine lv_aload_n hx hb d_SeriesVaultLaw_law_1008 rfl (lv_at hl 4 rfl) ?_
  refine lv_iload hx hb d_SeriesVaultLaw_law_1009 (lv_at hl 0 rfl) ?_
  refine lv_iconst (v := 1) hx hb d_SeriesVaultLaw_law_1011 (by decide) ?_
  refine lv_iadd hx hb d_SeriesVaultLaw_law_1012 (tpi (y := nI (i + 1)) (nI_add (i) (1)) ?_)
  refine sldN hx hb hX hbl hbA hS (show i + 1 < L by omega) (show L ≤ 65536 by omega) d_SeriesVaultLaw_law_1013 ?_
  refine lv_i2l hx hb d_SeriesVaultLaw_law_1014 rfl ?_
  refine lv_bipush (v := 32) hx hb d_SeriesVaultLaw_law_1015 (by decide) ?_
  refine lv_lshl hx hb d_SeriesVaultLaw_law_1017 rfl ?_
  refine lv_aload_n hx hb d_SeriesVaultLaw_law_1018 rfl (lv_at hl 4 rfl) ?_
  refine lv_iload hx hb d_SeriesVaultLaw_law_1019 (lv_at hl 0 rfl) ?_
  refine lv_iconst (v := 2) hx hb d_SeriesVaultLaw_law_1021 (by decide) ?_
  refine lv_iadd hx hb d_SeriesVaultLaw_law_1022 (tpi (y := nI (i + 2)) (nI_add (i) (2)) ?_)
  refine sldN hx hb hX hbl hbA hS (show i + 2 < L by omega) (show L ≤ 65536 by omega) d_SeriesVaultLaw_law_1023 ?_
  refine lv_i2l hx hb d_SeriesVaultLaw_law_1024 rfl ?_
  refine lv_ldc2 (v := 4294967295) hx hb hown (hE.t w1839 rfl) d_SeriesVaultLaw_law_1025 ?_
  refine lv_land hx hb d_SeriesVaultLaw_law_1028 ?_
  refine lv_lor hx hb d_SeriesVaultLaw_law_1029 ?_
  refine lv_aload_n hx hb d_SeriesVaultLaw_law_1030 rfl (lv_at hl 1 rfl) ?_
  have hPc : va_P D vwCl (([(o, .inl (dA 2, 1, .inr (.inl og)))] : va_W) ++ (VW dA h ad x)) H := spP (wr := MW dA mm mad M) hP
  have hDc : va_D A (([(o, .inl (dA 2, 1, .inr (.inl og)))] : va_W) ++ (VW dA h ad x)) := spD (wr := MW dA mm mad M) hD
  refine jkI (wr := MW dA mm mad M) (rnW (As := [.ref h, .long ((((xs (i + 1)).toInt64) <<< ((32 : Int32).toInt64 &&& 63)) ||| (((xs (i + 2)).toInt64) &&& 4294967295)), .ref o]) (rest := []) hx hb hml hown hE hK (hN _ _ hS) hPc hDc (hW H.size) w1883 w1882 w1884 w1793 rfl rfl ⟨⟨by decide, by decide⟩, rfl⟩ ⟨(show fr1 + 1 ≤ 2048 by omega), (show 8 + (5 + 11) + lo1 ≤ 84000 by omega)⟩ rfl hl.1 rfl (Nat.le_of_ble_eq_true rfl) d_SeriesVaultLaw_law_1031 ⟨(show cells + mc9 ≤ 601024 by omega), (show slots + ms9 ≤ 7293034 by omega)⟩) hP hD hS hA (fun k8 u8 H locs hp9 hP hD hS => ?_)
  obtain ⟨hp9, hf9⟩ := hp9
  replace hp9 : 0 = k8 := Eq.symm hp9
  subst hp9
  have hP : va_P D vwCl (MW dA mm mad M ++ (([(o, .inl (dA 2, 1, .inr (.inl (va_up og 0 v9))))] : va_W) ++ (VW dA h ad u8))) H := hP
  have hD : va_D A (MW dA mm mad M ++ (([(o, .inl (dA 2, 1, .inr (.inl (va_up og 0 v9))))] : va_W) ++ (VW dA h ad u8))) := hD
  refine lv_istore hx hb d_SeriesVaultLaw_law_1034 hl (by decide) rfl (fun ls hl => ?_)
  have hl : lv_has ls 8 [(5, .int 0), (4, .int (nI i)), (3, .ref o), (2, .ref mm), (1, .ref h), (0, .ref b)] := hl
  refine lv_aload_n hx hb d_SeriesVaultLaw_law_1036 rfl (lv_at hl 3 rfl) ?_
  refine lv_aload_n hx hb d_SeriesVaultLaw_law_1037 rfl (lv_at hl 5 rfl) ?_
  refine lv_iload hx hb d_SeriesVaultLaw_law_1038 (lv_at hl 1 rfl) ?_
  refine lv_iconst (v := 1) hx hb d_SeriesVaultLaw_law_1040 (by decide) ?_
  refine lv_iadd hx hb d_SeriesVaultLaw_law_1041 (tpi (y := nI (i + 1)) (nI_add (i) (1)) ?_)
  refine sldN hx hb hX hbl hbA hS (show i + 1 < L by omega) (show L ≤ 65536 by omega) d_SeriesVaultLaw_law_1042 ?_
  refine lv_i2l hx hb d_SeriesVaultLaw_law_1043 rfl ?_
  refine lv_bipush (v := 32) hx hb d_SeriesVaultLaw_law_1044 (by decide) ?_
  refine lv_lshl hx hb d_SeriesVaultLaw_law_1046 rfl ?_
  refine lv_aload_n hx hb d_SeriesVaultLaw_law_1047 rfl (lv_at hl 5 rfl) ?_
  refine lv_iload hx hb d_SeriesVaultLaw_law_1048 (lv_at hl 1 rfl) ?_
  refine lv_iconst (v := 2) hx hb d_SeriesVaultLaw_law_1050 (by decide) ?_
  refine lv_iadd hx hb d_SeriesVaultLaw_law_1051 (tpi (y := nI (i + 2)) (nI_add (i) (2)) ?_)
  refine sldN hx hb hX hbl hbA hS (show i + 2 < L by omega) (show L ≤ 65536 by omega) d_SeriesVaultLaw_law_1052 ?_
  refine lv_i2l hx hb d_SeriesVaultLaw_law_1053 rfl ?_
  refine lv_ldc2 (v := 4294967295) hx hb hown (hE.t w1839 rfl) d_SeriesVaultLaw_law_1054 ?_
  refine lv_land hx hb d_SeriesVaultLaw_law_1057 ?_
  refine lv_lor hx hb d_SeriesVaultLaw_law_1058 ?_
  have hP := pmP (show List.Perm (α := Nat × va_E) (MW dA mm mad M ++ (([(o, .inl (dA 2, 1, .inr (.inl (va_up og 0 v9))))] : va_W) ++ (VW dA h ad u8))) (([(o, .inl (dA 2, 1, .inr (.inl (va_up og 0 v9))))] : va_W) ++ (MW dA mm mad M ++ (VW dA h ad u8))) from List.perm_append_comm_assoc (MW dA mm mad M) (([(o, .inl (dA 2, 1, .inr (.inl (va_up og 0 v9))))] : va_W)) (VW dA h ad u8)) hP
  have hD := pmD (show List.Perm (α := Nat × va_E) (MW dA mm mad M ++ (([(o, .inl (dA 2, 1, .inr (.inl (va_up og 0 v9))))] : va_W) ++ (VW dA h ad u8))) (([(o, .inl (dA 2, 1, .inr (.inl (va_up og 0 v9))))] : va_W) ++ (MW dA mm mad M ++ (VW dA h ad u8))) from List.perm_append_comm_assoc (MW dA mm mad M) (([(o, .inl (dA 2, 1, .inr (.inl (va_up og 0 v9))))] : va_W)) (VW dA h ad u8)) hD
  have hP := pmP (show List.Perm (α := Nat × va_E) (([(o, .inl (dA 2, 1, .inr (.inl (va_up og 0 v9))))] : va_W) ++ (MW dA mm mad M ++ (VW dA h ad u8))) (([(o, .inl (dA 2, 1, .inr (.inl (va_up og 0 v9))))] : va_W) ++ (VW dA h ad u8 ++ (MW dA mm mad M))) from List.Perm.append_left (([(o, .inl (dA 2, 1, .inr (.inl (va_up og 0 v9))))] : va_W)) (List.perm_append_comm)) hP
  have hD := pmD (show List.Perm (α := Nat × va_E) (([(o, .inl (dA 2, 1, .inr (.inl (va_up og 0 v9))))] : va_W) ++ (MW dA mm mad M ++ (VW dA h ad u8))) (([(o, .inl (dA 2, 1, .inr (.inl (va_up og 0 v9))))] : va_W) ++ (VW dA h ad u8 ++ (MW dA mm mad M))) from List.Perm.append_left (([(o, .inl (dA 2, 1, .inr (.inl (va_up og 0 v9))))] : va_W)) (List.perm_append_comm)) hD
  have hPc : va_P D vwCl (MW dA mm mad M) H := spP (wr := ([(o, .inl (dA 2, 1, .inr (.inl (va_up og 0 v9))))] : va_W) ++ (VW dA h ad u8)) hP
  have hDc : va_D A (MW dA mm mad M) := spD (wr := ([(o, .inl (dA 2, 1, .inr (.inl (va_up og 0 v9))))] : va_W) ++ (VW dA h ad u8)) hD
  refine jkI (wr := ([(o, .inl (dA 2, 1, .inr (.inl (va_up og 0 v9))))] : va_W) ++ (VW dA h ad u8)) (rnV (As := [.long ((((xs (i + 1)).toInt64) <<< ((32 : Int32).toInt64 &&& 63)) ||| (((xs (i + 2)).toInt64) &&& 4294967295))]) (rest := []) hx hb hml hown hE hK (hN _ _ hS) hPc hDc (hM H.size) (q0 := 0) rfl rfl w1886 w1885 w1887 w1888 w328 rfl rfl ⟨⟨by decide, by decide⟩, rfl⟩ ⟨(show fr2 + 1 ≤ 2048 by omega), (show 8 + (7 + 11) + lo2 ≤ 84000 by omega)⟩ rfl hl.1 rfl (Nat.le_of_ble_eq_true rfl) d_SeriesVaultLaw_law_1059 ⟨(show cells + mc9 + 0 ≤ 601024 by omega), (show slots + ms9 + 0 ≤ 7293034 by omega)⟩) hP hD hS hA (fun r7 u7 H locs hp9 hP hD hS => ?_)
  replace hp9 : b9 = r7 := Eq.symm hp9
  subst hp9
  have hP : va_P D vwCl (([(o, .inl (dA 2, 1, .inr (.inl (va_up og 0 v9))))] : va_W) ++ (VW dA h ad u8 ++ (MW dA mm mad M1))) H := hP
  have hD : va_D A (([(o, .inl (dA 2, 1, .inr (.inl (va_up og 0 v9))))] : va_W) ++ (VW dA h ad u8 ++ (MW dA mm mad M1))) := hD
  refine lv_istore hx hb d_SeriesVaultLaw_law_1062 hl (by decide) rfl (fun ls hl => ?_)
  have hl : lv_has ls 8 [(6, .int b9), (5, .int 0), (4, .int (nI i)), (3, .ref o), (2, .ref mm), (1, .ref h), (0, .ref b)] := hl
  refine lv_aload_n hx hb d_SeriesVaultLaw_law_1064 rfl (lv_at hl 4 rfl) ?_
  have hPc : va_P D vwCl (MW dA mm mad M1) H := spP (wr := ([(o, .inl (dA 2, 1, .inr (.inl (va_up og 0 v9))))] : va_W) ++ (VW dA h ad u8)) hP
  have hDc : va_D A (MW dA mm mad M1) := spD (wr := ([(o, .inl (dA 2, 1, .inr (.inl (va_up og 0 v9))))] : va_W) ++ (VW dA h ad u8)) hD
  refine jkI (wr := ([(o, .inl (dA 2, 1, .inr (.inl (va_up og 0 v9))))] : va_W) ++ (VW dA h ad u8)) (rnV (As := []) (rest := []) hx hb hml hown hE hK (hN _ _ hS) hPc hDc (k_thrown l D dA H.size mm mad M1) (q0 := 0) rfl rfl w1801 w1800 w1802 w1803 w328 rfl rfl ⟨⟨by decide, by decide⟩, rfl⟩ ⟨(show 1 + 1 ≤ 2048 by omega), (show 8 + (1 + 11) + 0 ≤ 84000 by omega)⟩ rfl hl.1 rfl (Nat.le_of_ble_eq_true rfl) d_SeriesVaultLaw_law_1065 ⟨(show cells + mc9 + 0 ≤ 601024 by omega), (show slots + ms9 + 0 ≤ 7293034 by omega)⟩) hP hD hS hA (fun r7 u7 H locs hp9 hP hD hS => ?_)
  replace hp9 : 0 = r7 := Eq.symm (hp9.trans hcod)
  subst hp9
  have hP : va_P D vwCl (([(o, .inl (dA 2, 1, .inr (.inl (va_up og 0 v9))))] : va_W) ++ (VW dA h ad u8 ++ (MW dA mm mad M1))) H := hP
  have hD : va_D A (([(o, .inl (dA 2, 1, .inr (.inl (va_up og 0 v9))))] : va_W) ++ (VW dA h ad u8 ++ (MW dA mm mad M1))) := hD
  refine lv_iload hx hb d_SeriesVaultLaw_law_1068 (lv_at hl 1 rfl) ?_
  refine lv_icmp_eq hx hb d_SeriesVaultLaw_law_1070 (tgt := 1075) rfl (fun _ => ?_) (fun h9 => absurd rfl h9)
  refine lv_iload hx hb d_SeriesVaultLaw_law_1075 (lv_at hl 1 rfl) ?_
  refine lv_if_ne hx hb d_SeriesVaultLaw_law_1077 (tgt := 1092) rfl (fun h9 => absurd (by decide) h9) (fun _ => ?_)
  refine lv_aload_n hx hb d_SeriesVaultLaw_law_1080 rfl (lv_at hl 3 rfl) ?_
  refine lv_iconst (v := 0) hx hb d_SeriesVaultLaw_law_1081 (by decide) ?_
  refine nlld (f := (va_up og 0 v9)) (n := 1) hx hb hK hP (0) 2 rfl rfl (0) (by decide) (by decide) d_SeriesVaultLaw_law_1082 ?_
  refine tpl (y := v9) (va_up_self _ _ _) ?_
  refine lv_iload hx hb d_SeriesVaultLaw_law_1083 (lv_at hl 0 rfl) ?_
  refine lv_i2l hx hb d_SeriesVaultLaw_law_1085 rfl ?_
  refine W.lcmp hx hb d_SeriesVaultLaw_law_1086 ?_
  refine lv_if_eq hx hb d_SeriesVaultLaw_law_1087 (tgt := 1092) rfl (fun _ => ?_) (fun h9 => absurd ((lg_cmp_eq _ _).mpr hv) h9)
  refine lv_goto hx hb d_SeriesVaultLaw_law_1092 (tgt := 1770) rfl ?_
  refine lv_iinc (k := 2) (v := nI (i + 6)) hx hb d_SeriesVaultLaw_law_1770 hl rfl (iincN (i) 6 6 (by decide)) (by decide) rfl (fun ls hl => ?_)
  have hl : lv_has ls 8 [(4, .int (nI (i + 6))), (6, .int b9), (5, .int 0), (3, .ref o), (2, .ref mm), (1, .ref h), (0, .ref b)] := hl
  refine lv_goto hx hb d_SeriesVaultLaw_law_1773 (tgt := 23) rfl ?_
  have hP := pmP (show List.Perm (α := Nat × va_E) (([(o, .inl (dA 2, 1, .inr (.inl (va_up og 0 v9))))] : va_W) ++ (VW dA h ad u8 ++ (MW dA mm mad M1))) (MW dA mm mad M1 ++ (([(o, .inl (dA 2, 1, .inr (.inl (va_up og 0 v9))))] : va_W) ++ (VW dA h ad u8))) from (List.Perm.append_left (([(o, .inl (dA 2, 1, .inr (.inl (va_up og 0 v9))))] : va_W)) (List.perm_append_comm)).trans (List.perm_append_comm_assoc (([(o, .inl (dA 2, 1, .inr (.inl (va_up og 0 v9))))] : va_W)) (MW dA mm mad M1) (VW dA h ad u8))) hP
  have hD := pmD (show List.Perm (α := Nat × va_E) (([(o, .inl (dA 2, 1, .inr (.inl (va_up og 0 v9))))] : va_W) ++ (VW dA h ad u8 ++ (MW dA mm mad M1))) (MW dA mm mad M1 ++ (([(o, .inl (dA 2, 1, .inr (.inl (va_up og 0 v9))))] : va_W) ++ (VW dA h ad u8))) from (List.Perm.append_left (([(o, .inl (dA 2, 1, .inr (.inl (va_up og 0 v9))))] : va_W)) (List.perm_append_comm)).trans (List.perm_append_comm_assoc (([(o, .inl (dA 2, 1, .inr (.inl (va_up og 0 v9))))] : va_W)) (MW dA mm mad M1) (VW dA h ad u8))) hD
  have hP : va_P D vwCl (MW dA mm mad M1 ++ (([(o, .inl (dA 2, 1, .inr (.inl (va_up og 0 v9))))] : va_W) ++ (VW dA h ad u8))) H := hP
  have hD : va_D A (MW dA mm mad M1 ++ (([(o, .inl (dA 2, 1, .inr (.inl (va_up og 0 v9))))] : va_W) ++ (VW dA h ad u8))) := hD
  have hl := lv_sub (l' := [(4, .int (nI (i + 6))), (3, .ref o), (2, .ref mm), (1, .ref h), (0, .ref b)]) hl [0, 3, 4, 5, 6] rfl
  exact cont u8 H locs ls hf9 hP hD hS hl
set_option maxHeartbeats 4000000 in
set_option maxRecDepth 100000 in
theorem l9_12_x {p : Program} {e : Env} {s : State} {m : MethodId} {below : List Frame} {meth : Method} {c : Code} (l : Launch) {b L : Nat} {xs : Nat → Int32} {D : va_G} {dA : Nat → ClassId} {e0 : Nat} {A : Nat → Prop} {H : Heap} {locs : List Loc} {ls : Array Slot} (hC : lS p l s m meth c b L xs D dA e0 A) {h : Nat} {ad : Nat → Nat} {x : VS} {mm : Nat} {mad : Nat → Nat} {M M1 : MS} {o : Nat} {og : Nat → Int64} {i fr1 lo1 fr2 lo2 mc9 ms9 cells slots : Nat} {F9 : VS → Prop} {b9 : Int32} {k9 : Nat} (hi : i + 6 ≤ L) (hL : L ≤ 3072) (hfr : fr1 ≤ 2000 ∧ lo1 ≤ 80000 ∧ fr2 ≤ 2000 ∧ lo2 ≤ 80000) (hrm : cells + mc9 ≤ 601024 ∧ slots + ms9 ≤ 7293034) (hcod : M1.cod = nI k9) (hk9 : ¬ nI k9 = 0) (hW : ∀ sz : Nat, Met l ⟨"SeriesVaultLaw", "retain", "(LSeriesVault;J[J)I"⟩ [Cond.codeWith ⟨"SeriesVaultLaw", "retain", "(LSeriesVault;J[J)I"⟩ method_15_code 5 (some FieldType.int) [(0, 9, 12, 29), (0, 9, 16, 19)]] { frames := fr1, cells := mc9, slots := ms9, locals := lo1 } (pC D dA [.ref h, .long ((((xs (i + 1)).toInt64) <<< ((32 : Int32).toInt64 &&& 63)) ||| (((xs (i + 2)).toInt64) &&& 4294967295)), .ref o] (([(o, .inl (dA 2, 1, .inr (.inl og)))] : va_W) ++ (VW dA h ad x)) sz) (va_Qi (fun (r9 : Int32) (u9 : VS) => r9 = nI k9 ∧ F9 u9) (fun (u9 : VS) t9 => bW D (va_A (([(o, .inl (dA 2, 1, .inr (.inl og)))] : va_W) ++ (VW dA h ad x)) sz) (([(o, .inl (dA 2, 1, .inr (.inl (og))))] : va_W) ++ (VW dA h ad u9)) t9) (va_A (([(o, .inl (dA 2, 1, .inr (.inl og)))] : va_W) ++ (VW dA h ad x)) sz)) mc9 ms9 (va_A (([(o, .inl (dA 2, 1, .inr (.inl og)))] : va_W) ++ (VW dA h ad x)) sz)) (hM : ∀ sz : Nat, Met l ⟨"SeriesVaultModel", "retain", "(J)I"⟩ [Cond.code ⟨"SeriesVaultModel", "retain", "(J)I"⟩ prog_14_method_47_code 7 (some FieldType.int)] { frames := fr2, cells := 0, slots := 0, locals := lo2 } (pC D dA [.ref mm, .long ((((xs (i + 1)).toInt64) <<< ((32 : Int32).toInt64 &&& 63)) ||| (((xs (i + 2)).toInt64) &&& 4294967295))] (MW dA mm mad M) sz) (va_Qi (fun (r9 : Int32) (u9 : Unit) => r9 = b9) (fun (u9 : Unit) t9 => bW D (va_A (MW dA mm mad M) sz) (MW dA mm mad M1) t9) (va_A (MW dA mm mad M) sz)) 0 0 (va_A (MW dA mm mad M) sz)) (hP : va_P D vwCl (MW dA mm mad M ++ (([(o, .inl (dA 2, 1, .inr (.inl og)))] : va_W) ++ (VW dA h ad x))) H) (hD : va_D A (MW dA mm mad M ++ (([(o, .inl (dA 2, 1, .inr (.inl og)))] : va_W) ++ (VW dA h ad x)))) (hS : va_S A s.heap H locs) (hl : lv_has ls 8 [(4, .int (nI i)), (3, .ref o), (2, .ref mm), (1, .ref h), (0, .ref b)]) (cont : ∀ (u : VS) (H1 : Heap) (locs1 : List Loc) (ls1 : Array Slot), F9 u → va_P D vwCl (MW dA mm mad M1 ++ (([(o, .inl (dA 2, 1, .inr (.inl og)))] : va_W) ++ (VW dA h ad u))) H1 → va_D A (MW dA mm mad M1 ++ (([(o, .inl (dA 2, 1, .inr (.inl og)))] : va_W) ++ (VW dA h ad u))) → va_S A s.heap H1 locs1 → lv_has ls1 8 [(4, .int (nI (i + 6))), (3, .ref o), (2, .ref mm), (1, .ref h), (0, .ref b)] → W p l e room_1 s m #[Value.ref b] below meth c H1 locs1 (cells + mc9 + 0 + 0) (slots + ms9 + 0 + 0) (lw_Z below #[Value.ref b] s) (F0 m 23 ls1 [])) : W p l e room_1 s m #[Value.ref b] below meth c H locs cells slots (lw_Z below #[Value.ref b] s) (F0 m 1007 ls []) := by
  have hC0 := hC
  obtain ⟨hx, hb, hr, hml, hown, hlk, hE, hK, hA, hN, hZ, hT, hX, hbl, hbA, hnew, htr⟩ := hC
  refine lv_aload_n hx hb d_SeriesVaultLaw_law_1007 rfl (lv_at hl 3 rfl) ?_
  refine lv_aload_n hx hb d_SeriesVaultLaw_law_1008 rfl (lv_at hl 4 rfl) ?_
  refine lv_iload hx hb d_SeriesVaultLaw_law_1009 (lv_at hl 0 rfl) ?_
  refine lv_iconst (v := 1) hx hb d_SeriesVaultLaw_law_1011 (by decide) ?_
  refine lv_iadd hx hb d_SeriesVaultLaw_law_1012 (tpi (y := nI (i + 1)) (nI_add (i) (1)) ?_)
  refine sldN hx hb hX hbl hbA hS (show i + 1 < L by omega) (show L ≤ 65536 by omega) d_SeriesVaultLaw_law_1013 ?_
  refine lv_i2l hx hb d_SeriesVaultLaw_law_1014 rfl ?_
  refine lv_bipush (v := 32) hx hb d_SeriesVaultLaw_law_1015 (by decide) ?_
  refine lv_lshl hx hb d_SeriesVaultLaw_law_1017 rfl ?_
  refine lv_aload_n hx hb d_SeriesVaultLaw_law_1018 rfl (lv_at hl 4 rfl) ?_
  refine lv_iload hx hb d_SeriesVaultLaw_law_1019 (lv_at hl 0 rfl) ?_
  refine lv_iconst (v := 2) hx hb d_SeriesVaultLaw_law_1021 (by decide) ?_
  refine lv_iadd hx hb d_SeriesVaultLaw_law_1022 (tpi (y := nI (i + 2)) (nI_add (i) (2)) ?_)
  refine sldN hx hb hX hbl hbA hS (show i + 2 < L by omega) (show L ≤ 65536 by omega) d_SeriesVaultLaw_law_1023 ?_
  refine lv_i2l hx hb d_SeriesVaultLaw_law_1024 rfl ?_
  refine lv_ldc2 (v := 4294967295) hx hb hown (hE.t w1839 rfl) d_SeriesVaultLaw_law_1025 ?_
  refine lv_land hx hb d_SeriesVaultLaw_law_1028 ?_
  refine lv_lor hx hb d_SeriesVaultLaw_law_1029 ?_
  refine lv_aload_n hx hb d_SeriesVaultLaw_law_1030 rfl (lv_at hl 1 rfl) ?_
  have hPc : va_P D vwCl (([(o, .inl (dA 2, 1, .inr (.inl og)))] : va_W) ++ (VW dA h ad x)) H := spP (wr := MW dA mm mad M) hP
  have hDc : va_D A (([(o, .inl (dA 2, 1, .inr (.inl og)))] : va_W) ++ (VW dA h ad x)) := spD (wr := MW dA mm mad M) hD
  refine jkI (wr := MW dA mm mad M) (rnW (As := [.ref h, .long ((((xs (i + 1)).toInt64) <<< ((32 : Int32).toInt64 &&& 63)) ||| (((xs (i + 2)).toInt64) &&& 4294967295)), .ref o]) (rest := []) hx hb hml hown hE hK (hN _ _ hS) hPc hDc (hW H.size) w1883 w1882 w1884 w1793 rfl rfl ⟨⟨by decide, by decide⟩, rfl⟩ ⟨(show fr1 + 1 ≤ 2048 by omega), (show 8 + (5 + 11) + lo1 ≤ 84000 by omega)⟩ rfl hl.1 rfl (Nat.le_of_ble_eq_true rfl) d_SeriesVaultLaw_law_1031 ⟨(show cells + mc9 ≤ 601024 by omega), (show slots + ms9 ≤ 7293034 by omega)⟩) hP hD hS hA (fun k8 u8 H locs hp9 hP hD hS => ?_)
  obtain ⟨hp9, hf9⟩ := hp9
  replace hp9 : nI k9 = k8 := Eq.symm hp9
  subst hp9
  have hP : va_P D vwCl (MW dA mm mad M ++ (([(o, .inl (dA 2, 1, .inr (.inl og)))] : va_W) ++ (VW dA h ad u8))) H := hP
  have hD : va_D A (MW dA mm mad M ++ (([(o, .inl (dA 2, 1, .inr (.inl og)))] : va_W) ++ (VW dA h ad u8))) := hD
  refine lv_istore hx hb d_SeriesVaultLaw_law_1034 hl (by decide) rfl (fun ls hl => ?_)
  have hl : lv_has ls 8 [(5, .int (nI k9)), (4, .int (nI i)), (3, .ref o), (2, .ref mm), (1, .ref h), (0, .ref b)] := hl
  refine lv_aload_n hx hb d_SeriesVaultLaw_law_1036 rfl (lv_at hl 3 rfl) ?_
  refine lv_aload_n hx hb d_SeriesVaultLaw_law_1037 rfl (lv_at hl 5 rfl) ?_
  refine lv_iload hx hb d_SeriesVaultLaw_law_1038 (lv_at hl 1 rfl) ?_
  refine lv_iconst (v := 1) hx hb d_SeriesVaultLaw_law_1040 (by decide) ?_
  refine lv_iadd hx hb d_SeriesVaultLaw_law_1041 (tpi (y := nI (i + 1)) (nI_add (i) (1)) ?_)
  refine sldN hx hb hX hbl hbA hS (show i + 1 < L by omega) (show L ≤ 65536 by omega) d_SeriesVaultLaw_law_1042 ?_
  refine lv_i2l hx hb d_SeriesVaultLaw_law_1043 rfl ?_
  refine lv_bipush (v := 32) hx hb d_SeriesVaultLaw_law_1044 (by decide) ?_
  refine lv_lshl hx hb d_SeriesVaultLaw_law_1046 rfl ?_
  refine lv_aload_n hx hb d_SeriesVaultLaw_law_1047 rfl (lv_at hl 5 rfl) ?_
  refine lv_iload hx hb d_SeriesVaultLaw_law_1048 (lv_at hl 1 rfl) ?_
  refine lv_iconst (v := 2) hx hb d_SeriesVaultLaw_law_1050 (by decide) ?_
  refine lv_iadd hx hb d_SeriesVaultLaw_law_1051 (tpi (y := nI (i + 2)) (nI_add (i) (2)) ?_)
  refine sldN hx hb hX hbl hbA hS (show i + 2 < L by omega) (show L ≤ 65536 by omega) d_SeriesVaultLaw_law_1052 ?_
  refine lv_i2l hx hb d_SeriesVaultLaw_law_1053 rfl ?_
  refine lv_ldc2 (v := 4294967295) hx hb hown (hE.t w1839 rfl) d_SeriesVaultLaw_law_1054 ?_
  refine lv_land hx hb d_SeriesVaultLaw_law_1057 ?_
  refine lv_lor hx hb d_SeriesVaultLaw_law_1058 ?_
  have hP := pmP (show List.Perm (α := Nat × va_E) (MW dA mm mad M ++ (([(o, .inl (dA 2, 1, .inr (.inl og)))] : va_W) ++ (VW dA h ad u8))) (([(o, .inl (dA 2, 1, .inr (.inl og)))] : va_W) ++ (MW dA mm mad M ++ (VW dA h ad u8))) from List.perm_append_comm_assoc (MW dA mm mad M) (([(o, .inl (dA 2, 1, .inr (.inl og)))] : va_W)) (VW dA h ad u8)) hP
  have hD := pmD (show List.Perm (α := Nat × va_E) (MW dA mm mad M ++ (([(o, .inl (dA 2, 1, .inr (.inl og)))] : va_W) ++ (VW dA h ad u8))) (([(o, .inl (dA 2, 1, .inr (.inl og)))] : va_W) ++ (MW dA mm mad M ++ (VW dA h ad u8))) from List.perm_append_comm_assoc (MW dA mm mad M) (([(o, .inl (dA 2, 1, .inr (.inl og)))] : va_W)) (VW dA h ad u8)) hD
  have hP := pmP (show List.Perm (α := Nat × va_E) (([(o, .inl (dA 2, 1, .inr (.inl og)))] : va_W) ++ (MW dA mm mad M ++ (VW dA h ad u8))) (([(o, .inl (dA 2, 1, .inr (.inl og)))] : va_W) ++ (VW dA h ad u8 ++ (MW dA mm mad M))) from List.Perm.append_left (([(o, .inl (dA 2, 1, .inr (.inl og)))] : va_W)) (List.perm_append_comm)) hP
  have hD := pmD (show List.Perm (α := Nat × va_E) (([(o, .inl (dA 2, 1, .inr (.inl og)))] : va_W) ++ (MW dA mm mad M ++ (VW dA h ad u8))) (([(o, .inl (dA 2, 1, .inr (.inl og)))] : va_W) ++ (VW dA h ad u8 ++ (MW dA mm mad M))) from List.Perm.append_left (([(o, .inl (dA 2, 1, .inr (.inl og)))] : va_W)) (List.perm_append_comm)) hD
  have hPc : va_P D vwCl (MW dA mm mad M) H := spP (wr := ([(o, .inl (dA 2, 1, .inr (.inl og)))] : va_W) ++ (VW dA h ad u8)) hP
  have hDc : va_D A (MW dA mm mad M) := spD (wr := ([(o, .inl (dA 2, 1, .inr (.inl og)))] : va_W) ++ (VW dA h ad u8)) hD
  refine jkI (wr := ([(o, .inl (dA 2, 1, .inr (.inl og)))] : va_W) ++ (VW dA h ad u8)) (rnV (As := [.long ((((xs (i + 1)).toInt64) <<< ((32 : Int32).toInt64 &&& 63)) ||| (((xs (i + 2)).toInt64) &&& 4294967295))]) (rest := []) hx hb hml hown hE hK (hN _ _ hS) hPc hDc (hM H.size) (q0 := 0) rfl rfl w1886 w1885 w1887 w1888 w328 rfl rfl ⟨⟨by decide, by decide⟩, rfl⟩ ⟨(show fr2 + 1 ≤ 2048 by omega), (show 8 + (7 + 11) + lo2 ≤ 84000 by omega)⟩ rfl hl.1 rfl (Nat.le_of_ble_eq_true rfl) d_SeriesVaultLaw_law_1059 ⟨(show cells + mc9 + 0 ≤ 601024 by omega), (show slots + ms9 + 0 ≤ 7293034 by omega)⟩) hP hD hS hA (fun r7 u7 H locs hp9 hP hD hS => ?_)
  replace hp9 : b9 = r7 := Eq.symm hp9
  subst hp9
  have hP : va_P D vwCl (([(o, .inl (dA 2, 1, .inr (.inl og)))] : va_W) ++ (VW dA h ad u8 ++ (MW dA mm mad M1))) H := hP
  have hD : va_D A (([(o, .inl (dA 2, 1, .inr (.inl og)))] : va_W) ++ (VW dA h ad u8 ++ (MW dA mm mad M1))) := hD
  refine lv_istore hx hb d_SeriesVaultLaw_law_1062 hl (by decide) rfl (fun ls hl => ?_)
  have hl : lv_has ls 8 [(6, .int b9), (5, .int (nI k9)), (4, .int (nI i)), (3, .ref o), (2, .ref mm), (1, .ref h), (0, .ref b)] := hl
  refine lv_aload_n hx hb d_SeriesVaultLaw_law_1064 rfl (lv_at hl 4 rfl) ?_
  have hPc : va_P D vwCl (MW dA mm mad M1) H := spP (wr := ([(o, .inl (dA 2, 1, .inr (.inl og)))] : va_W) ++ (VW dA h ad u8)) hP
  have hDc : va_D A (MW dA mm mad M1) := spD (wr := ([(o, .inl (dA 2, 1, .inr (.inl og)))] : va_W) ++ (VW dA h ad u8)) hD
  refine jkI (wr := ([(o, .inl (dA 2, 1, .inr (.inl og)))] : va_W) ++ (VW dA h ad u8)) (rnV (As := []) (rest := []) hx hb hml hown hE hK (hN _ _ hS) hPc hDc (k_thrown l D dA H.size mm mad M1) (q0 := 0) rfl rfl w1801 w1800 w1802 w1803 w328 rfl rfl ⟨⟨by decide, by decide⟩, rfl⟩ ⟨(show 1 + 1 ≤ 2048 by omega), (show 8 + (1 + 11) + 0 ≤ 84000 by omega)⟩ rfl hl.1 rfl (Nat.le_of_ble_eq_true rfl) d_SeriesVaultLaw_law_1065 ⟨(show cells + mc9 + 0 ≤ 601024 by omega), (show slots + ms9 + 0 ≤ 7293034 by omega)⟩) hP hD hS hA (fun r7 u7 H locs hp9 hP hD hS => ?_)
  replace hp9 : nI k9 = r7 := Eq.symm (hp9.trans hcod)
  subst hp9
  have hP : va_P D vwCl (([(o, .inl (dA 2, 1, .inr (.inl og)))] : va_W) ++ (VW dA h ad u8 ++ (MW dA mm mad M1))) H := hP
  have hD : va_D A (([(o, .inl (dA 2, 1, .inr (.inl og)))] : va_W) ++ (VW dA h ad u8 ++ (MW dA mm mad M1))) := hD
  refine lv_iload hx hb d_SeriesVaultLaw_law_1068 (lv_at hl 1 rfl) ?_
  refine lv_icmp_eq hx hb d_SeriesVaultLaw_law_1070 (tgt := 1075) rfl (fun _ => ?_) (fun h9 => absurd rfl h9)
  refine lv_iload hx hb d_SeriesVaultLaw_law_1075 (lv_at hl 1 rfl) ?_
  refine lv_if_ne hx hb d_SeriesVaultLaw_law_1077 (tgt := 1092) rfl (fun _ => ?_) (fun h9 => absurd h9 hk9)
  refine lv_goto hx hb d_SeriesVaultLaw_law_1092 (tgt := 1770) rfl ?_
  refine lv_iinc (k := 2) (v := nI (i + 6)) hx hb d_SeriesVaultLaw_law_1770 hl rfl (iincN (i) 6 6 (by decide)) (by decide) rfl (fun ls hl => ?_)
  have hl : lv_has ls 8 [(4, .int (nI (i + 6))), (6, .int b9), (5, .int (nI k9)), (3, .ref o), (2, .ref mm), (1, .ref h), (0, .ref b)] := hl
  refine lv_goto hx hb d_SeriesVaultLaw_law_1773 (tgt := 23) rfl ?_
  have hP := pmP (show List.Perm (α := Nat × va_E) (([(o, .inl (dA 2, 1, .inr (.inl og)))] : va_W) ++ (VW dA h ad u8 ++ (MW dA mm mad M1))) (MW dA mm mad M1 ++ (([(o, .inl (dA 2, 1, .inr (.inl og)))] : va_W) ++ (VW dA h ad u8))) from (List.Perm.append_left (([(o, .inl (dA 2, 1, .inr (.inl og)))] : va_W)) (List.perm_append_comm)).trans (List.perm_append_comm_assoc (([(o, .inl (dA 2, 1, .inr (.inl og)))] : va_W)) (MW dA mm mad M1) (VW dA h ad u8))) hP
  have hD := pmD (show List.Perm (α := Nat × va_E) (([(o, .inl (dA 2, 1, .inr (.inl og)))] : va_W) ++ (VW dA h ad u8 ++ (MW dA mm mad M1))) (MW dA mm mad M1 ++ (([(o, .inl (dA 2, 1, .inr (.inl og)))] : va_W) ++ (VW dA h ad u8))) from (List.Perm.append_left (([(o, .inl (dA 2, 1, .inr (.inl og)))] : va_W)) (List.perm_append_comm)).trans (List.perm_append_comm_assoc (([(o, .inl (dA 2, 1, .inr (.inl og)))] : va_W)) (MW dA mm mad M1) (VW dA h ad u8))) hD
  have hP : va_P D vwCl (MW dA mm mad M1 ++ (([(o, .inl (dA 2, 1, .inr (.inl og)))] : va_W) ++ (VW dA h ad u8))) H := hP
  have hD : va_D A (MW dA mm mad M1 ++ (([(o, .inl (dA 2, 1, .inr (.inl og)))] : va_W) ++ (VW dA h ad u8))) := hD
  have hl := lv_sub (l' := [(4, .int (nI (i + 6))), (3, .ref o), (2, .ref mm), (1, .ref h), (0, .ref b)]) hl [0, 3, 4, 5, 6] rfl
  exact cont u8 H locs ls hf9 hP hD hS hl
