section
theorem d_SeriesVaultLaw_law_856 : decode code 856 = .ok (.aload_n 1, 1) := by decide +kernel
theorem d_SeriesVaultLaw_law_857 : decode code 857 = .ok (.aload_n 3, 1) := by decide +kernel
theorem d_SeriesVaultLaw_law_858 : decode code 858 = .ok (.invokestatic 145, 3) := by decide +kernel
theorem d_SeriesVaultLaw_law_861 : decode code 861 = .ok (.istore 5, 2) := by decide +kernel
theorem d_SeriesVaultLaw_law_863 : decode code 863 = .ok (.aload_n 2, 1) := by decide +kernel
theorem d_SeriesVaultLaw_law_864 : decode code 864 = .ok (.invokevirtual 147, 3) := by decide +kernel
theorem d_SeriesVaultLaw_law_867 : decode code 867 = .ok (.istore 6, 2) := by decide +kernel
theorem d_SeriesVaultLaw_law_869 : decode code 869 = .ok (.aload_n 2, 1) := by decide +kernel
theorem d_SeriesVaultLaw_law_870 : decode code 870 = .ok (.invokevirtual 110, 3) := by decide +kernel
theorem d_SeriesVaultLaw_law_873 : decode code 873 = .ok (.iload 5, 2) := by decide +kernel
theorem d_SeriesVaultLaw_law_875 : decode code 875 = .ok (.if_icmp .eq 5, 3) := by decide +kernel
theorem d_SeriesVaultLaw_law_880 : decode code 880 = .ok (.iload 5, 2) := by decide +kernel
theorem d_SeriesVaultLaw_law_882 : decode code 882 = .ok (.ifCond .ne 22, 3) := by decide +kernel
theorem d_SeriesVaultLaw_law_885 : decode code 885 = .ok (.aload_n 3, 1) := by decide +kernel
theorem d_SeriesVaultLaw_law_886 : decode code 886 = .ok (.iconst 0, 1) := by decide +kernel
theorem d_SeriesVaultLaw_law_887 : decode code 887 = .ok (.laload, 1) := by decide +kernel
theorem d_SeriesVaultLaw_law_888 : decode code 888 = .ok (.iload 6, 2) := by decide +kernel
theorem d_SeriesVaultLaw_law_890 : decode code 890 = .ok (.ifCond .eq 7, 3) := by decide +kernel
theorem d_SeriesVaultLaw_law_893 : decode code 893 = .ok (.lconst 1, 1) := by decide +kernel
theorem d_SeriesVaultLaw_law_894 : decode code 894 = .ok (.goto 4, 3) := by decide +kernel
theorem d_SeriesVaultLaw_law_898 : decode code 898 = .ok (.lcmp, 1) := by decide +kernel
theorem d_SeriesVaultLaw_law_899 : decode code 899 = .ok (.ifCond .eq 5, 3) := by decide +kernel
theorem d_SeriesVaultLaw_law_904 : decode code 904 = .ok (.goto 866, 3) := by decide +kernel
theorem w1861 : Cond.methodLink "SeriesVaultLaw" 145 ⟨"SeriesVaultLaw", "sync", "(LSeriesVault;[J)I"⟩ ∈ aW := aw_of (tb_5 (List.mem_of_getElem? (i := 223) rfl)) rfl
theorem w1862 : Cond.codeWith ⟨"SeriesVaultLaw", "sync", "(LSeriesVault;[J)I"⟩ method_12_code 3 (some FieldType.int) [(0, 15, 18, 29)] ∈ aW := aw_of (tb_5 (List.mem_of_getElem? (i := 225) rfl)) rfl
theorem w1863 : Cond.static ⟨"SeriesVaultLaw", "sync", "(LSeriesVault;[J)I"⟩ ∈ aW := aw_of (tb_5 (List.mem_of_getElem? (i := 224) rfl)) rfl
theorem w1864 : Cond.methodLink "SeriesVaultLaw" 147 ⟨"SeriesVaultModel", "sync", "()Z"⟩ ∈ aW := aw_of (tb_10 (List.mem_of_getElem? (i := 64) rfl)) rfl
theorem w1865 : Cond.code ⟨"SeriesVaultModel", "sync", "()Z"⟩ prog_14_method_43_code 2 (some FieldType.boolean) ∈ aW := aw_of (tb_10 (List.mem_of_getElem? (i := 67) rfl)) rfl
theorem w1866 : Cond.instanceMethod ⟨"SeriesVaultModel", "sync", "()Z"⟩ ∈ aW := aw_of (tb_10 (List.mem_of_getElem? (i := 65) rfl)) rfl
theorem w1867 : Cond.selects "SeriesVaultModel" ⟨"SeriesVaultModel", "sync", "()Z"⟩ ⟨"SeriesVaultModel", "sync", "()Z"⟩ ∈ aW := aw_of (tb_10 (List.mem_of_getElem? (i := 66) rfl)) rfl
set_option maxHeartbeats 4000000 in
set_option maxRecDepth 100000 in
theorem l9_9_1 {p : Program} {e : Env} {s : State} {m : MethodId} {below : List Frame} {meth : Method} {c : Code} (l : Launch) {b L : Nat} {xs : Nat → Int32} {D : va_G} {dA : Nat → ClassId} {e0 : Nat} {A : Nat → Prop} {H : Heap} {locs : List Loc} {ls : Array Slot} (hC : lS p l s m meth c b L xs D dA e0 A) {h : Nat} {ad : Nat → Nat} {x : VS} {mm : Nat} {mad : Nat → Nat} {M M1 : MS} {o : Nat} {og : Nat → Int64} {i fr1 lo1 fr2 lo2 mc9 ms9 cells slots : Nat} {F9 : VS → Prop} {v9 : Int64} (hi : i + 6 ≤ L) (hL : L ≤ 3072) (hfr : fr1 ≤ 2000 ∧ lo1 ≤ 80000 ∧ fr2 ≤ 2000 ∧ lo2 ≤ 80000) (hrm : cells + mc9 ≤ 601024 ∧ slots + ms9 ≤ 7293034) (hcod : M1.cod = 0) (hv : v9 = 1) (hW : ∀ sz : Nat, Met l ⟨"SeriesVaultLaw", "sync", "(LSeriesVault;[J)I"⟩ [Cond.codeWith ⟨"SeriesVaultLaw", "sync", "(LSeriesVault;[J)I"⟩ method_12_code 3 (some FieldType.int) [(0, 15, 18, 29)]] { frames := fr1, cells := mc9, slots := ms9, locals := lo1 } (pC D dA [.ref h, .ref o] (([(o, .inl (dA 2, 1, .inr (.inl og)))] : va_W) ++ (VW dA h ad x)) sz) (va_Qi (fun (r9 : Int32) (u9 : VS) => r9 = 0 ∧ F9 u9) (fun (u9 : VS) t9 => bW D (va_A (([(o, .inl (dA 2, 1, .inr (.inl og)))] : va_W) ++ (VW dA h ad x)) sz) (([(o, .inl (dA 2, 1, .inr (.inl (va_up og 0 v9))))] : va_W) ++ (VW dA h ad u9)) t9) (va_A (([(o, .inl (dA 2, 1, .inr (.inl og)))] : va_W) ++ (VW dA h ad x)) sz)) mc9 ms9 (va_A (([(o, .inl (dA 2, 1, .inr (.inl og)))] : va_W) ++ (VW dA h ad x)) sz)) (hM : ∀ sz : Nat, Met l ⟨"SeriesVaultModel", "sync", "()Z"⟩ [Cond.code ⟨"SeriesVaultModel", "sync", "()Z"⟩ prog_14_method_43_code 2 (some FieldType.boolean)] { frames := fr2, cells := 0, slots := 0, locals := lo2 } (pC D dA [.ref mm] (MW dA mm mad M) sz) (va_Qi (fun (r9 : Int32) (u9 : Unit) => r9 = 1) (fun (u9 : Unit) t9 => bW D (va_A (MW dA mm mad M) sz) (MW dA mm mad M1) t9) (va_A (MW dA mm mad M) sz)) 0 0 (va_A (MW dA mm mad M) sz)) (hP : va_P D vwCl (MW dA mm mad M ++ (([(o, .inl (dA 2, 1, .inr (.inl og)))] : va_W) ++ (VW dA h ad x))) H) (hD : va_D A (MW dA mm mad M ++ (([(o, .inl (dA 2, 1, .inr (.inl og)))] : va_W) ++ (VW dA h ad x)))) (hS : va_S A s.heap H locs) (hl : lv_has ls 8 [(4, .int (nI i)), (3, .ref o), (2, .ref mm), (1, .ref h), (0, .ref b)]) (cont : ∀ (u : VS) (H1 : Heap) (locs1 : List Loc) (ls1 : Array Slot), F9 u → va_P D vwCl (MW dA mm mad M1 ++ (([(o, .inl (dA 2, 1, .inr (.inl (va_up og 0 v9))))] : va_W) ++ (VW dA h ad u))) H1 → va_D A (MW dA mm mad M1 ++ (([(o, .inl (dA 2, 1, .inr (.inl (va_up og 0 v9))))] : va_W) ++ (VW dA h ad u))) → va_S A s.heap H1 locs1 → lv_has ls1 8 [(4, .int (nI (i + 6))), (3, .ref o), (2, .ref mm), (1, .ref h), (0, .ref b)] → W p l e room_1 s m #[Value.ref b] below meth c H1 locs1 (cells + mc9 + 0 + 0) (slots + ms9 + 0 + 0) (lw_Z below #[Value.ref b] s) (F0 m 23 ls1 [])) : W p l e room_1 s m #[Value.ref b] below meth c H locs cells slots (lw_Z below #[Value.ref b] s) (F0 m 856 ls []) := by
  have hC0 := hC
  obtain ⟨hx, hb, hr, hml, hown, hlk, hE, hK, hA, hN, hZ, hT, hX, hbl, hbA, hnew, htr⟩ := hC
  refine lv_aload_n hx hb d_SeriesVaultLaw_law_856 rfl (lv_at hl 3 rfl) ?_
  refine lv_aload_n hx hb d_SeriesVaultLaw_law_857 rfl (lv_at hl 1 rfl) ?_
  have hPc : va_P D vwCl (([(o, .inl (dA 2, 1, .inr (.inl og)))] : va_W) ++ (VW dA h ad x)) H := spP (wr := MW dA mm mad M) hP
  have hDc : va_D A (([(o, .inl (dA 2, 1, .inr (.inl og)))] : va_W) ++ (VW dA h ad x)) := spD (wr := MW dA mm mad M) hD
  refine jkI (wr := MW dA mm mad M) (rnW (As := [.ref h, .ref o]) (rest := []) hx hb hml hown hE hK (hN _ _ hS) hPc hDc (hW H.size) w1862 w1861 w1863 w1793 rfl rfl ⟨⟨by decide, by decide⟩, rfl⟩ ⟨(show fr1 + 1 ≤ 2048 by omega), (show 8 + (3 + 11) + lo1 ≤ 84000 by omega)⟩ rfl hl.1 rfl (Nat.le_of_ble_eq_true rfl) d_SeriesVaultLaw_law_858 ⟨(show cells + mc9 ≤ 601024 by omega), (show slots + ms9 ≤ 7293034 by omega)⟩) hP hD hS hA (fun k8 u8 H locs hp9 hP hD hS => ?_)
  obtain ⟨hp9, hf9⟩ := hp9
  replace hp9 : 0 = k8 := Eq.symm hp9
  subst hp9
  have hP : va_P D vwCl (MW dA mm mad M ++ (([(o, .inl (dA 2, 1, .inr (.inl (va_up og 0 v9))))] : va_W) ++ (VW dA h ad u8))) H := hP
  have hD : va_D A (MW dA mm mad M ++ (([(o, .inl (dA 2, 1, .inr (.inl (va_up og 0 v9))))] : va_W) ++ (VW dA h ad u8))) := hD
  refine lv_istore hx hb d_SeriesVaultLaw_law_861 hl (by decide) rfl (fun ls hl => ?_)
  have hl : lv_has ls 8 [(5, .int 0), (4, .int (nI i)), (3, .ref o), (2, .ref mm), (1, .ref h), (0, .ref b)] := hl
  refine lv_aload_n hx hb d_SeriesVaultLaw_law_863 rfl (lv_at hl 3 rfl) ?_
  have hP := pmP (show List.Perm (α := Nat × va_E) (MW dA mm mad M ++ (([(o, .inl (dA 2, 1, .inr (.inl (va_up og 0 v9))))] : va_W) ++ (VW dA h ad u8))) (([(o, .inl (dA 2, 1, .inr (.inl (va_up og 0 v9))))] : va_W) ++ (MW dA mm mad M ++ (VW dA h ad u8))) from List.perm_append_comm_assoc (MW dA mm mad M) (([(o, .inl (dA 2, 1, .inr (.inl (va_up og 0 v9))))] : va_W)) (VW dA h ad u8)) hP
  have hD := pmD (show List.Perm (α := Nat × va_E) (MW dA mm mad M ++ (([(o, .inl (dA 2, 1, .inr (.inl (va_up og 0 v9))))] : va_W) ++ (VW dA h ad u8))) (([(o, .inl (dA 2, 1, .inr (.inl (va_up og 0 v9))))] : va_W) ++ (MW dA mm mad M ++ (VW dA h ad u8))) from List.perm_append_comm_assoc (MW dA mm mad M) (([(o, .inl (dA 2, 1, .inr (.inl (va_up og 0 v9))))] : va_W)) (VW dA h ad u8)) hD
  have hP := pmP (show List.Perm (α := Nat × va_E) (([(o, .inl (dA 2, 1, .inr (.inl (va_up og 0 v9))))] : va_W) ++ (MW dA mm mad M ++ (VW dA h ad u8))) (([(o, .inl (dA 2, 1, .inr (.inl (va_up og 0 v9))))] : va_W) ++ (VW dA h ad u8 ++ (MW dA mm mad M))) from List.Perm.append_left (([(o, .inl (dA 2, 1, .inr (.inl (va_up og 0 v9))))] : va_W)) (List.perm_append_comm)) hP
  have hD := pmD (show List.Perm (α := Nat × va_E) (([(o, .inl (dA 2, 1, .inr (.inl (va_up og 0 v9))))] : va_W) ++ (MW dA mm mad M ++ (VW dA h ad u8))) (([(o, .inl (dA 2, 1, .inr (.inl (va_up og 0 v9))))] : va_W) ++ (VW dA h ad u8 ++ (MW dA mm mad M))) from List.Perm.append_left (([(o, .inl (dA 2, 1, .inr (.inl (va_up og 0 v9))))] : va_W)) (List.perm_append_comm)) hD
  have hPc : va_P D vwCl (MW dA mm mad M) H := spP (wr := ([(o, .inl (dA 2, 1, .inr (.inl (va_up og 0 v9))))] : va_W) ++ (VW dA h ad u8)) hP
  have hDc : va_D A (MW dA mm mad M) := spD (wr := ([(o, .inl (dA 2, 1, .inr (.inl (va_up og 0 v9))))] : va_W) ++ (VW dA h ad u8)) hD
  refine jkI (wr := ([(o, .inl (dA 2, 1, .inr (.inl (va_up og 0 v9))))] : va_W) ++ (VW dA h ad u8)) (rnV (As := []) (rest := []) hx hb hml hown hE hK (hN _ _ hS) hPc hDc (hM H.size) (q0 := 0) rfl rfl w1865 w1864 w1866 w1867 w328 rfl rfl ⟨⟨by decide, by decide⟩, rfl⟩ ⟨(show fr2 + 1 ≤ 2048 by omega), (show 8 + (2 + 11) + lo2 ≤ 84000 by omega)⟩ rfl hl.1 rfl (Nat.le_of_ble_eq_true rfl) d_SeriesVaultLaw_law_864 ⟨(show cells + mc9 + 0 ≤ 601024 by omega), (show slots + ms9 + 0 ≤ 7293034 by omega)⟩) hP hD hS hA (fun r7 u7 H locs hp9 hP hD hS => ?_)
  replace hp9 : 1 = r7 := Eq.symm hp9
  subst hp9
  have hP : va_P D vwCl (([(o, .inl (dA 2, 1, .inr (.inl (va_up og 0 v9))))] : va_W) ++ (VW dA h ad u8 ++ (MW dA mm mad M1))) H := hP
  have hD : va_D A (([(o, .inl (dA 2, 1, .inr (.inl (va_up og 0 v9))))] : va_W) ++ (VW dA h ad u8 ++ (MW dA mm mad M1))) := hD
  refine lv_istore hx hb d_SeriesVaultLaw_law_867 hl (by decide) rfl (fun ls hl => ?_)
  have hl : lv_has ls 8 [(6, .int 1), (5, .int 0), (4, .int (nI i)), (3, .ref o), (2, .ref mm), (1, .ref h), (0, .ref b)] := hl
  refine lv_aload_n hx hb d_SeriesVaultLaw_law_869 rfl (lv_at hl 4 rfl) ?_
  have hPc : va_P D vwCl (MW dA mm mad M1) H := spP (wr := ([(o, .inl (dA 2, 1, .inr (.inl (va_up og 0 v9))))] : va_W) ++ (VW dA h ad u8)) hP
  have hDc : va_D A (MW dA mm mad M1) := spD (wr := ([(o, .inl (dA 2, 1, .inr (.inl (va_up og 0 v9))))] : va_W) ++ (VW dA h ad u8)) hD
  refine jkI (wr := ([(o, .inl (dA 2, 1, .inr (.inl (va_up og 0 v9))))] : va_W) ++ (VW dA h ad u8)) (rnV (As := []) (rest := []) hx hb hml hown hE hK (hN _ _ hS) hPc hDc (k_thrown l D dA H.size mm mad M1) (q0 := 0) rfl rfl w1801 w1800 w1802 w1803 w328 rfl rfl ⟨⟨by decide, by decide⟩, rfl⟩ ⟨(show 1 + 1 ≤ 2048 by omega), (show 8 + (1 + 11) + 0 ≤ 84000 by omega)⟩ rfl hl.1 rfl (Nat.le_of_ble_eq_true rfl) d_SeriesVaultLaw_law_870 ⟨(show cells + mc9 + 0 ≤ 601024 by omega), (show slots + ms9 + 0 ≤ 7293034 by omega)⟩) hP hD hS hA (fun r7 u7 H locs hp9 hP hD hS => ?_)
  replace hp9 : 0 = r7 := Eq.symm (hp9.trans hcod)
  subst hp9
  have hP : va_P D vwCl (([(o, .inl (dA 2, 1, .inr (.inl (va_up og 0 v9))))] : va_W) ++ (VW dA h ad u8 ++ (MW dA mm mad M1))) H := hP
  have hD : va_D A (([(o, .inl (dA 2, 1, .inr (.inl (va_up og 0 v9))))] : va_W) ++ (VW dA h ad u8 ++ (MW dA mm mad M1))) := hD
  refine lv_iload hx hb d_SeriesVaultLaw_law_873 (lv_at hl 1 rfl) ?_
  refine lv_icmp_eq hx hb d_SeriesVaultLaw_law_875 (tgt := 880) rfl (fun _ => ?_) (fun h9 => absurd rfl h9)
  refine lv_iload hx hb d_SeriesVaultLaw_law_880 (lv_at hl 1 rfl) ?_
  refine lv_if_ne hx hb d_SeriesVaultLaw_law_882 (tgt := 904) rfl (fun h9 => absurd (by decide) h9) (fun _ => ?_)
  refine lv_aload_n hx hb d_SeriesVaultLaw_law_885 rfl (lv_at hl 3 rfl) ?_
  refine lv_iconst (v := 0) hx hb d_SeriesVaultLaw_law_886 (by decide) ?_
  refine nlld (f := (va_up og 0 v9)) (n := 1) hx hb hK hP (0) 2 rfl rfl (0) (by decide) (by decide) d_SeriesVaultLaw_law_887 ?_
  refine tpl (y := v9) (va_up_self _ _ _) ?_
  refine lv_iload hx hb d_SeriesVaultLaw_law_888 (lv_at hl 0 rfl) ?_
  refine lv_if_eq hx hb d_SeriesVaultLaw_law_890 (tgt := 897) rfl (fun h9 => absurd h9 (by decide)) (fun _ => ?_)
  refine lv_lconst (v := 1) hx hb d_SeriesVaultLaw_law_893 (by decide) ?_
  refine lv_goto hx hb d_SeriesVaultLaw_law_894 (tgt := 898) rfl ?_
  refine W.lcmp hx hb d_SeriesVaultLaw_law_898 ?_
  refine lv_if_eq hx hb d_SeriesVaultLaw_law_899 (tgt := 904) rfl (fun _ => ?_) (fun h9 => absurd ((lg_cmp_eq _ _).mpr hv) h9)
  refine lv_goto hx hb d_SeriesVaultLaw_law_904 (tgt := 1770) rfl ?_
  refine lv_iinc (k := 2) (v := nI (i + 6)) hx hb d_SeriesVaultLaw_law_1770 hl rfl (iincN (i) 6 6 (by decide)) (by decide) rfl (fun ls hl => ?_)
  have hl : lv_has ls 8 [(4, .int (nI (i + 6))), (6, .int 1), (5, .int 0), (3, .ref o), (2, .ref mm), (1, .ref h), (0, .ref b)] := hl
  refine lv_goto hx hb d_SeriesVaultLaw_law_1773 (tgt := 23) rfl ?_
  have hP := pmP (show List.Perm (α := Nat × va_E) (([(o, .inl (dA 2, 1, .inr (.inl (va_up og 0 v9))))] : va_W) ++ (VW dA h ad u8 ++ (MW dA mm mad M1))) (MW dA mm mad M1 ++ (([(o, .inl (dA 2, 1, .inr (.inl (va_up og 0 v9))))] : va_W) ++ (VW dA h ad u8))) from (List.Perm.append_left (([(o, .inl (dA 2, 1, .inr (.inl (va_up og 0 v9))))] : va_W)) (List.perm_append_comm)).trans (List.perm_append_comm_assoc (([(o, .inl (dA 2, 1, .inr (.inl (va_up og 0 v9))))] : va_W)) (MW dA mm mad M1) (VW dA h ad u8))) hP
  have hD := pmD (show List.Perm (α := Nat × va_E) (([(o, .inl (dA 2, 1, .inr (.inl (va_up og 0 v9))))] : va_W) ++ (VW dA h ad u8 ++ (MW dA mm mad M1))) (MW dA mm mad M1 ++ (([(o, .inl (dA 2, 1, .inr (.inl (va_up og 0 v9))))] : va_W) ++ (VW dA h ad u8))) from (List.Perm.append_left (([(o, .inl (dA 2, 1, .inr (.inl (va_up og 0 v9))))] : va_W)) (List.perm_append_comm)).trans (List.perm_append_comm_assoc (([(o, .inl (dA 2, 1, .inr (.inl (va_up og 0 v9))))] : va_W)) (MW dA mm mad M1) (VW dA h ad u8))) hD
  have hP : va_P D vwCl (MW dA mm mad M1 ++ (([(o, .inl (dA 2, 1, .inr (.inl (va_up og 0 v9))))] : va_W) ++ (VW dA h ad u8))) H := hP
  have hD : va_D A (MW dA mm mad M1 ++ (([(o, .inl (dA 2, 1, .inr (.inl (va_up og 0 v9))))] : va_W) ++ (VW dA h ad u8))) := hD
  have hl := lv_sub (l' := [(4, .int (nI (i + 6))), (3, .ref o), (2, .ref mm), (1, .ref h), (0, .ref b)]) hl [0, 3, 4, 5, 6] rfl
  exact cont u8 H locs ls hf9 hP hD hS hl
theorem d_SeriesVaultLaw_law_897 : decode code 897 = .ok (.lconst 0, 1) := by decide +kernel
set_option maxHeartbeats 4000000 in
set_option maxRecDepth 100000 in
theorem l9_9_0 {p : Program} {e : Env} {s : State} {m : MethodId} {below : List Frame} {meth : Method} {c : Code} (l : Launch) {b L : Nat} {xs : Nat → Int32} {D : va_G} {dA : Nat → ClassId} {e0 : Nat} {A : Nat → Prop} {H : Heap} {locs : List Loc} {ls : Array Slot} (hC : lS p l s m meth c b L xs D dA e0 A) {h : Nat} {ad : Nat → Nat} {x : VS} {mm : Nat} {mad : Nat → Nat} {M M1 : MS} {o : Nat} {og : Nat → Int64} {i fr1 lo1 fr2 lo2 mc9 ms9 cells slots : Nat} {F9 : VS → Prop} {v9 : Int64} (hi : i + 6 ≤ L) (hL : L ≤ 3072) (hfr : fr1 ≤ 2000 ∧ lo1 ≤ 80000 ∧ fr2 ≤ 2000 ∧ lo2 ≤ 80000) (hrm : cells + mc9 ≤ 601024 ∧ slots + ms9 ≤ 7293034) (hcod : M1.cod = 0) (hv : v9 = 0) (hW : ∀ sz : Nat, Met l ⟨"SeriesVaultLaw", "sync", "(LSeriesVault;[J)I"⟩ [Cond.codeWith ⟨"SeriesVaultLaw", "sync", "(LSeriesVault;[J)I"⟩ method_12_code 3 (some FieldType.int) [(0, 15, 18, 29)]] { frames := fr1, cells := mc9, slots := ms9, locals := lo1 } (pC D dA [.ref h, .ref o] (([(o, .inl (dA 2, 1, .inr (.inl og)))] : va_W) ++ (VW dA h ad x)) sz) (va_Qi (fun (r9 : Int32) (u9 : VS) => r9 = 0 ∧ F9 u9) (fun (u9 : VS) t9 => bW D (va_A (([(o, .inl (dA 2, 1, .inr (.inl og)))] : va_W) ++ (VW dA h ad x)) sz) (([(o, .inl (dA 2, 1, .inr (.inl (va_up og 0 v9))))] : va_W) ++ (VW dA h ad u9)) t9) (va_A (([(o, .inl (dA 2, 1, .inr (.inl og)))] : va_W) ++ (VW dA h ad x)) sz)) mc9 ms9 (va_A (([(o, .inl (dA 2, 1, .inr (.inl og)))] : va_W) ++ (VW dA h ad x)) sz)) (hM : ∀ sz : Nat, Met l ⟨"SeriesVaultModel", "sync", "()Z"⟩ [Cond.code ⟨"SeriesVaultModel", "sync", "()Z"⟩ prog_14_method_43_code 2 (some FieldType.boolean)] { frames := fr2, cells := 0, slots := 0, locals := lo2 } (pC D dA [.ref mm] (MW dA mm mad M) sz) (va_Qi (fun (r9 : Int32) (u9 : Unit) => r9 = 0) (fun (u9 : Unit) t9 => bW D (va_A (MW dA mm mad M) sz) (MW dA mm mad M1) t9) (va_A (MW dA mm mad M) sz)) 0 0 (va_A (MW dA mm mad M) sz)) (hP : va_P D vwCl (MW dA mm mad M ++ (([(o, .inl (dA 2, 1, .inr (.inl og)))] : va_W) ++ (VW dA h ad x))) H) (hD : va_D A (MW dA mm mad M ++ (([(o, .inl (dA 2, 1, .inr (.inl og)))] : va_W) ++ (VW dA h ad x)))) (hS : va_S A s.heap H locs) (hl : lv_has ls 8 [(4, .int (nI i)), (3, .ref o), (2, .ref mm), (1, .ref h), (0, .ref b)]) (cont : ∀ (u : VS) (H1 : Heap) (locs1 : List Loc) (ls1 : Array Slot), F9 u → va_P D vwCl (MW dA mm mad M1 ++ (([(o, .inl (dA 2, 1, .inr (.inl (va_up og 0 v9))))] : va_W) ++ (VW dA h ad u))) H1 → va_D A (MW dA mm mad M1 ++ (([(o, .inl (dA 2, 1, .inr (.inl (va_up og 0 v9))))] : va_W) ++ (VW dA h ad u))) → va_S A s.heap H1 locs1 → lv_has ls1 8 [(4, .int (nI (i + 6))), (3, .ref o), (2, .ref mm), (1, .ref h), (0, .ref b)] → W p l e room_1 s m #[Value.ref b] below meth c H1 locs1 (cells + mc9 + 0 + 0) (slots + ms9 + 0 + 0) (lw_Z below #[Value.ref b] s) (F0 m 23 ls1 [])) : W p l e room_1 s m #[Value.ref b] below meth c H locs cells slots (lw_Z below #[Value.ref b] s) (F0 m 856 ls []) := by
  have hC0 := hC
  obtain ⟨hx, hb, hr, hml, hown, hlk, hE, hK, hA, hN, hZ, hT, hX, hbl, hbA, hnew, htr⟩ := hC
  refine lv_aload_n hx hb d_SeriesVaultLaw_law_856 rfl (lv_at hl 3 rfl) ?_
  refine lv_aload_n hx hb d_SeriesVaultLaw_law_857 rfl (lv_at hl 1 rfl) ?_
  have hPc : va_P D vwCl (([(o, .inl (dA 2, 1, .inr (.inl og)))] : va_W) ++ (VW dA h ad x)) H := spP (wr := MW dA mm mad M) hP
  have hDc : va_D A (([(o, .inl (dA 2, 1, .inr (.inl og)))] : va_W) ++ (VW dA h ad x)) := spD (wr := MW dA mm mad M) hD
  refine jkI (wr := MW dA mm mad M) (rnW (As := [.ref h, .ref o]) (rest := []) hx hb hml hown hE hK (hN _ _ hS) hPc hDc (hW H.size) w1862 w1861 w1863 w1793 rfl rfl ⟨⟨by decide, by decide⟩, rfl⟩ ⟨(show fr1 + 1 ≤ 2048 by omega), (show 8 + (3 + 11) + lo1 ≤ 84000 by omega)⟩ rfl hl.1 rfl (Nat.le_of_ble_eq_true rfl) d_SeriesVaultLaw_law_858 ⟨(show cells + mc9 ≤ 601024 by omega), (show slots + ms9 ≤ 7293034 by omega)⟩) hP hD hS hA (fun k8 u8 H locs hp9 hP hD hS => ?_)
  obtain ⟨hp9, hf9⟩ := hp9
  replace hp9 : 0 = k8 := Eq.symm hp9
  subst hp9
  have hP : va_P D vwCl (MW dA mm mad M ++ (([(o, .inl (dA 2, 1, .inr (.inl (va_up og 0 v9))))] : va_W) ++ (VW dA h ad u8))) H := hP
  have hD : va_D A (MW dA mm mad M ++ (([(o, .inl (dA 2, 1, .inr (.inl (va_up og 0 v9))))] : va_W) ++ (VW dA h ad u8))) := hD
  refine lv_istore hx hb d_SeriesVaultLaw_law_861 hl (by decide) rfl (fun ls hl => ?_)
  have hl : lv_has ls 8 [(5, .int 0), (4, .int (nI i)), (3, .ref o), (2, .ref mm), (1, .ref h), (0, .ref b)] := hl
  refine lv_aload_n hx hb d_SeriesVaultLaw_law_863 rfl (lv_at hl 3 rfl) ?_
  have hP := pmP (show List.Perm (α := Nat × va_E) (MW dA mm mad M ++ (([(o, .inl (dA 2, 1, .inr (.inl (va_up og 0 v9))))] : va_W) ++ (VW dA h ad u8))) (([(o, .inl (dA 2, 1, .inr (.inl (va_up og 0 v9))))] : va_W) ++ (MW dA mm mad M ++ (VW dA h ad u8))) from List.perm_append_comm_assoc (MW dA mm mad M) (([(o, .inl (dA 2, 1, .inr (.inl (va_up og 0 v9))))] : va_W)) (VW dA h ad u8)) hP
  have hD := pmD (show List.Perm (α := Nat × va_E) (MW dA mm mad M ++ (([(o, .inl (dA 2, 1, .inr (.inl (va_up og 0 v9))))] : va_W) ++ (VW dA h ad u8))) (([(o, .inl (dA 2, 1, .inr (.inl (va_up og 0 v9))))] : va_W) ++ (MW dA mm mad M ++ (VW dA h ad u8))) from List.perm_append_comm_assoc (MW dA mm mad M) (([(o, .inl (dA 2, 1, .inr (.inl (va_up og 0 v9))))] : va_W)) (VW dA h ad u8)) hD
  have hP := pmP (show List.Perm (α := Nat × va_E) (([(o, .inl (dA 2, 1, .inr (.inl (va_up og 0 v9))))] : va_W) ++ (MW dA mm mad M ++ (VW dA h ad u8))) (([(o, .inl (dA 2, 1, .inr (.inl (va_up og 0 v9))))] : va_W) ++ (VW dA h ad u8 ++ (MW dA mm mad M))) from List.Perm.append_left (([(o, .inl (dA 2, 1, .inr (.inl (va_up og 0 v9))))] : va_W)) (List.perm_append_comm)) hP
  have hD := pmD (show List.Perm (α := Nat × va_E) (([(o, .inl (dA 2, 1, .inr (.inl (va_up og 0 v9))))] : va_W) ++ (MW dA mm mad M ++ (VW dA h ad u8))) (([(o, .inl (dA 2, 1, .inr (.inl (va_up og 0 v9))))] : va_W) ++ (VW dA h ad u8 ++ (MW dA mm mad M))) from List.Perm.append_left (([(o, .inl (dA 2, 1, .inr (.inl (va_up og 0 v9))))] : va_W)) (List.perm_append_comm)) hD
  have hPc : va_P D vwCl (MW dA mm mad M) H := spP (wr := ([(o, .inl (dA 2, 1, .inr (.inl (va_up og 0 v9))))] : va_W) ++ (VW dA h ad u8)) hP
  have hDc : va_D A (MW dA mm mad M) := spD (wr := ([(o, .inl (dA 2, 1, .inr (.inl (va_up og 0 v9))))] : va_W) ++ (VW dA h ad u8)) hD
  refine jkI (wr := ([(o, .inl (dA 2, 1, .inr (.inl (va_up og 0 v9))))] : va_W) ++ (VW dA h ad u8)) (rnV (As := []) (rest := []) hx hb hml hown hE hK (hN _ _ hS) hPc hDc (hM H.size) (q0 := 0) rfl rfl w1865 w1864 w1866 w1867 w328 rfl rfl ⟨⟨by decide, by decide⟩, rfl⟩ ⟨(show fr2 + 1 ≤ 2048 by omega), (show 8 + (2 + 11) + lo2 ≤ 84000 by omega)⟩ rfl hl.1 rfl (Nat.le_of_ble_eq_true rfl) d_SeriesVaultLaw_law_864 ⟨(show cells + mc9 + 0 ≤ 601024 by omega), (show slots + ms9 + 0 ≤ 7293034 by omega)⟩) hP hD hS hA (fun r7 u7 H locs hp9 hP hD hS => ?_)
  replace hp9 : 0 = r7 := Eq.symm hp9
  subst hp9
  have hP : va_P D vwCl (([(o, .inl (dA 2, 1, .inr (.inl (va_up og 0 v9))))] : va_W) ++ (VW dA h ad u8 ++ (MW dA mm mad M1))) H := hP
  have hD : va_D A (([(o, .inl (dA 2, 1, .inr (.inl (va_up og 0 v9))))] : va_W) ++ (VW dA h ad u8 ++ (MW dA mm mad M1))) := hD
  refine lv_istore hx hb d_SeriesVaultLaw_law_867 hl (by decide) rfl (fun ls hl => ?_)
  have hl : lv_has ls 8 [(6, .int 0), (5, .int 0), (4, .int (nI i)), (3, .ref o), (2, .ref mm), (1, .ref h), (0, .ref b)] := hl
  refine lv_aload_n hx hb d_SeriesVaultLaw_law_869 rfl (lv_at hl 4 rfl) ?_
  have hPc : va_P D vwCl (MW dA mm mad M1) H := spP (wr := ([(o, .inl (dA 2, 1, .inr (.inl (va_up og 0 v9))))] : va_W) ++ (VW dA h ad u8)) hP
  have hDc : va_D A (MW dA mm mad M1) := spD (wr := ([(o, .inl (dA 2, 1, .inr (.inl (va_up og 0 v9))))] : va_W) ++ (VW dA h ad u8)) hD
  refine jkI (wr := ([(o, .inl (dA 2, 1, .inr (.inl (va_up og 0 v9))))] : va_W) ++ (VW dA h ad u8)) (rnV (As := []) (rest := []) hx hb hml hown hE hK (hN _ _ hS) hPc hDc (k_thrown l D dA H.size mm mad M1) (q0 := 0) rfl rfl w1801 w1800 w1802 w1803 w328 rfl rfl ⟨⟨by decide, by decide⟩, rfl⟩ ⟨(show 1 + 1 ≤ 2048 by omega), (show 8 + (1 + 11) + 0 ≤ 84000 by omega)⟩ rfl hl.1 rfl (Nat.le_of_ble_eq_true rfl) d_SeriesVaultLaw_law_870 ⟨(show cells + mc9 + 0 ≤ 601024 by omega), (show slots + ms9 + 0 ≤ 7293034 by omega)⟩) hP hD hS hA (fun r7 u7 H locs hp9 hP hD hS => ?_)
  replace hp9 : 0 = r7 := Eq.symm (hp9.trans hcod)
  subst hp9
  have hP : va_P D vwCl (([(o, .inl (dA 2, 1, .inr (.inl (va_up og 0 v9))))] : va_W) ++ (VW dA h ad u8 ++ (MW dA mm mad M1))) H := hP
  have hD : va_D A (([(o, .inl (dA 2, 1, .inr (.inl (va_up og 0 v9))))] : va_W) ++ (VW dA h ad u8 ++ (MW dA mm mad M1))) := hD
  refine lv_iload hx hb d_SeriesVaultLaw_law_873 (lv_at hl 1 rfl) ?_
  refine lv_icmp_eq hx hb d_SeriesVaultLaw_law_875 (tgt := 880) rfl (fun _ => ?_) (fun h9 => absurd rfl h9)
  refine lv_iload hx hb d_SeriesVaultLaw_law_880 (lv_at hl 1 rfl) ?_
  refine lv_if_ne hx hb d_SeriesVaultLaw_law_882 (tgt := 904) rfl (fun h9 => absurd (by decide) h9) (fun _ => ?_)
  refine lv_aload_n hx hb d_SeriesVaultLaw_law_885 rfl (lv_at hl 3 rfl) ?_
  refine lv_iconst (v := 0) hx hb d_SeriesVaultLaw_law_886 (by decide) ?_
  refine nlld (f := (va_up og 0 v9)) (n := 1) hx hb hK hP (0) 2 rfl rfl (0) (by decide) (by decide) d_SeriesVaultLaw_law_887 ?_
  refine tpl (y := v9) (va_up_self _ _ _) ?_
  refine lv_iload hx hb d_SeriesVaultLaw_law_888 (lv_at hl 0 rfl) ?_
  refine lv_if_eq hx hb d_SeriesVaultLaw_law_890 (tgt := 897) rfl (fun _ => ?_) (fun h9 => absurd (by decide) h9)
  refine lv_lconst (v := 0) hx hb d_SeriesVaultLaw_law_897 (by decide) ?_
  refine W.lcmp hx hb d_SeriesVaultLaw_law_898 ?_
  refine lv_if_eq hx hb d_SeriesVaultLaw_law_899 (tgt := 904) rfl (fun _ => ?_) (fun h9 => absurd ((lg_cmp_eq _ _).mpr hv) h9)
  refine lv_goto hx hb d_SeriesVaultLaw_law_904 (tgt := 1770) rfl ?_
  refine lv_iinc (k := 2) (v := nI (i + 6)) hx hb d_SeriesVaultLaw_law_1770 hl rfl (iincN (i) 6 6 (by decide)) (by decide) rfl (fun ls hl => ?_)
  have hl : lv_has ls 8 [(4, .int (nI (i + 6))), (6, .int 0), (5, .int 0), (3, .ref o), (2, .ref mm), (1, .ref h), (0, .ref b)] := hl
  refine lv_goto hx hb d_SeriesVaultLaw_law_1773 (tgt := 23) rfl ?_
  have hP := pmP (show List.Perm (α := Nat × va_E) (([(o, .inl (dA 2, 1, .inr (.inl (va_up og 0 v9))))] : va_W) ++ (VW dA h ad u8 ++ (MW dA mm mad M1))) (MW dA mm mad M1 ++ (([(o, .inl (dA 2, 1, .inr (.inl (va_up og 0 v9))))] : va_W) ++ (VW dA h ad u8))) from (List.Perm.append_left (([(o, .inl (dA 2, 1, .inr (.inl (va_up og 0 v9))))] : va_W)) (List.perm_append_comm)).trans (List.perm_append_comm_assoc (([(o, .inl (dA 2, 1, .inr (.inl (va_up og 0 v9))))] : va_W)) (MW dA mm mad M1) (VW dA h ad u8))) hP
  have hD := pmD (show List.Perm (α := Nat × va_E) (([(o, .inl (dA 2, 1, .inr (.inl (va_up og 0 v9))))] : va_W) ++ (VW dA h ad u8 ++ (MW dA mm mad M1))) (MW dA mm mad M1 ++ (([(o, .inl (dA 2, 1, .inr (.inl (va_up og 0 v9))))] : va_W) ++ (VW dA h ad u8))) from (List.Perm.append_left (([(o, .inl (dA 2, 1, .inr (.inl (va_up og 0 v9))))] : va_W)) (List.perm_append_comm)).trans (List.perm_append_comm_assoc (([(o, .inl (dA 2, 1, .inr (.inl (va_up og 0 v9))))] : va_W)) (MW dA mm mad M1) (VW dA h ad u8))) hD
  have hP : va_P D vwCl (MW dA mm mad M1 ++ (([(o, .inl (dA 2, 1, .inr (.inl (va_up og 0 v9))))] : va_W) ++ (VW dA h ad u8))) H := hP
  have hD : va_D A (MW dA mm mad M1 ++ (([(o, .inl (dA 2, 1, .inr (.inl (va_up og 0 v9))))] : va_W) ++ (VW dA h ad u8))) := hD
  have hl := lv_sub (l' := [(4, .int (nI (i + 6))), (3, .ref o), (2, .ref mm), (1, .ref h), (0, .ref b)]) hl [0, 3, 4, 5, 6] rfl
  exact cont u8 H locs ls hf9 hP hD hS hl
set_option maxHeartbeats 4000000 in
set_option maxRecDepth 100000 in
theorem l9_9_x {p : Program} {e : Env} {s : State} {m : MethodId} {below : List Frame} {meth : Method} {c : Code} (l : Launch) {b L : Nat} {xs : Nat → Int32} {D : va_G} {dA : Nat → ClassId} {e0 : Nat} {A : Nat → Prop} {H : Heap} {locs : List Loc} {ls : Array Slot} (hC : lS p l s m meth c b L xs D dA e0 A) {h : Nat} {ad : Nat → Nat} {x : VS} {mm : Nat} {mad : Nat → Nat} {M M1 : MS} {o : Nat} {og : Nat → Int64} {i fr1 lo1 fr2 lo2 mc9 ms9 cells slots : Nat} {F9 : VS → Prop} {b9 : Bool} {k9 : Nat} (hi : i + 6 ≤ L) (hL : L ≤ 3072) (hfr : fr1 ≤ 2000 ∧ lo1 ≤ 80000 ∧ fr2 ≤ 2000 ∧ lo2 ≤ 80000) (hrm : cells + mc9 ≤ 601024 ∧ slots + ms9 ≤ 7293034) (hcod : M1.cod = nI k9) (hk9 : ¬ nI k9 = 0) (hW : ∀ sz : Nat, Met l ⟨"SeriesVaultLaw", "sync", "(LSeriesVault;[J)I"⟩ [Cond.codeWith ⟨"SeriesVaultLaw", "sync", "(LSeriesVault;[J)I"⟩ method_12_code 3 (some FieldType.int) [(0, 15, 18, 29)]] { frames := fr1, cells := mc9, slots := ms9, locals := lo1 } (pC D dA [.ref h, .ref o] (([(o, .inl (dA 2, 1, .inr (.inl og)))] : va_W) ++ (VW dA h ad x)) sz) (va_Qi (fun (r9 : Int32) (u9 : VS) => r9 = nI k9 ∧ F9 u9) (fun (u9 : VS) t9 => bW D (va_A (([(o, .inl (dA 2, 1, .inr (.inl og)))] : va_W) ++ (VW dA h ad x)) sz) (([(o, .inl (dA 2, 1, .inr (.inl (og))))] : va_W) ++ (VW dA h ad u9)) t9) (va_A (([(o, .inl (dA 2, 1, .inr (.inl og)))] : va_W) ++ (VW dA h ad x)) sz)) mc9 ms9 (va_A (([(o, .inl (dA 2, 1, .inr (.inl og)))] : va_W) ++ (VW dA h ad x)) sz)) (hM : ∀ sz : Nat, Met l ⟨"SeriesVaultModel", "sync", "()Z"⟩ [Cond.code ⟨"SeriesVaultModel", "sync", "()Z"⟩ prog_14_method_43_code 2 (some FieldType.boolean)] { frames := fr2, cells := 0, slots := 0, locals := lo2 } (pC D dA [.ref mm] (MW dA mm mad M) sz) (va_Qi (fun (r9 : Int32) (u9 : Unit) => r9 = bI b9) (fun (u9 : Unit) t9 => bW D (va_A (MW dA mm mad M) sz) (MW dA mm mad M1) t9) (va_A (MW dA mm mad M) sz)) 0 0 (va_A (MW dA mm mad M) sz)) (hP : va_P D vwCl (MW dA mm mad M ++ (([(o, .inl (dA 2, 1, .inr (.inl og)))] : va_W) ++ (VW dA h ad x))) H) (hD : va_D A (MW dA mm mad M ++ (([(o, .inl (dA 2, 1, .inr (.inl og)))] : va_W) ++ (VW dA h ad x)))) (hS : va_S A s.heap H locs) (hl : lv_has ls 8 [(4, .int (nI i)), (3, .ref o), (2, .ref mm), (1, .ref h), (0, .ref b)]) (cont : ∀ (u : VS) (H1 : Heap) (locs1 : List Loc) (ls1 : Array Slot), F9 u → va_P D vwCl (MW dA mm mad M1 ++ (([(o, .inl (dA 2, 1, .inr (.inl og)))] : va_W) ++ (VW dA h ad u))) H1 → va_D A (MW dA mm mad M1 ++ (([(o, .inl (dA 2, 1, .inr (.inl og)))] : va_W) ++ (VW dA h ad u))) → va_S A s.heap H1 locs1 → lv_has ls1 8 [(4, .int (nI (i + 6))), (3, .ref o), (2, .ref mm), (1, .ref h), (0, .ref b)] → W p l e room_1 s m #[Value.ref b] below meth c H1 locs1 (cells + mc9 + 0 + 0) (slots + ms9 + 0 + 0) (lw_Z below #[Value.ref b] s) (F0 m 23 ls1 [])) : W p l e room_1 s m #[Value.ref b] below meth c H locs cells slots (lw_Z below #[Value.ref b] s) (F0 m 856 ls []) := by
  have hC0 := hC
  obtain ⟨hx, hb, hr, hml, hown, hlk, hE, hK, hA, hN, hZ, hT, hX, hbl, hbA, hnew, htr⟩ := hC
  refine lv_aload_n hx hb d_SeriesVaultLaw_law_856 rfl (lv_at hl 3 rfl) ?_
  refine lv_aload_n hx hb d_SeriesVaultLaw_law_857 rfl (lv_at hl 1 rfl) ?_
  have hPc : va_P D vwCl (([(o, .inl (dA 2, 1, .inr (.inl og)))] : va_W) ++ (VW dA h ad x)) H := spP (wr := MW dA mm mad M) hP
  have hDc : va_D A (([(o, .inl (dA 2, 1, .inr (.inl og)))] : va_W) ++ (VW dA h ad x)) := spD (wr := MW dA mm mad M) hD
  refine jkI (wr := MW dA mm mad M) (rnW (As := [.ref h, .ref o]) (rest := []) hx hb hml hown hE hK (hN _ _ hS) hPc hDc (hW H.size) w1862 w1861 w1863 w1793 rfl rfl ⟨⟨by decide, by decide⟩, rfl⟩ ⟨(show fr1 + 1 ≤ 2048 by omega), (show 8 + (3 + 11) + lo1 ≤ 84000 by omega)⟩ rfl hl.1 rfl (Nat.le_of_ble_eq_true rfl) d_SeriesVaultLaw_law_858 ⟨(show cells + mc9 ≤ 601024 by omega), (show slots + ms9 ≤ 7293034 by omega)⟩) hP hD hS hA (fun k8 u8 H locs hp9 hP hD hS => ?_)
  obtain ⟨hp9, hf9⟩ := hp9
  replace hp9 : nI k9 = k8 := Eq.symm hp9
  subst hp9
  have hP : va_P D vwCl (MW dA mm mad M ++ (([(o, .inl (dA 2, 1, .inr (.inl og)))] : va_W) ++ (VW dA h ad u8))) H := hP
  have hD : va_D A (MW dA mm mad M ++ (([(o, .inl (dA 2, 1, .inr (.inl og)))] : va_W) ++ (VW dA h ad u8))) := hD
  refine lv_istore hx hb d_SeriesVaultLaw_law_861 hl (by decide) rfl (fun ls hl => ?_)
  have hl : lv_has ls 8 [(5, .int (nI k9)), (4, .int (nI i)), (3, .ref o), (2, .ref mm), (1, .ref h), (0, .ref b)] := hl
  refine lv_aload_n hx hb d_SeriesVaultLaw_law_863 rfl (lv_at hl 3 rfl) ?_
  have hP := pmP (show List.Perm (α := Nat × va_E) (MW dA mm mad M ++ (([(o, .inl (dA 2, 1, .inr (.inl og)))] : va_W) ++ (VW dA h ad u8))) (([(o, .inl (dA 2, 1, .inr (.inl og)))] : va_W) ++ (MW dA mm mad M ++ (VW dA h ad u8))) from List.perm_append_comm_assoc (MW dA mm mad M) (([(o, .inl (dA 2, 1, .inr (.inl og)))] : va_W)) (VW dA h ad u8)) hP
  have hD := pmD (show List.Perm (α := Nat × va_E) (MW dA mm mad M ++ (([(o, .inl (dA 2, 1, .inr (.inl og)))] : va_W) ++ (VW dA h ad u8))) (([(o, .inl (dA 2, 1, .inr (.inl og)))] : va_W) ++ (MW dA mm mad M ++ (VW dA h ad u8))) from List.perm_append_comm_assoc (MW dA mm mad M) (([(o, .inl (dA 2, 1, .inr (.inl og)))] : va_W)) (VW dA h ad u8)) hD
  have hP := pmP (show List.Perm (α := Nat × va_E) (([(o, .inl (dA 2, 1, .inr (.inl og)))] : va_W) ++ (MW dA mm mad M ++ (VW dA h ad u8))) (([(o, .inl (dA 2, 1, .inr (.inl og)))] : va_W) ++ (VW dA h ad u8 ++ (MW dA mm mad M))) from List.Perm.append_left (([(o, .inl (dA 2, 1, .inr (.inl og)))] : va_W)) (List.perm_append_comm)) hP
  have hD := pmD (show List.Perm (α := Nat × va_E) (([(o, .inl (dA 2, 1, .inr (.inl og)))] : va_W) ++ (MW dA mm mad M ++ (VW dA h ad u8))) (([(o, .inl (dA 2, 1, .inr (.inl og)))] : va_W) ++ (VW dA h ad u8 ++ (MW dA mm mad M))) from List.Perm.append_left (([(o, .inl (dA 2, 1, .inr (.inl og)))] : va_W)) (List.perm_append_comm)) hD
  have hPc : va_P D vwCl (MW dA mm mad M) H := spP (wr := ([(o, .inl (dA 2, 1, .inr (.inl og)))] : va_W) ++ (VW dA h ad u8)) hP
  have hDc : va_D A (MW dA mm mad M) := spD (wr := ([(o, .inl (dA 2, 1, .inr (.inl og)))] : va_W) ++ (VW dA h ad u8)) hD
  refine jkI (wr := ([(o, .inl (dA 2, 1, .inr (.inl og)))] : va_W) ++ (VW dA h ad u8)) (rnV (As := []) (rest := []) hx hb hml hown hE hK (hN _ _ hS) hPc hDc (hM H.size) (q0 := 0) rfl rfl w1865 w1864 w1866 w1867 w328 rfl rfl ⟨⟨by decide, by decide⟩, rfl⟩ ⟨(show fr2 + 1 ≤ 2048 by omega), (show 8 + (2 + 11) + lo2 ≤ 84000 by omega)⟩ rfl hl.1 rfl (Nat.le_of_ble_eq_true rfl) d_SeriesVaultLaw_law_864 ⟨(show cells + mc9 + 0 ≤ 601024 by omega), (show slots + ms9 + 0 ≤ 7293034 by omega)⟩) hP hD hS hA (fun r7 u7 H locs hp9 hP hD hS => ?_)
  replace hp9 : bI b9 = r7 := Eq.symm hp9
  subst hp9
  have hP : va_P D vwCl (([(o, .inl (dA 2, 1, .inr (.inl og)))] : va_W) ++ (VW dA h ad u8 ++ (MW dA mm mad M1))) H := hP
  have hD : va_D A (([(o, .inl (dA 2, 1, .inr (.inl og)))] : va_W) ++ (VW dA h ad u8 ++ (MW dA mm mad M1))) := hD
  refine lv_istore hx hb d_SeriesVaultLaw_law_867 hl (by decide) rfl (fun ls hl => ?_)
  have hl : lv_has ls 8 [(6, .int (bI b9)), (5, .int (nI k9)), (4, .int (nI i)), (3, .ref o), (2, .ref mm), (1, .ref h), (0, .ref b)] := hl
  refine lv_aload_n hx hb d_SeriesVaultLaw_law_869 rfl (lv_at hl 4 rfl) ?_
  have hPc : va_P D vwCl (MW dA mm mad M1) H := spP (wr := ([(o, .inl (dA 2, 1, .inr (.inl og)))] : va_W) ++ (VW dA h ad u8)) hP
  have hDc : va_D A (MW dA mm mad M1) := spD (wr := ([(o, .inl (dA 2, 1, .inr (.inl og)))] : va_W) ++ (VW dA h ad u8)) hD
  refine jkI (wr := ([(o, .inl (dA 2, 1, .inr (.inl og)))] : va_W) ++ (VW dA h ad u8)) (rnV (As := []) (rest := []) hx hb hml hown hE hK (hN _ _ hS) hPc hDc (k_thrown l D dA H.size mm mad M1) (q0 := 0) rfl rfl w1801 w1800 w1802 w1803 w328 rfl rfl ⟨⟨by decide, by decide⟩, rfl⟩ ⟨(show 1 + 1 ≤ 2048 by omega), (show 8 + (1 + 11) + 0 ≤ 84000 by omega)⟩ rfl hl.1 rfl (Nat.le_of_ble_eq_true rfl) d_SeriesVaultLaw_law_870 ⟨(show cells + mc9 + 0 ≤ 601024 by omega), (show slots + ms9 + 0 ≤ 7293034 by omega)⟩) hP hD hS hA (fun r7 u7 H locs hp9 hP hD hS => ?_)
  replace hp9 : nI k9 = r7 := Eq.symm (hp9.trans hcod)
  subst hp9
  have hP : va_P D vwCl (([(o, .inl (dA 2, 1, .inr (.inl og)))] : va_W) ++ (VW dA h ad u8 ++ (MW dA mm mad M1))) H := hP
  have hD : va_D A (([(o, .inl (dA 2, 1, .inr (.inl og)))] : va_W) ++ (VW dA h ad u8 ++ (MW dA mm mad M1))) := hD
  refine lv_iload hx hb d_SeriesVaultLaw_law_873 (lv_at hl 1 rfl) ?_
  refine lv_icmp_eq hx hb d_SeriesVaultLaw_law_875 (tgt := 880) rfl (fun _ => ?_) (fun h9 => absurd rfl h9)
  refine lv_iload hx hb d_SeriesVaultLaw_law_880 (lv_at hl 1 rfl) ?_
  refine lv_if_ne hx hb d_SeriesVaultLaw_law_882 (tgt := 904) rfl (fun _ => ?_) (fun h9 => absurd h9 hk9)
  refine lv_goto hx hb d_SeriesVaultLaw_law_904 (tgt := 1770) rfl ?_
  refine lv_iinc (k := 2) (v := nI (i + 6)) hx hb d_SeriesVaultLaw_law_1770 hl rfl (iincN (i) 6 6 (by decide)) (by decide) rfl (fun ls hl => ?_)
  have hl : lv_has ls 8 [(4, .int (nI (i + 6))), (6, .int (bI b9)), (5, .int (nI k9)), (3, .ref o), (2, .ref mm), (1, .ref h), (0, .ref b)] := hl
  refine lv_goto hx hb d_SeriesVaultLaw_law_1773 (tgt := 23) rfl ?_
  have hP := pmP (show List.Perm (α := Nat × va_E) (([(o, .inl (dA 2, 1, .inr (.inl og)))] : va_W) ++ (VW dA h ad u8 ++ (MW dA mm mad M1))) (MW dA mm mad M1 ++ (([(o, .inl (dA 2, 1, .inr (.inl og)))] : va_W) ++ (VW dA h ad u8))) from (List.Perm.append_left (([(o, .inl (dA 2, 1, .inr (.inl og)))] : va_W)) (List.perm_append_comm)).trans (List.perm_append_comm_assoc (([(o, .inl (dA 2, 1, .inr (.inl og)))] : va_W)) (MW dA mm mad M1) (VW dA h ad u8))) hP
  have hD := pmD (show List.Perm (α := Nat × va_E) (([(o, .inl (dA 2, 1, .inr (.inl og)))] : va_W) ++ (VW dA h ad u8 ++ (MW dA mm mad M1))) (MW dA mm mad M1 ++ (([(o, .inl (dA 2, 1, .inr (.inl og)))] : va_W) ++ (VW dA h ad u8))) from (List.Perm.append_left (([(o, .inl (dA 2, 1, .inr (.inl og)))] : va_W)) (List.perm_append_comm)).trans (List.perm_append_comm_assoc (([(o, .inl (dA 2, 1, .inr (.inl og)))] : va_W)) (MW dA mm mad M1) (VW dA h ad u8))) hD
  have hP : va_P D vwCl (MW dA mm mad M1 ++ (([(o, .inl (dA 2, 1, .inr (.inl og)))] : va_W) ++ (VW dA h ad u8))) H := hP
  have hD : va_D A (MW dA mm mad M1 ++ (([(o, .inl (dA 2, 1, .inr (.inl og)))] : va_W) ++ (VW dA h ad u8))) := hD
  have hl := lv_sub (l' := [(4, .int (nI (i + 6))), (3, .ref o), (2, .ref mm), (1, .ref h), (0, .ref b)]) hl [0, 3, 4, 5, 6] rfl
  exact cont u8 H locs ls hf9 hP hD hS hl
theorem d_SeriesVaultLaw_law_907 : decode code 907 = .ok (.aload_n 1, 1) := by decide +kernel
theorem d_SeriesVaultLaw_law_908 : decode code 908 = .ok (.aload_n 3, 1) := by decide +kernel
theorem d_SeriesVaultLaw_law_909 : decode code 909 = .ok (.invokestatic 148, 3) := by decide +kernel
theorem d_SeriesVaultLaw_law_912 : decode code 912 = .ok (.istore 5, 2) := by decide +kernel
theorem d_SeriesVaultLaw_law_914 : decode code 914 = .ok (.aload_n 2, 1) := by decide +kernel
theorem d_SeriesVaultLaw_law_915 : decode code 915 = .ok (.invokevirtual 150, 3) := by decide +kernel
theorem d_SeriesVaultLaw_law_918 : decode code 918 = .ok (.istore 6, 2) := by decide +kernel
theorem d_SeriesVaultLaw_law_920 : decode code 920 = .ok (.aload_n 2, 1) := by decide +kernel
theorem d_SeriesVaultLaw_law_921 : decode code 921 = .ok (.invokevirtual 110, 3) := by decide +kernel
theorem d_SeriesVaultLaw_law_924 : decode code 924 = .ok (.iload 5, 2) := by decide +kernel
theorem d_SeriesVaultLaw_law_926 : decode code 926 = .ok (.if_icmp .eq 5, 3) := by decide +kernel
theorem d_SeriesVaultLaw_law_931 : decode code 931 = .ok (.iload 5, 2) := by decide +kernel
theorem d_SeriesVaultLaw_law_933 : decode code 933 = .ok (.ifCond .ne 15, 3) := by decide +kernel
theorem d_SeriesVaultLaw_law_936 : decode code 936 = .ok (.aload_n 3, 1) := by decide +kernel
theorem d_SeriesVaultLaw_law_937 : decode code 937 = .ok (.iconst 0, 1) := by decide +kernel
theorem d_SeriesVaultLaw_law_938 : decode code 938 = .ok (.laload, 1) := by decide +kernel
theorem d_SeriesVaultLaw_law_939 : decode code 939 = .ok (.iload 6, 2) := by decide +kernel
theorem d_SeriesVaultLaw_law_941 : decode code 941 = .ok (.i2l, 1) := by decide +kernel
theorem d_SeriesVaultLaw_law_942 : decode code 942 = .ok (.lcmp, 1) := by decide +kernel
theorem d_SeriesVaultLaw_law_943 : decode code 943 = .ok (.ifCond .eq 5, 3) := by decide +kernel
theorem d_SeriesVaultLaw_law_948 : decode code 948 = .ok (.goto 822, 3) := by decide +kernel
theorem w1868 : Cond.methodLink "SeriesVaultLaw" 148 ⟨"SeriesVaultLaw", "flush", "(LSeriesVault;[J)I"⟩ ∈ aW := aw_of (tb_5 (List.mem_of_getElem? (i := 230) rfl)) rfl
theorem w1869 : Cond.codeWith ⟨"SeriesVaultLaw", "flush", "(LSeriesVault;[J)I"⟩ method_13_code 3 (some FieldType.int) [(0, 8, 11, 29), (0, 8, 14, 13)] ∈ aW := aw_of (tb_5 (List.mem_of_getElem? (i := 232) rfl)) rfl
theorem w1870 : Cond.static ⟨"SeriesVaultLaw", "flush", "(LSeriesVault;[J)I"⟩ ∈ aW := aw_of (tb_5 (List.mem_of_getElem? (i := 231) rfl)) rfl
theorem w1871 : Cond.methodLink "SeriesVaultLaw" 150 ⟨"SeriesVaultModel", "flush", "()I"⟩ ∈ aW := aw_of (tb_10 (List.mem_of_getElem? (i := 68) rfl)) rfl
theorem w1872 : Cond.code ⟨"SeriesVaultModel", "flush", "()I"⟩ prog_14_method_44_code 5 (some FieldType.int) ∈ aW := aw_of (tb_10 (List.mem_of_getElem? (i := 71) rfl)) rfl
theorem w1873 : Cond.instanceMethod ⟨"SeriesVaultModel", "flush", "()I"⟩ ∈ aW := aw_of (tb_10 (List.mem_of_getElem? (i := 69) rfl)) rfl
theorem w1874 : Cond.selects "SeriesVaultModel" ⟨"SeriesVaultModel", "flush", "()I"⟩ ⟨"SeriesVaultModel", "flush", "()I"⟩ ∈ aW := aw_of (tb_10 (List.mem_of_getElem? (i := 70) rfl)) rfl
set_option maxHeartbeats 4000000 in
set_option maxRecDepth 100000 in
theorem l9_10 {p : Program} {e : Env} {s : State} {m : MethodId} {below : List Frame} {meth : Method} {c : Code} (l : Launch) {b L : Nat} {xs : Nat → Int32} {D : va_G} {dA : Nat → ClassId} {e0 : Nat} {A : Nat → Prop} {H : Heap} {locs : List Loc} {ls : Array Slot} (hC : lS p l s m meth c b L xs D dA e0 A) {h : Nat} {ad : Nat → Nat} {x : VS} {mm : Nat} {mad : Nat → Nat} {M M1 : MS} {o : Nat} {og : Nat → Int64} {i fr1 lo1 fr2 lo2 mc9 ms9 cells slots : Nat} {F9 : VS → Prop} {b9 : Int32} {v9 : Int64} (hi : i + 6 ≤ L) (hL : L ≤ 3072) (hfr : fr1 ≤ 2000 ∧ lo1 ≤ 80000 ∧ fr2 ≤ 2000 ∧ lo2 ≤ 80000) (hrm : cells + mc9 ≤ 601024 ∧ slots + ms9 ≤ 7293034) (hcod : M1.cod = 0) (hv : v9 = b9.toInt64) (hW : ∀ sz : Nat, Met l ⟨"SeriesVaultLaw", "flush", "(LSeriesVault;[J)I"⟩ [Cond.codeWith ⟨"SeriesVaultLaw", "flush", "(LSeriesVault;[J)I"⟩ method_13_code 3 (some FieldType.int) [(0, 8, 11, 29), (0, 8, 14, 13)]] { frames := fr1, cells := mc9, slots := ms9, locals := lo1 } (pC D dA [.ref h, .ref o] (([(o, .inl (dA 2, 1, .inr (.inl og)))] : va_W) ++ (VW dA h ad x)) sz) (va_Qi (fun (r9 : Int32) (u9 : VS) => r9 = 0 ∧ F9 u9) (fun (u9 : VS) t9 => bW D (va_A (([(o, .inl (dA 2, 1, .inr (.inl og)))] : va_W) ++ (VW dA h ad x)) sz) (([(o, .inl (dA 2, 1, .inr (.inl (va_up og 0 v9))))] : va_W) ++ (VW dA h ad u9)) t9) (va_A (([(o, .inl (dA 2, 1, .inr (.inl og)))] : va_W) ++ (VW dA h ad x)) sz)) mc9 ms9 (va_A (([(o, .inl (dA 2, 1, .inr (.inl og)))] : va_W) ++ (VW dA h ad x)) sz)) (hM : ∀ sz : Nat, Met l ⟨"SeriesVaultModel", "flush", "()I"⟩ [Cond.code ⟨"SeriesVaultModel", "flush", "()I"⟩ prog_14_method_44_code 5 (some FieldType.int)] { frames := fr2, cells := 0, slots := 0, locals := lo2 } (pC D dA [.ref mm] (MW dA mm mad M) sz) (va_Qi (fun (r9 : Int32) (u9 : Unit) => r9 = b9) (fun (u9 : Unit) t9 => bW D (va_A (MW dA mm mad M) sz) (MW dA mm mad M1) t9) (va_A (MW dA mm mad M) sz)) 0 0 (va_A (MW dA mm mad M) sz)) (hP : va_P D vwCl (MW dA mm mad M ++ (([(o, .inl (dA 2, 1, .inr (.inl og)))] : va_W) ++ (VW dA h ad x))) H) (hD : va_D A (MW dA mm mad M ++ (([(o, .inl (dA 2, 1, .inr (.inl og)))] : va_W) ++ (VW dA h ad x)))) (hS : va_S A s.heap H locs) (hl : lv_has ls 8 [(4, .int (nI i)), (3, .ref o), (2, .ref mm), (1, .ref h), (0, .ref b)]) (cont : ∀ (u : VS) (H1 : Heap) (locs1 : List Loc) (ls1 : Array Slot), F9 u → va_P D vwCl (MW dA mm mad M1 ++ (([(o, .inl (dA 2, 1, .inr (.inl (va_up og 0 v9))))] : va_W) ++ (VW dA h ad u))) H1 → va_D A (MW dA mm mad M1 ++ (([(o, .inl (dA 2, 1, .inr (.inl (va_up og 0 v9))))] : va_W) ++ (VW dA h ad u))) → va_S A s.heap H1 locs1 → lv_has ls1 8 [(4, .int (nI (i + 6))), (3, .ref o), (2, .ref mm), (1, .ref h), (0, .ref b)] → W p l e room_1 s m #[Value.ref b] below meth c H1 locs1 (cells + mc9 + 0 + 0) (slots + ms9 + 0 + 0) (lw_Z below #[Value.ref b] s) (F0 m 23 ls1 [])) : W p l e room_1 s m #[Value.ref b] below meth c H locs cells slots (lw_Z below #[Value.ref b] s) (F0 m 907 ls []) := by
  have hC0 := hC
  obtain ⟨hx, hb, hr, hml, hown, hlk, hE, hK, hA, hN, hZ, hT, hX, hbl, hbA, hnew, htr⟩ := hC
  refine lv_aload_n hx hb d_SeriesVaultLaw_law_907 rfl (lv_at hl 3 rfl) ?_
  refine lv_aload_n hx hb d_SeriesVaultLaw_law_908 rfl (lv_at hl 1 rfl) ?_
  have hPc : va_P D vwCl (([(o, .inl (dA 2, 1, .inr (.inl og)))] : va_W) ++ (VW dA h ad x)) H := spP (wr := MW dA mm mad M) hP
  have hDc : va_D A (([(o, .inl (dA 2, 1, .inr (.inl og)))] : va_W) ++ (VW dA h ad x)) := spD (wr := MW dA mm mad M) hD
  refine jkI (wr := MW dA mm mad M) (rnW (As := [.ref h, .ref o]) (rest := []) hx hb hml hown hE hK (hN _ _ hS) hPc hDc (hW H.size) w1869 w1868 w1870 w1793 rfl rfl ⟨⟨by decide, by decide⟩, rfl⟩ ⟨(show fr1 + 1 ≤ 2048 by omega), (show 8 + (3 + 11) + lo1 ≤ 84000 by omega)⟩ rfl hl.1 rfl (Nat.le_of_ble_eq_true rfl) d_SeriesVaultLaw_law_909 ⟨(show cells + mc9 ≤ 601024 by omega), (show slots + ms9 ≤ 7293034 by omega)⟩) hP hD hS hA (fun k8 u8 H locs hp9 hP hD hS => ?_)
  obtain ⟨hp9, hf9⟩ := hp9
  replace hp9 : 0 = k8 := Eq.symm hp9
  subst hp9
  have hP : va_P D vwCl (MW dA mm mad M ++ (([(o, .inl (dA 2, 1, .inr (.inl (va_up og 0 v9))))] : va_W) ++ (VW dA h ad u8))) H := hP
  have hD : va_D A (MW dA mm mad M ++ (([(o, .inl (dA 2, 1, .inr (.inl (va_up og 0 v9))))] : va_W) ++ (VW dA h ad u8))) := hD
  refine lv_istore hx hb d_SeriesVaultLaw_law_912 hl (by decide) rfl (fun ls hl => ?_)
  have hl : lv_has ls 8 [(5, .int 0), (4, .int (nI i)), (3, .ref o), (2, .ref mm), (1, .ref h), (0, .ref b)] := hl
  refine lv_aload_n hx hb d_SeriesVaultLaw_law_914 rfl (lv_at hl 3 rfl) ?_
  have hP := pmP (show List.Perm (α := Nat × va_E) (MW dA mm mad M ++ (([(o, .inl (dA 2, 1, .inr (.inl (va_up og 0 v9))))] : va_W) ++ (VW dA h ad u8))) (([(o, .inl (dA 2, 1, .inr (.inl (va_up og 0 v9))))] : va_W) ++ (MW dA mm mad M ++ (VW dA h ad u8))) from List.perm_append_comm_assoc (MW dA mm mad M) (([(o, .inl (dA 2, 1, .inr (.inl (va_up og 0 v9))))] : va_W)) (VW dA h ad u8)) hP
  have hD := pmD (show List.Perm (α := Nat × va_E) (MW dA mm mad M ++ (([(o, .inl (dA 2, 1, .inr (.inl (va_up og 0 v9))))] : va_W) ++ (VW dA h ad u8))) (([(o, .inl (dA 2, 1, .inr (.inl (va_up og 0 v9))))] : va_W) ++ (MW dA mm mad M ++ (VW dA h ad u8))) from List.perm_append_comm_assoc (MW dA mm mad M) (([(o, .inl (dA 2, 1, .inr (.inl (va_up og 0 v9))))] : va_W)) (VW dA h ad u8)) hD
  have hP := pmP (show List.Perm (α := Nat × va_E) (([(o, .inl (dA 2, 1, .inr (.inl (va_up og 0 v9))))] : va_W) ++ (MW dA mm mad M ++ (VW dA h ad u8))) (([(o, .inl (dA 2, 1, .inr (.inl (va_up og 0 v9))))] : va_W) ++ (VW dA h ad u8 ++ (MW dA mm mad M))) from List.Perm.append_left (([(o, .inl (dA 2, 1, .inr (.inl (va_up og 0 v9))))] : va_W)) (List.perm_append_comm)) hP
  have hD := pmD (show List.Perm (α := Nat × va_E) (([(o, .inl (dA 2, 1, .inr (.inl (va_up og 0 v9))))] : va_W) ++ (MW dA mm mad M ++ (VW dA h ad u8))) (([(o, .inl (dA 2, 1, .inr (.inl (va_up og 0 v9))))] : va_W) ++ (VW dA h ad u8 ++ (MW dA mm mad M))) from List.Perm.append_left (([(o, .inl (dA 2, 1, .inr (.inl (va_up og 0 v9))))] : va_W)) (List.perm_append_comm)) hD
  have hPc : va_P D vwCl (MW dA mm mad M) H := spP (wr := ([(o, .inl (dA 2, 1, .inr (.inl (va_up og 0 v9))))] : va_W) ++ (VW dA h ad u8)) hP
  have hDc : va_D A (MW dA mm mad M) := spD (wr := ([(o, .inl (dA 2, 1, .inr (.inl (va_up og 0 v9))))] : va_W) ++ (VW dA h ad u8)) hD
  refine jkI (wr := ([(o, .inl (dA 2, 1, .inr (.inl (va_up og 0 v9))))] : va_W) ++ (VW dA h ad u8)) (rnV (As := []) (rest := []) hx hb hml hown hE hK (hN _ _ hS) hPc hDc (hM H.size) (q0 := 0) rfl rfl w1872 w1871 w1873 w1874 w328 rfl rfl ⟨⟨by decide, by decide⟩, rfl⟩ ⟨(show fr2 + 1 ≤ 2048 by omega), (show 8 + (5 + 11) + lo2 ≤ 84000 by omega)⟩ rfl hl.1 rfl (Nat.le_of_ble_eq_true rfl) d_SeriesVaultLaw_law_915 ⟨(show cells + mc9 + 0 ≤ 601024 by omega), (show slots + ms9 + 0 ≤ 7293034 by omega)⟩) hP hD hS hA (fun r7 u7 H locs hp9 hP hD hS => ?_)
  replace hp9 : b9 = r7 := Eq.symm hp9
  subst hp9
  have hP : va_P D vwCl (([(o, .inl (dA 2, 1, .inr (.inl (va_up og 0 v9))))] : va_W) ++ (VW dA h ad u8 ++ (MW dA mm mad M1))) H := hP
  have hD : va_D A (([(o, .inl (dA 2, 1, .inr (.inl (va_up og 0 v9))))] : va_W) ++ (VW dA h ad u8 ++ (MW dA mm mad M1))) := hD
  refine lv_istore hx hb d_SeriesVaultLaw_law_918 hl (by decide) rfl (fun ls hl => ?_)
  have hl : lv_has ls 8 [(6, .int b9), (5, .int 0), (4, .int (nI i)), (3, .ref o), (2, .ref mm), (1, .ref h), (0, .ref b)] := hl
  refine lv_aload_n hx hb d_SeriesVaultLaw_law_920 rfl (lv_at hl 4 rfl) ?_
  have hPc : va_P D vwCl (MW dA mm mad M1) H := spP (wr := ([(o, .inl (dA 2, 1, .inr (.inl (va_up og 0 v9))))] : va_W) ++ (VW dA h ad u8)) hP
  have hDc : va_D A (MW dA mm mad M1) := spD (wr := ([(o, .inl (dA 2, 1, .inr (.inl (va_up og 0 v9))))] : va_W) ++ (VW dA h ad u8)) hD
  refine jkI (wr := ([(o, .inl (dA 2, 1, .inr (.inl (va_up og 0 v9))))] : va_W) ++ (VW dA h ad u8)) (rnV (As := []) (rest := []) hx hb hml hown hE hK (hN _ _ hS) hPc hDc (k_thrown l D dA H.size mm mad M1) (q0 := 0) rfl rfl w1801 w1800 w1802 w1803 w328 rfl rfl ⟨⟨by decide, by decide⟩, rfl⟩ ⟨(show 1 + 1 ≤ 2048 by omega), (show 8 + (1 + 11) + 0 ≤ 84000 by omega)⟩ rfl hl.1 rfl (Nat.le_of_ble_eq_true rfl) d_SeriesVaultLaw_law_921 ⟨(show cells + mc9 + 0 ≤ 601024 by omega), (show slots + ms9 + 0 ≤ 7293034 by omega)⟩) hP hD hS hA (fun r7 u7 H locs hp9 hP hD hS => ?_)
  replace hp9 : 0 = r7 := Eq.symm (hp9.trans hcod)
  subst hp9
  have hP : va_P D vwCl (([(o, .inl (dA 2, 1, .inr (.inl (va_up og 0 v9))))] : va_W) ++ (VW dA h ad u8 ++ (MW dA mm mad M1))) H := hP
  have hD : va_D A (([(o, .inl (dA 2, 1, .inr (.inl (va_up og 0 v9))))] : va_W) ++ (VW dA h ad u8 ++ (MW dA mm mad M1))) := hD
  refine lv_iload hx hb d_SeriesVaultLaw_law_924 (lv_at hl 1 rfl) ?_
  refine lv_icmp_eq hx hb d_SeriesVaultLaw_law_926 (tgt := 931) rfl (fun _ => ?_) (fun h9 => absurd rfl h9)
  refine lv_iload hx hb d_SeriesVaultLaw_law_931 (lv_at hl 1 rfl) ?_
  refine lv_if_ne hx hb d_SeriesVaultLaw_law_933 (tgt := 948) rfl (fun h9 => absurd (by decide) h9) (fun _ => ?_)
  refine lv_aload_n hx hb d_SeriesVaultLaw_law_936 rfl (lv_at hl 3 rfl) ?_
  refine lv_iconst (v := 0) hx hb d_SeriesVaultLaw_law_937 (by decide) ?_
  refine nlld (f := (va_up og 0 v9)) (n := 1) hx hb hK hP (0) 2 rfl rfl (0) (by decide) (by decide) d_SeriesVaultLaw_law_938 ?_
  refine tpl (y := v9) (va_up_self _ _ _) ?_
  refine lv_iload hx hb d_SeriesVaultLaw_law_939 (lv_at hl 0 rfl) ?_
  refine lv_i2l hx hb d_SeriesVaultLaw_law_941 rfl ?_
  refine W.lcmp hx hb d_SeriesVaultLaw_law_942 ?_
  refine lv_if_eq hx hb d_SeriesVaultLaw_law_943 (tgt := 948) rfl (fun _ => ?_) (fun h9 => absurd ((lg_cmp_eq _ _).mpr hv) h9)
  refine lv_goto hx hb d_SeriesVaultLaw_law_948 (tgt := 1770) rfl ?_
  refine lv_iinc (k := 2) (v := nI (i + 6)) hx hb d_SeriesVaultLaw_law_1770 hl rfl (iincN (i) 6 6 (by decide)) (by decide) rfl (fun ls hl => ?_)
  have hl : lv_has ls 8 [(4, .int (nI (i + 6))), (6, .int b9), (5, .int 0), (3, .ref o), (2, .ref mm), (1, .ref h), (0, .ref b)] := hl
  refine lv_goto hx hb d_SeriesVaultLaw_law_1773 (tgt := 23) rfl ?_
  have hP := pmP (show List.Perm (α := Nat × va_E) (([(o, .inl (dA 2, 1, .inr (.inl (va_up og 0 v9))))] : va_W) ++ (VW dA h ad u8 ++ (MW dA mm mad M1))) (MW dA mm mad M1 ++ (([(o, .inl (dA 2, 1, .inr (.inl (va_up og 0 v9))))] : va_W) ++ (VW dA h ad u8))) from (List.Perm.append_left (([(o, .inl (dA 2, 1, .inr (.inl (va_up og 0 v9))))] : va_W)) (List.perm_append_comm)).trans (List.perm_append_comm_assoc (([(o, .inl (dA 2, 1, .inr (.inl (va_up og 0 v9))))] : va_W)) (MW dA mm mad M1) (VW dA h ad u8))) hP
  have hD := pmD (show List.Perm (α := Nat × va_E) (([(o, .inl (dA 2, 1, .inr (.inl (va_up og 0 v9))))] : va_W) ++ (VW dA h ad u8 ++ (MW dA mm mad M1))) (MW dA mm mad M1 ++ (([(o, .inl (dA 2, 1, .inr (.inl (va_up og 0 v9))))] : va_W) ++ (VW dA h ad u8))) from (List.Perm.append_left (([(o, .inl (dA 2, 1, .inr (.inl (va_up og 0 v9))))] : va_W)) (List.perm_append_comm)).trans (List.perm_append_comm_assoc (([(o, .inl (dA 2, 1, .inr (.inl (va_up og 0 v9))))] : va_W)) (MW dA mm mad M1) (VW dA h ad u8))) hD
  have hP : va_P D vwCl (MW dA mm mad M1 ++ (([(o, .inl (dA 2, 1, .inr (.inl (va_up og 0 v9))))] : va_W) ++ (VW dA h ad u8))) H := hP
  have hD : va_D A (MW dA mm mad M1 ++ (([(o, .inl (dA 2, 1, .inr (.inl (va_up og 0 v9))))] : va_W) ++ (VW dA h ad u8))) := hD
  have hl := lv_sub (l' := [(4, .int (nI (i + 6))), (3, .ref o), (2, .ref mm), (1, .ref h), (0, .ref b)]) hl [0, 3, 4, 5, 6] rfl
  exact cont u8 H locs ls hf9 hP hD hS hl
set_option maxHeartbeats 4000000 in
set_option maxRecDepth 100000 in
theorem l9_10_x {p : Program} {e : Env} {s : State} {m : MethodId} {below : List Frame} {meth : Method} {c : Code} (l : Launch) {b L : Nat} {xs : Nat → Int32} {D : va_G} {dA : Nat → ClassId} {e0 : Nat} {A : Nat → Prop} {H : Heap} {locs : List Loc} {ls : Array Slot} (hC : lS p l s m meth c b L xs D dA e0 A) {h : Nat} {ad : Nat → Nat} {x : VS} {mm : Nat} {mad : Nat → Nat} {M M1 : MS} {o : Nat} {og : Nat → Int64} {i fr1 lo1 fr2 lo2 mc9 ms9 cells slots : Nat} {F9 : VS → Prop} {b9 : Int32} {k9 : Nat} (hi : i + 6 ≤ L) (hL : L ≤ 3072) (hfr : fr1 ≤ 2000 ∧ lo1 ≤ 80000 ∧ fr2 ≤ 2000 ∧ lo2 ≤ 80000) (hrm : cells + mc9 ≤ 601024 ∧ slots + ms9 ≤ 7293034) (hcod : M1.cod = nI k9) (hk9 : ¬ nI k9 = 0) (hW : ∀ sz : Nat, Met l ⟨"SeriesVaultLaw", "flush", "(LSeriesVault;[J)I"⟩ [Cond.codeWith ⟨"SeriesVaultLaw", "flush", "(LSeriesVault;[J)I"⟩ method_13_code 3 (some FieldType.int) [(0, 8, 11, 29), (0, 8, 14, 13)]] { frames := fr1, cells := mc9, slots := ms9, locals := lo1 } (pC D dA [.ref h, .ref o] (([(o, .inl (dA 2, 1, .inr (.inl og)))] : va_W) ++ (VW dA h ad x)) sz) (va_Qi (fun (r9 : Int32) (u9 : VS) => r9 = nI k9 ∧ F9 u9) (fun (u9 : VS) t9 => bW D (va_A (([(o, .inl (dA 2, 1, .inr (.inl og)))] : va_W) ++ (VW dA h ad x)) sz) (([(o, .inl (dA 2, 1, .inr (.inl (og))))] : va_W) ++ (VW dA h ad u9)) t9) (va_A (([(o, .inl (dA 2, 1, .inr (.inl og)))] : va_W) ++ (VW dA h ad x)) sz)) mc9 ms9 (va_A (([(o, .inl (dA 2, 1, .inr (.inl og)))] : va_W) ++ (VW dA h ad x)) sz)) (hM : ∀ sz : Nat, Met l ⟨"SeriesVaultModel", "flush", "()I"⟩ [Cond.code ⟨"SeriesVaultModel", "flush", "()I"⟩ prog_14_method_44_code 5 (some FieldType.int)] { frames := fr2, cells := 0, slots := 0, locals := lo2 } (pC D dA [.ref mm] (MW dA mm mad M) sz) (va_Qi (fun (r9 : Int32) (u9 : Unit) => r9 = b9) (fun (u9 : Unit) t9 => bW D (va_A (MW dA mm mad M) sz) (MW dA mm mad M1) t9) (va_A (MW dA mm mad M) sz)) 0 0 (va_A (MW dA mm mad M) sz)) (hP : va_P D vwCl (MW dA mm mad M ++ (([(o, .inl (dA 2, 1, .inr (.inl og)))] : va_W) ++ (VW dA h ad x))) H) (hD : va_D A (MW dA mm mad M ++ (([(o, .inl (dA 2, 1, .inr (.inl og)))] : va_W) ++ (VW dA h ad x)))) (hS : va_S A s.heap H locs) (hl : lv_has ls 8 [(4, .int (nI i)), (3, .ref o), (2, .ref mm), (1, .ref h), (0, .ref b)]) (cont : ∀ (u : VS) (H1 : Heap) (locs1 : List Loc) (ls1 : Array Slot), F9 u → va_P D vwCl (MW dA mm mad M1 ++ (([(o, .inl (dA 2, 1, .inr (.inl og)))] : va_W) ++ (VW dA h ad u))) H1 → va_D A (MW dA mm mad M1 ++ (([(o, .inl (dA 2, 1, .inr (.inl og)))] : va_W) ++ (VW dA h ad u))) → va_S A s.heap H1 locs1 → lv_has ls1 8 [(4, .int (nI (i + 6))), (3, .ref o), (2, .ref mm), (1, .ref h), (0, .ref b)] → W p l e room_1 s m #[Value.ref b] below meth c H1 locs1 (cells + mc9 + 0 + 0) (slots + ms9 + 0 + 0) (lw_Z below #[Value.ref b] s) (F0 m 23 ls1 [])) : W p l e room_1 s m #[Value.ref b] below meth c H locs cells slots (lw_Z below #[Value.ref b] s) (F0 m 907 ls []) := by
  have hC0 := hC
  obtain ⟨hx, hb, hr, hml, hown, hlk, hE, hK, hA, hN, hZ, hT, hX, hbl, hbA, hnew, htr⟩ := hC
  refine lv_aload_n hx hb d_SeriesVaultLaw_law_907 rfl (lv_at hl 3 rfl) ?_
  refine lv_aload_n hx hb d_SeriesVaultLaw_law_908 rfl (lv_at hl 1 rfl) ?_
  have hPc : va_P D vwCl (([(o, .inl (dA 2, 1, .inr (.inl og)))] : va_W) ++ (VW dA h ad x)) H := spP (wr := MW dA mm mad M) hP
  have hDc : va_D A (([(o, .inl (dA 2, 1, .inr (.inl og)))] : va_W) ++ (VW dA h ad x)) := spD (wr := MW dA mm mad M) hD
  refine jkI (wr := MW dA mm mad M) (rnW (As := [.ref h, .ref o]) (rest := []) hx hb hml hown hE hK (hN _ _ hS) hPc hDc (hW H.size) w1869 w1868 w1870 w1793 rfl rfl ⟨⟨by decide, by decide⟩, rfl⟩ ⟨(show fr1 + 1 ≤ 2048 by omega), (show 8 + (3 + 11) + lo1 ≤ 84000 by omega)⟩ rfl hl.1 rfl (Nat.le_of_ble_eq_true rfl) d_SeriesVaultLaw_law_909 ⟨(show cells + mc9 ≤ 601024 by omega), (show slots + ms9 ≤ 7293034 by omega)⟩) hP hD hS hA (fun k8 u8 H locs hp9 hP hD hS => ?_)
  obtain ⟨hp9, hf9⟩ := hp9
  replace hp9 : nI k9 = k8 := Eq.symm hp9
  subst hp9
  have hP : va_P D vwCl (MW dA mm mad M ++ (([(o, .inl (dA 2, 1, .inr (.inl og)))] : va_W) ++ (VW dA h ad u8))) H := hP
  have hD : va_D A (MW dA mm mad M ++ (([(o, .inl (dA 2, 1, .inr (.inl og)))] : va_W) ++ (VW dA h ad u8))) := hD
  refine lv_istore hx hb d_SeriesVaultLaw_law_912 hl (by decide) rfl (fun ls hl => ?_)
  have hl : lv_has ls 8 [(5, .int (nI k9)), (4, .int (nI i)), (3, .ref o), (2, .ref mm), (1, .ref h), (0, .ref b)] := hl
  refine lv_aload_n hx hb d_SeriesVaultLaw_law_914 rfl (lv_at hl 3 rfl) ?_
  have hP := pmP (show List.Perm (α := Nat × va_E) (MW dA mm mad M ++ (([(o, .inl (dA 2, 1, .inr (.inl og)))] : va_W) ++ (VW dA h ad u8))) (([(o, .inl (dA 2, 1, .inr (.inl og)))] : va_W) ++ (MW dA mm mad M ++ (VW dA h ad u8))) from List.perm_append_comm_assoc (MW dA mm mad M) (([(o, .inl (dA 2, 1, .inr (.inl og)))] : va_W)) (VW dA h ad u8)) hP
  have hD := pmD (show List.Perm (α := Nat × va_E) (MW dA mm mad M ++ (([(o, .inl (dA 2, 1, .inr (.inl og)))] : va_W) ++ (VW dA h ad u8))) (([(o, .inl (dA 2, 1, .inr (.inl og)))] : va_W) ++ (MW dA mm mad M ++ (VW dA h ad u8))) from List.perm_append_comm_assoc (MW dA mm mad M) (([(o, .inl (dA 2, 1, .inr (.inl og)))] : va_W)) (VW dA h ad u8)) hD
  have hP := pmP (show List.Perm (α := Nat × va_E) (([(o, .inl (dA 2, 1, .inr (.inl og)))] : va_W) ++ (MW dA mm mad M ++ (VW dA h ad u8))) (([(o, .inl (dA 2, 1, .inr (.inl og)))] : va_W) ++ (VW dA h ad u8 ++ (MW dA mm mad M))) from List.Perm.append_left (([(o, .inl (dA 2, 1, .inr (.inl og)))] : va_W)) (List.perm_append_comm)) hP
  have hD := pmD (show List.Perm (α := Nat × va_E) (([(o, .inl (dA 2, 1, .inr (.inl og)))] : va_W) ++ (MW dA mm mad M ++ (VW dA h ad u8))) (([(o, .inl (dA 2, 1, .inr (.inl og)))] : va_W) ++ (VW dA h ad u8 ++ (MW dA mm mad M))) from List.Perm.append_left (([(o, .inl (dA 2, 1, .inr (.inl og)))] : va_W)) (List.perm_append_comm)) hD
  have hPc : va_P D vwCl (MW dA mm mad M) H := spP (wr := ([(o, .inl (dA 2, 1, .inr (.inl og)))] : va_W) ++ (VW dA h ad u8)) hP
  have hDc : va_D A (MW dA mm mad M) := spD (wr := ([(o, .inl (dA 2, 1, .inr (.inl og)))] : va_W) ++ (VW dA h ad u8)) hD
  refine jkI (wr := ([(o, .inl (dA 2, 1, .inr (.inl og)))] : va_W) ++ (VW dA h ad u8)) (rnV (As := []) (rest := []) hx hb hml hown hE hK (hN _ _ hS) hPc hDc (hM H.size) (q0 := 0) rfl rfl w1872 w1871 w1873 w1874 w328 rfl rfl ⟨⟨by decide, by decide⟩, rfl⟩ ⟨(show fr2 + 1 ≤ 2048 by omega), (show 8 + (5 + 11) + lo2 ≤ 84000 by omega)⟩ rfl hl.1 rfl (Nat.le_of_ble_eq_true rfl) d_SeriesVaultLaw_law_915 ⟨(show cells + mc9 + 0 ≤ 601024 by omega), (show slots + ms9 + 0 ≤ 7293034 by omega)⟩) hP hD hS hA (fun r7 u7 H locs hp9 hP hD hS => ?_)
  replace hp9 : b9 = r7 := Eq.symm hp9
  subst hp9
  have hP : va_P D vwCl (([(o, .inl (dA 2, 1, .inr (.inl og)))] : va_W) ++ (VW dA h ad u8 ++ (MW dA mm mad M1))) H := hP
  have hD : va_D A (([(o, .inl (dA 2, 1, .inr (.inl og)))] : va_W) ++ (VW dA h ad u8 ++ (MW dA mm mad M1))) := hD
  refine lv_istore hx hb d_SeriesVaultLaw_law_918 hl (by decide) rfl (fun ls hl => ?_)
  have hl : lv_has ls 8 [(6, .int b9), (5, .int (nI k9)), (4, .int (nI i)), (3, .ref o), (2, .ref mm), (1, .ref h), (0, .ref b)] := hl
  refine lv_aload_n hx hb d_SeriesVaultLaw_law_920 rfl (lv_at hl 4 rfl) ?_
  have hPc : va_P D vwCl (MW dA mm mad M1) H := spP (wr := ([(o, .inl (dA 2, 1, .inr (.inl og)))] : va_W) ++ (VW dA h ad u8)) hP
  have hDc : va_D A (MW dA mm mad M1) := spD (wr := ([(o, .inl (dA 2, 1, .inr (.inl og)))] : va_W) ++ (VW dA h ad u8)) hD
  refine jkI (wr := ([(o, .inl (dA 2, 1, .inr (.inl og)))] : va_W) ++ (VW dA h ad u8)) (rnV (As := []) (rest := []) hx hb hml hown hE hK (hN _ _ hS) hPc hDc (k_thrown l D dA H.size mm mad M1) (q0 := 0) rfl rfl w1801 w1800 w1802 w1803 w328 rfl rfl ⟨⟨by decide, by decide⟩, rfl⟩ ⟨(show 1 + 1 ≤ 2048 by omega), (show 8 + (1 + 11) + 0 ≤ 84000 by omega)⟩ rfl hl.1 rfl (Nat.le_of_ble_eq_true rfl) d_SeriesVaultLaw_law_921 ⟨(show cells + mc9 + 0 ≤ 601024 by omega), (show slots + ms9 + 0 ≤ 7293034 by omega)⟩) hP hD hS hA (fun r7 u7 H locs hp9 hP hD hS => ?_)
  replace hp9 : nI k9 = r7 := Eq.symm (hp9.trans hcod)
  subst hp9
  have hP : va_P D vwCl (([(o, .inl (dA 2, 1, .inr (.inl og)))] : va_W) ++ (VW dA h ad u8 ++ (MW dA mm mad M1))) H := hP
  have hD : va_D A (([(o, .inl (dA 2, 1, .inr (.inl og)))] : va_W) ++ (VW dA h ad u8 ++ (MW dA mm mad M1))) := hD
  refine lv_iload hx hb d_SeriesVaultLaw_law_924 (lv_at hl 1 rfl) ?_
  refine lv_icmp_eq hx hb d_SeriesVaultLaw_law_926 (tgt := 931) rfl (fun _ => ?_) (fun h9 => absurd rfl h9)
  refine lv_iload hx hb d_SeriesVaultLaw_law_931 (lv_at hl 1 rfl) ?_
  refine lv_if_ne hx hb d_SeriesVaultLaw_law_933 (tgt := 948) rfl (fun _ => ?_) (fun h9 => absurd h9 hk9)
  refine lv_goto hx hb d_SeriesVaultLaw_law_948 (tgt := 1770) rfl ?_
  refine lv_iinc (k := 2) (v := nI (i + 6)) hx hb d_SeriesVaultLaw_law_1770 hl rfl (iincN (i) 6 6 (by decide)) (by decide) rfl (fun ls hl => ?_)
  have hl : lv_has ls 8 [(4, .int (nI (i + 6))), (6, .int b9), (5, .int (nI k9)), (3, .ref o), (2, .ref mm), (1, .ref h), (0, .ref b)] := hl
  refine lv_goto hx hb d_SeriesVaultLaw_law_1773 (tgt := 23) rfl ?_
  have hP := pmP (show List.Perm (α := Nat × va_E) (([(o, .inl (dA 2, 1, .inr (.inl og)))] : va_W) ++ (VW dA h ad u8 ++ (MW dA mm mad M1))) (MW dA mm mad M1 ++ (([(o, .inl (dA 2, 1, .inr (.inl og)))] : va_W) ++ (VW dA h ad u8))) from (List.Perm.append_left (([(o, .inl (dA 2, 1, .inr (.inl og)))] : va_W)) (List.perm_append_comm)).trans (List.perm_append_comm_assoc (([(o, .inl (dA 2, 1, .inr (.inl og)))] : va_W)) (MW dA mm mad M1) (VW dA h ad u8))) hP
  have hD := pmD (show List.Perm (α := Nat × va_E) (([(o, .inl (dA 2, 1, .inr (.inl og)))] : va_W) ++ (VW dA h ad u8 ++ (MW dA mm mad M1))) (MW dA mm mad M1 ++ (([(o, .inl (dA 2, 1, .inr (.inl og)))] : va_W) ++ (VW dA h ad u8))) from (List.Perm.append_left (([(o, .inl (dA 2, 1, .inr (.inl og)))] : va_W)) (List.perm_append_comm)).trans (List.perm_append_comm_assoc (([(o, .inl (dA 2, 1, .inr (.inl og)))] : va_W)) (MW dA mm mad M1) (VW dA h ad u8))) hD
  have hP : va_P D vwCl (MW dA mm mad M1 ++ (([(o, .inl (dA 2, 1, .inr (.inl og)))] : va_W) ++ (VW dA h ad u8))) H := hP
  have hD : va_D A (MW dA mm mad M1 ++ (([(o, .inl (dA 2, 1, .inr (.inl og)))] : va_W) ++ (VW dA h ad u8))) := hD
  have hl := lv_sub (l' := [(4, .int (nI (i + 6))), (3, .ref o), (2, .ref mm), (1, .ref h), (0, .ref b)]) hl [0, 3, 4, 5, 6] rfl
  exact cont u8 H locs ls hf9 hP hD hS hl
theorem d_SeriesVaultLaw_law_951 : decode code 951 = .ok (.aload_n 1, 1) := by decide +kernel
theorem d_SeriesVaultLaw_law_952 : decode code 952 = .ok (.aload_n 0, 1) := by decide +kernel
theorem d_SeriesVaultLaw_law_953 : decode code 953 = .ok (.iload 4, 2) := by decide +kernel
theorem d_SeriesVaultLaw_law_955 : decode code 955 = .ok (.iconst 1, 1) := by decide +kernel
theorem d_SeriesVaultLaw_law_956 : decode code 956 = .ok (.iadd, 1) := by decide +kernel
theorem d_SeriesVaultLaw_law_957 : decode code 957 = .ok (.iaload, 1) := by decide +kernel
theorem d_SeriesVaultLaw_law_958 : decode code 958 = .ok (.aload_n 3, 1) := by decide +kernel
theorem d_SeriesVaultLaw_law_959 : decode code 959 = .ok (.invokestatic 151, 3) := by decide +kernel
theorem d_SeriesVaultLaw_law_962 : decode code 962 = .ok (.istore 5, 2) := by decide +kernel
theorem d_SeriesVaultLaw_law_964 : decode code 964 = .ok (.aload_n 2, 1) := by decide +kernel
theorem d_SeriesVaultLaw_law_965 : decode code 965 = .ok (.aload_n 0, 1) := by decide +kernel
theorem d_SeriesVaultLaw_law_966 : decode code 966 = .ok (.iload 4, 2) := by decide +kernel
theorem d_SeriesVaultLaw_law_968 : decode code 968 = .ok (.iconst 1, 1) := by decide +kernel
theorem d_SeriesVaultLaw_law_969 : decode code 969 = .ok (.iadd, 1) := by decide +kernel
theorem d_SeriesVaultLaw_law_970 : decode code 970 = .ok (.iaload, 1) := by decide +kernel
theorem d_SeriesVaultLaw_law_971 : decode code 971 = .ok (.invokevirtual 153, 3) := by decide +kernel
theorem d_SeriesVaultLaw_law_974 : decode code 974 = .ok (.istore 6, 2) := by decide +kernel
theorem d_SeriesVaultLaw_law_976 : decode code 976 = .ok (.aload_n 2, 1) := by decide +kernel
theorem d_SeriesVaultLaw_law_977 : decode code 977 = .ok (.invokevirtual 110, 3) := by decide +kernel
theorem d_SeriesVaultLaw_law_980 : decode code 980 = .ok (.iload 5, 2) := by decide +kernel
theorem d_SeriesVaultLaw_law_982 : decode code 982 = .ok (.if_icmp .eq 5, 3) := by decide +kernel
theorem d_SeriesVaultLaw_law_987 : decode code 987 = .ok (.iload 5, 2) := by decide +kernel
theorem d_SeriesVaultLaw_law_989 : decode code 989 = .ok (.ifCond .ne 15, 3) := by decide +kernel
theorem d_SeriesVaultLaw_law_992 : decode code 992 = .ok (.aload_n 3, 1) := by decide +kernel
theorem d_SeriesVaultLaw_law_993 : decode code 993 = .ok (.iconst 0, 1) := by decide +kernel
theorem d_SeriesVaultLaw_law_994 : decode code 994 = .ok (.laload, 1) := by decide +kernel
theorem d_SeriesVaultLaw_law_995 : decode code 995 = .ok (.iload 6, 2) := by decide +kernel
theorem d_SeriesVaultLaw_law_997 : decode code 997 = .ok (.i2l, 1) := by decide +kernel
theorem d_SeriesVaultLaw_law_998 : decode code 998 = .ok (.lcmp, 1) := by decide +kernel
theorem d_SeriesVaultLaw_law_999 : decode code 999 = .ok (.ifCond .eq 5, 3) := by decide +kernel
theorem d_SeriesVaultLaw_law_1004 : decode code 1004 = .ok (.goto 766, 3) := by decide +kernel
theorem w1875 : Cond.methodLink "SeriesVaultLaw" 151 ⟨"SeriesVaultLaw", "compact", "(LSeriesVault;I[J)I"⟩ ∈ aW := aw_of (tb_6 (List.mem_of_getElem? (i := 116) rfl)) rfl
theorem w1876 : Cond.codeWith ⟨"SeriesVaultLaw", "compact", "(LSeriesVault;I[J)I"⟩ method_14_code 4 (some FieldType.int) [(0, 9, 12, 29), (0, 9, 15, 35), (0, 9, 18, 13)] ∈ aW := aw_of (tb_6 (List.mem_of_getElem? (i := 118) rfl)) rfl
theorem w1877 : Cond.static ⟨"SeriesVaultLaw", "compact", "(LSeriesVault;I[J)I"⟩ ∈ aW := aw_of (tb_6 (List.mem_of_getElem? (i := 117) rfl)) rfl
theorem w1878 : Cond.methodLink "SeriesVaultLaw" 153 ⟨"SeriesVaultModel", "compact", "(I)I"⟩ ∈ aW := aw_of (tb_10 (List.mem_of_getElem? (i := 113) rfl)) rfl
theorem w1879 : Cond.code ⟨"SeriesVaultModel", "compact", "(I)I"⟩ prog_14_method_45_code 7 (some FieldType.int) ∈ aW := aw_of (tb_10 (List.mem_of_getElem? (i := 116) rfl)) rfl
theorem w1880 : Cond.instanceMethod ⟨"SeriesVaultModel", "compact", "(I)I"⟩ ∈ aW := aw_of (tb_10 (List.mem_of_getElem? (i := 114) rfl)) rfl
theorem w1881 : Cond.selects "SeriesVaultModel" ⟨"SeriesVaultModel", "compact", "(I)I"⟩ ⟨"SeriesVaultModel", "compact", "(I)I"⟩ ∈ aW := aw_of (tb_10 (List.mem_of_getElem? (i := 115) rfl)) rfl
set_option maxHeartbeats 4000000 in
set_option maxRecDepth 100000 in
theorem l9_11 {p : Program} {e : Env} {s : State} {m : MethodId} {below : List Frame} {meth : Method} {c : Code} (l : Launch) {b L : Nat} {xs : Nat → Int32} {D : va_G} {dA : Nat → ClassId} {e0 : Nat} {A : Nat → Prop} {H : Heap} {locs : List Loc} {ls : Array Slot} (hC : lS p l s m meth c b L xs D dA e0 A) {h : Nat} {ad : Nat → Nat} {x : VS} {mm : Nat} {mad : Nat → Nat} {M M1 : MS} {o : Nat} {og : Nat → Int64} {i fr1 lo1 fr2 lo2 mc9 ms9 cells slots : Nat} {F9 : VS → Prop} {b9 : Int32} {v9 : Int64} (hi : i + 6 ≤ L) (hL : L ≤ 3072) (hfr : fr1 ≤ 2000 ∧ lo1 ≤ 80000 ∧ fr2 ≤ 2000 ∧ lo2 ≤ 80000) (hrm : cells + mc9 ≤ 601024 ∧ slots + ms9 ≤ 7293034) (hcod : M1.cod = 0) (hv : v9 = b9.toInt64) (hW : ∀ sz : Nat, Met l ⟨"SeriesVaultLaw", "compact", "(LSeriesVault;I[J)I"⟩ [Cond.codeWith ⟨"SeriesVaultLaw", "compact", "(LSeriesVault;I[J)I"⟩ method_14_code 4 (some FieldType.int) [(0, 9, 12, 29), (0, 9, 15, 35), (0, 9, 18, 13)]] { frames := fr1, cells := mc9, slots := ms9, locals := lo1 } (pC D dA [.ref h, .int (xs (i + 1)), .ref o] (([(o, .inl (dA 2, 1, .inr (.inl og)))] : va_W) ++ (VW dA h ad x)) sz) (va_Qi (fun (r9 : Int32) (u9 : VS) => r9 = 0 ∧ F9 u9) (fun (u9 : VS) t9 => bW D (va_A (([(o, .inl (dA 2, 1, .inr (.inl og)))] : va_W) ++ (VW dA h ad x)) sz) (([(o, .inl (dA 2, 1, .inr (.inl (va_up og 0 v9))))] : va_W) ++ (VW dA h ad u9)) t9) (va_A (([(o, .inl (dA 2, 1, .inr (.inl og)))] : va_W) ++ (VW dA h ad x)) sz)) mc9 ms9 (va_A (([(o, .inl (dA 2, 1, .inr (.inl og)))] : va_W) ++ (VW dA h ad x)) sz)) (hM : ∀ sz : Nat, Met l ⟨"SeriesVaultModel", "compact", "(I)I"⟩ [Cond.code ⟨"SeriesVaultModel", "compact", "(I)I"⟩ prog_14_method_45_code 7 (some FieldType.int)] { frames := fr2, cells := 0, slots := 0, locals := lo2 } (pC D dA [.ref mm, .int (xs (i + 1))] (MW dA mm mad M) sz) (va_Qi (fun (r9 : Int32) (u9 : Unit) => r9 = b9) (fun (u9 : Unit) t9 => bW D (va_A (MW dA mm mad M) sz) (MW dA mm mad M1) t9) (va_A (MW dA mm mad M) sz)) 0 0 (va_A (MW dA mm mad M) sz)) (hP : va_P D vwCl (MW dA mm mad M ++ (([(o, .inl (dA 2, 1, .inr (.inl og)))] : va_W) ++ (VW dA h ad x))) H) (hD : va_D A (MW dA mm mad M ++ (([(o, .inl (dA 2, 1, .inr (.inl og)))] : va_W) ++ (VW dA h ad x)))) (hS : va_S A s.heap H locs) (hl : lv_has ls 8 [(4, .int (nI i)), (3, .ref o), (2, .ref mm), (1, .ref h), (0, .ref b)]) (cont : ∀ (u : VS) (H1 : Heap) (locs1 : List Loc) (ls1 : Array Slot), F9 u → va_P D vwCl (MW dA mm mad M1 ++ (([(o, .inl (dA 2, 1, .inr (.inl (va_up og 0 v9))))] : va_W) ++ (VW dA h ad u))) H1 → va_D A (MW dA mm mad M1 ++ (([(o, .inl (dA 2, 1, .inr (.inl (va_up og 0 v9))))] : va_W) ++ (VW dA h ad u))) → va_S A s.heap H1 locs1 → lv_has ls1 8 [(4, .int (nI (i + 6))), (3, .ref o), (2, .ref mm), (1, .ref h), (0, .ref b)] → W p l e room_1 s m #[Value.ref b] below meth c H1 locs1 (cells + mc9 + 0 + 0) (slots + ms9 + 0 + 0) (lw_Z below #[Value.ref b] s) (F0 m 23 ls1 [])) : W p l e room_1 s m #[Value.ref b] below meth c H locs cells slots (lw_Z below #[Value.ref b] s) (F0 m 951 ls []) := by
  have hC0 := hC
  obtain ⟨hx, hb, hr, hml, hown, hlk, hE, hK, hA, hN, hZ, hT, hX, hbl, hbA, hnew, htr⟩ := hC
  refine lv_aload_n hx hb d_SeriesVaultLaw_law_951 rfl (lv_at hl 3 rfl) ?_
  refine lv_aload_n hx hb d_SeriesVaultLaw_law_952 rfl (lv_at hl 4 rfl) ?_
  refine lv_iload hx hb d_SeriesVaultLaw_law_953 (lv_at hl 0 rfl) ?_
  refine lv_iconst (v := 1) hx hb d_SeriesVaultLaw_law_955 (by decide) ?_
  refine lv_iadd hx hb d_SeriesVaultLaw_law_956 (tpi (y := nI (i + 1)) (nI_add (i) (1)) ?_)
  refine sldN hx hb hX hbl hbA hS (show i + 1 < L by omega) (show L ≤ 65536 by omega) d_SeriesVaultLaw_law_957 ?_
  refine lv_aload_n hx hb d_SeriesVaultLaw_law_958 rfl (lv_at hl 1 rfl) ?_
  have hPc : va_P D vwCl (([(o, .inl (dA 2, 1, .inr (.inl og)))] : va_W) ++ (VW dA h ad x)) H := spP (wr := MW dA mm mad M) hP
  have hDc : va_D A (([(o, .inl (dA 2, 1, .inr (.inl og)))] : va_W) ++ (VW dA h ad x)) := spD (wr := MW dA mm mad M) hD
  refine jkI (wr := MW dA mm mad M) (rnW (As := [.ref h, .int (xs (i + 1)), .ref o]) (rest := []) hx hb hml hown hE hK (hN _ _ hS) hPc hDc (hW H.size) w1876 w1875 w1877 w1793 rfl rfl ⟨⟨by decide, by decide⟩, rfl⟩ ⟨(show fr1 + 1 ≤ 2048 by omega), (show 8 + (4 + 11) + lo1 ≤ 84000 by omega)⟩ rfl hl.1 rfl (Nat.le_of_ble_eq_true rfl) d_SeriesVaultLaw_law_959 ⟨(show cells + mc9 ≤ 601024 by omega), (show slots + ms9 ≤ 7293034 by omega)⟩) hP hD hS hA (fun k8 u8 H locs hp9 hP hD hS => ?_)
  obtain ⟨hp9, hf9⟩ := hp9
  replace hp9 : 0 = k8 := Eq.symm hp9
  subst hp9
  have hP : va_P D vwCl (MW dA mm mad M ++ (([(o, .inl (dA 2, 1, .inr (.inl (va_up og 0 v9))))] : va_W) ++ (VW dA h ad u8))) H := hP
  have hD : va_D A (MW dA mm mad M ++ (([(o, .inl (dA 2, 1, .inr (.inl (va_up og 0 v9))))] : va_W) ++ (VW dA h ad u8))) := hD
  refine lv_istore hx hb d_SeriesVaultLaw_law_962 hl (by decide) rfl (fun ls hl => ?_)
  have hl : lv_has ls 8 [(5, .int 0), (4, .int (nI i)), (3, .ref o), (2, .ref mm), (1, .ref h), (0, .ref b)] := hl
  refine lv_aload_n hx hb d_SeriesVaultLaw_law_964 rfl (lv_at hl 3 rfl) ?_
  refine lv_aload_n hx hb d_SeriesVaultLaw_law_965 rfl (lv_at hl 5 rfl) ?_
  refine lv_iload hx hb d_SeriesVaultLaw_law_966 (lv_at hl 1 rfl) ?_
  refine lv_iconst (v := 1) hx hb d_SeriesVaultLaw_law_968 (by decide) ?_
  refine lv_iadd hx hb d_SeriesVaultLaw_law_969 (tpi (y := nI (i + 1)) (nI_add (i) (1)) ?_)
  refine sldN hx hb hX hbl hbA hS (show i + 1 < L by omega) (show L ≤ 65536 by omega) d_SeriesVaultLaw_law_970 ?_
  have hP := pmP (show List.Perm (α := Nat × va_E) (MW dA mm mad M ++ (([(o, .inl (dA 2, 1, .inr (.inl (va_up og 0 v9))))] : va_W) ++ (VW dA h ad u8))) (([(o, .inl (dA 2, 1, .inr (.inl (va_up og 0 v9))))] : va_W) ++ (MW dA mm mad M ++ (VW dA h ad u8))) from List.perm_append_comm_assoc (MW dA mm mad M) (([(o, .inl (dA 2, 1, .inr (.inl (va_up og 0 v9))))] : va_W)) (VW dA h ad u8)) hP
  have hD := pmD (show List.Perm (α := Nat × va_E) (MW dA mm mad M ++ (([(o, .inl (dA 2, 1, .inr (.inl (va_up og 0 v9))))] : va_W) ++ (VW dA h ad u8))) (([(o, .inl (dA 2, 1, .inr (.inl (va_up og 0 v9))))] : va_W) ++ (MW dA mm mad M ++ (VW dA h ad u8))) from List.perm_append_comm_assoc (MW dA mm mad M) (([(o, .inl (dA 2, 1, .inr (.inl (va_up og 0 v9))))] : va_W)) (VW dA h ad u8)) hD
  have hP := pmP (show List.Perm (α := Nat × va_E) (([(o, .inl (dA 2, 1, .inr (.inl (va_up og 0 v9))))] : va_W) ++ (MW dA mm mad M ++ (VW dA h ad u8))) (([(o, .inl (dA 2, 1, .inr (.inl (va_up og 0 v9))))] : va_W) ++ (VW dA h ad u8 ++ (MW dA mm mad M))) from List.Perm.append_left (([(o, .inl (dA 2, 1, .inr (.inl (va_up og 0 v9))))] : va_W)) (List.perm_append_comm)) hP
  have hD := pmD (show List.Perm (α := Nat × va_E) (([(o, .inl (dA 2, 1, .inr (.inl (va_up og 0 v9))))] : va_W) ++ (MW dA mm mad M ++ (VW dA h ad u8))) (([(o, .inl (dA 2, 1, .inr (.inl (va_up og 0 v9))))] : va_W) ++ (VW dA h ad u8 ++ (MW dA mm mad M))) from List.Perm.append_left (([(o, .inl (dA 2, 1, .inr (.inl (va_up og 0 v9))))] : va_W)) (List.perm_append_comm)) hD
  have hPc : va_P D vwCl (MW dA mm mad M) H := spP (wr := ([(o, .inl (dA 2, 1, .inr (.inl (va_up og 0 v9))))] : va_W) ++ (VW dA h ad u8)) hP
  have hDc : va_D A (MW dA mm mad M) := spD (wr := ([(o, .inl (dA 2, 1, .inr (.inl (va_up og 0 v9))))] : va_W) ++ (VW dA h ad u8)) hD
  refine jkI (wr := ([(o, .inl (dA 2, 1, .inr (.inl (va_up og 0 v9))))] : va_W) ++ (VW dA h ad u8)) (rnV (As := [.int (xs (i + 1))]) (rest := []) hx hb hml hown hE hK (hN _ _ hS) hPc hDc (hM H.size) (q0 := 0) rfl rfl w1879 w1878 w1880 w1881 w328 rfl rfl ⟨⟨by decide, by decide⟩, rfl⟩ ⟨(show fr2 + 1 ≤ 2048 by omega), (show 8 + (7 + 11) + lo2 ≤ 84000 by omega)⟩ rfl hl.1 rfl (Nat.le_of_ble_eq_true rfl) d_SeriesVaultLaw_law_971 ⟨(show cells + mc9 + 0 ≤ 601024 by omega), (show slots + ms9 + 0 ≤ 7293034 by omega)⟩) hP hD hS hA (fun r7 u7 H locs hp9 hP hD hS => ?_)
  replace hp9 : b9 = r7 := Eq.symm hp9
  subst hp9
  have hP : va_P D vwCl (([(o, .inl (dA 2, 1, .inr (.inl (va_up og 0 v9))))] : va_W) ++ (VW dA h ad u8 ++ (MW dA mm mad M1))) H := hP
  have hD : va_D A (([(o, .inl (dA 2, 1, .inr (.inl (va_up og 0 v9))))] : va_W) ++ (VW dA h ad u8 ++ (MW dA mm mad M1))) := hD
  refine lv_istore hx hb d_SeriesVaultLaw_law_974 hl (by decide) rfl (fun ls hl => ?_)
  have hl : lv_has ls 8 [(6, .int b9), (5, .int 0), (4, .int (nI i)), (3, .ref o), (2, .ref mm), (1, .ref h), (0, .ref b)] := hl
  refine lv_aload_n hx hb d_SeriesVaultLaw_law_976 rfl (lv_at hl 4 rfl) ?_
  have hPc : va_P D vwCl (MW dA mm mad M1) H := spP (wr := ([(o, .inl (dA 2, 1, .inr (.inl (va_up og 0 v9))))] : va_W) ++ (VW dA h ad u8)) hP
  have hDc : va_D A (MW dA mm mad M1) := spD (wr := ([(o, .inl (dA 2, 1, .inr (.inl (va_up og 0 v9))))] : va_W) ++ (VW dA h ad u8)) hD
  refine jkI (wr := ([(o, .inl (dA 2, 1, .inr (.inl (va_up og 0 v9))))] : va_W) ++ (VW dA h ad u8)) (rnV (As := []) (rest := []) hx hb hml hown hE hK (hN _ _ hS) hPc hDc (k_thrown l D dA H.size mm mad M1) (q0 := 0) rfl rfl w1801 w1800 w1802 w1803 w328 rfl rfl ⟨⟨by decide, by decide⟩, rfl⟩ ⟨(show 1 + 1 ≤ 2048 by omega), (show 8 + (1 + 11) + 0 ≤ 84000 by omega)⟩ rfl hl.1 rfl (Nat.le_of_ble_eq_true rfl) d_SeriesVaultLaw_law_977 ⟨(show cells + mc9 + 0 ≤ 601024 by omega), (show slots + ms9 + 0 ≤ 7293034 by omega)⟩) hP hD hS hA (fun r7 u7 H locs hp9 hP hD hS => ?_)
  replace hp9 : 0 = r7 := Eq.symm (hp9.trans hcod)
  subst hp9
  have hP : va_P D vwCl (([(o, .inl (dA 2, 1, .inr (.inl (va_up og 0 v9))))] : va_W) ++ (VW dA h ad u8 ++ (MW dA mm mad M1))) H := hP
  have hD : va_D A (([(o, .inl (dA 2, 1, .inr (.inl (va_up og 0 v9))))] : va_W) ++ (VW dA h ad u8 ++ (MW dA mm mad M1))) := hD
  refine lv_iload hx hb d_SeriesVaultLaw_law_980 (lv_at hl 1 rfl) ?_
  refine lv_icmp_eq hx hb d_SeriesVaultLaw_law_982 (tgt := 987) rfl (fun _ => ?_) (fun h9 => absurd rfl h9)
  refine lv_iload hx hb d_SeriesVaultLaw_law_987 (lv_at hl 1 rfl) ?_
  refine lv_if_ne hx hb d_SeriesVaultLaw_law_989 (tgt := 1004) rfl (fun h9 => absurd (by decide) h9) (fun _ => ?_)
  refine lv_aload_n hx hb d_SeriesVaultLaw_law_992 rfl (lv_at hl 3 rfl) ?_
  refine lv_iconst (v := 0) hx hb d_SeriesVaultLaw_law_993 (by decide) ?_
  refine nlld (f := (va_up og 0 v9)) (n := 1) hx hb hK hP (0) 2 rfl rfl (0) (by decide) (by decide) d_SeriesVaultLaw_law_994 ?_
  refine tpl (y := v9) (va_up_self _ _ _) ?_
  refine lv_iload hx hb d_SeriesVaultLaw_law_995 (lv_at hl 0 rfl) ?_
  refine lv_i2l hx hb d_SeriesVaultLaw_law_997 rfl ?_
  refine W.lcmp hx hb d_SeriesVaultLaw_law_998 ?_
  refine lv_if_eq hx hb d_SeriesVaultLaw_law_999 (tgt := 1004) rfl (fun _ => ?_) (fun h9 => absurd ((lg_cmp_eq _ _).mpr hv) h9)
  refine lv_goto hx hb d_SeriesVaultLaw_law_1004 (tgt := 1770) rfl ?_
  refine lv_iinc (k := 2) (v := nI (i + 6)) hx hb d_SeriesVaultLaw_law_1770 hl rfl (iincN (i) 6 6 (by decide)) (by decide) rfl (fun ls hl => ?_)
  have hl : lv_has ls 8 [(4, .int (nI (i + 6))), (6, .int b9), (5, .int 0), (3, .ref o), (2, .ref mm), (1, .ref h), (0, .ref b)] := hl
  refine lv_goto hx hb d_SeriesVaultLaw_law_1773 (tgt := 23) rfl ?_
  have hP := pmP (show List.Perm (α := Nat × va_E) (([(o, .inl (dA 2, 1, .inr (.inl (va_up og 0 v9))))] : va_W) ++ (VW dA h ad u8 ++ (MW dA mm mad M1))) (MW dA mm mad M1 ++ (([(o, .inl (dA 2, 1, .inr (.inl (va_up og 0 v9))))] : va_W) ++ (VW dA h ad u8))) from (List.Perm.append_left (([(o, .inl (dA 2, 1, .inr (.inl (va_up og 0 v9))))] : va_W)) (List.perm_append_comm)).trans (List.perm_append_comm_assoc (([(o, .inl (dA 2, 1, .inr (.inl (va_up og 0 v9))))] : va_W)) (MW dA mm mad M1) (VW dA h ad u8))) hP
  have hD := pmD (show List.Perm (α := Nat × va_E) (([(o, .inl (dA 2, 1, .inr (.inl (va_up og 0 v9))))] : va_W) ++ (VW dA h ad u8 ++ (MW dA mm mad M1))) (MW dA mm mad M1 ++ (([(o, .inl (dA 2, 1, .inr (.inl (va_up og 0 v9))))] : va_W) ++ (VW dA h ad u8))) from (List.Perm.append_left (([(o, .inl (dA 2, 1, .inr (.inl (va_up og 0 v9))))] : va_W)) (List.perm_append_comm)).trans (List.perm_append_comm_assoc (([(o, .inl (dA 2, 1, .inr (.inl (va_up og 0 v9))))] : va_W)) (MW dA mm mad M1) (VW dA h ad u8))) hD
  have hP : va_P D vwCl (MW dA mm mad M1 ++ (([(o, .inl (dA 2, 1, .inr (.inl (va_up og 0 v9))))] : va_W) ++ (VW dA h ad u8))) H := hP
  have hD : va_D A (MW dA mm mad M1 ++ (([(o, .inl (dA 2, 1, .inr (.inl (va_up og 0 v9))))] : va_W) ++ (VW dA h ad u8))) := hD
  have hl := lv_sub (l' := [(4, .int (nI (i + 6))), (3, .ref o), (2, .ref mm), (1, .ref h), (0, .ref b)]) hl [0, 3, 4, 5, 6] rfl
  exact cont u8 H locs ls hf9 hP hD hS hl
set_option maxHeartbeats 4000000 in
set_option maxRecDepth 100000 in
theorem l9_11_x {p : Program} {e : Env} {s : State} {m : MethodId} {below : List Frame} {meth : Method} {c : Code} (l : Launch) {b L : Nat} {xs : Nat → Int32} {D : va_G} {dA : Nat → ClassId} {e0 : Nat} {A : Nat → Prop} {H : Heap} {locs : List Loc} {ls : Array Slot} (hC : lS p l s m meth c b L xs D dA e0 A) {h : Nat} {ad : Nat → Nat} {x : VS} {mm : Nat} {mad : Nat → Nat} {M M1 : MS} {o : Nat} {og : Nat → Int64} {i fr1 lo1 fr2 lo2 mc9 ms9 cells slots : Nat} {F9 : VS → Prop} {b9 : Int32} {k9 : Nat} (hi : i + 6 ≤ L) (hL : L ≤ 3072) (hfr : fr1 ≤ 2000 ∧ lo1 ≤ 80000 ∧ fr2 ≤ 2000 ∧ lo2 ≤ 80000) (hrm : cells + mc9 ≤ 601024 ∧ slots + ms9 ≤ 7293034) (hcod : M1.cod = nI k9) (hk9 : ¬ nI k9 = 0) (hW : ∀ sz : Nat, Met l ⟨"SeriesVaultLaw", "compact", "(LSeriesVault;I[J)I"⟩ [Cond.codeWith ⟨"SeriesVaultLaw", "compact", "(LSeriesVault;I[J)I"⟩ method_14_code 4 (some FieldType.int) [(0, 9, 12, 29), (0, 9, 15, 35), (0, 9, 18, 13)]] { frames := fr1, cells := mc9, slots := ms9, locals := lo1 } (pC D dA [.ref h, .int (xs (i + 1)), .ref o] (([(o, .inl (dA 2, 1, .inr (.inl og)))] : va_W) ++ (VW dA h ad x)) sz) (va_Qi (fun (r9 : Int32) (u9 : VS) => r9 = nI k9 ∧ F9 u9) (fun (u9 : VS) t9 => bW D (va_A (([(o, .inl (dA 2, 1, .inr (.inl og)))] : va_W) ++ (VW dA h ad x)) sz) (([(o, .inl (dA 2, 1, .inr (.inl (og))))] : va_W) ++ (VW dA h ad u9)) t9) (va_A (([(o, .inl (dA 2, 1, .inr (.inl og)))] : va_W) ++ (VW dA h ad x)) sz)) mc9 ms9 (va_A (([(o, .inl (dA 2, 1, .inr (.inl og)))] : va_W) ++ (VW dA h ad x)) sz)) (hM : ∀ sz : Nat, Met l ⟨"SeriesVaultModel", "compact", "(I)I"⟩ [Cond.code ⟨"SeriesVaultModel", "compact", "(I)I"⟩ prog_14_method_45_code 7 (some FieldType.int)] { frames := fr2, cells := 0, slots := 0, locals := lo2 } (pC D dA [.ref mm, .int (xs (i + 1))] (MW dA mm mad M) sz) (va_Qi (fun (r9 : Int32) (u9 : Unit) => r9 = b9) (fun (u9 : Unit) t9 => bW D (va_A (MW dA mm mad M) sz) (MW dA mm mad M1) t9) (va_A (MW dA mm mad M) sz)) 0 0 (va_A (MW dA mm mad M) sz)) (hP : va_P D vwCl (MW dA mm mad M ++ (([(o, .inl (dA 2, 1, .inr (.inl og)))] : va_W) ++ (VW dA h ad x))) H) (hD : va_D A (MW dA mm mad M ++ (([(o, .inl (dA 2, 1, .inr (.inl og)))] : va_W) ++ (VW dA h ad x)))) (hS : va_S A s.heap H locs) (hl : lv_has ls 8 [(4, .int (nI i)), (3, .ref o), (2, .ref mm), (1, .ref h), (0, .ref b)]) (cont : ∀ (u : VS) (H1 : Heap) (locs1 : List Loc) (ls1 : Array Slot), F9 u → va_P D vwCl (MW dA mm mad M1 ++ (([(o, .inl (dA 2, 1, .inr (.inl og)))] : va_W) ++ (VW dA h ad u))) H1 → va_D A (MW dA mm mad M1 ++ (([(o, .inl (dA 2, 1, .inr (.inl og)))] : va_W) ++ (VW dA h ad u))) → va_S A s.heap H1 locs1 → lv_has ls1 8 [(4, .int (nI (i + 6))), (3, .ref o), (2, .ref mm), (1, .ref h), (0, .ref b)] → W p l e room_1 s m #[Value.ref b] below meth c H1 locs1 (cells + mc9 + 0 + 0) (slots + ms9 + 0 + 0) (lw_Z below #[Value.ref b] s) (F0 m 23 ls1 [])) : W p l e room_1 s m #[Value.ref b] below meth c H locs cells slots (lw_Z below #[Value.ref b] s) (F0 m 951 ls []) := by
  have hC0 := hC
  obtain ⟨hx, hb, hr, hml, hown, hlk, hE, hK, hA, hN, hZ, hT, hX, hbl, hbA, hnew, htr⟩ := hC
  refine lv_aload_n hx hb d_SeriesVaultLaw_law_951 rfl (lv_at hl 3 rfl) ?_
  refine lv_aload_n hx hb d_SeriesVaultLaw_law_952 rfl (lv_at hl 4 rfl) ?_
  refine lv_iload hx hb d_SeriesVaultLaw_law_953 (lv_at hl 0 rfl) ?_
  refine lv_iconst (v := 1) hx hb d_SeriesVaultLaw_law_955 (by decide) ?_
  refine lv_iadd hx hb d_SeriesVaultLaw_law_956 (tpi (y := nI (i + 1)) (nI_add (i) (1)) ?_)
  refine sldN hx hb hX hbl hbA hS (show i + 1 < L by omega) (show L ≤ 65536 by omega) d_SeriesVaultLaw_law_957 ?_
  refine lv_aload_n hx hb d_SeriesVaultLaw_law_958 rfl (lv_at hl 1 rfl) ?_
  have hPc : va_P D vwCl (([(o, .inl (dA 2, 1, .inr (.inl og)))] : va_W) ++ (VW dA h ad x)) H := spP (wr := MW dA mm mad M) hP
  have hDc : va_D A (([(o, .inl (dA 2, 1, .inr (.inl og)))] : va_W) ++ (VW dA h ad x)) := spD (wr := MW dA mm mad M) hD
  refine jkI (wr := MW dA mm mad M) (rnW (As := [.ref h, .int (xs (i + 1)), .ref o]) (rest := []) hx hb hml hown hE hK (hN _ _ hS) hPc hDc (hW H.size) w1876 w1875 w1877 w1793 rfl rfl ⟨⟨by decide, by decide⟩, rfl⟩ ⟨(show fr1 + 1 ≤ 2048 by omega), (show 8 + (4 + 11) + lo1 ≤ 84000 by omega)⟩ rfl hl.1 rfl (Nat.le_of_ble_eq_true rfl) d_SeriesVaultLaw_law_959 ⟨(show cells + mc9 ≤ 601024 by omega), (show slots + ms9 ≤ 7293034 by omega)⟩) hP hD hS hA (fun k8 u8 H locs hp9 hP hD hS => ?_)
  obtain ⟨hp9, hf9⟩ := hp9
  replace hp9 : nI k9 = k8 := Eq.symm hp9
  subst hp9
  have hP : va_P D vwCl (MW dA mm mad M ++ (([(o, .inl (dA 2, 1, .inr (.inl og)))] : va_W) ++ (VW dA h ad u8))) H := hP
  have hD : va_D A (MW dA mm mad M ++ (([(o, .inl (dA 2, 1, .inr (.inl og)))] : va_W) ++ (VW dA h ad u8))) := hD
  refine lv_istore hx hb d_SeriesVaultLaw_law_962 hl (by decide) rfl (fun ls hl => ?_)
  have hl : lv_has ls 8 [(5, .int (nI k9)), (4, .int (nI i)), (3, .ref o), (2, .ref mm), (1, .ref h), (0, .ref b)] := hl
  refine lv_aload_n hx hb d_SeriesVaultLaw_law_964 rfl (lv_at hl 3 rfl) ?_
  refine lv_aload_n hx hb d_SeriesVaultLaw_law_965 rfl (lv_at hl 5 rfl) ?_
  refine lv_iload hx hb d_SeriesVaultLaw_law_966 (lv_at hl 1 rfl) ?_
  refine lv_iconst (v := 1) hx hb d_SeriesVaultLaw_law_968 (by decide) ?_
  refine lv_iadd hx hb d_SeriesVaultLaw_law_969 (tpi (y := nI (i + 1)) (nI_add (i) (1)) ?_)
  refine sldN hx hb hX hbl hbA hS (show i + 1 < L by omega) (show L ≤ 65536 by omega) d_SeriesVaultLaw_law_970 ?_
  have hP := pmP (show List.Perm (α := Nat × va_E) (MW dA mm mad M ++ (([(o, .inl (dA 2, 1, .inr (.inl og)))] : va_W) ++ (VW dA h ad u8))) (([(o, .inl (dA 2, 1, .inr (.inl og)))] : va_W) ++ (MW dA mm mad M ++ (VW dA h ad u8))) from List.perm_append_comm_assoc (MW dA mm mad M) (([(o, .inl (dA 2, 1, .inr (.inl og)))] : va_W)) (VW dA h ad u8)) hP
  have hD := pmD (show List.Perm (α := Nat × va_E) (MW dA mm mad M ++ (([(o, .inl (dA 2, 1, .inr (.inl og)))] : va_W) ++ (VW dA h ad u8))) (([(o, .inl (dA 2, 1, .inr (.inl og)))] : va_W) ++ (MW dA mm mad M ++ (VW dA h ad u8))) from List.perm_append_comm_assoc (MW dA mm mad M) (([(o, .inl (dA 2, 1, .inr (.inl og)))] : va_W)) (VW dA h ad u8)) hD
  have hP := pmP (show List.Perm (α := Nat × va_E) (([(o, .inl (dA 2, 1, .inr (.inl og)))] : va_W) ++ (MW dA mm mad M ++ (VW dA h ad u8))) (([(o, .inl (dA 2, 1, .inr (.inl og)))] : va_W) ++ (VW dA h ad u8 ++ (MW dA mm mad M))) from List.Perm.append_left (([(o, .inl (dA 2, 1, .inr (.inl og)))] : va_W)) (List.perm_append_comm)) hP
  have hD := pmD (show List.Perm (α := Nat × va_E) (([(o, .inl (dA 2, 1, .inr (.inl og)))] : va_W) ++ (MW dA mm mad M ++ (VW dA h ad u8))) (([(o, .inl (dA 2, 1, .inr (.inl og)))] : va_W) ++ (VW dA h ad u8 ++ (MW dA mm mad M))) from List.Perm.append_left (([(o, .inl (dA 2, 1, .inr (.inl og)))] : va_W)) (List.perm_append_comm)) hD
  have hPc : va_P D vwCl (MW dA mm mad M) H := spP (wr := ([(o, .inl (dA 2, 1, .inr (.inl og)))] : va_W) ++ (VW dA h ad u8)) hP
  have hDc : va_D A (MW dA mm mad M) := spD (wr := ([(o, .inl (dA 2, 1, .inr (.inl og)))] : va_W) ++ (VW dA h ad u8)) hD
  refine jkI (wr := ([(o, .inl (dA 2, 1, .inr (.inl og)))] : va_W) ++ (VW dA h ad u8)) (rnV (As := [.int (xs (i + 1))]) (rest := []) hx hb hml hown hE hK (hN _ _ hS) hPc hDc (hM H.size) (q0 := 0) rfl rfl w1879 w1878 w1880 w1881 w328 rfl rfl ⟨⟨by decide, by decide⟩, rfl⟩ ⟨(show fr2 + 1 ≤ 2048 by omega), (show 8 + (7 + 11) + lo2 ≤ 84000 by omega)⟩ rfl hl.1 rfl (Nat.le_of_ble_eq_true rfl) d_SeriesVaultLaw_law_971 ⟨(show cells + mc9 + 0 ≤ 601024 by omega), (show slots + ms9 + 0 ≤ 7293034 by omega)⟩) hP hD hS hA (fun r7 u7 H locs hp9 hP hD hS => ?_)
  replace hp9 : b9 = r7 := Eq.symm hp9
  subst hp9
  have hP : va_P D vwCl (([(o, .inl (dA 2, 1, .inr (.inl og)))] : va_W) ++ (VW dA h ad u8 ++ (MW dA mm mad M1))) H := hP
  have hD : va_D A (([(o, .inl (dA 2, 1, .inr (.inl og)))] : va_W) ++ (VW dA h ad u8 ++ (MW dA mm mad M1))) := hD
  refine lv_istore hx hb d_SeriesVaultLaw_law_974 hl (by decide) rfl (fun ls hl => ?_)
  have hl : lv_has ls 8 [(6, .int b9), (5, .int (nI k9)), (4, .int (nI i)), (3, .ref o), (2, .ref mm), (1, .ref h), (0, .ref b)] := hl
  refine lv_aload_n hx hb d_SeriesVaultLaw_law_976 rfl (lv_at hl 4 rfl) ?_
  have hPc : va_P D vwCl (MW dA mm mad M1) H := spP (wr := ([(o, .inl (dA 2, 1, .inr (.inl og)))] : va_W) ++ (VW dA h ad u8)) hP
  have hDc : va_D A (MW dA mm mad M1) := spD (wr := ([(o, .inl (dA 2, 1, .inr (.inl og)))] : va_W) ++ (VW dA h ad u8)) hD
  refine jkI (wr := ([(o, .inl (dA 2, 1, .inr (.inl og)))] : va_W) ++ (VW dA h ad u8)) (rnV (As := []) (rest := []) hx hb hml hown hE hK (hN _ _ hS) hPc hDc (k_thrown l D dA H.size mm mad M1) (q0 := 0) rfl rfl w1801 w1800 w1802 w1803 w328 rfl rfl ⟨⟨by decide, by decide⟩, rfl⟩ ⟨(show 1 + 1 ≤ 2048 by omega), (show 8 + (1 + 11) + 0 ≤ 84000 by omega)⟩ rfl hl.1 rfl (Nat.le_of_ble_eq_true rfl) d_SeriesVaultLaw_law_977 ⟨(show cells + mc9 + 0 ≤ 601024 by omega), (show slots + ms9 + 0 ≤ 7293034 by omega)⟩) hP hD hS hA (fun r7 u7 H locs hp9 hP hD hS => ?_)
  replace hp9 : nI k9 = r7 := Eq.symm (hp9.trans hcod)
  subst hp9
  have hP : va_P D vwCl (([(o, .inl (dA 2, 1, .inr (.inl og)))] : va_W) ++ (VW dA h ad u8 ++ (MW dA mm mad M1))) H := hP
  have hD : va_D A (([(o, .inl (dA 2, 1, .inr (.inl og)))] : va_W) ++ (VW dA h ad u8 ++ (MW dA mm mad M1))) := hD
  refine lv_iload hx hb d_SeriesVaultLaw_law_980 (lv_at hl 1 rfl) ?_
  refine lv_icmp_eq hx hb d_SeriesVaultLaw_law_982 (tgt := 987) rfl (fun _ => ?_) (fun h9 => absurd rfl h9)
  refine lv_iload hx hb d_SeriesVaultLaw_law_987 (lv_at hl 1 rfl) ?_
  refine lv_if_ne hx hb d_SeriesVaultLaw_law_989 (tgt := 1004) rfl (fun _ => ?_) (fun h9 => absurd h9 hk9)
  refine lv_goto hx hb d_SeriesVaultLaw_law_1004 (tgt := 1770) rfl ?_
  refine lv_iinc (k := 2) (v := nI (i + 6)) hx hb d_SeriesVaultLaw_law_1770 hl rfl (iincN (i) 6 6 (by decide)) (by decide) rfl (fun ls hl => ?_)
  have hl : lv_has ls 8 [(4, .int (nI (i + 6))), (6, .int b9), (5, .int (nI k9)), (3, .ref o), (2, .ref mm), (1, .ref h), (0, .ref b)] := hl
  refine lv_goto hx hb d_SeriesVaultLaw_law_1773 (tgt := 23) rfl ?_
  have hP := pmP (show List.Perm (α := Nat × va_E) (([(o, .inl (dA 2, 1, .inr (.inl og)))] : va_W) ++ (VW dA h ad u8 ++ (MW dA mm mad M1))) (MW dA mm mad M1 ++ (([(o, .inl (dA 2, 1, .inr (.inl og)))] : va_W) ++ (VW dA h ad u8))) from (List.Perm.append_left (([(o, .inl (dA 2, 1, .inr (.inl og)))] : va_W)) (List.perm_append_comm)).trans (List.perm_append_comm_assoc (([(o, .inl (dA 2, 1, .inr (.inl og)))] : va_W)) (MW dA mm mad M1) (VW dA h ad u8))) hP
  have hD := pmD (show List.Perm (α := Nat × va_E) (([(o, .inl (dA 2, 1, .inr (.inl og)))] : va_W) ++ (VW dA h ad u8 ++ (MW dA mm mad M1))) (MW dA mm mad M1 ++ (([(o, .inl (dA 2, 1, .inr (.inl og)))] : va_W) ++ (VW dA h ad u8))) from (List.Perm.append_left (([(o, .inl (dA 2, 1, .inr (.inl og)))] : va_W)) (List.perm_append_comm)).trans (List.perm_append_comm_assoc (([(o, .inl (dA 2, 1, .inr (.inl og)))] : va_W)) (MW dA mm mad M1) (VW dA h ad u8))) hD
  have hP : va_P D vwCl (MW dA mm mad M1 ++ (([(o, .inl (dA 2, 1, .inr (.inl og)))] : va_W) ++ (VW dA h ad u8))) H := hP
  have hD : va_D A (MW dA mm mad M1 ++ (([(o, .inl (dA 2, 1, .inr (.inl og)))] : va_W) ++ (VW dA h ad u8))) := hD
  have hl := lv_sub (l' := [(4, .int (nI (i + 6))), (3, .ref o), (2, .ref mm), (1, .ref h), (0, .ref b)]) hl [0, 3, 4, 5, 6] rfl
  exact cont u8 H locs ls hf9 hP hD hS hl
theorem d_SeriesVaultLaw_law_1007 : decode code 1007 = .ok (.aload_n 1, 1) := by decide +kernel
theorem d_SeriesVaultLaw_law_1008 : decode code 1008 = .ok (.aload_n 0, 1) := by decide +kernel
theorem d_SeriesVaultLaw_law_1009 : decode code 1009 = .ok (.iload 4, 2) := by decide +kernel
theorem d_SeriesVaultLaw_law_1011 : decode code 1011 = .ok (.iconst 1, 1) := by decide +kernel
theorem d_SeriesVaultLaw_law_1012 : decode code 1012 = .ok (.iadd, 1) := by decide +kernel
theorem d_SeriesVaultLaw_law_1013 : decode code 1013 = .ok (.iaload, 1) := by decide +kernel
theorem d_SeriesVaultLaw_law_1014 : decode code 1014 = .ok (.i2l, 1) := by decide +kernel
theorem d_SeriesVaultLaw_law_1015 : decode code 1015 = .ok (.bipush 32, 2) := by decide +kernel
theorem d_SeriesVaultLaw_law_1017 : decode code 1017 = .ok (.lshl, 1) := by decide +kernel
theorem d_SeriesVaultLaw_law_1018 : decode code 1018 = .ok (.aload_n 0, 1) := by decide +kernel
theorem d_SeriesVaultLaw_law_1019 : decode code 1019 = .ok (.iload 4, 2) := by decide +kernel
theorem d_SeriesVaultLaw_law_1021 : decode code 1021 = .ok (.iconst 2, 1) := by decide +kernel
theorem d_SeriesVaultLaw_law_1022 : decode code 1022 = .ok (.iadd, 1) := by decide +kernel
theorem d_SeriesVaultLaw_law_1023 : decode code 1023 = .ok (.iaload, 1) := by decide +kernel
theorem d_SeriesVaultLaw_law_1024 : decode code 1024 = .ok (.i2l, 1) := by decide +kernel
theorem d_SeriesVaultLaw_law_1025 : decode code 1025 = .ok (.ldc2_w 133, 3) := by decide +kernel
theorem d_SeriesVaultLaw_law_1028 : decode code 1028 = .ok (.land, 1) := by decide +kernel
theorem d_SeriesVaultLaw_law_1029 : decode code 1029 = .ok (.lor, 1) := by decide +kernel
theorem d_SeriesVaultLaw_law_1030 : decode code 1030 = .ok (.aload_n 3, 1) := by decide +kernel
theorem d_SeriesVaultLaw_law_1031 : decode code 1031 = .ok (.invokestatic 154, 3) := by decide +kernel
theorem d_SeriesVaultLaw_law_1034 : decode code 1034 = .ok (.istore 5, 2) := by decide +kernel
theorem d_SeriesVaultLaw_law_1036 : decode code 1036 = .ok (.aload_n 2, 1) := by decide +kernel
theorem d_SeriesVaultLaw_law_1037 : decode code 1037 = .ok (.aload_n 0, 1) := by decide +kernel
theorem d_SeriesVaultLaw_law_1038 : decode code 1038 = .ok (.iload 4, 2) := by decide +kernel
theorem d_SeriesVaultLaw_law_1040 : decode code 1040 = .ok (.iconst 1, 1) := by decide +kernel
theorem d_SeriesVaultLaw_law_1041 : decode code 1041 = .ok (.iadd, 1) := by decide +kernel
theorem d_SeriesVaultLaw_law_1042 : decode code 1042 = .ok (.iaload, 1) := by decide +kernel
theorem d_SeriesVaultLaw_law_1043 : decode code 1043 = .ok (.i2l, 1) := by decide +kernel
theorem d_SeriesVaultLaw_law_1044 : decode code 1044 = .ok (.bipush 32, 2) := by decide +kernel
theorem d_SeriesVaultLaw_law_1046 : decode code 1046 = .ok (.lshl, 1) := by decide +kernel
theorem d_SeriesVaultLaw_law_1047 : decode code 1047 = .ok (.aload_n 0, 1) := by decide +kernel
theorem d_SeriesVaultLaw_law_1048 : decode code 1048 = .ok (.iload 4, 2) := by decide +kernel
theorem d_SeriesVaultLaw_law_1050 : decode code 1050 = .ok (.iconst 2, 1) := by decide +kernel
theorem d_SeriesVaultLaw_law_1051 : decode code 1051 = .ok (.iadd, 1) := by decide +kernel
theorem d_SeriesVaultLaw_law_1052 : decode code 1052 = .ok (.iaload, 1) := by decide +kernel
theorem d_SeriesVaultLaw_law_1053 : decode code 1053 = .ok (.i2l, 1) := by decide +kernel
theorem d_SeriesVaultLaw_law_1054 : decode code 1054 = .ok (.ldc2_w 133, 3) := by decide +kernel
theorem d_SeriesVaultLaw_law_1057 : decode code 1057 = .ok (.land, 1) := by decide +kernel
theorem d_SeriesVaultLaw_law_1058 : decode code 1058 = .ok (.lor, 1) := by decide +kernel
theorem d_SeriesVaultLaw_law_1059 : decode code 1059 = .ok (.invokevirtual 157, 3) := by decide +kernel
theorem d_SeriesVaultLaw_law_1062 : decode code 1062 = .ok (.istore 6, 2) := by decide +kernel
theorem d_SeriesVaultLaw_law_1064 : decode code 1064 = .ok (.aload_n 2, 1) := by decide +kernel
theorem d_SeriesVaultLaw_law_1065 : decode code 1065 = .ok (.invokevirtual 110, 3) := by decide +kernel
theorem d_SeriesVaultLaw_law_1068 : decode code 1068 = .ok (.iload 5, 2) := by decide +kernel
theorem d_SeriesVaultLaw_law_1070 : decode code 1070 = .ok (.if_icmp .eq 5, 3) := by decide +kernel
theorem d_SeriesVaultLaw_law_1075 : decode code 1075 = .ok (.iload 5, 2) := by decide +kernel
theorem d_SeriesVaultLaw_law_1077 : decode code 1077 = .ok (.ifCond .ne 15, 3) := by decide +kernel
theorem d_SeriesVaultLaw_law_1080 : decode code 1080 = .ok (.aload_n 3, 1) := by decide +kernel
theorem d_SeriesVaultLaw_law_1081 : decode code 1081 = .ok (.iconst 0, 1) := by decide +kernel
theorem d_SeriesVaultLaw_law_1082 : decode code 1082 = .ok (.laload, 1) := by decide +kernel
theorem d_SeriesVaultLaw_law_1083 : decode code 1083 = .ok (.iload 6, 2) := by decide +kernel
theorem d_SeriesVaultLaw_law_1085 : decode code 1085 = .ok (.i2l, 1) := by decide +kernel
theorem d_SeriesVaultLaw_law_1086 : decode code 1086 = .ok (.lcmp, 1) := by decide +kernel
theorem d_SeriesVaultLaw_law_1087 : decode code 1087 = .ok (.ifCond .eq 5, 3) := by decide +kernel
theorem d_SeriesVaultLaw_law_1092 : decode code 1092 = .ok (.goto 678, 3) := by decide +kernel
theorem w1882 : Cond.methodLink "SeriesVaultLaw" 154 ⟨"SeriesVaultLaw", "retain", "(LSeriesVault;J[J)I"⟩ ∈ aW := aw_of (tb_6 (List.mem_of_getElem? (i := 147) rfl)) rfl
theorem w1883 : Cond.codeWith ⟨"SeriesVaultLaw", "retain", "(LSeriesVault;J[J)I"⟩ method_15_code 5 (some FieldType.int) [(0, 9, 12, 29), (0, 9, 16, 19)] ∈ aW := aw_of (tb_6 (List.mem_of_getElem? (i := 149) rfl)) rfl
theorem w1884 : Cond.static ⟨"SeriesVaultLaw", "retain", "(LSeriesVault;J[J)I"⟩ ∈ aW := aw_of (tb_6 (List.mem_of_getElem? (i := 148) rfl)) rfl
theorem w1885 : Cond.methodLink "SeriesVaultLaw" 157 ⟨"SeriesVaultModel", "retain", "(J)I"⟩ ∈ aW := aw_of (tb_10 (List.mem_of_getElem? (i := 121) rfl)) rfl
theorem w1886 : Cond.code ⟨"SeriesVaultModel", "retain", "(J)I"⟩ prog_14_method_47_code 7 (some FieldType.int) ∈ aW := aw_of (tb_10 (List.mem_of_getElem? (i := 124) rfl)) rfl
theorem w1887 : Cond.instanceMethod ⟨"SeriesVaultModel", "retain", "(J)I"⟩ ∈ aW := aw_of (tb_10 (List.mem_of_getElem? (i := 122) rfl)) rfl
theorem w1888 : Cond.selects "SeriesVaultModel" ⟨"SeriesVaultModel", "retain", "(J)I"⟩ ⟨"SeriesVaultModel", "retain", "(J)I"⟩ ∈ aW := aw_of (tb_10 (List.mem_of_getElem? (i := 123) rfl)) rfl
set_option maxHeartbeats 4000000 in
set_option maxRecDepth 100000 in
theorem l9_12 {p : Program} {e : Env} {s : State} {m : MethodId} {below : List Frame} {meth : Method} {c : Code} (l : Launch) {b L : Nat} {xs : Nat → Int32} {D : va_G} {dA : Nat → ClassId} {e0 : Nat} {A : Nat → Prop} {H : Heap} {locs : List Loc} {ls : Array Slot} (hC : lS p l s m meth c b L xs D dA e0 A) {h : Nat} {ad : Nat → Nat} {x : VS} {mm : Nat} {mad : Nat → Nat} {M M1 : MS} {o : Nat} {og : Nat → Int64} {i fr1 lo1 fr2 lo2 mc9 ms9 cells slots : Nat} {F9 : VS → Prop} {b9 : Int32} {v9 : Int64} (hi : i + 6 ≤ L) (hL : L ≤ 3072) (hfr : fr1 ≤ 2000 ∧ lo1 ≤ 80000 ∧ fr2 ≤ 2000 ∧ lo2 ≤ 80000) (hrm : cells + mc9 ≤ 601024 ∧ slots + ms9 ≤ 7293034) (hcod : M1.cod = 0) (hv : v9 = b9.toInt64) (hW : ∀ sz : Nat, Met l ⟨"SeriesVaultLaw", "retain", "(LSeriesVault;J[J)I"⟩ [Cond.codeWith ⟨"SeriesVaultLaw", "retain", "(LSeriesVault;J[J)I"⟩ method_15_code 5 (some FieldType.int) [(0, 9, 12, 29), (0, 9, 16, 19)]] { frames := fr1, cells := mc9, slots := ms9, locals := lo1 } (pC D dA [.ref h, .long ((((xs (i + 1)).toInt64) <<< ((32 : Int32).toInt64 &&& 63)) ||| (((xs (i + 2)).toInt64) &&& 4294967295)), .ref o] (([(o, .inl (dA 2, 1, .inr (.inl og)))] : va_W) ++ (VW dA h ad x)) sz) (va_Qi (fun (r9 : Int32) (u9 : VS) => r9 = 0 ∧ F9 u9) (fun (u9 : VS) t9 => bW D (va_A (([(o, .inl (dA 2, 1, .inr (.inl og)))] : va_W) ++ (VW dA h ad x)) sz) (([(o, .inl (dA 2, 1, .inr (.inl (va_up og 0 v9))))] : va_W) ++ (VW dA h ad u9)) t9) (va_A (([(o, .inl (dA 2, 1, .inr (.inl og)))] : va_W) ++ (VW dA h ad x)) sz)) mc9 ms9 (va_A (([(o, .inl (dA 2, 1, .inr (.inl og)))] : va_W) ++ (VW dA h ad x)) sz)) (hM : ∀ sz : Nat, Met l ⟨"SeriesVaultModel", "retain", "(J)I"⟩ [Cond.code ⟨"SeriesVaultModel", "retain", "(J)I"⟩ prog_14_method_47_code 7 (some FieldType.int)] { frames := fr2, cells := 0, slots := 0, locals := lo2 } (pC D dA [.ref mm, .long ((((xs (i + 1)).toInt64) <<< ((32 : Int32).toInt64 &&& 63)) ||| (((xs (i + 2)).toInt64) &&& 4294967295))] (MW dA mm mad M) sz) (va_Qi (fun (r9 : Int32) (u9 : Unit) => r9 = b9) (fun (u9 : Unit) t9 => bW D (va_A (MW dA mm mad M) sz) (MW dA mm mad M1) t9) (va_A (MW dA mm mad M) sz)) 0 0 (va_A (MW dA mm mad M) sz)) (hP : va_P D vwCl (MW dA mm mad M ++ (([(o, .inl (dA 2, 1, .inr (.inl og)))] : va_W) ++ (VW dA h ad x))) H) (hD : va_D A (MW dA mm mad M ++ (([(o, .inl (dA 2, 1, .inr (.inl og)))] : va_W) ++ (VW dA h ad x)))) (hS : va_S A s.heap H locs) (hl : lv_has ls 8 [(4, .int (nI i)), (3, .ref o), (2, .ref mm), (1, .ref h), (0, .ref b)]) (cont : ∀ (u : VS) (H1 : Heap) (locs1 : List Loc) (ls1 : Array Slot), F9 u → va_P D vwCl (MW dA mm mad M1 ++ (([(o, .inl (dA 2, 1, .inr (.inl (va_up og 0 v9))))] : va_W) ++ (VW dA h ad u))) H1 → va_D A (MW dA mm mad M1 ++ (([(o, .inl (dA 2, 1, .inr (.inl (va_up og 0 v9))))] : va_W) ++ (VW dA h ad u))) → va_S A s.heap H1 locs1 → lv_has ls1 8 [(4, .int (nI (i + 6))), (3, .ref o), (2, .ref mm), (1, .ref h), (0, .ref b)] → W p l e room_1 s m #[Value.ref b] below meth c H1 locs1 (cells + mc9 + 0 + 0) (slots + ms9 + 0 + 0) (lw_Z below #[Value.ref b] s) (F0 m 23 ls1 [])) : W p l e room_1 s m #[Value.ref b] below meth c H locs cells slots (lw_Z below #[Value.ref b] s) (F0 m 1007 ls []) := by
  have hC0 := hC
  obtain ⟨hx, hb, hr, hml, hown, hlk, hE, hK, hA, hN, hZ, hT, hX, hbl, hbA, hnew, htr⟩ := hC
  refine lv_aload_n hx hb d_SeriesVaultLaw_law_1007 rfl (lv_at hl 3 rfl) ?_
  refine lv_aload_n hx hb d_SeriesVaultLaw_law_1008 rfl (lv_at hl 4 rfl) ?_
  refine lv_iload hx hb d_SeriesVaultLaw_law_1009 (lv_at hl 0 rfl) ?_
  refine lv_iconst (v := 1) hx hb d_SeriesVaultLaw_law_1011 (by decide) ?_
  refine lv_iadd hx hb d_SeriesVaultLaw_law_1012 (tpi (y := nI (i + 1)) (nI_add (i) (1)) ?_)
  refine sldN hx hb hX hbl hbA hS (show i + 1 < L by omega) (show L ≤ 65536 by omega) d_SeriesVaultLaw_law_1013 ?_
  refine lv_i2l hx hb d_SeriesVaultLaw_law_1014 rfl ?_
  refine lv_bipush (v := 32) hx hb d_SeriesVaultLaw_law_1015 (by decide) ?_
  refine lv_lshl hx hb d_SeriesVaultLaw_law_1017 rfl ?_
  refine lv_aload_n hx hb d_SeriesVaultLaw_law_1018 rfl (lv_at hl 4 rfl) ?_
  refine lv_iload hx hb d_SeriesVaultLaw_law_1019 (lv_at hl 0 rfl) ?_
  refine lv_iconst (v := 2) hx hb d_SeriesVaultLaw_law_1021 (by decide) ?_
  refine lv_iadd hx hb d_SeriesVaultLaw_law_1022 (tpi (y := nI (i + 2)) (nI_add (i) (2)) ?_)
  refine sldN hx hb hX hbl hbA hS (show i + 2 < L by omega) (show L ≤ 65536 by omega) d_SeriesVaultLaw_law_1023 ?_
  refine lv_i2l hx hb d_SeriesVaultLaw_law_1024 rfl ?_
  refine lv_ldc2 (v := 4294967295) hx hb hown (hE.t w1839 rfl) d_SeriesVaultLaw_law_1025 ?_
  refine lv_land hx hb d_SeriesVaultLaw_law_1028 ?_
  refine lv_lor hx hb d_SeriesVaultLaw_law_1029 ?_
  refine lv_aload_n hx hb d_SeriesVaultLaw_law_1030 rfl (lv_at hl 1 rfl) ?_
  have hPc : va_P D vwCl (([(o, .inl (dA 2, 1, .inr (.inl og)))] : va_W) ++ (VW dA h ad x)) H := spP (wr := MW dA mm mad M) hP
  have hDc : va_D A (([(o, .inl (dA 2, 1, .inr (.inl og)))] : va_W) ++ (VW dA h ad x)) := spD (wr := MW dA mm mad M) hD
  refine jkI (wr := MW dA mm mad M) (rnW (As := [.ref h, .long ((((xs (i + 1)).toInt64) <<< ((32 : Int32).toInt64 &&& 63)) ||| (((xs (i + 2)).toInt64) &&& 4294967295)), .ref o]) (rest := []) hx hb hml hown hE hK (hN _ _ hS) hPc hDc (hW H.size) w1883 w1882 w1884 w1793 rfl rfl ⟨⟨by decide, by decide⟩, rfl⟩ ⟨(show fr1 + 1 ≤ 2048 by omega), (show 8 + (5 + 11) + lo1 ≤ 84000 by omega)⟩ rfl hl.1 rfl (Nat.le_of_ble_eq_true rfl) d_SeriesVaultLaw_law_1031 ⟨(show cells + mc9 ≤ 601024 by omega), (show slots + ms9 ≤ 7293034 by omega)⟩) hP hD hS hA (fun k8 u8 H locs hp9 hP hD hS => ?_)
  obtain ⟨hp9, hf9⟩ := hp9
  replace hp9 : 0 = k8 := Eq.symm hp9
  subst hp9
  have hP : va_P D vwCl (MW dA mm mad M ++ (([(o, .inl (dA 2, 1, .inr (.inl (va_up og 0 v9))))] : va_W) ++ (VW dA h ad u8))) H := hP
  have hD : va_D A (MW dA mm mad M ++ (([(o, .inl (dA 2, 1, .inr (.inl (va_up og 0 v9))))] : va_W) ++ (VW dA h ad u8))) := hD
  refine lv_istore hx hb d_SeriesVaultLaw_law_1034 hl (by decide) rfl (fun ls hl => ?_)
  have hl : lv_has ls 8 [(5, .int 0), (4, .int (nI i)), (3, .ref o), (2, .ref mm), (1, .ref h), (0, .ref b)] := hl
  refine lv_aload_n hx hb d_SeriesVaultLaw_law_1036 rfl (lv_at hl 3 rfl) ?_
  refine lv_aload_n hx hb d_SeriesVaultLaw_law_1037 rfl (lv_at hl 5 rfl) ?_
  refine lv_iload hx hb d_SeriesVaultLaw_law_1038 (lv_at hl 1 rfl) ?_
  refine lv_iconst (v := 1) hx hb d_SeriesVaultLaw_law_1040 (by decide) ?_
  refine lv_iadd hx hb d_SeriesVaultLaw_law_1041 (tpi (y := nI (i + 1)) (nI_add (i) (1)) ?_)
  refine sldN hx hb hX hbl hbA hS (show i + 1 < L by omega) (show L ≤ 65536 by omega) d_SeriesVaultLaw_law_1042 ?_
  refine lv_i2l hx hb d_SeriesVaultLaw_law_1043 rfl ?_
  refine lv_bipush (v := 32) hx hb d_SeriesVaultLaw_law_1044 (by decide) ?_
  refine lv_lshl hx hb d_SeriesVaultLaw_law_1046 rfl ?_
  refine lv_aload_n hx hb d_SeriesVaultLaw_law_1047 rfl (lv_at hl 5 rfl) ?_
  refine lv_iload hx hb d_SeriesVaultLaw_law_1048 (lv_at hl 1 rfl) ?_
  refine lv_iconst (v := 2) hx hb d_SeriesVaultLaw_law_1050 (by decide) ?_
  refine lv_iadd hx hb d_SeriesVaultLaw_law_1051 (tpi (y := nI (i + 2)) (nI_add (i) (2)) ?_)
  refine sldN hx hb hX hbl hbA hS (show i + 2 < L by omega) (show L ≤ 65536 by omega) d_SeriesVaultLaw_law_1052 ?_
  refine lv_i2l hx hb d_SeriesVaultLaw_law_1053 rfl ?_
  refine lv_ldc2 (v := 4294967295) hx hb hown (hE.t w1839 rfl) d_SeriesVaultLaw_law_1054 ?_
  refine lv_land hx hb d_SeriesVaultLaw_law_1057 ?_
  refine lv_lor hx hb d_SeriesVaultLaw_law_1058 ?_
  have hP := pmP (show List.Perm (α := Nat × va_E) (MW dA mm mad M ++ (([(o, .inl (dA 2, 1, .inr (.inl (va_up og 0 v9))))] : va_W) ++ (VW dA h ad u8))) (([(o, .inl (dA 2, 1, .inr (.inl (va_up og 0 v9))))] : va_W) ++ (MW dA mm mad M ++ (VW dA h ad u8))) from List.perm_append_comm_assoc (MW dA mm mad M) (([(o, .inl (dA 2, 1, .inr (.inl (va_up og 0 v9))))] : va_W)) (VW dA h ad u8)) hP
  have hD := pmD (show List.Perm (α := Nat × va_E) (MW dA mm mad M ++ (([(o, .inl (dA 2, 1, .inr (.inl (va_up og 0 v9))))] : va_W) ++ (VW dA h ad u8))) (([(o, .inl (dA 2, 1, .inr (.inl (va_up og 0 v9))))] : va_W) ++ (MW dA mm mad M ++ (VW dA h ad u8))) from List.perm_append_comm_assoc (MW dA mm mad M) (([(o, .inl (dA 2, 1, .inr (.inl (va_up og 0 v9))))] : va_W)) (VW dA h ad u8)) hD
  have hP := pmP (show List.Perm (α := Nat × va_E) (([(o, .inl (dA 2, 1, .inr (.inl (va_up og 0 v9))))] : va_W) ++ (MW dA mm mad M ++ (VW dA h ad u8))) (([(o, .inl (dA 2, 1, .inr (.inl (va_up og 0 v9))))] : va_W) ++ (VW dA h ad u8 ++ (MW dA mm mad M))) from List.Perm.append_left (([(o, .inl (dA 2, 1, .inr (.inl (va_up og 0 v9))))] : va_W)) (List.perm_append_comm)) hP
  have hD := pmD (show List.Perm (α := Nat × va_E) (([(o, .inl (dA 2, 1, .inr (.inl (va_up og 0 v9))))] : va_W) ++ (MW dA mm mad M ++ (VW dA h ad u8))) (([(o, .inl (dA 2, 1, .inr (.inl (va_up og 0 v9))))] : va_W) ++ (VW dA h ad u8 ++ (MW dA mm mad M))) from List.Perm.append_left (([(o, .inl (dA 2, 1, .inr (.inl (va_up og 0 v9))))] : va_W)) (List.perm_append_comm)) hD
  have hPc : va_P D vwCl (MW dA mm mad M) H := spP (wr := ([(o, .inl (dA 2, 1, .inr (.inl (va_up og 0 v9))))] : va_W) ++ (VW dA h ad u8)) hP
  have hDc : va_D A (MW dA mm mad M) := spD (wr := ([(o, .inl (dA 2, 1, .inr (.inl (va_up og 0 v9))))] : va_W) ++ (VW dA h ad u8)) hD
  refine jkI (wr := ([(o, .inl (dA 2, 1, .inr (.inl (va_up og 0 v9))))] : va_W) ++ (VW dA h ad u8)) (rnV (As := [.long ((((xs (i + 1)).toInt64) <<< ((32 : Int32).toInt64 &&& 63)) ||| (((xs (i + 2)).toInt64) &&& 4294967295))]) (rest := []) hx hb hml hown hE hK (hN _ _ hS) hPc hDc (hM H.size) (q0 := 0) rfl rfl w1886 w1885 w1887 w1888 w328 rfl rfl ⟨⟨by decide, by decide⟩, rfl⟩ ⟨(show fr2 + 1 ≤ 2048 by omega), (show 8 + (7 + 11) + lo2 ≤ 84000 by omega)⟩ rfl hl.1 rfl (Nat.le_of_ble_eq_true rfl) d_SeriesVaultLaw_law_1059 ⟨(show cells + mc9 + 0 ≤ 601024 by omega), (show slots + ms9 + 0 ≤ 7293034 by omega)⟩) hP hD hS hA (fun r7 u7 H locs hp9 hP hD hS => ?_)
  replace hp9 : b9 = r7 := Eq.symm hp9
  subst hp9
  have hP : va_P D vwCl (([(o, .inl (dA 2, 1, .inr (.inl (va_up og 0 v9))))] : va_W) ++ (VW dA h ad u8 ++ (MW dA mm mad M1))) H := hP
  have hD : va_D A (([(o, .inl (dA 2, 1, .inr (.inl (va_up og 0 v9))))] : va_W) ++ (VW dA h ad u8 ++ (MW dA mm mad M1))) := hD
  refine lv_istore hx hb d_SeriesVaultLaw_law_1062 hl (by decide) rfl (fun ls hl => ?_)
  have hl : lv_has ls 8 [(6, .int b9), (5, .int 0), (4, .int (nI i)), (3, .ref o), (2, .ref mm), (1, .ref h), (0, .ref b)] := hl
  refine lv_aload_n hx hb d_SeriesVaultLaw_law_1064 rfl (lv_at hl 4 rfl) ?_
  have hPc : va_P D vwCl (MW dA mm mad M1) H := spP (wr := ([(o, .inl (dA 2, 1, .inr (.inl (va_up og 0 v9))))] : va_W) ++ (VW dA h ad u8)) hP
  have hDc : va_D A (MW dA mm mad M1) := spD (wr := ([(o, .inl (dA 2, 1, .inr (.inl (va_up og 0 v9))))] : va_W) ++ (VW dA h ad u8)) hD
  refine jkI (wr := ([(o, .inl (dA 2, 1, .inr (.inl (va_up og 0 v9))))] : va_W) ++ (VW dA h ad u8)) (rnV (As := []) (rest := []) hx hb hml hown hE hK (hN _ _ hS) hPc hDc (k_thrown l D dA H.size mm mad M1) (q0 := 0) rfl rfl w1801 w1800 w1802 w1803 w328 rfl rfl ⟨⟨by decide, by decide⟩, rfl⟩ ⟨(show 1 + 1 ≤ 2048 by omega), (show 8 + (1 + 11) + 0 ≤ 84000 by omega)⟩ rfl hl.1 rfl (Nat.le_of_ble_eq_true rfl) d_SeriesVaultLaw_law_1065 ⟨(show cells + mc9 + 0 ≤ 601024 by omega), (show slots + ms9 + 0 ≤ 7293034 by omega)⟩) hP hD hS hA (fun r7 u7 H locs hp9 hP hD hS => ?_)
  replace hp9 : 0 = r7 := Eq.symm (hp9.trans hcod)
  subst hp9
  have hP : va_P D vwCl (([(o, .inl (dA 2, 1, .inr (.inl (va_up og 0 v9))))] : va_W) ++ (VW dA h ad u8 ++ (MW dA mm mad M1))) H := hP
  have hD : va_D A (([(o, .inl (dA 2, 1, .inr (.inl (va_up og 0 v9))))] : va_W) ++ (VW dA h ad u8 ++ (MW dA mm mad M1))) := hD
  refine lv_iload hx hb d_SeriesVaultLaw_law_1068 (lv_at hl 1 rfl) ?_
  refine lv_icmp_eq hx hb d_SeriesVaultLaw_law_1070 (tgt := 1075) rfl (fun _ => ?_) (fun h9 => absurd rfl h9)
  refine lv_iload hx hb d_SeriesVaultLaw_law_1075 (lv_at hl 1 rfl) ?_
  refine lv_if_ne hx hb d_SeriesVaultLaw_law_1077 (tgt := 1092) rfl (fun h9 => absurd (by decide) h9) (fun _ => ?_)
  refine lv_aload_n hx hb d_SeriesVaultLaw_law_1080 rfl (lv_at hl 3 rfl) ?_
  refine lv_iconst (v := 0) hx hb d_SeriesVaultLaw_law_1081 (by decide) ?_
  refine nlld (f := (va_up og 0 v9)) (n := 1) hx hb hK hP (0) 2 rfl rfl (0) (by decide) (by decide) d_SeriesVaultLaw_law_1082 ?_
  refine tpl (y := v9) (va_up_self _ _ _) ?_
  refine lv_iload hx hb d_SeriesVaultLaw_law_1083 (lv_at hl 0 rfl) ?_
  refine lv_i2l hx hb d_SeriesVaultLaw_law_1085 rfl ?_
  refine W.lcmp hx hb d_SeriesVaultLaw_law_1086 ?_
  refine lv_if_eq hx hb d_SeriesVaultLaw_law_1087 (tgt := 1092) rfl (fun _ => ?_) (fun h9 => absurd ((lg_cmp_eq _ _).mpr hv) h9)
  refine lv_goto hx hb d_SeriesVaultLaw_law_1092 (tgt := 1770) rfl ?_
  refine lv_iinc (k := 2) (v := nI (i + 6)) hx hb d_SeriesVaultLaw_law_1770 hl rfl (iincN (i) 6 6 (by decide)) (by decide) rfl (fun ls hl => ?_)
  have hl : lv_has ls 8 [(4, .int (nI (i + 6))), (6, .int b9), (5, .int 0), (3, .ref o), (2, .ref mm), (1, .ref h), (0, .ref b)] := hl
  refine lv_goto hx hb d_SeriesVaultLaw_law_1773 (tgt := 23) rfl ?_
  have hP := pmP (show List.Perm (α := Nat × va_E) (([(o, .inl (dA 2, 1, .inr (.inl (va_up og 0 v9))))] : va_W) ++ (VW dA h ad u8 ++ (MW dA mm mad M1))) (MW dA mm mad M1 ++ (([(o, .inl (dA 2, 1, .inr (.inl (va_up og 0 v9))))] : va_W) ++ (VW dA h ad u8))) from (List.Perm.append_left (([(o, .inl (dA 2, 1, .inr (.inl (va_up og 0 v9))))] : va_W)) (List.perm_append_comm)).trans (List.perm_append_comm_assoc (([(o, .inl (dA 2, 1, .inr (.inl (va_up og 0 v9))))] : va_W)) (MW dA mm mad M1) (VW dA h ad u8))) hP
  have hD := pmD (show List.Perm (α := Nat × va_E) (([(o, .inl (dA 2, 1, .inr (.inl (va_up og 0 v9))))] : va_W) ++ (VW dA h ad u8 ++ (MW dA mm mad M1))) (MW dA mm mad M1 ++ (([(o, .inl (dA 2, 1, .inr (.inl (va_up og 0 v9))))] : va_W) ++ (VW dA h ad u8))) from (List.Perm.append_left (([(o, .inl (dA 2, 1, .inr (.inl (va_up og 0 v9))))] : va_W)) (List.perm_append_comm)).trans (List.perm_append_comm_assoc (([(o, .inl (dA 2, 1, .inr (.inl (va_up og 0 v9))))] : va_W)) (MW dA mm mad M1) (VW dA h ad u8))) hD
  have hP : va_P D vwCl (MW dA mm mad M1 ++ (([(o, .inl (dA 2, 1, .inr (.inl (va_up og 0 v9))))] : va_W) ++ (VW dA h ad u8))) H := hP
  have hD : va_D A (MW dA mm mad M1 ++ (([(o, .inl (dA 2, 1, .inr (.inl (va_up og 0 v9))))] : va_W) ++ (VW dA h ad u8))) := hD
  have hl := lv_sub (l' := [(4, .int (nI (i + 6))), (3, .ref o), (2, .ref mm), (1, .ref h), (0, .ref b)]) hl [0, 3, 4, 5, 6] rfl
  exact cont u8 H locs ls hf9 hP hD hS hl
set_option maxHeartbeats 4000000 in
set_option maxRecDepth 100000 in
theorem l9_12_x {p : Program} {e : Env} {s : State} {m : MethodId} {below : List Frame} {meth : Method} {c : Code} (l : Launch) {b L : Nat} {xs : Nat → Int32} {D : va_G} {dA : Nat → ClassId} {e0 : Nat} {A : Nat → Prop} {H : Heap} {locs : List Loc} {ls : Array Slot} (hC : lS p l s m meth c b L xs D dA e0 A) {h : Nat} {ad : Nat → Nat} {x : VS} {mm : Nat} {mad : Nat → Nat} {M M1 : MS} {o : Nat} {og : Nat → Int64} {i fr1 lo1 fr2 lo2 mc9 ms9 cells slots : Nat} {F9 : VS → Prop} {b9 : Int32} {k9 : Nat} (hi : i + 6 ≤ L) (hL : L ≤ 3072) (hfr : fr1 ≤ 2000 ∧ lo1 ≤ 80000 ∧ fr2 ≤ 2000 ∧ lo2 ≤ 80000) (hrm : cells + mc9 ≤ 601024 ∧ slots + ms9 ≤ 7293034) (hcod : M1.cod = nI k9) (hk9 : ¬ nI k9 = 0) (hW : ∀ sz : Nat, Met l ⟨"SeriesVaultLaw", "retain", "(LSeriesVault;J[J)I"⟩ [Cond.codeWith ⟨"SeriesVaultLaw", "retain", "(LSeriesVault;J[J)I"⟩ method_15_code 5 (some FieldType.int) [(0, 9, 12, 29), (0, 9, 16, 19)]] { frames := fr1, cells := mc9, slots := ms9, locals := lo1 } (pC D dA [.ref h, .long ((((xs (i + 1)).toInt64) <<< ((32 : Int32).toInt64 &&& 63)) ||| (((xs (i + 2)).toInt64) &&& 4294967295)), .ref o] (([(o, .inl (dA 2, 1, .inr (.inl og)))] : va_W) ++ (VW dA h ad x)) sz) (va_Qi (fun (r9 : Int32) (u9 : VS) => r9 = nI k9 ∧ F9 u9) (fun (u9 : VS) t9 => bW D (va_A (([(o, .inl (dA 2, 1, .inr (.inl og)))] : va_W) ++ (VW dA h ad x)) sz) (([(o, .inl (dA 2, 1, .inr (.inl (og))))] : va_W) ++ (VW dA h ad u9)) t9) (va_A (([(o, .inl (dA 2, 1, .inr (.inl og)))] : va_W) ++ (VW dA h ad x)) sz)) mc9 ms9 (va_A (([(o, .inl (dA 2, 1, .inr (.inl og)))] : va_W) ++ (VW dA h ad x)) sz)) (hM : ∀ sz : Nat, Met l ⟨"SeriesVaultModel", "retain", "(J)I"⟩ [Cond.code ⟨"SeriesVaultModel", "retain", "(J)I"⟩ prog_14_method_47_code 7 (some FieldType.int)] { frames := fr2, cells := 0, slots := 0, locals := lo2 } (pC D dA [.ref mm, .long ((((xs (i + 1)).toInt64) <<< ((32 : Int32).toInt64 &&& 63)) ||| (((xs (i + 2)).toInt64) &&& 4294967295))] (MW dA mm mad M) sz) (va_Qi (fun (r9 : Int32) (u9 : Unit) => r9 = b9) (fun (u9 : Unit) t9 => bW D (va_A (MW dA mm mad M) sz) (MW dA mm mad M1) t9) (va_A (MW dA mm mad M) sz)) 0 0 (va_A (MW dA mm mad M) sz)) (hP : va_P D vwCl (MW dA mm mad M ++ (([(o, .inl (dA 2, 1, .inr (.inl og)))] : va_W) ++ (VW dA h ad x))) H) (hD : va_D A (MW dA mm mad M ++ (([(o, .inl (dA 2, 1, .inr (.inl og)))] : va_W) ++ (VW dA h ad x)))) (hS : va_S A s.heap H locs) (hl : lv_has ls 8 [(4, .int (nI i)), (3, .ref o), (2, .ref mm), (1, .ref h), (0, .ref b)]) (cont : ∀ (u : VS) (H1 : Heap) (locs1 : List Loc) (ls1 : Array Slot), F9 u → va_P D vwCl (MW dA mm mad M1 ++ (([(o, .inl (dA 2, 1, .inr (.inl og)))] : va_W) ++ (VW dA h ad u))) H1 → va_D A (MW dA mm mad M1 ++ (([(o, .inl (dA 2, 1, .inr (.inl og)))] : va_W) ++ (VW dA h ad u))) → va_S A s.heap H1 locs1 → lv_has ls1 8 [(4, .int (nI (i + 6))), (3, .ref o), (2, .ref mm), (1, .ref h), (0, .ref b)] → W p l e room_1 s m #[Value.ref b] below meth c H1 locs1 (cells + mc9 + 0 + 0) (slots + ms9 + 0 + 0) (lw_Z below #[Value.ref b] s) (F0 m 23 ls1 [])) : W p l e room_1 s m #[Value.ref b] below meth c H locs cells slots (lw_Z below #[Value.ref b] s) (F0 m 1007 ls []) := by
  have hC0 := hC
  obtain ⟨hx, hb, hr, hml, hown, hlk, hE, hK, hA, hN, hZ, hT, hX, hbl, hbA, hnew, htr⟩ := hC
  refine lv_aload_n hx hb d_SeriesVaultLaw_law_1007 rfl (lv_at hl 3 rfl) ?_
  refine lv_aload_n hx hb d_SeriesVaultLaw_law_1008 rfl (lv_at hl 4 rfl) ?_
  refine lv_iload hx hb d_SeriesVaultLaw_law_1009 (lv_at hl 0 rfl) ?_
  refine lv_iconst (v := 1) hx hb d_SeriesVaultLaw_law_1011 (by decide) ?_
  refine lv_iadd hx hb d_SeriesVaultLaw_law_1012 (tpi (y := nI (i + 1)) (nI_add (i) (1)) ?_)
  refine sldN hx hb hX hbl hbA hS (show i + 1 < L by omega) (show L ≤ 65536 by omega) d_SeriesVaultLaw_law_1013 ?_
  refine lv_i2l hx hb d_SeriesVaultLaw_law_1014 rfl ?_
  refine lv_bipush (v := 32) hx hb d_SeriesVaultLaw_law_1015 (by decide) ?_
  refine lv_lshl hx hb d_SeriesVaultLaw_law_1017 rfl ?_
  refine lv_aload_n hx hb d_SeriesVaultLaw_law_1018 rfl (lv_at hl 4 rfl) ?_
  refine lv_iload hx hb d_SeriesVaultLaw_law_1019 (lv_at hl 0 rfl) ?_
  refine lv_iconst (v := 2) hx hb d_SeriesVaultLaw_law_1021 (by decide) ?_
  refine lv_iadd hx hb d_SeriesVaultLaw_law_1022 (tpi (y := nI (i + 2)) (nI_add (i) (2)) ?_)
  refine sldN hx hb hX hbl hbA hS (show i + 2 < L by omega) (show L ≤ 65536 by omega) d_SeriesVaultLaw_law_1023 ?_
  refine lv_i2l hx hb d_SeriesVaultLaw_law_1024 rfl ?_
  refine lv_ldc2 (v := 4294967295) hx hb hown (hE.t w1839 rfl) d_SeriesVaultLaw_law_1025 ?_
  refine lv_land hx hb d_SeriesVaultLaw_law_1028 ?_
  refine lv_lor hx hb d_SeriesVaultLaw_law_1029 ?_
  refine lv_aload_n hx hb d_SeriesVaultLaw_law_1030 rfl (lv_at hl 1 rfl) ?_
  have hPc : va_P D vwCl (([(o, .inl (dA 2, 1, .inr (.inl og)))] : va_W) ++ (VW dA h ad x)) H := spP (wr := MW dA mm mad M) hP
  have hDc : va_D A (([(o, .inl (dA 2, 1, .inr (.inl og)))] : va_W) ++ (VW dA h ad x)) := spD (wr := MW dA mm mad M) hD
  refine jkI (wr := MW dA mm mad M) (rnW (As := [.ref h, .long ((((xs (i + 1)).toInt64) <<< ((32 : Int32).toInt64 &&& 63)) ||| (((xs (i + 2)).toInt64) &&& 4294967295)), .ref o]) (rest := []) hx hb hml hown hE hK (hN _ _ hS) hPc hDc (hW H.size) w1883 w1882 w1884 w1793 rfl rfl ⟨⟨by decide, by decide⟩, rfl⟩ ⟨(show fr1 + 1 ≤ 2048 by omega), (show 8 + (5 + 11) + lo1 ≤ 84000 by omega)⟩ rfl hl.1 rfl (Nat.le_of_ble_eq_true rfl) d_SeriesVaultLaw_law_1031 ⟨(show cells + mc9 ≤ 601024 by omega), (show slots + ms9 ≤ 7293034 by omega)⟩) hP hD hS hA (fun k8 u8 H locs hp9 hP hD hS => ?_)
  obtain ⟨hp9, hf9⟩ := hp9
  replace hp9 : nI k9 = k8 := Eq.symm hp9
  subst hp9
  have hP : va_P D vwCl (MW dA mm mad M ++ (([(o, .inl (dA 2, 1, .inr (.inl og)))] : va_W) ++ (VW dA h ad u8))) H := hP
  have hD : va_D A (MW dA mm mad M ++ (([(o, .inl (dA 2, 1, .inr (.inl og)))] : va_W) ++ (VW dA h ad u8))) := hD
  refine lv_istore hx hb d_SeriesVaultLaw_law_1034 hl (by decide) rfl (fun ls hl => ?_)
  have hl : lv_has ls 8 [(5, .int (nI k9)), (4, .int (nI i)), (3, .ref o), (2, .ref mm), (1, .ref h), (0, .ref b)] := hl
  refine lv_aload_n hx hb d_SeriesVaultLaw_law_1036 rfl (lv_at hl 3 rfl) ?_
  refine lv_aload_n hx hb d_SeriesVaultLaw_law_1037 rfl (lv_at hl 5 rfl) ?_
  refine lv_iload hx hb d_SeriesVaultLaw_law_1038 (lv_at hl 1 rfl) ?_
  refine lv_iconst (v := 1) hx hb d_SeriesVaultLaw_law_1040 (by decide) ?_
  refine lv_iadd hx hb d_SeriesVaultLaw_law_1041 (tpi (y := nI (i + 1)) (nI_add (i) (1)) ?_)
  refine sldN hx hb hX hbl hbA hS (show i + 1 < L by omega) (show L ≤ 65536 by omega) d_SeriesVaultLaw_law_1042 ?_
  refine lv_i2l hx hb d_SeriesVaultLaw_law_1043 rfl ?_
  refine lv_bipush (v := 32) hx hb d_SeriesVaultLaw_law_1044 (by decide) ?_
  refine lv_lshl hx hb d_SeriesVaultLaw_law_1046 rfl ?_
  refine lv_aload_n hx hb d_SeriesVaultLaw_law_1047 rfl (lv_at hl 5 rfl) ?_
  refine lv_iload hx hb d_SeriesVaultLaw_law_1048 (lv_at hl 1 rfl) ?_
  refine lv_iconst (v := 2) hx hb d_SeriesVaultLaw_law_1050 (by decide) ?_
  refine lv_iadd hx hb d_SeriesVaultLaw_law_1051 (tpi (y := nI (i + 2)) (nI_add (i) (2)) ?_)
  refine sldN hx hb hX hbl hbA hS (show i + 2 < L by omega) (show L ≤ 65536 by omega) d_SeriesVaultLaw_law_1052 ?_
  refine lv_i2l hx hb d_SeriesVaultLaw_law_1053 rfl ?_
  refine lv_ldc2 (v := 4294967295) hx hb hown (hE.t w1839 rfl) d_SeriesVaultLaw_law_1054 ?_
  refine lv_land hx hb d_SeriesVaultLaw_law_1057 ?_
  refine lv_lor hx hb d_SeriesVaultLaw_law_1058 ?_
  have hP := pmP (show List.Perm (α := Nat × va_E) (MW dA mm mad M ++ (([(o, .inl (dA 2, 1, .inr (.inl og)))] : va_W) ++ (VW dA h ad u8))) (([(o, .inl (dA 2, 1, .inr (.inl og)))] : va_W) ++ (MW dA mm mad M ++ (VW dA h ad u8))) from List.perm_append_comm_assoc (MW dA mm mad M) (([(o, .inl (dA 2, 1, .inr (.inl og)))] : va_W)) (VW dA h ad u8)) hP
  have hD := pmD (show List.Perm (α := Nat × va_E) (MW dA mm mad M ++ (([(o, .inl (dA 2, 1, .inr (.inl og)))] : va_W) ++ (VW dA h ad u8))) (([(o, .inl (dA 2, 1, .inr (.inl og)))] : va_W) ++ (MW dA mm mad M ++ (VW dA h ad u8))) from List.perm_append_comm_assoc (MW dA mm mad M) (([(o, .inl (dA 2, 1, .inr (.inl og)))] : va_W)) (VW dA h ad u8)) hD
  have hP := pmP (show List.Perm (α := Nat × va_E) (([(o, .inl (dA 2, 1, .inr (.inl og)))] : va_W) ++ (MW dA mm mad M ++ (VW dA h ad u8))) (([(o, .inl (dA 2, 1, .inr (.inl og)))] : va_W) ++ (VW dA h ad u8 ++ (MW dA mm mad M))) from List.Perm.append_left (([(o, .inl (dA 2, 1, .inr (.inl og)))] : va_W)) (List.perm_append_comm)) hP
  have hD := pmD (show List.Perm (α := Nat × va_E) (([(o, .inl (dA 2, 1, .inr (.inl og)))] : va_W) ++ (MW dA mm mad M ++ (VW dA h ad u8))) (([(o, .inl (dA 2, 1, .inr (.inl og)))] : va_W) ++ (VW dA h ad u8 ++ (MW dA mm mad M))) from List.Perm.append_left (([(o, .inl (dA 2, 1, .inr (.inl og)))] : va_W)) (List.perm_append_comm)) hD
  have hPc : va_P D vwCl (MW dA mm mad M) H := spP (wr := ([(o, .inl (dA 2, 1, .inr (.inl og)))] : va_W) ++ (VW dA h ad u8)) hP
  have hDc : va_D A (MW dA mm mad M) := spD (wr := ([(o, .inl (dA 2, 1, .inr (.inl og)))] : va_W) ++ (VW dA h ad u8)) hD
  refine jkI (wr := ([(o, .inl (dA 2, 1, .inr (.inl og)))] : va_W) ++ (VW dA h ad u8)) (rnV (As := [.long ((((xs (i + 1)).toInt64) <<< ((32 : Int32).toInt64 &&& 63)) ||| (((xs (i + 2)).toInt64) &&& 4294967295))]) (rest := []) hx hb hml hown hE hK (hN _ _ hS) hPc hDc (hM H.size) (q0 := 0) rfl rfl w1886 w1885 w1887 w1888 w328 rfl rfl ⟨⟨by decide, by decide⟩, rfl⟩ ⟨(show fr2 + 1 ≤ 2048 by omega), (show 8 + (7 + 11) + lo2 ≤ 84000 by omega)⟩ rfl hl.1 rfl (Nat.le_of_ble_eq_true rfl) d_SeriesVaultLaw_law_1059 ⟨(show cells + mc9 + 0 ≤ 601024 by omega), (show slots + ms9 + 0 ≤ 7293034 by omega)⟩) hP hD hS hA (fun r7 u7 H locs hp9 hP hD hS => ?_)
  replace hp9 : b9 = r7 := Eq.symm hp9
  subst hp9
  have hP : va_P D vwCl (([(o, .inl (dA 2, 1, .inr (.inl og)))] : va_W) ++ (VW dA h ad u8 ++ (MW dA mm mad M1))) H := hP
  have hD : va_D A (([(o, .inl (dA 2, 1, .inr (.inl og)))] : va_W) ++ (VW dA h ad u8 ++ (MW dA mm mad M1))) := hD
  refine lv_istore hx hb d_SeriesVaultLaw_law_1062 hl (by decide) rfl (fun ls hl => ?_)
  have hl : lv_has ls 8 [(6, .int b9), (5, .int (nI k9)), (4, .int (nI i)), (3, .ref o), (2, .ref mm), (1, .ref h), (0, .ref b)] := hl
  refine lv_aload_n hx hb d_SeriesVaultLaw_law_1064 rfl (lv_at hl 4 rfl) ?_
  have hPc : va_P D vwCl (MW dA mm mad M1) H := spP (wr := ([(o, .inl (dA 2, 1, .inr (.inl og)))] : va_W) ++ (VW dA h ad u8)) hP
  have hDc : va_D A (MW dA mm mad M1) := spD (wr := ([(o, .inl (dA 2, 1, .inr (.inl og)))] : va_W) ++ (VW dA h ad u8)) hD
  refine jkI (wr := ([(o, .inl (dA 2, 1, .inr (.inl og)))] : va_W) ++ (VW dA h ad u8)) (rnV (As := []) (rest := []) hx hb hml hown hE hK (hN _ _ hS) hPc hDc (k_thrown l D dA H.size mm mad M1) (q0 := 0) rfl rfl w1801 w1800 w1802 w1803 w328 rfl rfl ⟨⟨by decide, by decide⟩, rfl⟩ ⟨(show 1 + 1 ≤ 2048 by omega), (show 8 + (1 + 11) + 0 ≤ 84000 by omega)⟩ rfl hl.1 rfl (Nat.le_of_ble_eq_true rfl) d_SeriesVaultLaw_law_1065 ⟨(show cells + mc9 + 0 ≤ 601024 by omega), (show slots + ms9 + 0 ≤ 7293034 by omega)⟩) hP hD hS hA (fun r7 u7 H locs hp9 hP hD hS => ?_)
  replace hp9 : nI k9 = r7 := Eq.symm (hp9.trans hcod)
  subst hp9
  have hP : va_P D vwCl (([(o, .inl (dA 2, 1, .inr (.inl og)))] : va_W) ++ (VW dA h ad u8 ++ (MW dA mm mad M1))) H := hP
  have hD : va_D A (([(o, .inl (dA 2, 1, .inr (.inl og)))] : va_W) ++ (VW dA h ad u8 ++ (MW dA mm mad M1))) := hD
  refine lv_iload hx hb d_SeriesVaultLaw_law_1068 (lv_at hl 1 rfl) ?_
  refine lv_icmp_eq hx hb d_SeriesVaultLaw_law_1070 (tgt := 1075) rfl (fun _ => ?_) (fun h9 => absurd rfl h9)
  refine lv_iload hx hb d_SeriesVaultLaw_law_1075 (lv_at hl 1 rfl) ?_
  refine lv_if_ne hx hb d_SeriesVaultLaw_law_1077 (tgt := 1092) rfl (fun _ => ?_) (fun h9 => absurd h9 hk9)
  refine lv_goto hx hb d_SeriesVaultLaw_law_1092 (tgt := 1770) rfl ?_
  refine lv_iinc (k := 2) (v := nI (i + 6)) hx hb d_SeriesVaultLaw_law_1770 hl rfl (iincN (i) 6 6 (by decide)) (by decide) rfl (fun ls hl => ?_)
  have hl : lv_has ls 8 [(4, .int (nI (i + 6))), (6, .int b9), (5, .int (nI k9)), (3, .ref o), (2, .ref mm), (1, .ref h), (0, .ref b)] := hl
  refine lv_goto hx hb d_SeriesVaultLaw_law_1773 (tgt := 23) rfl ?_
  have hP := pmP (show List.Perm (α := Nat × va_E) (([(o, .inl (dA 2, 1, .inr (.inl og)))] : va_W) ++ (VW dA h ad u8 ++ (MW dA mm mad M1))) (MW dA mm mad M1 ++ (([(o, .inl (dA 2, 1, .inr (.inl og)))] : va_W) ++ (VW dA h ad u8))) from (List.Perm.append_left (([(o, .inl (dA 2, 1, .inr (.inl og)))] : va_W)) (List.perm_append_comm)).trans (List.perm_append_comm_assoc (([(o, .inl (dA 2, 1, .inr (.inl og)))] : va_W)) (MW dA mm mad M1) (VW dA h ad u8))) hP
  have hD := pmD (show List.Perm (α := Nat × va_E) (([(o, .inl (dA 2, 1, .inr (.inl og)))] : va_W) ++ (VW dA h ad u8 ++ (MW dA mm mad M1))) (MW dA mm mad M1 ++ (([(o, .inl (dA 2, 1, .inr (.inl og)))] : va_W) ++ (VW dA h ad u8))) from (List.Perm.append_left (([(o, .inl (dA 2, 1, .inr (.inl og)))] : va_W)) (List.perm_append_comm)).trans (List.perm_append_comm_assoc (([(o, .inl (dA 2, 1, .inr (.inl og)))] : va_W)) (MW dA mm mad M1) (VW dA h ad u8))) hD
  have hP : va_P D vwCl (MW dA mm mad M1 ++ (([(o, .inl (dA 2, 1, .inr (.inl og)))] : va_W) ++ (VW dA h ad u8))) H := hP
  have hD : va_D A (MW dA mm mad M1 ++ (([(o, .inl (dA 2, 1, .inr (.inl og)))] : va_W) ++ (VW dA h ad u8))) := hD
  have hl := lv_sub (l' := [(4, .int (nI (i + 6))), (3, .ref o), (2, .ref mm), (1, .ref h), (0, .ref b)]) hl [0, 3, 4, 5, 6] rfl
  exact cont u8 H locs ls hf9 hP hD hS hl
end
section
theorem d_SeriesVaultLaw_law_1095 : decode code 1095 = .ok (.aload_n 1, 1) := by decide +kernel
theorem d_SeriesVaultLaw_law_1096 : decode code 1096 = .ok (.aload_n 0, 1) := by decide +kernel
theorem d_SeriesVaultLaw_law_1097 : decode code 1097 = .ok (.iload 4, 2) := by decide +kernel
theorem d_SeriesVaultLaw_law_1099 : decode code 1099 = .ok (.iconst 1, 1) := by decide +kernel
theorem d_SeriesVaultLaw_law_1100 : decode code 1100 = .ok (.iadd, 1) := by decide +kernel
theorem d_SeriesVaultLaw_law_1101 : decode code 1101 = .ok (.iaload, 1) := by decide +kernel
theorem d_SeriesVaultLaw_law_1102 : decode code 1102 = .ok (.i2l, 1) := by decide +kernel
theorem d_SeriesVaultLaw_law_1103 : decode code 1103 = .ok (.bipush 32, 2) := by decide +kernel
theorem d_SeriesVaultLaw_law_1105 : decode code 1105 = .ok (.lshl, 1) := by decide +kernel
theorem d_SeriesVaultLaw_law_1106 : decode code 1106 = .ok (.aload_n 0, 1) := by decide +kernel
theorem d_SeriesVaultLaw_law_1107 : decode code 1107 = .ok (.iload 4, 2) := by decide +kernel
theorem d_SeriesVaultLaw_law_1109 : decode code 1109 = .ok (.iconst 2, 1) := by decide +kernel
theorem d_SeriesVaultLaw_law_1110 : decode code 1110 = .ok (.iadd, 1) := by decide +kernel
theorem d_SeriesVaultLaw_law_1111 : decode code 1111 = .ok (.iaload, 1) := by decide +kernel
theorem d_SeriesVaultLaw_law_1112 : decode code 1112 = .ok (.i2l, 1) := by decide +kernel
theorem d_SeriesVaultLaw_law_1113 : decode code 1113 = .ok (.ldc2_w 133, 3) := by decide +kernel
theorem d_SeriesVaultLaw_law_1116 : decode code 1116 = .ok (.land, 1) := by decide +kernel
theorem d_SeriesVaultLaw_law_1117 : decode code 1117 = .ok (.lor, 1) := by decide +kernel
theorem d_SeriesVaultLaw_law_1118 : decode code 1118 = .ok (.aload_n 0, 1) := by decide +kernel
theorem d_SeriesVaultLaw_law_1119 : decode code 1119 = .ok (.iload 4, 2) := by decide +kernel
theorem d_SeriesVaultLaw_law_1121 : decode code 1121 = .ok (.iconst 3, 1) := by decide +kernel
theorem d_SeriesVaultLaw_law_1122 : decode code 1122 = .ok (.iadd, 1) := by decide +kernel
theorem d_SeriesVaultLaw_law_1123 : decode code 1123 = .ok (.iaload, 1) := by decide +kernel
theorem d_SeriesVaultLaw_law_1124 : decode code 1124 = .ok (.i2l, 1) := by decide +kernel
theorem d_SeriesVaultLaw_law_1125 : decode code 1125 = .ok (.bipush 32, 2) := by decide +kernel
theorem d_SeriesVaultLaw_law_1127 : decode code 1127 = .ok (.lshl, 1) := by decide +kernel
theorem d_SeriesVaultLaw_law_1128 : decode code 1128 = .ok (.aload_n 0, 1) := by decide +kernel
theorem d_SeriesVaultLaw_law_1129 : decode code 1129 = .ok (.iload 4, 2) := by decide +kernel
theorem d_SeriesVaultLaw_law_1131 : decode code 1131 = .ok (.iconst 4, 1) := by decide +kernel
theorem d_SeriesVaultLaw_law_1132 : decode code 1132 = .ok (.iadd, 1) := by decide +kernel
theorem d_SeriesVaultLaw_law_1133 : decode code 1133 = .ok (.iaload, 1) := by decide +kernel
theorem d_SeriesVaultLaw_law_1134 : decode code 1134 = .ok (.i2l, 1) := by decide +kernel
theorem d_SeriesVaultLaw_law_1135 : decode code 1135 = .ok (.ldc2_w 133, 3) := by decide +kernel
theorem d_SeriesVaultLaw_law_1138 : decode code 1138 = .ok (.land, 1) := by decide +kernel
theorem d_SeriesVaultLaw_law_1139 : decode code 1139 = .ok (.lor, 1) := by decide +kernel
theorem d_SeriesVaultLaw_law_1140 : decode code 1140 = .ok (.aload_n 0, 1) := by decide +kernel
theorem d_SeriesVaultLaw_law_1141 : decode code 1141 = .ok (.iload 4, 2) := by decide +kernel
theorem d_SeriesVaultLaw_law_1143 : decode code 1143 = .ok (.iconst 5, 1) := by decide +kernel
theorem d_SeriesVaultLaw_law_1144 : decode code 1144 = .ok (.iadd, 1) := by decide +kernel
theorem d_SeriesVaultLaw_law_1145 : decode code 1145 = .ok (.iaload, 1) := by decide +kernel
theorem d_SeriesVaultLaw_law_1146 : decode code 1146 = .ok (.aload_n 3, 1) := by decide +kernel
theorem d_SeriesVaultLaw_law_1147 : decode code 1147 = .ok (.invokestatic 158, 3) := by decide +kernel
theorem d_SeriesVaultLaw_law_1150 : decode code 1150 = .ok (.istore 5, 2) := by decide +kernel
theorem d_SeriesVaultLaw_law_1152 : decode code 1152 = .ok (.aload_n 2, 1) := by decide +kernel
theorem d_SeriesVaultLaw_law_1153 : decode code 1153 = .ok (.aload_n 0, 1) := by decide +kernel
theorem d_SeriesVaultLaw_law_1154 : decode code 1154 = .ok (.iload 4, 2) := by decide +kernel
theorem d_SeriesVaultLaw_law_1156 : decode code 1156 = .ok (.iconst 1, 1) := by decide +kernel
theorem d_SeriesVaultLaw_law_1157 : decode code 1157 = .ok (.iadd, 1) := by decide +kernel
theorem d_SeriesVaultLaw_law_1158 : decode code 1158 = .ok (.iaload, 1) := by decide +kernel
theorem d_SeriesVaultLaw_law_1159 : decode code 1159 = .ok (.i2l, 1) := by decide +kernel
theorem d_SeriesVaultLaw_law_1160 : decode code 1160 = .ok (.bipush 32, 2) := by decide +kernel
theorem d_SeriesVaultLaw_law_1162 : decode code 1162 = .ok (.lshl, 1) := by decide +kernel
theorem d_SeriesVaultLaw_law_1163 : decode code 1163 = .ok (.aload_n 0, 1) := by decide +kernel
theorem d_SeriesVaultLaw_law_1164 : decode code 1164 = .ok (.iload 4, 2) := by decide +kernel
theorem d_SeriesVaultLaw_law_1166 : decode code 1166 = .ok (.iconst 2, 1) := by decide +kernel
theorem d_SeriesVaultLaw_law_1167 : decode code 1167 = .ok (.iadd, 1) := by decide +kernel
theorem d_SeriesVaultLaw_law_1168 : decode code 1168 = .ok (.iaload, 1) := by decide +kernel
theorem d_SeriesVaultLaw_law_1169 : decode code 1169 = .ok (.i2l, 1) := by decide +kernel
theorem d_SeriesVaultLaw_law_1170 : decode code 1170 = .ok (.ldc2_w 133, 3) := by decide +kernel
theorem d_SeriesVaultLaw_law_1173 : decode code 1173 = .ok (.land, 1) := by decide +kernel
theorem d_SeriesVaultLaw_law_1174 : decode code 1174 = .ok (.lor, 1) := by decide +kernel
theorem d_SeriesVaultLaw_law_1175 : decode code 1175 = .ok (.aload_n 0, 1) := by decide +kernel
theorem d_SeriesVaultLaw_law_1176 : decode code 1176 = .ok (.iload 4, 2) := by decide +kernel
theorem d_SeriesVaultLaw_law_1178 : decode code 1178 = .ok (.iconst 3, 1) := by decide +kernel
theorem d_SeriesVaultLaw_law_1179 : decode code 1179 = .ok (.iadd, 1) := by decide +kernel
theorem d_SeriesVaultLaw_law_1180 : decode code 1180 = .ok (.iaload, 1) := by decide +kernel
theorem d_SeriesVaultLaw_law_1181 : decode code 1181 = .ok (.i2l, 1) := by decide +kernel
theorem d_SeriesVaultLaw_law_1182 : decode code 1182 = .ok (.bipush 32, 2) := by decide +kernel
theorem d_SeriesVaultLaw_law_1184 : decode code 1184 = .ok (.lshl, 1) := by decide +kernel
theorem d_SeriesVaultLaw_law_1185 : decode code 1185 = .ok (.aload_n 0, 1) := by decide +kernel
theorem d_SeriesVaultLaw_law_1186 : decode code 1186 = .ok (.iload 4, 2) := by decide +kernel
theorem d_SeriesVaultLaw_law_1188 : decode code 1188 = .ok (.iconst 4, 1) := by decide +kernel
theorem d_SeriesVaultLaw_law_1189 : decode code 1189 = .ok (.iadd, 1) := by decide +kernel
theorem d_SeriesVaultLaw_law_1190 : decode code 1190 = .ok (.iaload, 1) := by decide +kernel
theorem d_SeriesVaultLaw_law_1191 : decode code 1191 = .ok (.i2l, 1) := by decide +kernel
theorem d_SeriesVaultLaw_law_1192 : decode code 1192 = .ok (.ldc2_w 133, 3) := by decide +kernel
theorem d_SeriesVaultLaw_law_1195 : decode code 1195 = .ok (.land, 1) := by decide +kernel
theorem d_SeriesVaultLaw_law_1196 : decode code 1196 = .ok (.lor, 1) := by decide +kernel
theorem d_SeriesVaultLaw_law_1197 : decode code 1197 = .ok (.aload_n 0, 1) := by decide +kernel
theorem d_SeriesVaultLaw_law_1198 : decode code 1198 = .ok (.iload 4, 2) := by decide +kernel
theorem d_SeriesVaultLaw_law_1200 : decode code 1200 = .ok (.iconst 5, 1) := by decide +kernel
theorem d_SeriesVaultLaw_law_1201 : decode code 1201 = .ok (.iadd, 1) := by decide +kernel
theorem d_SeriesVaultLaw_law_1202 : decode code 1202 = .ok (.iaload, 1) := by decide +kernel
theorem d_SeriesVaultLaw_law_1203 : decode code 1203 = .ok (.invokevirtual 161, 3) := by decide +kernel
theorem d_SeriesVaultLaw_law_1206 : decode code 1206 = .ok (.istore 6, 2) := by decide +kernel
theorem d_SeriesVaultLaw_law_1208 : decode code 1208 = .ok (.aload_n 2, 1) := by decide +kernel
theorem d_SeriesVaultLaw_law_1209 : decode code 1209 = .ok (.invokevirtual 110, 3) := by decide +kernel
theorem d_SeriesVaultLaw_law_1212 : decode code 1212 = .ok (.iload 5, 2) := by decide +kernel
theorem d_SeriesVaultLaw_law_1214 : decode code 1214 = .ok (.if_icmp .eq 5, 3) := by decide +kernel
theorem d_SeriesVaultLaw_law_1219 : decode code 1219 = .ok (.iload 5, 2) := by decide +kernel
theorem d_SeriesVaultLaw_law_1221 : decode code 1221 = .ok (.ifCond .ne 15, 3) := by decide +kernel
theorem d_SeriesVaultLaw_law_1224 : decode code 1224 = .ok (.aload_n 3, 1) := by decide +kernel
theorem d_SeriesVaultLaw_law_1225 : decode code 1225 = .ok (.iconst 0, 1) := by decide +kernel
theorem d_SeriesVaultLaw_law_1226 : decode code 1226 = .ok (.laload, 1) := by decide +kernel
theorem d_SeriesVaultLaw_law_1227 : decode code 1227 = .ok (.iload 6, 2) := by decide +kernel
theorem d_SeriesVaultLaw_law_1229 : decode code 1229 = .ok (.i2l, 1) := by decide +kernel
theorem d_SeriesVaultLaw_law_1230 : decode code 1230 = .ok (.lcmp, 1) := by decide +kernel
theorem d_SeriesVaultLaw_law_1231 : decode code 1231 = .ok (.ifCond .eq 5, 3) := by decide +kernel
theorem d_SeriesVaultLaw_law_1236 : decode code 1236 = .ok (.goto 534, 3) := by decide +kernel
theorem w1889 : Cond.methodLink "SeriesVaultLaw" 158 ⟨"SeriesVaultLaw", "ask", "(LSeriesVault;JJI[J)I"⟩ ∈ aW := aw_of (tb_6 (List.mem_of_getElem? (i := 174) rfl)) rfl
theorem w1890 : Cond.codeWith ⟨"SeriesVaultLaw", "ask", "(LSeriesVault;JJI[J)I"⟩ method_16_code 8 (some FieldType.int) [(0, 13, 16, 29), (0, 13, 20, 19)] ∈ aW := aw_of (tb_6 (List.mem_of_getElem? (i := 176) rfl)) rfl
theorem w1891 : Cond.static ⟨"SeriesVaultLaw", "ask", "(LSeriesVault;JJI[J)I"⟩ ∈ aW := aw_of (tb_6 (List.mem_of_getElem? (i := 175) rfl)) rfl
theorem w1892 : Cond.methodLink "SeriesVaultLaw" 161 ⟨"SeriesVaultModel", "ask", "(JJI)I"⟩ ∈ aW := aw_of (tb_10 (List.mem_of_getElem? (i := 149) rfl)) rfl
theorem w1893 : Cond.code ⟨"SeriesVaultModel", "ask", "(JJI)I"⟩ prog_14_method_91_code 7 (some FieldType.int) ∈ aW := aw_of (tb_10 (List.mem_of_getElem? (i := 152) rfl)) rfl
theorem w1894 : Cond.instanceMethod ⟨"SeriesVaultModel", "ask", "(JJI)I"⟩ ∈ aW := aw_of (tb_10 (List.mem_of_getElem? (i := 150) rfl)) rfl
theorem w1895 : Cond.selects "SeriesVaultModel" ⟨"SeriesVaultModel", "ask", "(JJI)I"⟩ ⟨"SeriesVaultModel", "ask", "(JJI)I"⟩ ∈ aW := aw_of (tb_10 (List.mem_of_getElem? (i := 151) rfl)) rfl
set_option maxHeartbeats 4000000 in
set_option maxRecDepth 100000 in
theorem l9_13 {p : Program} {e : Env} {s : State} {m : MethodId} {below : List Frame} {meth : Method} {c : Code} (l : Launch) {b L : Nat} {xs : Nat → Int32} {D : va_G} {dA : Nat → ClassId} {e0 : Nat} {A : Nat → Prop} {H : Heap} {locs : List Loc} {ls : Array Slot} (hC : lS p l s m meth c b L xs D dA e0 A) {h : Nat} {ad : Nat → Nat} {x : VS} {mm : Nat} {mad : Nat → Nat} {M M1 : MS} {o : Nat} {og : Nat → Int64} {i fr1 lo1 fr2 lo2 mc9 ms9 cells slots : Nat} {F9 : VS → Prop} {b9 : Int32} {v9 : Int64} {mi : Nat} {kA vA : Nat → Nat} {fm : Nat} (hMi : va_Mi "[Ljava/lang/Object;" mi s) (hQ : qS kA vA fm A s s.heap) (hi : i + 6 ≤ L) (hL : L ≤ 3072) (hfr : fr1 ≤ 2000 ∧ lo1 ≤ 80000 ∧ fr2 ≤ 2000 ∧ lo2 ≤ 80000) (hrm : cells + mc9 ≤ 601024 ∧ slots + ms9 ≤ 7293034) (hcod : M1.cod = 0) (hv : v9 = b9.toInt64) (hW : ∀ sz : Nat, Met l ⟨"SeriesVaultLaw", "ask", "(LSeriesVault;JJI[J)I"⟩ [Cond.codeWith ⟨"SeriesVaultLaw", "ask", "(LSeriesVault;JJI[J)I"⟩ method_16_code 8 (some FieldType.int) [(0, 13, 16, 29), (0, 13, 20, 19)]] { frames := fr1, cells := mc9, slots := ms9, locals := lo1 } (pCs D dA e0 mi kA vA fm [.ref h, .long ((((xs (i + 1)).toInt64) <<< ((32 : Int32).toInt64 &&& 63)) ||| (((xs (i + 2)).toInt64) &&& 4294967295)), .long ((((xs (i + 3)).toInt64) <<< ((32 : Int32).toInt64 &&& 63)) ||| (((xs (i + 4)).toInt64) &&& 4294967295)), .int (xs (i + 5)), .ref o] (([(o, .inl (dA 2, 1, .inr (.inl og)))] : va_W) ++ (VW dA h ad x)) sz) (va_Qi (fun (r9 : Int32) (u9 : VS) => r9 = 0 ∧ F9 u9) (fun (u9 : VS) t9 => bW D (va_A (([(o, .inl (dA 2, 1, .inr (.inl og)))] : va_W) ++ (VW dA h ad x)) sz) (([(o, .inl (dA 2, 1, .inr (.inl (va_up og 0 v9))))] : va_W) ++ (VW dA h ad u9)) t9) (va_A (([(o, .inl (dA 2, 1, .inr (.inl og)))] : va_W) ++ (VW dA h ad x)) sz)) mc9 ms9 (va_A (([(o, .inl (dA 2, 1, .inr (.inl og)))] : va_W) ++ (VW dA h ad x)) sz)) (hM : ∀ sz : Nat, Met l ⟨"SeriesVaultModel", "ask", "(JJI)I"⟩ [Cond.code ⟨"SeriesVaultModel", "ask", "(JJI)I"⟩ prog_14_method_91_code 7 (some FieldType.int)] { frames := fr2, cells := 0, slots := 0, locals := lo2 } (pC D dA [.ref mm, .long ((((xs (i + 1)).toInt64) <<< ((32 : Int32).toInt64 &&& 63)) ||| (((xs (i + 2)).toInt64) &&& 4294967295)), .long ((((xs (i + 3)).toInt64) <<< ((32 : Int32).toInt64 &&& 63)) ||| (((xs (i + 4)).toInt64) &&& 4294967295)), .int (xs (i + 5))] (MW dA mm mad M) sz) (va_Qi (fun (r9 : Int32) (u9 : Unit) => r9 = b9) (fun (u9 : Unit) t9 => bW D (va_A (MW dA mm mad M) sz) (MW dA mm mad M1) t9) (va_A (MW dA mm mad M) sz)) 0 0 (va_A (MW dA mm mad M) sz)) (hP : va_P D vwCl (MW dA mm mad M ++ (([(o, .inl (dA 2, 1, .inr (.inl og)))] : va_W) ++ (VW dA h ad x))) H) (hD : va_D A (MW dA mm mad M ++ (([(o, .inl (dA 2, 1, .inr (.inl og)))] : va_W) ++ (VW dA h ad x)))) (hS : va_S A s.heap H locs) (hl : lv_has ls 8 [(4, .int (nI i)), (3, .ref o), (2, .ref mm), (1, .ref h), (0, .ref b)]) (cont : ∀ (u : VS) (H1 : Heap) (locs1 : List Loc) (ls1 : Array Slot), F9 u → va_P D vwCl (MW dA mm mad M1 ++ (([(o, .inl (dA 2, 1, .inr (.inl (va_up og 0 v9))))] : va_W) ++ (VW dA h ad u))) H1 → va_D A (MW dA mm mad M1 ++ (([(o, .inl (dA 2, 1, .inr (.inl (va_up og 0 v9))))] : va_W) ++ (VW dA h ad u))) → va_S A s.heap H1 locs1 → lv_has ls1 8 [(4, .int (nI (i + 6))), (3, .ref o), (2, .ref mm), (1, .ref h), (0, .ref b)] → W p l e room_1 s m #[Value.ref b] below meth c H1 locs1 (cells + mc9 + 0 + 0) (slots + ms9 + 0 + 0) (lw_Z below #[Value.ref b] s) (F0 m 23 ls1 [])) : W p l e room_1 s m #[Value.ref b] below meth c H locs cells slots (lw_Z below #[Value.ref b] s) (F0 m 1095 ls []) := by
  have hC0 := hC
  obtain ⟨hx, hb, hr, hml, hown, hlk, hE, hK, hA, hN, hZ, hT, hX, hbl, hbA, hnew, htr⟩ := hC
  refine lv_aload_n hx hb d_SeriesVaultLaw_law_1095 rfl (lv_at hl 3 rfl) ?_
  refine lv_aload_n hx hb d_SeriesVaultLaw_law_1096 rfl (lv_at hl 4 rfl) ?_
  refine lv_iload hx hb d_SeriesVaultLaw_law_1097 (lv_at hl 0 rfl) ?_
  refine lv_iconst (v := 1) hx hb d_SeriesVaultLaw_law_1099 (by decide) ?_
  refine lv_iadd hx hb d_SeriesVaultLaw_law_1100 (tpi (y := nI (i + 1)) (nI_add (i) (1)) ?_)
  refine sldN hx hb hX hbl hbA hS (show i + 1 < L by omega) (show L ≤ 65536 by omega) d_SeriesVaultLaw_law_1101 ?_
  refine lv_i2l hx hb d_SeriesVaultLaw_law_1102 rfl ?_
  refine lv_bipush (v := 32) hx hb d_SeriesVaultLaw_law_1103 (by decide) ?_
  refine lv_lshl hx hb d_SeriesVaultLaw_law_1105 rfl ?_
  refine lv_aload_n hx hb d_SeriesVaultLaw_law_1106 rfl (lv_at hl 4 rfl) ?_
  refine lv_iload hx hb d_SeriesVaultLaw_law_1107 (lv_at hl 0 rfl) ?_
  refine lv_iconst (v := 2) hx hb d_SeriesVaultLaw_law_1109 (by decide) ?_
  refine lv_iadd hx hb d_SeriesVaultLaw_law_1110 (tpi (y := nI (i + 2)) (nI_add (i) (2)) ?_)
  refine sldN hx hb hX hbl hbA hS (show i + 2 < L by omega) (show L ≤ 65536 by omega) d_SeriesVaultLaw_law_1111 ?_
  refine lv_i2l hx hb d_SeriesVaultLaw_law_1112 rfl ?_
  refine lv_ldc2 (v := 4294967295) hx hb hown (hE.t w1839 rfl) d_SeriesVaultLaw_law_1113 ?_
  refine lv_land hx hb d_SeriesVaultLaw_law_1116 ?_
  refine lv_lor hx hb d_SeriesVaultLaw_law_1117 ?_
  refine lv_aload_n hx hb d_SeriesVaultLaw_law_1118 rfl (lv_at hl 4 rfl) ?_
  refine lv_iload hx hb d_SeriesVaultLaw_law_1119 (lv_at hl 0 rfl) ?_
  refine lv_iconst (v := 3) hx hb d_SeriesVaultLaw_law_1121 (by decide) ?_
  refine lv_iadd hx hb d_SeriesVaultLaw_law_1122 (tpi (y := nI (i + 3)) (nI_add (i) (3)) ?_)
  refine sldN hx hb hX hbl hbA hS (show i + 3 < L by omega) (show L ≤ 65536 by omega) d_SeriesVaultLaw_law_1123 ?_
  refine lv_i2l hx hb d_SeriesVaultLaw_law_1124 rfl ?_
  refine lv_bipush (v := 32) hx hb d_SeriesVaultLaw_law_1125 (by decide) ?_
  refine lv_lshl hx hb d_SeriesVaultLaw_law_1127 rfl ?_
  refine lv_aload_n hx hb d_SeriesVaultLaw_law_1128 rfl (lv_at hl 4 rfl) ?_
  refine lv_iload hx hb d_SeriesVaultLaw_law_1129 (lv_at hl 0 rfl) ?_
  refine lv_iconst (v := 4) hx hb d_SeriesVaultLaw_law_1131 (by decide) ?_
  refine lv_iadd hx hb d_SeriesVaultLaw_law_1132 (tpi (y := nI (i + 4)) (nI_add (i) (4)) ?_)
  refine sldN hx hb hX hbl hbA hS (show i + 4 < L by omega) (show L ≤ 65536 by omega) d_SeriesVaultLaw_law_1133 ?_
  refine lv_i2l hx hb d_SeriesVaultLaw_law_1134 rfl ?_
  refine lv_ldc2 (v := 4294967295) hx hb hown (hE.t w1839 rfl) d_SeriesVaultLaw_law_1135 ?_
  refine lv_land hx hb d_SeriesVaultLaw_law_1138 ?_
  refine lv_lor hx hb d_SeriesVaultLaw_law_1139 ?_
  refine lv_aload_n hx hb d_SeriesVaultLaw_law_1140 rfl (lv_at hl 4 rfl) ?_
  refine lv_iload hx hb d_SeriesVaultLaw_law_1141 (lv_at hl 0 rfl) ?_
  refine lv_iconst (v := 5) hx hb d_SeriesVaultLaw_law_1143 (by decide) ?_
  refine lv_iadd hx hb d_SeriesVaultLaw_law_1144 (tpi (y := nI (i + 5)) (nI_add (i) (5)) ?_)
  refine sldN hx hb hX hbl hbA hS (show i + 5 < L by omega) (show L ≤ 65536 by omega) d_SeriesVaultLaw_law_1145 ?_
  refine lv_aload_n hx hb d_SeriesVaultLaw_law_1146 rfl (lv_at hl 1 rfl) ?_
  have hPc : va_P D vwCl (([(o, .inl (dA 2, 1, .inr (.inl og)))] : va_W) ++ (VW dA h ad x)) H := spP (wr := MW dA mm mad M) hP
  have hDc : va_D A (([(o, .inl (dA 2, 1, .inr (.inl og)))] : va_W) ++ (VW dA h ad x)) := spD (wr := MW dA mm mad M) hD
  refine jkI (wr := MW dA mm mad M) (rnWs (As := [.ref h, .long ((((xs (i + 1)).toInt64) <<< ((32 : Int32).toInt64 &&& 63)) ||| (((xs (i + 2)).toInt64) &&& 4294967295)), .long ((((xs (i + 3)).toInt64) <<< ((32 : Int32).toInt64 &&& 63)) ||| (((xs (i + 4)).toInt64) &&& 4294967295)), .int (xs (i + 5)), .ref o]) (rest := []) hx hb hml hown hE hK hZ hT hMi hQ hS (hN _ _ hS) hPc hDc (hW H.size) w1890 w1889 w1891 w1793 rfl rfl ⟨⟨by decide, by decide⟩, rfl⟩ ⟨(show fr1 + 1 ≤ 2048 by omega), (show 8 + (8 + 11) + lo1 ≤ 84000 by omega)⟩ rfl hl.1 rfl (Nat.le_of_ble_eq_true rfl) d_SeriesVaultLaw_law_1147 ⟨(show cells + mc9 ≤ 601024 by omega), (show slots + ms9 ≤ 7293034 by omega)⟩) hP hD hS hA (fun k8 u8 H locs hp9 hP hD hS => ?_)
  obtain ⟨hp9, hf9⟩ := hp9
  replace hp9 : 0 = k8 := Eq.symm hp9
  subst hp9
  have hP : va_P D vwCl (MW dA mm mad M ++ (([(o, .inl (dA 2, 1, .inr (.inl (va_up og 0 v9))))] : va_W) ++ (VW dA h ad u8))) H := hP
  have hD : va_D A (MW dA mm mad M ++ (([(o, .inl (dA 2, 1, .inr (.inl (va_up og 0 v9))))] : va_W) ++ (VW dA h ad u8))) := hD
  refine lv_istore hx hb d_SeriesVaultLaw_law_1150 hl (by decide) rfl (fun ls hl => ?_)
  have hl : lv_has ls 8 [(5, .int 0), (4, .int (nI i)), (3, .ref o), (2, .ref mm), (1, .ref h), (0, .ref b)] := hl
  refine lv_aload_n hx hb d_SeriesVaultLaw_law_1152 rfl (lv_at hl 3 rfl) ?_
  refine lv_aload_n hx hb d_SeriesVaultLaw_law_1153 rfl (lv_at hl 5 rfl) ?_
  refine lv_iload hx hb d_SeriesVaultLaw_law_1154 (lv_at hl 1 rfl) ?_
  refine lv_iconst (v := 1) hx hb d_SeriesVaultLaw_law_1156 (by decide) ?_
  refine lv_iadd hx hb d_SeriesVaultLaw_law_1157 (tpi (y := nI (i + 1)) (nI_add (i) (1)) ?_)
  refine sldN hx hb hX hbl hbA hS (show i + 1 < L by omega) (show L ≤ 65536 by omega) d_SeriesVaultLaw_law_1158 ?_
  refine lv_i2l hx hb d_SeriesVaultLaw_law_1159 rfl ?_
  refine lv_bipush (v := 32) hx hb d_SeriesVaultLaw_law_1160 (by decide) ?_
  refine lv_lshl hx hb d_SeriesVaultLaw_law_1162 rfl ?_
  refine lv_aload_n hx hb d_SeriesVaultLaw_law_1163 rfl (lv_at hl 5 rfl) ?_
  refine lv_iload hx hb d_SeriesVaultLaw_law_1164 (lv_at hl 1 rfl) ?_
  refine lv_iconst (v := 2) hx hb d_SeriesVaultLaw_law_1166 (by decide) ?_
  refine lv_iadd hx hb d_SeriesVaultLaw_law_1167 (tpi (y := nI (i + 2)) (nI_add (i) (2)) ?_)
  refine sldN hx hb hX hbl hbA hS (show i + 2 < L by omega) (show L ≤ 65536 by omega) d_SeriesVaultLaw_law_1168 ?_
  refine lv_i2l hx hb d_SeriesVaultLaw_law_1169 rfl ?_
  refine lv_ldc2 (v := 4294967295) hx hb hown (hE.t w1839 rfl) d_SeriesVaultLaw_law_1170 ?_
  refine lv_land hx hb d_SeriesVaultLaw_law_1173 ?_
  refine lv_lor hx hb d_SeriesVaultLaw_law_1174 ?_
  refine lv_aload_n hx hb d_SeriesVaultLaw_law_1175 rfl (lv_at hl 5 rfl) ?_
  refine lv_iload hx hb d_SeriesVaultLaw_law_1176 (lv_at hl 1 rfl) ?_
  refine lv_iconst (v := 3) hx hb d_SeriesVaultLaw_law_1178 (by decide) ?_
  refine lv_iadd hx hb d_SeriesVaultLaw_law_1179 (tpi (y := nI (i + 3)) (nI_add (i) (3)) ?_)
  refine sldN hx hb hX hbl hbA hS (show i + 3 < L by omega) (show L ≤ 65536 by omega) d_SeriesVaultLaw_law_1180 ?_
  refine lv_i2l hx hb d_SeriesVaultLaw_law_1181 rfl ?_
  refine lv_bipush (v := 32) hx hb d_SeriesVaultLaw_law_1182 (by decide) ?_
  refine lv_lshl hx hb d_SeriesVaultLaw_law_1184 rfl ?_
  refine lv_aload_n hx hb d_SeriesVaultLaw_law_1185 rfl (lv_at hl 5 rfl) ?_
  refine lv_iload hx hb d_SeriesVaultLaw_law_1186 (lv_at hl 1 rfl) ?_
  refine lv_iconst (v := 4) hx hb d_SeriesVaultLaw_law_1188 (by decide) ?_
  refine lv_iadd hx hb d_SeriesVaultLaw_law_1189 (tpi (y := nI (i + 4)) (nI_add (i) (4)) ?_)
  refine sldN hx hb hX hbl hbA hS (show i + 4 < L by omega) (show L ≤ 65536 by omega) d_SeriesVaultLaw_law_1190 ?_
  refine lv_i2l hx hb d_SeriesVaultLaw_law_1191 rfl ?_
  refine lv_ldc2 (v := 4294967295) hx hb hown (hE.t w1839 rfl) d_SeriesVaultLaw_law_1192 ?_
  refine lv_land hx hb d_SeriesVaultLaw_law_1195 ?_
  refine lv_lor hx hb d_SeriesVaultLaw_law_1196 ?_
  refine lv_aload_n hx hb d_SeriesVaultLaw_law_1197 rfl (lv_at hl 5 rfl) ?_
  refine lv_iload hx hb d_SeriesVaultLaw_law_1198 (lv_at hl 1 rfl) ?_
  refine lv_iconst (v := 5) hx hb d_SeriesVaultLaw_law_1200 (by decide) ?_
  refine lv_iadd hx hb d_SeriesVaultLaw_law_1201 (tpi (y := nI (i + 5)) (nI_add (i) (5)) ?_)
  refine sldN hx hb hX hbl hbA hS (show i + 5 < L by omega) (show L ≤ 65536 by omega) d_SeriesVaultLaw_law_1202 ?_
  have hP := pmP (show List.Perm (α := Nat × va_E) (MW dA mm mad M ++ (([(o, .inl (dA 2, 1, .inr (.inl (va_up og 0 v9))))] : va_W) ++ (VW dA h ad u8))) (([(o, .inl (dA 2, 1, .inr (.inl (va_up og 0 v9))))] : va_W) ++ (MW dA mm mad M ++ (VW dA h ad u8))) from List.perm_append_comm_assoc (MW dA mm mad M) (([(o, .inl (dA 2, 1, .inr (.inl (va_up og 0 v9))))] : va_W)) (VW dA h ad u8)) hP
  have hD := pmD (show List.Perm (α := Nat × va_E) (MW dA mm mad M ++ (([(o, .inl (dA 2, 1, .inr (.inl (va_up og 0 v9))))] : va_W) ++ (VW dA h ad u8))) (([(o, .inl (dA 2, 1, .inr (.inl (va_up og 0 v9))))] : va_W) ++ (MW dA mm mad M ++ (VW dA h ad u8))) from List.perm_append_comm_assoc (MW dA mm mad M) (([(o, .inl (dA 2, 1, .inr (.inl (va_up og 0 v9))))] : va_W)) (VW dA h ad u8)) hD
  have hP := pmP (show List.Perm (α := Nat × va_E) (([(o, .inl (dA 2, 1, .inr (.inl (va_up og 0 v9))))] : va_W) ++ (MW dA mm mad M ++ (VW dA h ad u8))) (([(o, .inl (dA 2, 1, .inr (.inl (va_up og 0 v9))))] : va_W) ++ (VW dA h ad u8 ++ (MW dA mm mad M))) from List.Perm.append_left (([(o, .inl (dA 2, 1, .inr (.inl (va_up og 0 v9))))] : va_W)) (List.perm_append_comm)) hP
  have hD := pmD (show List.Perm (α := Nat × va_E) (([(o, .inl (dA 2, 1, .inr (.inl (va_up og 0 v9))))] : va_W) ++ (MW dA mm mad M ++ (VW dA h ad u8))) (([(o, .inl (dA 2, 1, .inr (.inl (va_up og 0 v9))))] : va_W) ++ (VW dA h ad u8 ++ (MW dA mm mad M))) from List.Perm.append_left (([(o, .inl (dA 2, 1, .inr (.inl (va_up og 0 v9))))] : va_W)) (List.perm_append_comm)) hD
  have hPc : va_P D vwCl (MW dA mm mad M) H := spP (wr := ([(o, .inl (dA 2, 1, .inr (.inl (va_up og 0 v9))))] : va_W) ++ (VW dA h ad u8)) hP
  have hDc : va_D A (MW dA mm mad M) := spD (wr := ([(o, .inl (dA 2, 1, .inr (.inl (va_up og 0 v9))))] : va_W) ++ (VW dA h ad u8)) hD
  refine jkI (wr := ([(o, .inl (dA 2, 1, .inr (.inl (va_up og 0 v9))))] : va_W) ++ (VW dA h ad u8)) (rnV (As := [.long ((((xs (i + 1)).toInt64) <<< ((32 : Int32).toInt64 &&& 63)) ||| (((xs (i + 2)).toInt64) &&& 4294967295)), .long ((((xs (i + 3)).toInt64) <<< ((32 : Int32).toInt64 &&& 63)) ||| (((xs (i + 4)).toInt64) &&& 4294967295)), .int (xs (i + 5))]) (rest := []) hx hb hml hown hE hK (hN _ _ hS) hPc hDc (hM H.size) (q0 := 0) rfl rfl w1893 w1892 w1894 w1895 w328 rfl rfl ⟨⟨by decide, by decide⟩, rfl⟩ ⟨(show fr2 + 1 ≤ 2048 by omega), (show 8 + (7 + 11) + lo2 ≤ 84000 by omega)⟩ rfl hl.1 rfl (Nat.le_of_ble_eq_true rfl) d_SeriesVaultLaw_law_1203 ⟨(show cells + mc9 + 0 ≤ 601024 by omega), (show slots + ms9 + 0 ≤ 7293034 by omega)⟩) hP hD hS hA (fun r7 u7 H locs hp9 hP hD hS => ?_)
  replace hp9 : b9 = r7 := Eq.symm hp9
  subst hp9
  have hP : va_P D vwCl (([(o, .inl (dA 2, 1, .inr (.inl (va_up og 0 v9))))] : va_W) ++ (VW dA h ad u8 ++ (MW dA mm mad M1))) H := hP
  have hD : va_D A (([(o, .inl (dA 2, 1, .inr (.inl (va_up og 0 v9))))] : va_W) ++ (VW dA h ad u8 ++ (MW dA mm mad M1))) := hD
  refine lv_istore hx hb d_SeriesVaultLaw_law_1206 hl (by decide) rfl (fun ls hl => ?_)
  have hl : lv_has ls 8 [(6, .int b9), (5, .int 0), (4, .int (nI i)), (3, .ref o), (2, .ref mm), (1, .ref h), (0, .ref b)] := hl
  refine lv_aload_n hx hb d_SeriesVaultLaw_law_1208 rfl (lv_at hl 4 rfl) ?_
  have hPc : va_P D vwCl (MW dA mm mad M1) H := spP (wr := ([(o, .inl (dA 2, 1, .inr (.inl (va_up og 0 v9))))] : va_W) ++ (VW dA h ad u8)) hP
  have hDc : va_D A (MW dA mm mad M1) := spD (wr := ([(o, .inl (dA 2, 1, .inr (.inl (va_up og 0 v9))))] : va_W) ++ (VW dA h ad u8)) hD
  refine jkI (wr := ([(o, .inl (dA 2, 1, .inr (.inl (va_up og 0 v9))))] : va_W) ++ (VW dA h ad u8)) (rnV (As := []) (rest := []) hx hb hml hown hE hK (hN _ _ hS) hPc hDc (k_thrown l D dA H.size mm mad M1) (q0 := 0) rfl rfl w1801 w1800 w1802 w1803 w328 rfl rfl ⟨⟨by decide, by decide⟩, rfl⟩ ⟨(show 1 + 1 ≤ 2048 by omega), (show 8 + (1 + 11) + 0 ≤ 84000 by omega)⟩ rfl hl.1 rfl (Nat.le_of_ble_eq_true rfl) d_SeriesVaultLaw_law_1209 ⟨(show cells + mc9 + 0 ≤ 601024 by omega), (show slots + ms9 + 0 ≤ 7293034 by omega)⟩) hP hD hS hA (fun r7 u7 H locs hp9 hP hD hS => ?_)
  replace hp9 : 0 = r7 := Eq.symm (hp9.trans hcod)
  subst hp9
  have hP : va_P D vwCl (([(o, .inl (dA 2, 1, .inr (.inl (va_up og 0 v9))))] : va_W) ++ (VW dA h ad u8 ++ (MW dA mm mad M1))) H := hP
  have hD : va_D A (([(o, .inl (dA 2, 1, .inr (.inl (va_up og 0 v9))))] : va_W) ++ (VW dA h ad u8 ++ (MW dA mm mad M1))) := hD
  refine lv_iload hx hb d_SeriesVaultLaw_law_1212 (lv_at hl 1 rfl) ?_
  refine lv_icmp_eq hx hb d_SeriesVaultLaw_law_1214 (tgt := 1219) rfl (fun _ => ?_) (fun h9 => absurd rfl h9)
  refine lv_iload hx hb d_SeriesVaultLaw_law_1219 (lv_at hl 1 rfl) ?_
  refine lv_if_ne hx hb d_SeriesVaultLaw_law_1221 (tgt := 1236) rfl (fun h9 => absurd (by decide) h9) (fun _ => ?_)
  refine lv_aload_n hx hb d_SeriesVaultLaw_law_1224 rfl (lv_at hl 3 rfl) ?_
  refine lv_iconst (v := 0) hx hb d_SeriesVaultLaw_law_1225 (by decide) ?_
  refine nlld (f := (va_up og 0 v9)) (n := 1) hx hb hK hP (0) 2 rfl rfl (0) (by decide) (by decide) d_SeriesVaultLaw_law_1226 ?_
  refine tpl (y := v9) (va_up_self _ _ _) ?_
  refine lv_iload hx hb d_SeriesVaultLaw_law_1227 (lv_at hl 0 rfl) ?_
  refine lv_i2l hx hb d_SeriesVaultLaw_law_1229 rfl ?_
  refine W.lcmp hx hb d_SeriesVaultLaw_law_1230 ?_
  refine lv_if_eq hx hb d_SeriesVaultLaw_law_1231 (tgt := 1236) rfl (fun _ => ?_) (fun h9 => absurd ((lg_cmp_eq _ _).mpr hv) h9)
  refine lv_goto hx hb d_SeriesVaultLaw_law_1236 (tgt := 1770) rfl ?_
  refine lv_iinc (k := 2) (v := nI (i + 6)) hx hb d_SeriesVaultLaw_law_1770 hl rfl (iincN (i) 6 6 (by decide)) (by decide) rfl (fun ls hl => ?_)
  have hl : lv_has ls 8 [(4, .int (nI (i + 6))), (6, .int b9), (5, .int 0), (3, .ref o), (2, .ref mm), (1, .ref h), (0, .ref b)] := hl
  refine lv_goto hx hb d_SeriesVaultLaw_law_1773 (tgt := 23) rfl ?_
  have hP := pmP (show List.Perm (α := Nat × va_E) (([(o, .inl (dA 2, 1, .inr (.inl (va_up og 0 v9))))] : va_W) ++ (VW dA h ad u8 ++ (MW dA mm mad M1))) (MW dA mm mad M1 ++ (([(o, .inl (dA 2, 1, .inr (.inl (va_up og 0 v9))))] : va_W) ++ (VW dA h ad u8))) from (List.Perm.append_left (([(o, .inl (dA 2, 1, .inr (.inl (va_up og 0 v9))))] : va_W)) (List.perm_append_comm)).trans (List.perm_append_comm_assoc (([(o, .inl (dA 2, 1, .inr (.inl (va_up og 0 v9))))] : va_W)) (MW dA mm mad M1) (VW dA h ad u8))) hP
  have hD := pmD (show List.Perm (α := Nat × va_E) (([(o, .inl (dA 2, 1, .inr (.inl (va_up og 0 v9))))] : va_W) ++ (VW dA h ad u8 ++ (MW dA mm mad M1))) (MW dA mm mad M1 ++ (([(o, .inl (dA 2, 1, .inr (.inl (va_up og 0 v9))))] : va_W) ++ (VW dA h ad u8))) from (List.Perm.append_left (([(o, .inl (dA 2, 1, .inr (.inl (va_up og 0 v9))))] : va_W)) (List.perm_append_comm)).trans (List.perm_append_comm_assoc (([(o, .inl (dA 2, 1, .inr (.inl (va_up og 0 v9))))] : va_W)) (MW dA mm mad M1) (VW dA h ad u8))) hD
  have hP : va_P D vwCl (MW dA mm mad M1 ++ (([(o, .inl (dA 2, 1, .inr (.inl (va_up og 0 v9))))] : va_W) ++ (VW dA h ad u8))) H := hP
  have hD : va_D A (MW dA mm mad M1 ++ (([(o, .inl (dA 2, 1, .inr (.inl (va_up og 0 v9))))] : va_W) ++ (VW dA h ad u8))) := hD
  have hl := lv_sub (l' := [(4, .int (nI (i + 6))), (3, .ref o), (2, .ref mm), (1, .ref h), (0, .ref b)]) hl [0, 3, 4, 5, 6] rfl
  exact cont u8 H locs ls hf9 hP hD hS hl
set_option maxHeartbeats 4000000 in
set_option maxRecDepth 100000 in
theorem l9_13_x {p : Program} {e : Env} {s : State} {m : MethodId} {below : List Frame} {meth : Method} {c : Code} (l : Launch) {b L : Nat} {xs : Nat → Int32} {D : va_G} {dA : Nat → ClassId} {e0 : Nat} {A : Nat → Prop} {H : Heap} {locs : List Loc} {ls : Array Slot} (hC : lS p l s m meth c b L xs D dA e0 A) {h : Nat} {ad : Nat → Nat} {x : VS} {mm : Nat} {mad : Nat → Nat} {M M1 : MS} {o : Nat} {og : Nat → Int64} {i fr1 lo1 fr2 lo2 mc9 ms9 cells slots : Nat} {F9 : VS → Prop} {b9 : Int32} {k9 : Nat} (hi : i + 6 ≤ L) (hL : L ≤ 3072) (hfr : fr1 ≤ 2000 ∧ lo1 ≤ 80000 ∧ fr2 ≤ 2000 ∧ lo2 ≤ 80000) (hrm : cells + mc9 ≤ 601024 ∧ slots + ms9 ≤ 7293034) (hcod : M1.cod = nI k9) (hk9 : ¬ nI k9 = 0) (hW : ∀ sz : Nat, Met l ⟨"SeriesVaultLaw", "ask", "(LSeriesVault;JJI[J)I"⟩ [Cond.codeWith ⟨"SeriesVaultLaw", "ask", "(LSeriesVault;JJI[J)I"⟩ method_16_code 8 (some FieldType.int) [(0, 13, 16, 29), (0, 13, 20, 19)]] { frames := fr1, cells := mc9, slots := ms9, locals := lo1 } (pC D dA [.ref h, .long ((((xs (i + 1)).toInt64) <<< ((32 : Int32).toInt64 &&& 63)) ||| (((xs (i + 2)).toInt64) &&& 4294967295)), .long ((((xs (i + 3)).toInt64) <<< ((32 : Int32).toInt64 &&& 63)) ||| (((xs (i + 4)).toInt64) &&& 4294967295)), .int (xs (i + 5)), .ref o] (([(o, .inl (dA 2, 1, .inr (.inl og)))] : va_W) ++ (VW dA h ad x)) sz) (va_Qi (fun (r9 : Int32) (u9 : VS) => r9 = nI k9 ∧ F9 u9) (fun (u9 : VS) t9 => bW D (va_A (([(o, .inl (dA 2, 1, .inr (.inl og)))] : va_W) ++ (VW dA h ad x)) sz) (([(o, .inl (dA 2, 1, .inr (.inl (og))))] : va_W) ++ (VW dA h ad u9)) t9) (va_A (([(o, .inl (dA 2, 1, .inr (.inl og)))] : va_W) ++ (VW dA h ad x)) sz)) mc9 ms9 (va_A (([(o, .inl (dA 2, 1, .inr (.inl og)))] : va_W) ++ (VW dA h ad x)) sz)) (hM : ∀ sz : Nat, Met l ⟨"SeriesVaultModel", "ask", "(JJI)I"⟩ [Cond.code ⟨"SeriesVaultModel", "ask", "(JJI)I"⟩ prog_14_method_91_code 7 (some FieldType.int)] { frames := fr2, cells := 0, slots := 0, locals := lo2 } (pC D dA [.ref mm, .long ((((xs (i + 1)).toInt64) <<< ((32 : Int32).toInt64 &&& 63)) ||| (((xs (i + 2)).toInt64) &&& 4294967295)), .long ((((xs (i + 3)).toInt64) <<< ((32 : Int32).toInt64 &&& 63)) ||| (((xs (i + 4)).toInt64) &&& 4294967295)), .int (xs (i + 5))] (MW dA mm mad M) sz) (va_Qi (fun (r9 : Int32) (u9 : Unit) => r9 = b9) (fun (u9 : Unit) t9 => bW D (va_A (MW dA mm mad M) sz) (MW dA mm mad M1) t9) (va_A (MW dA mm mad M) sz)) 0 0 (va_A (MW dA mm mad M) sz)) (hP : va_P D vwCl (MW dA mm mad M ++ (([(o, .inl (dA 2, 1, .inr (.inl og)))] : va_W) ++ (VW dA h ad x))) H) (hD : va_D A (MW dA mm mad M ++ (([(o, .inl (dA 2, 1, .inr (.inl og)))] : va_W) ++ (VW dA h ad x)))) (hS : va_S A s.heap H locs) (hl : lv_has ls 8 [(4, .int (nI i)), (3, .ref o), (2, .ref mm), (1, .ref h), (0, .ref b)]) (cont : ∀ (u : VS) (H1 : Heap) (locs1 : List Loc) (ls1 : Array Slot), F9 u → va_P D vwCl (MW dA mm mad M1 ++ (([(o, .inl (dA 2, 1, .inr (.inl og)))] : va_W) ++ (VW dA h ad u))) H1 → va_D A (MW dA mm mad M1 ++ (([(o, .inl (dA 2, 1, .inr (.inl og)))] : va_W) ++ (VW dA h ad u))) → va_S A s.heap H1 locs1 → lv_has ls1 8 [(4, .int (nI (i + 6))), (3, .ref o), (2, .ref mm), (1, .ref h), (0, .ref b)] → W p l e room_1 s m #[Value.ref b] below meth c H1 locs1 (cells + mc9 + 0 + 0) (slots + ms9 + 0 + 0) (lw_Z below #[Value.ref b] s) (F0 m 23 ls1 [])) : W p l e room_1 s m #[Value.ref b] below meth c H locs cells slots (lw_Z below #[Value.ref b] s) (F0 m 1095 ls []) := by
  have hC0 := hC
  obtain ⟨hx, hb, hr, hml, hown, hlk, hE, hK, hA, hN, hZ, hT, hX, hbl, hbA, hnew, htr⟩ := hC
  refine lv_aload_n hx hb d_SeriesVaultLaw_law_1095 rfl (lv_at hl 3 rfl) ?_
  refine lv_aload_n hx hb d_SeriesVaultLaw_law_1096 rfl (lv_at hl 4 rfl) ?_
  refine lv_iload hx hb d_SeriesVaultLaw_law_1097 (lv_at hl 0 rfl) ?_
  refine lv_iconst (v := 1) hx hb d_SeriesVaultLaw_law_1099 (by decide) ?_
  refine lv_iadd hx hb d_SeriesVaultLaw_law_1100 (tpi (y := nI (i + 1)) (nI_add (i) (1)) ?_)
  refine sldN hx hb hX hbl hbA hS (show i + 1 < L by omega) (show L ≤ 65536 by omega) d_SeriesVaultLaw_law_1101 ?_
  refine lv_i2l hx hb d_SeriesVaultLaw_law_1102 rfl ?_
  refine lv_bipush (v := 32) hx hb d_SeriesVaultLaw_law_1103 (by decide) ?_
  refine lv_lshl hx hb d_SeriesVaultLaw_law_1105 rfl ?_
  refine lv_aload_n hx hb d_SeriesVaultLaw_law_1106 rfl (lv_at hl 4 rfl) ?_
  refine lv_iload hx hb d_SeriesVaultLaw_law_1107 (lv_at hl 0 rfl) ?_
  refine lv_iconst (v := 2) hx hb d_SeriesVaultLaw_law_1109 (by decide) ?_
  refine lv_iadd hx hb d_SeriesVaultLaw_law_1110 (tpi (y := nI (i + 2)) (nI_add (i) (2)) ?_)
  refine sldN hx hb hX hbl hbA hS (show i + 2 < L by omega) (show L ≤ 65536 by omega) d_SeriesVaultLaw_law_1111 ?_
  refine lv_i2l hx hb d_SeriesVaultLaw_law_1112 rfl ?_
  refine lv_ldc2 (v := 4294967295) hx hb hown (hE.t w1839 rfl) d_SeriesVaultLaw_law_1113 ?_
  refine lv_land hx hb d_SeriesVaultLaw_law_1116 ?_
  refine lv_lor hx hb d_SeriesVaultLaw_law_1117 ?_
  refine lv_aload_n hx hb d_SeriesVaultLaw_law_1118 rfl (lv_at hl 4 rfl) ?_
  refine lv_iload hx hb d_SeriesVaultLaw_law_1119 (lv_at hl 0 rfl) ?_
  refine lv_iconst (v := 3) hx hb d_SeriesVaultLaw_law_1121 (by decide) ?_
  refine lv_iadd hx hb d_SeriesVaultLaw_law_1122 (tpi (y := nI (i + 3)) (nI_add (i) (3)) ?_)
  refine sldN hx hb hX hbl hbA hS (show i + 3 < L by omega) (show L ≤ 65536 by omega) d_SeriesVaultLaw_law_1123 ?_
  refine lv_i2l hx hb d_SeriesVaultLaw_law_1124 rfl ?_
  refine lv_bipush (v := 32) hx hb d_SeriesVaultLaw_law_1125 (by decide) ?_
  refine lv_lshl hx hb d_SeriesVaultLaw_law_1127 rfl ?_
  refine lv_aload_n hx hb d_SeriesVaultLaw_law_1128 rfl (lv_at hl 4 rfl) ?_
  refine lv_iload hx hb d_SeriesVaultLaw_law_1129 (lv_at hl 0 rfl) ?_
  refine lv_iconst (v := 4) hx hb d_SeriesVaultLaw_law_1131 (by decide) ?_
  refine lv_iadd hx hb d_SeriesVaultLaw_law_1132 (tpi (y := nI (i + 4)) (nI_add (i) (4)) ?_)
  refine sldN hx hb hX hbl hbA hS (show i + 4 < L by omega) (show L ≤ 65536 by omega) d_SeriesVaultLaw_law_1133 ?_
  refine lv_i2l hx hb d_SeriesVaultLaw_law_1134 rfl ?_
  refine lv_ldc2 (v := 4294967295) hx hb hown (hE.t w1839 rfl) d_SeriesVaultLaw_law_1135 ?_
  refine lv_land hx hb d_SeriesVaultLaw_law_1138 ?_
  refine lv_lor hx hb d_SeriesVaultLaw_law_1139 ?_
  refine lv_aload_n hx hb d_SeriesVaultLaw_law_1140 rfl (lv_at hl 4 rfl) ?_
  refine lv_iload hx hb d_SeriesVaultLaw_law_1141 (lv_at hl 0 rfl) ?_
  refine lv_iconst (v := 5) hx hb d_SeriesVaultLaw_law_1143 (by decide) ?_
  refine lv_iadd hx hb d_SeriesVaultLaw_law_1144 (tpi (y := nI (i + 5)) (nI_add (i) (5)) ?_)
  refine sldN hx hb hX hbl hbA hS (show i + 5 < L by omega) (show L ≤ 65536 by omega) d_SeriesVaultLaw_law_1145 ?_
  refine lv_aload_n hx hb d_SeriesVaultLaw_law_1146 rfl (lv_at hl 1 rfl) ?_
  have hPc : va_P D vwCl (([(o, .inl (dA 2, 1, .inr (.inl og)))] : va_W) ++ (VW dA h ad x)) H := spP (wr := MW dA mm mad M) hP
  have hDc : va_D A (([(o, .inl (dA 2, 1, .inr (.inl og)))] : va_W) ++ (VW dA h ad x)) := spD (wr := MW dA mm mad M) hD
  refine jkI (wr := MW dA mm mad M) (rnW (As := [.ref h, .long ((((xs (i + 1)).toInt64) <<< ((32 : Int32).toInt64 &&& 63)) ||| (((xs (i + 2)).toInt64) &&& 4294967295)), .long ((((xs (i + 3)).toInt64) <<< ((32 : Int32).toInt64 &&& 63)) ||| (((xs (i + 4)).toInt64) &&& 4294967295)), .int (xs (i + 5)), .ref o]) (rest := []) hx hb hml hown hE hK (hN _ _ hS) hPc hDc (hW H.size) w1890 w1889 w1891 w1793 rfl rfl ⟨⟨by decide, by decide⟩, rfl⟩ ⟨(show fr1 + 1 ≤ 2048 by omega), (show 8 + (8 + 11) + lo1 ≤ 84000 by omega)⟩ rfl hl.1 rfl (Nat.le_of_ble_eq_true rfl) d_SeriesVaultLaw_law_1147 ⟨(show cells + mc9 ≤ 601024 by omega), (show slots + ms9 ≤ 7293034 by omega)⟩) hP hD hS hA (fun k8 u8 H locs hp9 hP hD hS => ?_)
  obtain ⟨hp9, hf9⟩ := hp9
  replace hp9 : nI k9 = k8 := Eq.symm hp9
  subst hp9
  have hP : va_P D vwCl (MW dA mm mad M ++ (([(o, .inl (dA 2, 1, .inr (.inl og)))] : va_W) ++ (VW dA h ad u8))) H := hP
  have hD : va_D A (MW dA mm mad M ++ (([(o, .inl (dA 2, 1, .inr (.inl og)))] : va_W) ++ (VW dA h ad u8))) := hD
  refine lv_istore hx hb d_SeriesVaultLaw_law_1150 hl (by decide) rfl (fun ls hl => ?_)
  have hl : lv_has ls 8 [(5, .int (nI k9)), (4, .int (nI i)), (3, .ref o), (2, .ref mm), (1, .ref h), (0, .ref b)] := hl
  refine lv_aload_n hx hb d_SeriesVaultLaw_law_1152 rfl (lv_at hl 3 rfl) ?_
  refine lv_aload_n hx hb d_SeriesVaultLaw_law_1153 rfl (lv_at hl 5 rfl) ?_
  refine lv_iload hx hb d_SeriesVaultLaw_law_1154 (lv_at hl 1 rfl) ?_
  refine lv_iconst (v := 1) hx hb d_SeriesVaultLaw_law_1156 (by decide) ?_
  refine lv_iadd hx hb d_SeriesVaultLaw_law_1157 (tpi (y := nI (i + 1)) (nI_add (i) (1)) ?_)
  refine sldN hx hb hX hbl hbA hS (show i + 1 < L by omega) (show L ≤ 65536 by omega) d_SeriesVaultLaw_law_1158 ?_
  refine lv_i2l hx hb d_SeriesVaultLaw_law_1159 rfl ?_
  refine lv_bipush (v := 32) hx hb d_SeriesVaultLaw_law_1160 (by decide) ?_
  refine lv_lshl hx hb d_SeriesVaultLaw_law_1162 rfl ?_
  refine lv_aload_n hx hb d_SeriesVaultLaw_law_1163 rfl (lv_at hl 5 rfl) ?_
  refine lv_iload hx hb d_SeriesVaultLaw_law_1164 (lv_at hl 1 rfl) ?_
  refine lv_iconst (v := 2) hx hb d_SeriesVaultLaw_law_1166 (by decide) ?_
  refine lv_iadd hx hb d_SeriesVaultLaw_law_1167 (tpi (y := nI (i + 2)) (nI_add (i) (2)) ?_)
  refine sldN hx hb hX hbl hbA hS (show i + 2 < L by omega) (show L ≤ 65536 by omega) d_SeriesVaultLaw_law_1168 ?_
  refine lv_i2l hx hb d_SeriesVaultLaw_law_1169 rfl ?_
  refine lv_ldc2 (v := 4294967295) hx hb hown (hE.t w1839 rfl) d_SeriesVaultLaw_law_1170 ?_
  refine lv_land hx hb d_SeriesVaultLaw_law_1173 ?_
  refine lv_lor hx hb d_SeriesVaultLaw_law_1174 ?_
  refine lv_aload_n hx hb d_SeriesVaultLaw_law_1175 rfl (lv_at hl 5 rfl) ?_
  refine lv_iload hx hb d_SeriesVaultLaw_law_1176 (lv_at hl 1 rfl) ?_
  refine lv_iconst (v := 3) hx hb d_SeriesVaultLaw_law_1178 (by decide) ?_
  refine lv_iadd hx hb d_SeriesVaultLaw_law_1179 (tpi (y := nI (i + 3)) (nI_add (i) (3)) ?_)
  refine sldN hx hb hX hbl hbA hS (show i + 3 < L by omega) (show L ≤ 65536 by omega) d_SeriesVaultLaw_law_1180 ?_
  refine lv_i2l hx hb d_SeriesVaultLaw_law_1181 rfl ?_
  refine lv_bipush (v := 32) hx hb d_SeriesVaultLaw_law_1182 (by decide) ?_
  refine lv_lshl hx hb d_SeriesVaultLaw_law_1184 rfl ?_
  refine lv_aload_n hx hb d_SeriesVaultLaw_law_1185 rfl (lv_at hl 5 rfl) ?_
  refine lv_iload hx hb d_SeriesVaultLaw_law_1186 (lv_at hl 1 rfl) ?_
  refine lv_iconst (v := 4) hx hb d_SeriesVaultLaw_law_1188 (by decide) ?_
  refine lv_iadd hx hb d_SeriesVaultLaw_law_1189 (tpi (y := nI (i + 4)) (nI_add (i) (4)) ?_)
  refine sldN hx hb hX hbl hbA hS (show i + 4 < L by omega) (show L ≤ 65536 by omega) d_SeriesVaultLaw_law_1190 ?_
  refine lv_i2l hx hb d_SeriesVaultLaw_law_1191 rfl ?_
  refine lv_ldc2 (v := 4294967295) hx hb hown (hE.t w1839 rfl) d_SeriesVaultLaw_law_1192 ?_
  refine lv_land hx hb d_SeriesVaultLaw_law_1195 ?_
  refine lv_lor hx hb d_SeriesVaultLaw_law_1196 ?_
  refine lv_aload_n hx hb d_SeriesVaultLaw_law_1197 rfl (lv_at hl 5 rfl) ?_
  refine lv_iload hx hb d_SeriesVaultLaw_law_1198 (lv_at hl 1 rfl) ?_
  refine lv_iconst (v := 5) hx hb d_SeriesVaultLaw_law_1200 (by decide) ?_
  refine lv_iadd hx hb d_SeriesVaultLaw_law_1201 (tpi (y := nI (i + 5)) (nI_add (i) (5)) ?_)
  refine sldN hx hb hX hbl hbA hS (show i + 5 < L by omega) (show L ≤ 65536 by omega) d_SeriesVaultLaw_law_1202 ?_
  have hP := pmP (show List.Perm (α := Nat × va_E) (MW dA mm mad M ++ (([(o, .inl (dA 2, 1, .inr (.inl og)))] : va_W) ++ (VW dA h ad u8))) (([(o, .inl (dA 2, 1, .inr (.inl og)))] : va_W) ++ (MW dA mm mad M ++ (VW dA h ad u8))) from List.perm_append_comm_assoc (MW dA mm mad M) (([(o, .inl (dA 2, 1, .inr (.inl og)))] : va_W)) (VW dA h ad u8)) hP
  have hD := pmD (show List.Perm (α := Nat × va_E) (MW dA mm mad M ++ (([(o, .inl (dA 2, 1, .inr (.inl og)))] : va_W) ++ (VW dA h ad u8))) (([(o, .inl (dA 2, 1, .inr (.inl og)))] : va_W) ++ (MW dA mm mad M ++ (VW dA h ad u8))) from List.perm_append_comm_assoc (MW dA mm mad M) (([(o, .inl (dA 2, 1, .inr (.inl og)))] : va_W)) (VW dA h ad u8)) hD
  have hP := pmP (show List.Perm (α := Nat × va_E) (([(o, .inl (dA 2, 1, .inr (.inl og)))] : va_W) ++ (MW dA mm mad M ++ (VW dA h ad u8))) (([(o, .inl (dA 2, 1, .inr (.inl og)))] : va_W) ++ (VW dA h ad u8 ++ (MW dA mm mad M))) from List.Perm.append_left (([(o, .inl (dA 2, 1, .inr (.inl og)))] : va_W)) (List.perm_append_comm)) hP
  have hD := pmD (show List.Perm (α := Nat × va_E) (([(o, .inl (dA 2, 1, .inr (.inl og)))] : va_W) ++ (MW dA mm mad M ++ (VW dA h ad u8))) (([(o, .inl (dA 2, 1, .inr (.inl og)))] : va_W) ++ (VW dA h ad u8 ++ (MW dA mm mad M))) from List.Perm.append_left (([(o, .inl (dA 2, 1, .inr (.inl og)))] : va_W)) (List.perm_append_comm)) hD
  have hPc : va_P D vwCl (MW dA mm mad M) H := spP (wr := ([(o, .inl (dA 2, 1, .inr (.inl og)))] : va_W) ++ (VW dA h ad u8)) hP
  have hDc : va_D A (MW dA mm mad M) := spD (wr := ([(o, .inl (dA 2, 1, .inr (.inl og)))] : va_W) ++ (VW dA h ad u8)) hD
  refine jkI (wr := ([(o, .inl (dA 2, 1, .inr (.inl og)))] : va_W) ++ (VW dA h ad u8)) (rnV (As := [.long ((((xs (i + 1)).toInt64) <<< ((32 : Int32).toInt64 &&& 63)) ||| (((xs (i + 2)).toInt64) &&& 4294967295)), .long ((((xs (i + 3)).toInt64) <<< ((32 : Int32).toInt64 &&& 63)) ||| (((xs (i + 4)).toInt64) &&& 4294967295)), .int (xs (i + 5))]) (rest := []) hx hb hml hown hE hK (hN _ _ hS) hPc hDc (hM H.size) (q0 := 0) rfl rfl w1893 w1892 w1894 w1895 w328 rfl rfl ⟨⟨by decide, by decide⟩, rfl⟩ ⟨(show fr2 + 1 ≤ 2048 by omega), (show 8 + (7 + 11) + lo2 ≤ 84000 by omega)⟩ rfl hl.1 rfl (Nat.le_of_ble_eq_true rfl) d_SeriesVaultLaw_law_1203 ⟨(show cells + mc9 + 0 ≤ 601024 by omega), (show slots + ms9 + 0 ≤ 7293034 by omega)⟩) hP hD hS hA (fun r7 u7 H locs hp9 hP hD hS => ?_)
  replace hp9 : b9 = r7 := Eq.symm hp9
  subst hp9
  have hP : va_P D vwCl (([(o, .inl (dA 2, 1, .inr (.inl og)))] : va_W) ++ (VW dA h ad u8 ++ (MW dA mm mad M1))) H := hP
  have hD : va_D A (([(o, .inl (dA 2, 1, .inr (.inl og)))] : va_W) ++ (VW dA h ad u8 ++ (MW dA mm mad M1))) := hD
  refine lv_istore hx hb d_SeriesVaultLaw_law_1206 hl (by decide) rfl (fun ls hl => ?_)
  have hl : lv_has ls 8 [(6, .int b9), (5, .int (nI k9)), (4, .int (nI i)), (3, .ref o), (2, .ref mm), (1, .ref h), (0, .ref b)] := hl
  refine lv_aload_n hx hb d_SeriesVaultLaw_law_1208 rfl (lv_at hl 4 rfl) ?_
  have hPc : va_P D vwCl (MW dA mm mad M1) H := spP (wr := ([(o, .inl (dA 2, 1, .inr (.inl og)))] : va_W) ++ (VW dA h ad u8)) hP
  have hDc : va_D A (MW dA mm mad M1) := spD (wr := ([(o, .inl (dA 2, 1, .inr (.inl og)))] : va_W) ++ (VW dA h ad u8)) hD
  refine jkI (wr := ([(o, .inl (dA 2, 1, .inr (.inl og)))] : va_W) ++ (VW dA h ad u8)) (rnV (As := []) (rest := []) hx hb hml hown hE hK (hN _ _ hS) hPc hDc (k_thrown l D dA H.size mm mad M1) (q0 := 0) rfl rfl w1801 w1800 w1802 w1803 w328 rfl rfl ⟨⟨by decide, by decide⟩, rfl⟩ ⟨(show 1 + 1 ≤ 2048 by omega), (show 8 + (1 + 11) + 0 ≤ 84000 by omega)⟩ rfl hl.1 rfl (Nat.le_of_ble_eq_true rfl) d_SeriesVaultLaw_law_1209 ⟨(show cells + mc9 + 0 ≤ 601024 by omega), (show slots + ms9 + 0 ≤ 7293034 by omega)⟩) hP hD hS hA (fun r7 u7 H locs hp9 hP hD hS => ?_)
  replace hp9 : nI k9 = r7 := Eq.symm (hp9.trans hcod)
  subst hp9
  have hP : va_P D vwCl (([(o, .inl (dA 2, 1, .inr (.inl og)))] : va_W) ++ (VW dA h ad u8 ++ (MW dA mm mad M1))) H := hP
  have hD : va_D A (([(o, .inl (dA 2, 1, .inr (.inl og)))] : va_W) ++ (VW dA h ad u8 ++ (MW dA mm mad M1))) := hD
  refine lv_iload hx hb d_SeriesVaultLaw_law_1212 (lv_at hl 1 rfl) ?_
  refine lv_icmp_eq hx hb d_SeriesVaultLaw_law_1214 (tgt := 1219) rfl (fun _ => ?_) (fun h9 => absurd rfl h9)
  refine lv_iload hx hb d_SeriesVaultLaw_law_1219 (lv_at hl 1 rfl) ?_
  refine lv_if_ne hx hb d_SeriesVaultLaw_law_1221 (tgt := 1236) rfl (fun _ => ?_) (fun h9 => absurd h9 hk9)
  refine lv_goto hx hb d_SeriesVaultLaw_law_1236 (tgt := 1770) rfl ?_
  refine lv_iinc (k := 2) (v := nI (i + 6)) hx hb d_SeriesVaultLaw_law_1770 hl rfl (iincN (i) 6 6 (by decide)) (by decide) rfl (fun ls hl => ?_)
  have hl : lv_has ls 8 [(4, .int (nI (i + 6))), (6, .int b9), (5, .int (nI k9)), (3, .ref o), (2, .ref mm), (1, .ref h), (0, .ref b)] := hl
  refine lv_goto hx hb d_SeriesVaultLaw_law_1773 (tgt := 23) rfl ?_
  have hP := pmP (show List.Perm (α := Nat × va_E) (([(o, .inl (dA 2, 1, .inr (.inl og)))] : va_W) ++ (VW dA h ad u8 ++ (MW dA mm mad M1))) (MW dA mm mad M1 ++ (([(o, .inl (dA 2, 1, .inr (.inl og)))] : va_W) ++ (VW dA h ad u8))) from (List.Perm.append_left (([(o, .inl (dA 2, 1, .inr (.inl og)))] : va_W)) (List.perm_append_comm)).trans (List.perm_append_comm_assoc (([(o, .inl (dA 2, 1, .inr (.inl og)))] : va_W)) (MW dA mm mad M1) (VW dA h ad u8))) hP
  have hD := pmD (show List.Perm (α := Nat × va_E) (([(o, .inl (dA 2, 1, .inr (.inl og)))] : va_W) ++ (VW dA h ad u8 ++ (MW dA mm mad M1))) (MW dA mm mad M1 ++ (([(o, .inl (dA 2, 1, .inr (.inl og)))] : va_W) ++ (VW dA h ad u8))) from (List.Perm.append_left (([(o, .inl (dA 2, 1, .inr (.inl og)))] : va_W)) (List.perm_append_comm)).trans (List.perm_append_comm_assoc (([(o, .inl (dA 2, 1, .inr (.inl og)))] : va_W)) (MW dA mm mad M1) (VW dA h ad u8))) hD
  have hP : va_P D vwCl (MW dA mm mad M1 ++ (([(o, .inl (dA 2, 1, .inr (.inl og)))] : va_W) ++ (VW dA h ad u8))) H := hP
  have hD : va_D A (MW dA mm mad M1 ++ (([(o, .inl (dA 2, 1, .inr (.inl og)))] : va_W) ++ (VW dA h ad u8))) := hD
  have hl := lv_sub (l' := [(4, .int (nI (i + 6))), (3, .ref o), (2, .ref mm), (1, .ref h), (0, .ref b)]) hl [0, 3, 4, 5, 6] rfl
  exact cont u8 H locs ls hf9 hP hD hS hl
theorem d_SeriesVaultLaw_law_1239 : decode code 1239 = .ok (.aload_n 1, 1) := by decide +kernel
theorem d_SeriesVaultLaw_law_1240 : decode code 1240 = .ok (.invokevirtual 162, 3) := by decide +kernel
theorem d_SeriesVaultLaw_law_1243 : decode code 1243 = .ok (.aload_n 2, 1) := by decide +kernel
theorem d_SeriesVaultLaw_law_1244 : decode code 1244 = .ok (.invokevirtual 165, 3) := by decide +kernel
theorem d_SeriesVaultLaw_law_1247 : decode code 1247 = .ok (.if_icmp .eq 523, 3) := by decide +kernel
theorem w1896 : Cond.methodLink "SeriesVaultLaw" 162 ⟨"SeriesVault", "names", "()I"⟩ ∈ aW := aw_of (tb_3 (List.mem_of_getElem? (i := 24) rfl)) rfl
theorem w1897 : Cond.code ⟨"SeriesVault", "names", "()I"⟩ prog_1_method_46_code 1 (some FieldType.int) ∈ aW := aw_of (tb_3 (List.mem_of_getElem? (i := 27) rfl)) rfl
theorem w1898 : Cond.instanceMethod ⟨"SeriesVault", "names", "()I"⟩ ∈ aW := aw_of (tb_3 (List.mem_of_getElem? (i := 25) rfl)) rfl
theorem w1899 : Cond.selects "SeriesVault" ⟨"SeriesVault", "names", "()I"⟩ ⟨"SeriesVault", "names", "()I"⟩ ∈ aW := aw_of (tb_3 (List.mem_of_getElem? (i := 26) rfl)) rfl
theorem w1900 : Cond.methodLink "SeriesVaultLaw" 165 ⟨"SeriesVaultModel", "names", "()I"⟩ ∈ aW := aw_of (tb_11 (List.mem_of_getElem? (i := 59) rfl)) rfl
theorem w1901 : Cond.code ⟨"SeriesVaultModel", "names", "()I"⟩ prog_14_method_92_code 1 (some FieldType.int) ∈ aW := aw_of (tb_11 (List.mem_of_getElem? (i := 62) rfl)) rfl
theorem w1902 : Cond.instanceMethod ⟨"SeriesVaultModel", "names", "()I"⟩ ∈ aW := aw_of (tb_11 (List.mem_of_getElem? (i := 60) rfl)) rfl
theorem w1903 : Cond.selects "SeriesVaultModel" ⟨"SeriesVaultModel", "names", "()I"⟩ ⟨"SeriesVaultModel", "names", "()I"⟩ ∈ aW := aw_of (tb_11 (List.mem_of_getElem? (i := 61) rfl)) rfl
set_option maxHeartbeats 4000000 in
set_option maxRecDepth 100000 in
theorem l9_14 {p : Program} {e : Env} {s : State} {m : MethodId} {below : List Frame} {meth : Method} {c : Code} (l : Launch) {b L : Nat} {xs : Nat → Int32} {D : va_G} {dA : Nat → ClassId} {e0 : Nat} {A : Nat → Prop} {H : Heap} {locs : List Loc} {ls : Array Slot} (hC : lS p l s m meth c b L xs D dA e0 A) {h : Nat} {ad : Nat → Nat} {x : VS} {mm : Nat} {mad : Nat → Nat} {M M1 : MS} {o : Nat} {og : Nat → Int64} {i fr1 lo1 fr2 lo2 mc9 ms9 cells slots : Nat} {F9 : VS → Prop} {b9 : Int32} (hi : i + 6 ≤ L) (hL : L ≤ 3072) (hfr : fr1 ≤ 2000 ∧ lo1 ≤ 80000 ∧ fr2 ≤ 2000 ∧ lo2 ≤ 80000) (hrm : cells + mc9 ≤ 601024 ∧ slots + ms9 ≤ 7293034) (hW : ∀ sz : Nat, Met l ⟨"SeriesVault", "names", "()I"⟩ [Cond.code ⟨"SeriesVault", "names", "()I"⟩ prog_1_method_46_code 1 (some FieldType.int)] { frames := fr1, cells := mc9, slots := ms9, locals := lo1 } (pC D dA [.ref h] (VW dA h ad x) sz) (va_Qi (fun (r9 : Int32) (u9 : VS) => r9 = b9 ∧ F9 u9) (fun (u9 : VS) t9 => bW D (va_A (VW dA h ad x) sz) (VW dA h ad u9) t9) (va_A (VW dA h ad x) sz)) mc9 ms9 (va_A (VW dA h ad x) sz)) (hM : ∀ sz : Nat, Met l ⟨"SeriesVaultModel", "names", "()I"⟩ [Cond.code ⟨"SeriesVaultModel", "names", "()I"⟩ prog_14_method_92_code 1 (some FieldType.int)] { frames := fr2, cells := 0, slots := 0, locals := lo2 } (pC D dA [.ref mm] (MW dA mm mad M) sz) (va_Qi (fun (r9 : Int32) (u9 : Unit) => r9 = b9) (fun (u9 : Unit) t9 => bW D (va_A (MW dA mm mad M) sz) (MW dA mm mad M1) t9) (va_A (MW dA mm mad M) sz)) 0 0 (va_A (MW dA mm mad M) sz)) (hP : va_P D vwCl (MW dA mm mad M ++ (([(o, .inl (dA 2, 1, .inr (.inl og)))] : va_W) ++ (VW dA h ad x))) H) (hD : va_D A (MW dA mm mad M ++ (([(o, .inl (dA 2, 1, .inr (.inl og)))] : va_W) ++ (VW dA h ad x)))) (hS : va_S A s.heap H locs) (hl : lv_has ls 8 [(4, .int (nI i)), (3, .ref o), (2, .ref mm), (1, .ref h), (0, .ref b)]) (cont : ∀ (u : VS) (H1 : Heap) (locs1 : List Loc) (ls1 : Array Slot), F9 u → va_P D vwCl (MW dA mm mad M1 ++ (([(o, .inl (dA 2, 1, .inr (.inl og)))] : va_W) ++ (VW dA h ad u))) H1 → va_D A (MW dA mm mad M1 ++ (([(o, .inl (dA 2, 1, .inr (.inl og)))] : va_W) ++ (VW dA h ad u))) → va_S A s.heap H1 locs1 → lv_has ls1 8 [(4, .int (nI (i + 6))), (3, .ref o), (2, .ref mm), (1, .ref h), (0, .ref b)] → W p l e room_1 s m #[Value.ref b] below meth c H1 locs1 (cells + mc9 + 0) (slots + ms9 + 0) (lw_Z below #[Value.ref b] s) (F0 m 23 ls1 [])) : W p l e room_1 s m #[Value.ref b] below meth c H locs cells slots (lw_Z below #[Value.ref b] s) (F0 m 1239 ls []) := by
  have hC0 := hC
  obtain ⟨hx, hb, hr, hml, hown, hlk, hE, hK, hA, hN, hZ, hT, hX, hbl, hbA, hnew, htr⟩ := hC
  refine lv_aload_n hx hb d_SeriesVaultLaw_law_1239 rfl (lv_at hl 3 rfl) ?_
  have hPc : va_P D vwCl (VW dA h ad x) H := spP (wr := MW dA mm mad M ++ (([(o, .inl (dA 2, 1, .inr (.inl og)))] : va_W))) hP
  have hDc : va_D A (VW dA h ad x) := spD (wr := MW dA mm mad M ++ (([(o, .inl (dA 2, 1, .inr (.inl og)))] : va_W))) hD
  refine jkI (wr := MW dA mm mad M ++ (([(o, .inl (dA 2, 1, .inr (.inl og)))] : va_W))) (rnV (As := []) (rest := []) hx hb hml hown hE hK (hN _ _ hS) hPc hDc (hW H.size) (q0 := 0) rfl rfl w1897 w1896 w1898 w1899 w277 rfl rfl ⟨⟨by decide, by decide⟩, rfl⟩ ⟨(show fr1 + 1 ≤ 2048 by omega), (show 8 + (1 + 11) + lo1 ≤ 84000 by omega)⟩ rfl hl.1 rfl (Nat.le_of_ble_eq_true rfl) d_SeriesVaultLaw_law_1240 ⟨(show cells + mc9 ≤ 601024 by omega), (show slots + ms9 ≤ 7293034 by omega)⟩) hP hD hS hA (fun k8 u8 H locs hp9 hP hD hS => ?_)
  obtain ⟨hp9, hf9⟩ := hp9
  replace hp9 : b9 = k8 := Eq.symm hp9
  subst hp9
  have hP : va_P D vwCl (MW dA mm mad M ++ (([(o, .inl (dA 2, 1, .inr (.inl og)))] : va_W) ++ (VW dA h ad u8))) H := hP
  have hD : va_D A (MW dA mm mad M ++ (([(o, .inl (dA 2, 1, .inr (.inl og)))] : va_W) ++ (VW dA h ad u8))) := hD
  refine lv_aload_n hx hb d_SeriesVaultLaw_law_1243 rfl (lv_at hl 2 rfl) ?_
  have hP := pmP (show List.Perm (α := Nat × va_E) (MW dA mm mad M ++ (([(o, .inl (dA 2, 1, .inr (.inl og)))] : va_W) ++ (VW dA h ad u8))) (([(o, .inl (dA 2, 1, .inr (.inl og)))] : va_W) ++ (MW dA mm mad M ++ (VW dA h ad u8))) from List.perm_append_comm_assoc (MW dA mm mad M) (([(o, .inl (dA 2, 1, .inr (.inl og)))] : va_W)) (VW dA h ad u8)) hP
  have hD := pmD (show List.Perm (α := Nat × va_E) (MW dA mm mad M ++ (([(o, .inl (dA 2, 1, .inr (.inl og)))] : va_W) ++ (VW dA h ad u8))) (([(o, .inl (dA 2, 1, .inr (.inl og)))] : va_W) ++ (MW dA mm mad M ++ (VW dA h ad u8))) from List.perm_append_comm_assoc (MW dA mm mad M) (([(o, .inl (dA 2, 1, .inr (.inl og)))] : va_W)) (VW dA h ad u8)) hD
  have hP := pmP (show List.Perm (α := Nat × va_E) (([(o, .inl (dA 2, 1, .inr (.inl og)))] : va_W) ++ (MW dA mm mad M ++ (VW dA h ad u8))) (([(o, .inl (dA 2, 1, .inr (.inl og)))] : va_W) ++ (VW dA h ad u8 ++ (MW dA mm mad M))) from List.Perm.append_left (([(o, .inl (dA 2, 1, .inr (.inl og)))] : va_W)) (List.perm_append_comm)) hP
  have hD := pmD (show List.Perm (α := Nat × va_E) (([(o, .inl (dA 2, 1, .inr (.inl og)))] : va_W) ++ (MW dA mm mad M ++ (VW dA h ad u8))) (([(o, .inl (dA 2, 1, .inr (.inl og)))] : va_W) ++ (VW dA h ad u8 ++ (MW dA mm mad M))) from List.Perm.append_left (([(o, .inl (dA 2, 1, .inr (.inl og)))] : va_W)) (List.perm_append_comm)) hD
  have hPc : va_P D vwCl (MW dA mm mad M) H := spP (wr := ([(o, .inl (dA 2, 1, .inr (.inl og)))] : va_W) ++ (VW dA h ad u8)) hP
  have hDc : va_D A (MW dA mm mad M) := spD (wr := ([(o, .inl (dA 2, 1, .inr (.inl og)))] : va_W) ++ (VW dA h ad u8)) hD
  refine jkI (wr := ([(o, .inl (dA 2, 1, .inr (.inl og)))] : va_W) ++ (VW dA h ad u8)) (rnV (As := []) (rest := [.int b9]) hx hb hml hown hE hK (hN _ _ hS) hPc hDc (hM H.size) (q0 := 0) rfl rfl w1901 w1900 w1902 w1903 w328 rfl rfl ⟨⟨by decide, by decide⟩, rfl⟩ ⟨(show fr2 + 1 ≤ 2048 by omega), (show 8 + (1 + 11) + lo2 ≤ 84000 by omega)⟩ rfl hl.1 rfl (Nat.le_of_ble_eq_true rfl) d_SeriesVaultLaw_law_1244 ⟨(show cells + mc9 + 0 ≤ 601024 by omega), (show slots + ms9 + 0 ≤ 7293034 by omega)⟩) hP hD hS hA (fun r7 u7 H locs hp9 hP hD hS => ?_)
  replace hp9 : b9 = r7 := Eq.symm hp9
  subst hp9
  have hP : va_P D vwCl (([(o, .inl (dA 2, 1, .inr (.inl og)))] : va_W) ++ (VW dA h ad u8 ++ (MW dA mm mad M1))) H := hP
  have hD : va_D A (([(o, .inl (dA 2, 1, .inr (.inl og)))] : va_W) ++ (VW dA h ad u8 ++ (MW dA mm mad M1))) := hD
  refine lv_icmp_eq hx hb d_SeriesVaultLaw_law_1247 (tgt := 1770) rfl (fun _ => ?_) (fun h9 => absurd rfl h9)
  refine lv_iinc (k := 0) (v := nI (i + 6)) hx hb d_SeriesVaultLaw_law_1770 hl rfl (iincN (i) 6 6 (by decide)) (by decide) rfl (fun ls hl => ?_)
  have hl : lv_has ls 8 [(4, .int (nI (i + 6))), (3, .ref o), (2, .ref mm), (1, .ref h), (0, .ref b)] := hl
  refine lv_goto hx hb d_SeriesVaultLaw_law_1773 (tgt := 23) rfl ?_
  have hP := pmP (show List.Perm (α := Nat × va_E) (([(o, .inl (dA 2, 1, .inr (.inl og)))] : va_W) ++ (VW dA h ad u8 ++ (MW dA mm mad M1))) (MW dA mm mad M1 ++ (([(o, .inl (dA 2, 1, .inr (.inl og)))] : va_W) ++ (VW dA h ad u8))) from (List.Perm.append_left (([(o, .inl (dA 2, 1, .inr (.inl og)))] : va_W)) (List.perm_append_comm)).trans (List.perm_append_comm_assoc (([(o, .inl (dA 2, 1, .inr (.inl og)))] : va_W)) (MW dA mm mad M1) (VW dA h ad u8))) hP
  have hD := pmD (show List.Perm (α := Nat × va_E) (([(o, .inl (dA 2, 1, .inr (.inl og)))] : va_W) ++ (VW dA h ad u8 ++ (MW dA mm mad M1))) (MW dA mm mad M1 ++ (([(o, .inl (dA 2, 1, .inr (.inl og)))] : va_W) ++ (VW dA h ad u8))) from (List.Perm.append_left (([(o, .inl (dA 2, 1, .inr (.inl og)))] : va_W)) (List.perm_append_comm)).trans (List.perm_append_comm_assoc (([(o, .inl (dA 2, 1, .inr (.inl og)))] : va_W)) (MW dA mm mad M1) (VW dA h ad u8))) hD
  have hP : va_P D vwCl (MW dA mm mad M1 ++ (([(o, .inl (dA 2, 1, .inr (.inl og)))] : va_W) ++ (VW dA h ad u8))) H := hP
  have hD : va_D A (MW dA mm mad M1 ++ (([(o, .inl (dA 2, 1, .inr (.inl og)))] : va_W) ++ (VW dA h ad u8))) := hD
  have hl := lv_sub (l' := [(4, .int (nI (i + 6))), (3, .ref o), (2, .ref mm), (1, .ref h), (0, .ref b)]) hl [0, 1, 2, 3, 4] rfl
  exact cont u8 H locs ls hf9 hP hD hS hl
theorem d_SeriesVaultLaw_law_1252 : decode code 1252 = .ok (.aload_n 1, 1) := by decide +kernel
theorem d_SeriesVaultLaw_law_1253 : decode code 1253 = .ok (.aload_n 0, 1) := by decide +kernel
theorem d_SeriesVaultLaw_law_1254 : decode code 1254 = .ok (.iload 4, 2) := by decide +kernel
theorem d_SeriesVaultLaw_law_1256 : decode code 1256 = .ok (.iconst 1, 1) := by decide +kernel
theorem d_SeriesVaultLaw_law_1257 : decode code 1257 = .ok (.iadd, 1) := by decide +kernel
theorem d_SeriesVaultLaw_law_1258 : decode code 1258 = .ok (.iaload, 1) := by decide +kernel
theorem d_SeriesVaultLaw_law_1259 : decode code 1259 = .ok (.aload_n 0, 1) := by decide +kernel
theorem d_SeriesVaultLaw_law_1260 : decode code 1260 = .ok (.iload 4, 2) := by decide +kernel
theorem d_SeriesVaultLaw_law_1262 : decode code 1262 = .ok (.iconst 2, 1) := by decide +kernel
theorem d_SeriesVaultLaw_law_1263 : decode code 1263 = .ok (.iadd, 1) := by decide +kernel
theorem d_SeriesVaultLaw_law_1264 : decode code 1264 = .ok (.iaload, 1) := by decide +kernel
theorem d_SeriesVaultLaw_law_1265 : decode code 1265 = .ok (.aload_n 0, 1) := by decide +kernel
theorem d_SeriesVaultLaw_law_1266 : decode code 1266 = .ok (.iload 4, 2) := by decide +kernel
theorem d_SeriesVaultLaw_law_1268 : decode code 1268 = .ok (.iconst 3, 1) := by decide +kernel
theorem d_SeriesVaultLaw_law_1269 : decode code 1269 = .ok (.iadd, 1) := by decide +kernel
theorem d_SeriesVaultLaw_law_1270 : decode code 1270 = .ok (.iaload, 1) := by decide +kernel
theorem d_SeriesVaultLaw_law_1271 : decode code 1271 = .ok (.aload_n 3, 1) := by decide +kernel
theorem d_SeriesVaultLaw_law_1272 : decode code 1272 = .ok (.invokestatic 166, 3) := by decide +kernel
theorem d_SeriesVaultLaw_law_1275 : decode code 1275 = .ok (.istore 5, 2) := by decide +kernel
theorem d_SeriesVaultLaw_law_1277 : decode code 1277 = .ok (.aload_n 2, 1) := by decide +kernel
theorem d_SeriesVaultLaw_law_1278 : decode code 1278 = .ok (.aload_n 0, 1) := by decide +kernel
theorem d_SeriesVaultLaw_law_1279 : decode code 1279 = .ok (.iload 4, 2) := by decide +kernel
theorem d_SeriesVaultLaw_law_1281 : decode code 1281 = .ok (.iconst 1, 1) := by decide +kernel
theorem d_SeriesVaultLaw_law_1282 : decode code 1282 = .ok (.iadd, 1) := by decide +kernel
theorem d_SeriesVaultLaw_law_1283 : decode code 1283 = .ok (.iaload, 1) := by decide +kernel
theorem d_SeriesVaultLaw_law_1284 : decode code 1284 = .ok (.aload_n 0, 1) := by decide +kernel
theorem d_SeriesVaultLaw_law_1285 : decode code 1285 = .ok (.iload 4, 2) := by decide +kernel
theorem d_SeriesVaultLaw_law_1287 : decode code 1287 = .ok (.iconst 2, 1) := by decide +kernel
theorem d_SeriesVaultLaw_law_1288 : decode code 1288 = .ok (.iadd, 1) := by decide +kernel
theorem d_SeriesVaultLaw_law_1289 : decode code 1289 = .ok (.iaload, 1) := by decide +kernel
theorem d_SeriesVaultLaw_law_1290 : decode code 1290 = .ok (.aload_n 0, 1) := by decide +kernel
theorem d_SeriesVaultLaw_law_1291 : decode code 1291 = .ok (.iload 4, 2) := by decide +kernel
theorem d_SeriesVaultLaw_law_1293 : decode code 1293 = .ok (.iconst 3, 1) := by decide +kernel
theorem d_SeriesVaultLaw_law_1294 : decode code 1294 = .ok (.iadd, 1) := by decide +kernel
theorem d_SeriesVaultLaw_law_1295 : decode code 1295 = .ok (.iaload, 1) := by decide +kernel
theorem d_SeriesVaultLaw_law_1296 : decode code 1296 = .ok (.invokevirtual 169, 3) := by decide +kernel
theorem d_SeriesVaultLaw_law_1299 : decode code 1299 = .ok (.istore 6, 2) := by decide +kernel
theorem d_SeriesVaultLaw_law_1301 : decode code 1301 = .ok (.aload_n 2, 1) := by decide +kernel
theorem d_SeriesVaultLaw_law_1302 : decode code 1302 = .ok (.invokevirtual 110, 3) := by decide +kernel
theorem d_SeriesVaultLaw_law_1305 : decode code 1305 = .ok (.iload 5, 2) := by decide +kernel
theorem d_SeriesVaultLaw_law_1307 : decode code 1307 = .ok (.if_icmp .eq 5, 3) := by decide +kernel
theorem d_SeriesVaultLaw_law_1312 : decode code 1312 = .ok (.iload 5, 2) := by decide +kernel
theorem d_SeriesVaultLaw_law_1314 : decode code 1314 = .ok (.ifCond .ne 15, 3) := by decide +kernel
theorem d_SeriesVaultLaw_law_1317 : decode code 1317 = .ok (.aload_n 3, 1) := by decide +kernel
theorem d_SeriesVaultLaw_law_1318 : decode code 1318 = .ok (.iconst 0, 1) := by decide +kernel
theorem d_SeriesVaultLaw_law_1319 : decode code 1319 = .ok (.laload, 1) := by decide +kernel
theorem d_SeriesVaultLaw_law_1320 : decode code 1320 = .ok (.iload 6, 2) := by decide +kernel
theorem d_SeriesVaultLaw_law_1322 : decode code 1322 = .ok (.i2l, 1) := by decide +kernel
theorem d_SeriesVaultLaw_law_1323 : decode code 1323 = .ok (.lcmp, 1) := by decide +kernel
theorem d_SeriesVaultLaw_law_1324 : decode code 1324 = .ok (.ifCond .eq 5, 3) := by decide +kernel
theorem d_SeriesVaultLaw_law_1329 : decode code 1329 = .ok (.goto 441, 3) := by decide +kernel
theorem w1904 : Cond.methodLink "SeriesVaultLaw" 166 ⟨"SeriesVaultLaw", "text", "(LSeriesVault;III[J)I"⟩ ∈ aW := aw_of (tb_8 (List.mem_of_getElem? (i := 71) rfl)) rfl
theorem w1905 : Cond.codeWith ⟨"SeriesVaultLaw", "text", "(LSeriesVault;III[J)I"⟩ method_17_code 6 (some FieldType.int) [(0, 12, 15, 35)] ∈ aW := aw_of (tb_8 (List.mem_of_getElem? (i := 73) rfl)) rfl
theorem w1906 : Cond.static ⟨"SeriesVaultLaw", "text", "(LSeriesVault;III[J)I"⟩ ∈ aW := aw_of (tb_8 (List.mem_of_getElem? (i := 72) rfl)) rfl
theorem w1907 : Cond.methodLink "SeriesVaultLaw" 169 ⟨"SeriesVaultModel", "text", "(III)I"⟩ ∈ aW := aw_of (tb_11 (List.mem_of_getElem? (i := 63) rfl)) rfl
theorem w1908 : Cond.code ⟨"SeriesVaultModel", "text", "(III)I"⟩ prog_14_method_94_code 4 (some FieldType.int) ∈ aW := aw_of (tb_11 (List.mem_of_getElem? (i := 66) rfl)) rfl
theorem w1909 : Cond.instanceMethod ⟨"SeriesVaultModel", "text", "(III)I"⟩ ∈ aW := aw_of (tb_11 (List.mem_of_getElem? (i := 64) rfl)) rfl
theorem w1910 : Cond.selects "SeriesVaultModel" ⟨"SeriesVaultModel", "text", "(III)I"⟩ ⟨"SeriesVaultModel", "text", "(III)I"⟩ ∈ aW := aw_of (tb_11 (List.mem_of_getElem? (i := 65) rfl)) rfl
set_option maxHeartbeats 4000000 in
set_option maxRecDepth 100000 in
theorem l9_15 {p : Program} {e : Env} {s : State} {m : MethodId} {below : List Frame} {meth : Method} {c : Code} (l : Launch) {b L : Nat} {xs : Nat → Int32} {D : va_G} {dA : Nat → ClassId} {e0 : Nat} {A : Nat → Prop} {H : Heap} {locs : List Loc} {ls : Array Slot} (hC : lS p l s m meth c b L xs D dA e0 A) {h : Nat} {ad : Nat → Nat} {x : VS} {mm : Nat} {mad : Nat → Nat} {M M1 : MS} {o : Nat} {og : Nat → Int64} {i fr1 lo1 fr2 lo2 mc9 ms9 cells slots : Nat} {F9 : VS → Prop} {b9 : Int32} {v9 : Int64} (hi : i + 6 ≤ L) (hL : L ≤ 3072) (hfr : fr1 ≤ 2000 ∧ lo1 ≤ 80000 ∧ fr2 ≤ 2000 ∧ lo2 ≤ 80000) (hrm : cells + mc9 ≤ 601024 ∧ slots + ms9 ≤ 7293034) (hcod : M1.cod = 0) (hv : v9 = b9.toInt64) (hW : ∀ sz : Nat, Met l ⟨"SeriesVaultLaw", "text", "(LSeriesVault;III[J)I"⟩ [Cond.codeWith ⟨"SeriesVaultLaw", "text", "(LSeriesVault;III[J)I"⟩ method_17_code 6 (some FieldType.int) [(0, 12, 15, 35)]] { frames := fr1, cells := mc9, slots := ms9, locals := lo1 } (pC D dA [.ref h, .int (xs (i + 1)), .int (xs (i + 2)), .int (xs (i + 3)), .ref o] (([(o, .inl (dA 2, 1, .inr (.inl og)))] : va_W) ++ (VW dA h ad x)) sz) (va_Qi (fun (r9 : Int32) (u9 : VS) => r9 = 0 ∧ F9 u9) (fun (u9 : VS) t9 => bW D (va_A (([(o, .inl (dA 2, 1, .inr (.inl og)))] : va_W) ++ (VW dA h ad x)) sz) (([(o, .inl (dA 2, 1, .inr (.inl (va_up og 0 v9))))] : va_W) ++ (VW dA h ad u9)) t9) (va_A (([(o, .inl (dA 2, 1, .inr (.inl og)))] : va_W) ++ (VW dA h ad x)) sz)) mc9 ms9 (va_A (([(o, .inl (dA 2, 1, .inr (.inl og)))] : va_W) ++ (VW dA h ad x)) sz)) (hM : ∀ sz : Nat, Met l ⟨"SeriesVaultModel", "text", "(III)I"⟩ [Cond.code ⟨"SeriesVaultModel", "text", "(III)I"⟩ prog_14_method_94_code 4 (some FieldType.int)] { frames := fr2, cells := 0, slots := 0, locals := lo2 } (pC D dA [.ref mm, .int (xs (i + 1)), .int (xs (i + 2)), .int (xs (i + 3))] (MW dA mm mad M) sz) (va_Qi (fun (r9 : Int32) (u9 : Unit) => r9 = b9) (fun (u9 : Unit) t9 => bW D (va_A (MW dA mm mad M) sz) (MW dA mm mad M1) t9) (va_A (MW dA mm mad M) sz)) 0 0 (va_A (MW dA mm mad M) sz)) (hP : va_P D vwCl (MW dA mm mad M ++ (([(o, .inl (dA 2, 1, .inr (.inl og)))] : va_W) ++ (VW dA h ad x))) H) (hD : va_D A (MW dA mm mad M ++ (([(o, .inl (dA 2, 1, .inr (.inl og)))] : va_W) ++ (VW dA h ad x)))) (hS : va_S A s.heap H locs) (hl : lv_has ls 8 [(4, .int (nI i)), (3, .ref o), (2, .ref mm), (1, .ref h), (0, .ref b)]) (cont : ∀ (u : VS) (H1 : Heap) (locs1 : List Loc) (ls1 : Array Slot), F9 u → va_P D vwCl (MW dA mm mad M1 ++ (([(o, .inl (dA 2, 1, .inr (.inl (va_up og 0 v9))))] : va_W) ++ (VW dA h ad u))) H1 → va_D A (MW dA mm mad M1 ++ (([(o, .inl (dA 2, 1, .inr (.inl (va_up og 0 v9))))] : va_W) ++ (VW dA h ad u))) → va_S A s.heap H1 locs1 → lv_has ls1 8 [(4, .int (nI (i + 6))), (3, .ref o), (2, .ref mm), (1, .ref h), (0, .ref b)] → W p l e room_1 s m #[Value.ref b] below meth c H1 locs1 (cells + mc9 + 0 + 0) (slots + ms9 + 0 + 0) (lw_Z below #[Value.ref b] s) (F0 m 23 ls1 [])) : W p l e room_1 s m #[Value.ref b] below meth c H locs cells slots (lw_Z below #[Value.ref b] s) (F0 m 1252 ls []) := by
  have hC0 := hC
  obtain ⟨hx, hb, hr, hml, hown, hlk, hE, hK, hA, hN, hZ, hT, hX, hbl, hbA, hnew, htr⟩ := hC
  refine lv_aload_n hx hb d_SeriesVaultLaw_law_1252 rfl (lv_at hl 3 rfl) ?_
  refine lv_aload_n hx hb d_SeriesVaultLaw_law_1253 rfl (lv_at hl 4 rfl) ?_
  refine lv_iload hx hb d_SeriesVaultLaw_law_1254 (lv_at hl 0 rfl) ?_
  refine lv_iconst (v := 1) hx hb d_SeriesVaultLaw_law_1256 (by decide) ?_
  refine lv_iadd hx hb d_SeriesVaultLaw_law_1257 (tpi (y := nI (i + 1)) (nI_add (i) (1)) ?_)
  refine sldN hx hb hX hbl hbA hS (show i + 1 < L by omega) (show L ≤ 65536 by omega) d_SeriesVaultLaw_law_1258 ?_
  refine lv_aload_n hx hb d_SeriesVaultLaw_law_1259 rfl (lv_at hl 4 rfl) ?_
  refine lv_iload hx hb d_SeriesVaultLaw_law_1260 (lv_at hl 0 rfl) ?_
  refine lv_iconst (v := 2) hx hb d_SeriesVaultLaw_law_1262 (by decide) ?_
  refine lv_iadd hx hb d_SeriesVaultLaw_law_1263 (tpi (y := nI (i + 2)) (nI_add (i) (2)) ?_)
  refine sldN hx hb hX hbl hbA hS (show i + 2 < L by omega) (show L ≤ 65536 by omega) d_SeriesVaultLaw_law_1264 ?_
  refine lv_aload_n hx hb d_SeriesVaultLaw_law_1265 rfl (lv_at hl 4 rfl) ?_
  refine lv_iload hx hb d_SeriesVaultLaw_law_1266 (lv_at hl 0 rfl) ?_
  refine lv_iconst (v := 3) hx hb d_SeriesVaultLaw_law_1268 (by decide) ?_
  refine lv_iadd hx hb d_SeriesVaultLaw_law_1269 (tpi (y := nI (i + 3)) (nI_add (i) (3)) ?_)
  refine sldN hx hb hX hbl hbA hS (show i + 3 < L by omega) (show L ≤ 65536 by omega) d_SeriesVaultLaw_law_1270 ?_
  refine lv_aload_n hx hb d_SeriesVaultLaw_law_1271 rfl (lv_at hl 1 rfl) ?_
  have hPc : va_P D vwCl (([(o, .inl (dA 2, 1, .inr (.inl og)))] : va_W) ++ (VW dA h ad x)) H := spP (wr := MW dA mm mad M) hP
  have hDc : va_D A (([(o, .inl (dA 2, 1, .inr (.inl og)))] : va_W) ++ (VW dA h ad x)) := spD (wr := MW dA mm mad M) hD
  refine jkI (wr := MW dA mm mad M) (rnW (As := [.ref h, .int (xs (i + 1)), .int (xs (i + 2)), .int (xs (i + 3)), .ref o]) (rest := []) hx hb hml hown hE hK (hN _ _ hS) hPc hDc (hW H.size) w1905 w1904 w1906 w1793 rfl rfl ⟨⟨by decide, by decide⟩, rfl⟩ ⟨(show fr1 + 1 ≤ 2048 by omega), (show 8 + (6 + 11) + lo1 ≤ 84000 by omega)⟩ rfl hl.1 rfl (Nat.le_of_ble_eq_true rfl) d_SeriesVaultLaw_law_1272 ⟨(show cells + mc9 ≤ 601024 by omega), (show slots + ms9 ≤ 7293034 by omega)⟩) hP hD hS hA (fun k8 u8 H locs hp9 hP hD hS => ?_)
  obtain ⟨hp9, hf9⟩ := hp9
  replace hp9 : 0 = k8 := Eq.symm hp9
  subst hp9
  have hP : va_P D vwCl (MW dA mm mad M ++ (([(o, .inl (dA 2, 1, .inr (.inl (va_up og 0 v9))))] : va_W) ++ (VW dA h ad u8))) H := hP
  have hD : va_D A (MW dA mm mad M ++ (([(o, .inl (dA 2, 1, .inr (.inl (va_up og 0 v9))))] : va_W) ++ (VW dA h ad u8))) := hD
  refine lv_istore hx hb d_SeriesVaultLaw_law_1275 hl (by decide) rfl (fun ls hl => ?_)
  have hl : lv_has ls 8 [(5, .int 0), (4, .int (nI i)), (3, .ref o), (2, .ref mm), (1, .ref h), (0, .ref b)] := hl
  refine lv_aload_n hx hb d_SeriesVaultLaw_law_1277 rfl (lv_at hl 3 rfl) ?_
  refine lv_aload_n hx hb d_SeriesVaultLaw_law_1278 rfl (lv_at hl 5 rfl) ?_
  refine lv_iload hx hb d_SeriesVaultLaw_law_1279 (lv_at hl 1 rfl) ?_
  refine lv_iconst (v := 1) hx hb d_SeriesVaultLaw_law_1281 (by decide) ?_
  refine lv_iadd hx hb d_SeriesVaultLaw_law_1282 (tpi (y := nI (i + 1)) (nI_add (i) (1)) ?_)
  refine sldN hx hb hX hbl hbA hS (show i + 1 < L by omega) (show L ≤ 65536 by omega) d_SeriesVaultLaw_law_1283 ?_
  refine lv_aload_n hx hb d_SeriesVaultLaw_law_1284 rfl (lv_at hl 5 rfl) ?_
  refine lv_iload hx hb d_SeriesVaultLaw_law_1285 (lv_at hl 1 rfl) ?_
  refine lv_iconst (v := 2) hx hb d_SeriesVaultLaw_law_1287 (by decide) ?_
  refine lv_iadd hx hb d_SeriesVaultLaw_law_1288 (tpi (y := nI (i + 2)) (nI_add (i) (2)) ?_)
  refine sldN hx hb hX hbl hbA hS (show i + 2 < L by omega) (show L ≤ 65536 by omega) d_SeriesVaultLaw_law_1289 ?_
  refine lv_aload_n hx hb d_SeriesVaultLaw_law_1290 rfl (lv_at hl 5 rfl) ?_
  refine lv_iload hx hb d_SeriesVaultLaw_law_1291 (lv_at hl 1 rfl) ?_
  refine lv_iconst (v := 3) hx hb d_SeriesVaultLaw_law_1293 (by decide) ?_
  refine lv_iadd hx hb d_SeriesVaultLaw_law_1294 (tpi (y := nI (i + 3)) (nI_add (i) (3)) ?_)
  refine sldN hx hb hX hbl hbA hS (show i + 3 < L by omega) (show L ≤ 65536 by omega) d_SeriesVaultLaw_law_1295 ?_
  have hP := pmP (show List.Perm (α := Nat × va_E) (MW dA mm mad M ++ (([(o, .inl (dA 2, 1, .inr (.inl (va_up og 0 v9))))] : va_W) ++ (VW dA h ad u8))) (([(o, .inl (dA 2, 1, .inr (.inl (va_up og 0 v9))))] : va_W) ++ (MW dA mm mad M ++ (VW dA h ad u8))) from List.perm_append_comm_assoc (MW dA mm mad M) (([(o, .inl (dA 2, 1, .inr (.inl (va_up og 0 v9))))] : va_W)) (VW dA h ad u8)) hP
  have hD := pmD (show List.Perm (α := Nat × va_E) (MW dA mm mad M ++ (([(o, .inl (dA 2, 1, .inr (.inl (va_up og 0 v9))))] : va_W) ++ (VW dA h ad u8))) (([(o, .inl (dA 2, 1, .inr (.inl (va_up og 0 v9))))] : va_W) ++ (MW dA mm mad M ++ (VW dA h ad u8))) from List.perm_append_comm_assoc (MW dA mm mad M) (([(o, .inl (dA 2, 1, .inr (.inl (va_up og 0 v9))))] : va_W)) (VW dA h ad u8)) hD
  have hP := pmP (show List.Perm (α := Nat × va_E) (([(o, .inl (dA 2, 1, .inr (.inl (va_up og 0 v9))))] : va_W) ++ (MW dA mm mad M ++ (VW dA h ad u8))) (([(o, .inl (dA 2, 1, .inr (.inl (va_up og 0 v9))))] : va_W) ++ (VW dA h ad u8 ++ (MW dA mm mad M))) from List.Perm.append_left (([(o, .inl (dA 2, 1, .inr (.inl (va_up og 0 v9))))] : va_W)) (List.perm_append_comm)) hP
  have hD := pmD (show List.Perm (α := Nat × va_E) (([(o, .inl (dA 2, 1, .inr (.inl (va_up og 0 v9))))] : va_W) ++ (MW dA mm mad M ++ (VW dA h ad u8))) (([(o, .inl (dA 2, 1, .inr (.inl (va_up og 0 v9))))] : va_W) ++ (VW dA h ad u8 ++ (MW dA mm mad M))) from List.Perm.append_left (([(o, .inl (dA 2, 1, .inr (.inl (va_up og 0 v9))))] : va_W)) (List.perm_append_comm)) hD
  have hPc : va_P D vwCl (MW dA mm mad M) H := spP (wr := ([(o, .inl (dA 2, 1, .inr (.inl (va_up og 0 v9))))] : va_W) ++ (VW dA h ad u8)) hP
  have hDc : va_D A (MW dA mm mad M) := spD (wr := ([(o, .inl (dA 2, 1, .inr (.inl (va_up og 0 v9))))] : va_W) ++ (VW dA h ad u8)) hD
  refine jkI (wr := ([(o, .inl (dA 2, 1, .inr (.inl (va_up og 0 v9))))] : va_W) ++ (VW dA h ad u8)) (rnV (As := [.int (xs (i + 1)), .int (xs (i + 2)), .int (xs (i + 3))]) (rest := []) hx hb hml hown hE hK (hN _ _ hS) hPc hDc (hM H.size) (q0 := 0) rfl rfl w1908 w1907 w1909 w1910 w328 rfl rfl ⟨⟨by decide, by decide⟩, rfl⟩ ⟨(show fr2 + 1 ≤ 2048 by omega), (show 8 + (4 + 11) + lo2 ≤ 84000 by omega)⟩ rfl hl.1 rfl (Nat.le_of_ble_eq_true rfl) d_SeriesVaultLaw_law_1296 ⟨(show cells + mc9 + 0 ≤ 601024 by omega), (show slots + ms9 + 0 ≤ 7293034 by omega)⟩) hP hD hS hA (fun r7 u7 H locs hp9 hP hD hS => ?_)
  replace hp9 : b9 = r7 := Eq.symm hp9
  subst hp9
  have hP : va_P D vwCl (([(o, .inl (dA 2, 1, .inr (.inl (va_up og 0 v9))))] : va_W) ++ (VW dA h ad u8 ++ (MW dA mm mad M1))) H := hP
  have hD : va_D A (([(o, .inl (dA 2, 1, .inr (.inl (va_up og 0 v9))))] : va_W) ++ (VW dA h ad u8 ++ (MW dA mm mad M1))) := hD
  refine lv_istore hx hb d_SeriesVaultLaw_law_1299 hl (by decide) rfl (fun ls hl => ?_)
  have hl : lv_has ls 8 [(6, .int b9), (5, .int 0), (4, .int (nI i)), (3, .ref o), (2, .ref mm), (1, .ref h), (0, .ref b)] := hl
  refine lv_aload_n hx hb d_SeriesVaultLaw_law_1301 rfl (lv_at hl 4 rfl) ?_
  have hPc : va_P D vwCl (MW dA mm mad M1) H := spP (wr := ([(o, .inl (dA 2, 1, .inr (.inl (va_up og 0 v9))))] : va_W) ++ (VW dA h ad u8)) hP
  have hDc : va_D A (MW dA mm mad M1) := spD (wr := ([(o, .inl (dA 2, 1, .inr (.inl (va_up og 0 v9))))] : va_W) ++ (VW dA h ad u8)) hD
  refine jkI (wr := ([(o, .inl (dA 2, 1, .inr (.inl (va_up og 0 v9))))] : va_W) ++ (VW dA h ad u8)) (rnV (As := []) (rest := []) hx hb hml hown hE hK (hN _ _ hS) hPc hDc (k_thrown l D dA H.size mm mad M1) (q0 := 0) rfl rfl w1801 w1800 w1802 w1803 w328 rfl rfl ⟨⟨by decide, by decide⟩, rfl⟩ ⟨(show 1 + 1 ≤ 2048 by omega), (show 8 + (1 + 11) + 0 ≤ 84000 by omega)⟩ rfl hl.1 rfl (Nat.le_of_ble_eq_true rfl) d_SeriesVaultLaw_law_1302 ⟨(show cells + mc9 + 0 ≤ 601024 by omega), (show slots + ms9 + 0 ≤ 7293034 by omega)⟩) hP hD hS hA (fun r7 u7 H locs hp9 hP hD hS => ?_)
  replace hp9 : 0 = r7 := Eq.symm (hp9.trans hcod)
  subst hp9
  have hP : va_P D vwCl (([(o, .inl (dA 2, 1, .inr (.inl (va_up og 0 v9))))] : va_W) ++ (VW dA h ad u8 ++ (MW dA mm mad M1))) H := hP
  have hD : va_D A (([(o, .inl (dA 2, 1, .inr (.inl (va_up og 0 v9))))] : va_W) ++ (VW dA h ad u8 ++ (MW dA mm mad M1))) := hD
  refine lv_iload hx hb d_SeriesVaultLaw_law_1305 (lv_at hl 1 rfl) ?_
  refine lv_icmp_eq hx hb d_SeriesVaultLaw_law_1307 (tgt := 1312) rfl (fun _ => ?_) (fun h9 => absurd rfl h9)
  refine lv_iload hx hb d_SeriesVaultLaw_law_1312 (lv_at hl 1 rfl) ?_
  refine lv_if_ne hx hb d_SeriesVaultLaw_law_1314 (tgt := 1329) rfl (fun h9 => absurd (by decide) h9) (fun _ => ?_)
  refine lv_aload_n hx hb d_SeriesVaultLaw_law_1317 rfl (lv_at hl 3 rfl) ?_
  refine lv_iconst (v := 0) hx hb d_SeriesVaultLaw_law_1318 (by decide) ?_
  refine nlld (f := (va_up og 0 v9)) (n := 1) hx hb hK hP (0) 2 rfl rfl (0) (by decide) (by decide) d_SeriesVaultLaw_law_1319 ?_
  refine tpl (y := v9) (va_up_self _ _ _) ?_
  refine lv_iload hx hb d_SeriesVaultLaw_law_1320 (lv_at hl 0 rfl) ?_
  refine lv_i2l hx hb d_SeriesVaultLaw_law_1322 rfl ?_
  refine W.lcmp hx hb d_SeriesVaultLaw_law_1323 ?_
  refine lv_if_eq hx hb d_SeriesVaultLaw_law_1324 (tgt := 1329) rfl (fun _ => ?_) (fun h9 => absurd ((lg_cmp_eq _ _).mpr hv) h9)
  refine lv_goto hx hb d_SeriesVaultLaw_law_1329 (tgt := 1770) rfl ?_
  refine lv_iinc (k := 2) (v := nI (i + 6)) hx hb d_SeriesVaultLaw_law_1770 hl rfl (iincN (i) 6 6 (by decide)) (by decide) rfl (fun ls hl => ?_)
  have hl : lv_has ls 8 [(4, .int (nI (i + 6))), (6, .int b9), (5, .int 0), (3, .ref o), (2, .ref mm), (1, .ref h), (0, .ref b)] := hl
  refine lv_goto hx hb d_SeriesVaultLaw_law_1773 (tgt := 23) rfl ?_
  have hP := pmP (show List.Perm (α := Nat × va_E) (([(o, .inl (dA 2, 1, .inr (.inl (va_up og 0 v9))))] : va_W) ++ (VW dA h ad u8 ++ (MW dA mm mad M1))) (MW dA mm mad M1 ++ (([(o, .inl (dA 2, 1, .inr (.inl (va_up og 0 v9))))] : va_W) ++ (VW dA h ad u8))) from (List.Perm.append_left (([(o, .inl (dA 2, 1, .inr (.inl (va_up og 0 v9))))] : va_W)) (List.perm_append_comm)).trans (List.perm_append_comm_assoc (([(o, .inl (dA 2, 1, .inr (.inl (va_up og 0 v9))))] : va_W)) (MW dA mm mad M1) (VW dA h ad u8))) hP
  have hD := pmD (show List.Perm (α := Nat × va_E) (([(o, .inl (dA 2, 1, .inr (.inl (va_up og 0 v9))))] : va_W) ++ (VW dA h ad u8 ++ (MW dA mm mad M1))) (MW dA mm mad M1 ++ (([(o, .inl (dA 2, 1, .inr (.inl (va_up og 0 v9))))] : va_W) ++ (VW dA h ad u8))) from (List.Perm.append_left (([(o, .inl (dA 2, 1, .inr (.inl (va_up og 0 v9))))] : va_W)) (List.perm_append_comm)).trans (List.perm_append_comm_assoc (([(o, .inl (dA 2, 1, .inr (.inl (va_up og 0 v9))))] : va_W)) (MW dA mm mad M1) (VW dA h ad u8))) hD
  have hP : va_P D vwCl (MW dA mm mad M1 ++ (([(o, .inl (dA 2, 1, .inr (.inl (va_up og 0 v9))))] : va_W) ++ (VW dA h ad u8))) H := hP
  have hD : va_D A (MW dA mm mad M1 ++ (([(o, .inl (dA 2, 1, .inr (.inl (va_up og 0 v9))))] : va_W) ++ (VW dA h ad u8))) := hD
  have hl := lv_sub (l' := [(4, .int (nI (i + 6))), (3, .ref o), (2, .ref mm), (1, .ref h), (0, .ref b)]) hl [0, 3, 4, 5, 6] rfl
  exact cont u8 H locs ls hf9 hP hD hS hl
set_option maxHeartbeats 4000000 in
set_option maxRecDepth 100000 in
theorem l9_15_x {p : Program} {e : Env} {s : State} {m : MethodId} {below : List Frame} {meth : Method} {c : Code} (l : Launch) {b L : Nat} {xs : Nat → Int32} {D : va_G} {dA : Nat → ClassId} {e0 : Nat} {A : Nat → Prop} {H : Heap} {locs : List Loc} {ls : Array Slot} (hC : lS p l s m meth c b L xs D dA e0 A) {h : Nat} {ad : Nat → Nat} {x : VS} {mm : Nat} {mad : Nat → Nat} {M M1 : MS} {o : Nat} {og : Nat → Int64} {i fr1 lo1 fr2 lo2 mc9 ms9 cells slots : Nat} {F9 : VS → Prop} {b9 : Int32} {k9 : Nat} (hi : i + 6 ≤ L) (hL : L ≤ 3072) (hfr : fr1 ≤ 2000 ∧ lo1 ≤ 80000 ∧ fr2 ≤ 2000 ∧ lo2 ≤ 80000) (hrm : cells + mc9 ≤ 601024 ∧ slots + ms9 ≤ 7293034) (hcod : M1.cod = nI k9) (hk9 : ¬ nI k9 = 0) (hW : ∀ sz : Nat, Met l ⟨"SeriesVaultLaw", "text", "(LSeriesVault;III[J)I"⟩ [Cond.codeWith ⟨"SeriesVaultLaw", "text", "(LSeriesVault;III[J)I"⟩ method_17_code 6 (some FieldType.int) [(0, 12, 15, 35)]] { frames := fr1, cells := mc9, slots := ms9, locals := lo1 } (pC D dA [.ref h, .int (xs (i + 1)), .int (xs (i + 2)), .int (xs (i + 3)), .ref o] (([(o, .inl (dA 2, 1, .inr (.inl og)))] : va_W) ++ (VW dA h ad x)) sz) (va_Qi (fun (r9 : Int32) (u9 : VS) => r9 = nI k9 ∧ F9 u9) (fun (u9 : VS) t9 => bW D (va_A (([(o, .inl (dA 2, 1, .inr (.inl og)))] : va_W) ++ (VW dA h ad x)) sz) (([(o, .inl (dA 2, 1, .inr (.inl (og))))] : va_W) ++ (VW dA h ad u9)) t9) (va_A (([(o, .inl (dA 2, 1, .inr (.inl og)))] : va_W) ++ (VW dA h ad x)) sz)) mc9 ms9 (va_A (([(o, .inl (dA 2, 1, .inr (.inl og)))] : va_W) ++ (VW dA h ad x)) sz)) (hM : ∀ sz : Nat, Met l ⟨"SeriesVaultModel", "text", "(III)I"⟩ [Cond.code ⟨"SeriesVaultModel", "text", "(III)I"⟩ prog_14_method_94_code 4 (some FieldType.int)] { frames := fr2, cells := 0, slots := 0, locals := lo2 } (pC D dA [.ref mm, .int (xs (i + 1)), .int (xs (i + 2)), .int (xs (i + 3))] (MW dA mm mad M) sz) (va_Qi (fun (r9 : Int32) (u9 : Unit) => r9 = b9) (fun (u9 : Unit) t9 => bW D (va_A (MW dA mm mad M) sz) (MW dA mm mad M1) t9) (va_A (MW dA mm mad M) sz)) 0 0 (va_A (MW dA mm mad M) sz)) (hP : va_P D vwCl (MW dA mm mad M ++ (([(o, .inl (dA 2, 1, .inr (.inl og)))] : va_W) ++ (VW dA h ad x))) H) (hD : va_D A (MW dA mm mad M ++ (([(o, .inl (dA 2, 1, .inr (.inl og)))] : va_W) ++ (VW dA h ad x)))) (hS : va_S A s.heap H locs) (hl : lv_has ls 8 [(4, .int (nI i)), (3, .ref o), (2, .ref mm), (1, .ref h), (0, .ref b)]) (cont : ∀ (u : VS) (H1 : Heap) (locs1 : List Loc) (ls1 : Array Slot), F9 u → va_P D vwCl (MW dA mm mad M1 ++ (([(o, .inl (dA 2, 1, .inr (.inl og)))] : va_W) ++ (VW dA h ad u))) H1 → va_D A (MW dA mm mad M1 ++ (([(o, .inl (dA 2, 1, .inr (.inl og)))] : va_W) ++ (VW dA h ad u))) → va_S A s.heap H1 locs1 → lv_has ls1 8 [(4, .int (nI (i + 6))), (3, .ref o), (2, .ref mm), (1, .ref h), (0, .ref b)] → W p l e room_1 s m #[Value.ref b] below meth c H1 locs1 (cells + mc9 + 0 + 0) (slots + ms9 + 0 + 0) (lw_Z below #[Value.ref b] s) (F0 m 23 ls1 [])) : W p l e room_1 s m #[Value.ref b] below meth c H locs cells slots (lw_Z below #[Value.ref b] s) (F0 m 1252 ls []) := by
  have hC0 := hC
  obtain ⟨hx, hb, hr, hml, hown, hlk, hE, hK, hA, hN, hZ, hT, hX, hbl, hbA, hnew, htr⟩ := hC
  refine lv_aload_n hx hb d_SeriesVaultLaw_law_1252 rfl (lv_at hl 3 rfl) ?_
  refine lv_aload_n hx hb d_SeriesVaultLaw_law_1253 rfl (lv_at hl 4 rfl) ?_
  refine lv_iload hx hb d_SeriesVaultLaw_law_1254 (lv_at hl 0 rfl) ?_
  refine lv_iconst (v := 1) hx hb d_SeriesVaultLaw_law_1256 (by decide) ?_
  refine lv_iadd hx hb d_SeriesVaultLaw_law_1257 (tpi (y := nI (i + 1)) (nI_add (i) (1)) ?_)
  refine sldN hx hb hX hbl hbA hS (show i + 1 < L by omega) (show L ≤ 65536 by omega) d_SeriesVaultLaw_law_1258 ?_
  refine lv_aload_n hx hb d_SeriesVaultLaw_law_1259 rfl (lv_at hl 4 rfl) ?_
  refine lv_iload hx hb d_SeriesVaultLaw_law_1260 (lv_at hl 0 rfl) ?_
  refine lv_iconst (v := 2) hx hb d_SeriesVaultLaw_law_1262 (by decide) ?_
  refine lv_iadd hx hb d_SeriesVaultLaw_law_1263 (tpi (y := nI (i + 2)) (nI_add (i) (2)) ?_)
  refine sldN hx hb hX hbl hbA hS (show i + 2 < L by omega) (show L ≤ 65536 by omega) d_SeriesVaultLaw_law_1264 ?_
  refine lv_aload_n hx hb d_SeriesVaultLaw_law_1265 rfl (lv_at hl 4 rfl) ?_
  refine lv_iload hx hb d_SeriesVaultLaw_law_1266 (lv_at hl 0 rfl) ?_
  refine lv_iconst (v := 3) hx hb d_SeriesVaultLaw_law_1268 (by decide) ?_
  refine lv_iadd hx hb d_SeriesVaultLaw_law_1269 (tpi (y := nI (i + 3)) (nI_add (i) (3)) ?_)
  refine sldN hx hb hX hbl hbA hS (show i + 3 < L by omega) (show L ≤ 65536 by omega) d_SeriesVaultLaw_law_1270 ?_
  refine lv_aload_n hx hb d_SeriesVaultLaw_law_1271 rfl (lv_at hl 1 rfl) ?_
  have hPc : va_P D vwCl (([(o, .inl (dA 2, 1, .inr (.inl og)))] : va_W) ++ (VW dA h ad x)) H := spP (wr := MW dA mm mad M) hP
  have hDc : va_D A (([(o, .inl (dA 2, 1, .inr (.inl og)))] : va_W) ++ (VW dA h ad x)) := spD (wr := MW dA mm mad M) hD
  refine jkI (wr := MW dA mm mad M) (rnW (As := [.ref h, .int (xs (i + 1)), .int (xs (i + 2)), .int (xs (i + 3)), .ref o]) (rest := []) hx hb hml hown hE hK (hN _ _ hS) hPc hDc (hW H.size) w1905 w1904 w1906 w1793 rfl rfl ⟨⟨by decide, by decide⟩, rfl⟩ ⟨(show fr1 + 1 ≤ 2048 by omega), (show 8 + (6 + 11) + lo1 ≤ 84000 by omega)⟩ rfl hl.1 rfl (Nat.le_of_ble_eq_true rfl) d_SeriesVaultLaw_law_1272 ⟨(show cells + mc9 ≤ 601024 by omega), (show slots + ms9 ≤ 7293034 by omega)⟩) hP hD hS hA (fun k8 u8 H locs hp9 hP hD hS => ?_)
  obtain ⟨hp9, hf9⟩ := hp9
  replace hp9 : nI k9 = k8 := Eq.symm hp9
  subst hp9
  have hP : va_P D vwCl (MW dA mm mad M ++ (([(o, .inl (dA 2, 1, .inr (.inl og)))] : va_W) ++ (VW dA h ad u8))) H := hP
  have hD : va_D A (MW dA mm mad M ++ (([(o, .inl (dA 2, 1, .inr (.inl og)))] : va_W) ++ (VW dA h ad u8))) := hD
  refine lv_istore hx hb d_SeriesVaultLaw_law_1275 hl (by decide) rfl (fun ls hl => ?_)
  have hl : lv_has ls 8 [(5, .int (nI k9)), (4, .int (nI i)), (3, .ref o), (2, .ref mm), (1, .ref h), (0, .ref b)] := hl
  refine lv_aload_n hx hb d_SeriesVaultLaw_law_1277 rfl (lv_at hl 3 rfl) ?_
  refine lv_aload_n hx hb d_SeriesVaultLaw_law_1278 rfl (lv_at hl 5 rfl) ?_
  refine lv_iload hx hb d_SeriesVaultLaw_law_1279 (lv_at hl 1 rfl) ?_
  refine lv_iconst (v := 1) hx hb d_SeriesVaultLaw_law_1281 (by decide) ?_
  refine lv_iadd hx hb d_SeriesVaultLaw_law_1282 (tpi (y := nI (i + 1)) (nI_add (i) (1)) ?_)
  refine sldN hx hb hX hbl hbA hS (show i + 1 < L by omega) (show L ≤ 65536 by omega) d_SeriesVaultLaw_law_1283 ?_
  refine lv_aload_n hx hb d_SeriesVaultLaw_law_1284 rfl (lv_at hl 5 rfl) ?_
  refine lv_iload hx hb d_SeriesVaultLaw_law_1285 (lv_at hl 1 rfl) ?_
  refine lv_iconst (v := 2) hx hb d_SeriesVaultLaw_law_1287 (by decide) ?_
  refine lv_iadd hx hb d_SeriesVaultLaw_law_1288 (tpi (y := nI (i + 2)) (nI_add (i) (2)) ?_)
  refine sldN hx hb hX hbl hbA hS (show i + 2 < L by omega) (show L ≤ 65536 by omega) d_SeriesVaultLaw_law_1289 ?_
  refine lv_aload_n hx hb d_SeriesVaultLaw_law_1290 rfl (lv_at hl 5 rfl) ?_
  refine lv_iload hx hb d_SeriesVaultLaw_law_1291 (lv_at hl 1 rfl) ?_
  refine lv_iconst (v := 3) hx hb d_SeriesVaultLaw_law_1293 (by decide) ?_
  refine lv_iadd hx hb d_SeriesVaultLaw_law_1294 (tpi (y := nI (i + 3)) (nI_add (i) (3)) ?_)
  refine sldN hx hb hX hbl hbA hS (show i + 3 < L by omega) (show L ≤ 65536 by omega) d_SeriesVaultLaw_law_1295 ?_
  have hP := pmP (show List.Perm (α := Nat × va_E) (MW dA mm mad M ++ (([(o, .inl (dA 2, 1, .inr (.inl og)))] : va_W) ++ (VW dA h ad u8))) (([(o, .inl (dA 2, 1, .inr (.inl og)))] : va_W) ++ (MW dA mm mad M ++ (VW dA h ad u8))) from List.perm_append_comm_assoc (MW dA mm mad M) (([(o, .inl (dA 2, 1, .inr (.inl og)))] : va_W)) (VW dA h ad u8)) hP
  have hD := pmD (show List.Perm (α := Nat × va_E) (MW dA mm mad M ++ (([(o, .inl (dA 2, 1, .inr (.inl og)))] : va_W) ++ (VW dA h ad u8))) (([(o, .inl (dA 2, 1, .inr (.inl og)))] : va_W) ++ (MW dA mm mad M ++ (VW dA h ad u8))) from List.perm_append_comm_assoc (MW dA mm mad M) (([(o, .inl (dA 2, 1, .inr (.inl og)))] : va_W)) (VW dA h ad u8)) hD
  have hP := pmP (show List.Perm (α := Nat × va_E) (([(o, .inl (dA 2, 1, .inr (.inl og)))] : va_W) ++ (MW dA mm mad M ++ (VW dA h ad u8))) (([(o, .inl (dA 2, 1, .inr (.inl og)))] : va_W) ++ (VW dA h ad u8 ++ (MW dA mm mad M))) from List.Perm.append_left (([(o, .inl (dA 2, 1, .inr (.inl og)))] : va_W)) (List.perm_append_comm)) hP
  have hD := pmD (show List.Perm (α := Nat × va_E) (([(o, .inl (dA 2, 1, .inr (.inl og)))] : va_W) ++ (MW dA mm mad M ++ (VW dA h ad u8))) (([(o, .inl (dA 2, 1, .inr (.inl og)))] : va_W) ++ (VW dA h ad u8 ++ (MW dA mm mad M))) from List.Perm.append_left (([(o, .inl (dA 2, 1, .inr (.inl og)))] : va_W)) (List.perm_append_comm)) hD
  have hPc : va_P D vwCl (MW dA mm mad M) H := spP (wr := ([(o, .inl (dA 2, 1, .inr (.inl og)))] : va_W) ++ (VW dA h ad u8)) hP
  have hDc : va_D A (MW dA mm mad M) := spD (wr := ([(o, .inl (dA 2, 1, .inr (.inl og)))] : va_W) ++ (VW dA h ad u8)) hD
  refine jkI (wr := ([(o, .inl (dA 2, 1, .inr (.inl og)))] : va_W) ++ (VW dA h ad u8)) (rnV (As := [.int (xs (i + 1)), .int (xs (i + 2)), .int (xs (i + 3))]) (rest := []) hx hb hml hown hE hK (hN _ _ hS) hPc hDc (hM H.size) (q0 := 0) rfl rfl w1908 w1907 w1909 w1910 w328 rfl rfl ⟨⟨by decide, by decide⟩, rfl⟩ ⟨(show fr2 + 1 ≤ 2048 by omega), (show 8 + (4 + 11) + lo2 ≤ 84000 by omega)⟩ rfl hl.1 rfl (Nat.le_of_ble_eq_true rfl) d_SeriesVaultLaw_law_1296 ⟨(show cells + mc9 + 0 ≤ 601024 by omega), (show slots + ms9 + 0 ≤ 7293034 by omega)⟩) hP hD hS hA (fun r7 u7 H locs hp9 hP hD hS => ?_)
  replace hp9 : b9 = r7 := Eq.symm hp9
  subst hp9
  have hP : va_P D vwCl (([(o, .inl (dA 2, 1, .inr (.inl og)))] : va_W) ++ (VW dA h ad u8 ++ (MW dA mm mad M1))) H := hP
  have hD : va_D A (([(o, .inl (dA 2, 1, .inr (.inl og)))] : va_W) ++ (VW dA h ad u8 ++ (MW dA mm mad M1))) := hD
  refine lv_istore hx hb d_SeriesVaultLaw_law_1299 hl (by decide) rfl (fun ls hl => ?_)
  have hl : lv_has ls 8 [(6, .int b9), (5, .int (nI k9)), (4, .int (nI i)), (3, .ref o), (2, .ref mm), (1, .ref h), (0, .ref b)] := hl
  refine lv_aload_n hx hb d_SeriesVaultLaw_law_1301 rfl (lv_at hl 4 rfl) ?_
  have hPc : va_P D vwCl (MW dA mm mad M1) H := spP (wr := ([(o, .inl (dA 2, 1, .inr (.inl og)))] : va_W) ++ (VW dA h ad u8)) hP
  have hDc : va_D A (MW dA mm mad M1) := spD (wr := ([(o, .inl (dA 2, 1, .inr (.inl og)))] : va_W) ++ (VW dA h ad u8)) hD
  refine jkI (wr := ([(o, .inl (dA 2, 1, .inr (.inl og)))] : va_W) ++ (VW dA h ad u8)) (rnV (As := []) (rest := []) hx hb hml hown hE hK (hN _ _ hS) hPc hDc (k_thrown l D dA H.size mm mad M1) (q0 := 0) rfl rfl w1801 w1800 w1802 w1803 w328 rfl rfl ⟨⟨by decide, by decide⟩, rfl⟩ ⟨(show 1 + 1 ≤ 2048 by omega), (show 8 + (1 + 11) + 0 ≤ 84000 by omega)⟩ rfl hl.1 rfl (Nat.le_of_ble_eq_true rfl) d_SeriesVaultLaw_law_1302 ⟨(show cells + mc9 + 0 ≤ 601024 by omega), (show slots + ms9 + 0 ≤ 7293034 by omega)⟩) hP hD hS hA (fun r7 u7 H locs hp9 hP hD hS => ?_)
  replace hp9 : nI k9 = r7 := Eq.symm (hp9.trans hcod)
  subst hp9
  have hP : va_P D vwCl (([(o, .inl (dA 2, 1, .inr (.inl og)))] : va_W) ++ (VW dA h ad u8 ++ (MW dA mm mad M1))) H := hP
  have hD : va_D A (([(o, .inl (dA 2, 1, .inr (.inl og)))] : va_W) ++ (VW dA h ad u8 ++ (MW dA mm mad M1))) := hD
  refine lv_iload hx hb d_SeriesVaultLaw_law_1305 (lv_at hl 1 rfl) ?_
  refine lv_icmp_eq hx hb d_SeriesVaultLaw_law_1307 (tgt := 1312) rfl (fun _ => ?_) (fun h9 => absurd rfl h9)
  refine lv_iload hx hb d_SeriesVaultLaw_law_1312 (lv_at hl 1 rfl) ?_
  refine lv_if_ne hx hb d_SeriesVaultLaw_law_1314 (tgt := 1329) rfl (fun _ => ?_) (fun h9 => absurd h9 hk9)
  refine lv_goto hx hb d_SeriesVaultLaw_law_1329 (tgt := 1770) rfl ?_
  refine lv_iinc (k := 2) (v := nI (i + 6)) hx hb d_SeriesVaultLaw_law_1770 hl rfl (iincN (i) 6 6 (by decide)) (by decide) rfl (fun ls hl => ?_)
  have hl : lv_has ls 8 [(4, .int (nI (i + 6))), (6, .int b9), (5, .int (nI k9)), (3, .ref o), (2, .ref mm), (1, .ref h), (0, .ref b)] := hl
  refine lv_goto hx hb d_SeriesVaultLaw_law_1773 (tgt := 23) rfl ?_
  have hP := pmP (show List.Perm (α := Nat × va_E) (([(o, .inl (dA 2, 1, .inr (.inl og)))] : va_W) ++ (VW dA h ad u8 ++ (MW dA mm mad M1))) (MW dA mm mad M1 ++ (([(o, .inl (dA 2, 1, .inr (.inl og)))] : va_W) ++ (VW dA h ad u8))) from (List.Perm.append_left (([(o, .inl (dA 2, 1, .inr (.inl og)))] : va_W)) (List.perm_append_comm)).trans (List.perm_append_comm_assoc (([(o, .inl (dA 2, 1, .inr (.inl og)))] : va_W)) (MW dA mm mad M1) (VW dA h ad u8))) hP
  have hD := pmD (show List.Perm (α := Nat × va_E) (([(o, .inl (dA 2, 1, .inr (.inl og)))] : va_W) ++ (VW dA h ad u8 ++ (MW dA mm mad M1))) (MW dA mm mad M1 ++ (([(o, .inl (dA 2, 1, .inr (.inl og)))] : va_W) ++ (VW dA h ad u8))) from (List.Perm.append_left (([(o, .inl (dA 2, 1, .inr (.inl og)))] : va_W)) (List.perm_append_comm)).trans (List.perm_append_comm_assoc (([(o, .inl (dA 2, 1, .inr (.inl og)))] : va_W)) (MW dA mm mad M1) (VW dA h ad u8))) hD
  have hP : va_P D vwCl (MW dA mm mad M1 ++ (([(o, .inl (dA 2, 1, .inr (.inl og)))] : va_W) ++ (VW dA h ad u8))) H := hP
  have hD : va_D A (MW dA mm mad M1 ++ (([(o, .inl (dA 2, 1, .inr (.inl og)))] : va_W) ++ (VW dA h ad u8))) := hD
  have hl := lv_sub (l' := [(4, .int (nI (i + 6))), (3, .ref o), (2, .ref mm), (1, .ref h), (0, .ref b)]) hl [0, 3, 4, 5, 6] rfl
  exact cont u8 H locs ls hf9 hP hD hS hl
theorem d_SeriesVaultLaw_law_1332 : decode code 1332 = .ok (.aload_n 1, 1) := by decide +kernel
theorem d_SeriesVaultLaw_law_1333 : decode code 1333 = .ok (.aload_n 0, 1) := by decide +kernel
theorem d_SeriesVaultLaw_law_1334 : decode code 1334 = .ok (.iload 4, 2) := by decide +kernel
theorem d_SeriesVaultLaw_law_1336 : decode code 1336 = .ok (.iconst 1, 1) := by decide +kernel
theorem d_SeriesVaultLaw_law_1337 : decode code 1337 = .ok (.iadd, 1) := by decide +kernel
theorem d_SeriesVaultLaw_law_1338 : decode code 1338 = .ok (.iaload, 1) := by decide +kernel
theorem d_SeriesVaultLaw_law_1339 : decode code 1339 = .ok (.aload_n 0, 1) := by decide +kernel
theorem d_SeriesVaultLaw_law_1340 : decode code 1340 = .ok (.iload 4, 2) := by decide +kernel
theorem d_SeriesVaultLaw_law_1342 : decode code 1342 = .ok (.iconst 2, 1) := by decide +kernel
theorem d_SeriesVaultLaw_law_1343 : decode code 1343 = .ok (.iadd, 1) := by decide +kernel
theorem d_SeriesVaultLaw_law_1344 : decode code 1344 = .ok (.iaload, 1) := by decide +kernel
theorem d_SeriesVaultLaw_law_1345 : decode code 1345 = .ok (.aload_n 3, 1) := by decide +kernel
theorem d_SeriesVaultLaw_law_1346 : decode code 1346 = .ok (.invokestatic 170, 3) := by decide +kernel
theorem d_SeriesVaultLaw_law_1349 : decode code 1349 = .ok (.istore 5, 2) := by decide +kernel
theorem d_SeriesVaultLaw_law_1351 : decode code 1351 = .ok (.aload_n 2, 1) := by decide +kernel
theorem d_SeriesVaultLaw_law_1352 : decode code 1352 = .ok (.aload_n 0, 1) := by decide +kernel
theorem d_SeriesVaultLaw_law_1353 : decode code 1353 = .ok (.iload 4, 2) := by decide +kernel
theorem d_SeriesVaultLaw_law_1355 : decode code 1355 = .ok (.iconst 1, 1) := by decide +kernel
theorem d_SeriesVaultLaw_law_1356 : decode code 1356 = .ok (.iadd, 1) := by decide +kernel
theorem d_SeriesVaultLaw_law_1357 : decode code 1357 = .ok (.iaload, 1) := by decide +kernel
theorem d_SeriesVaultLaw_law_1358 : decode code 1358 = .ok (.aload_n 0, 1) := by decide +kernel
theorem d_SeriesVaultLaw_law_1359 : decode code 1359 = .ok (.iload 4, 2) := by decide +kernel
theorem d_SeriesVaultLaw_law_1361 : decode code 1361 = .ok (.iconst 2, 1) := by decide +kernel
theorem d_SeriesVaultLaw_law_1362 : decode code 1362 = .ok (.iadd, 1) := by decide +kernel
theorem d_SeriesVaultLaw_law_1363 : decode code 1363 = .ok (.iaload, 1) := by decide +kernel
theorem d_SeriesVaultLaw_law_1364 : decode code 1364 = .ok (.invokevirtual 172, 3) := by decide +kernel
theorem d_SeriesVaultLaw_law_1367 : decode code 1367 = .ok (.istore 6, 2) := by decide +kernel
theorem d_SeriesVaultLaw_law_1369 : decode code 1369 = .ok (.aload_n 2, 1) := by decide +kernel
theorem d_SeriesVaultLaw_law_1370 : decode code 1370 = .ok (.invokevirtual 110, 3) := by decide +kernel
theorem d_SeriesVaultLaw_law_1373 : decode code 1373 = .ok (.iload 5, 2) := by decide +kernel
theorem d_SeriesVaultLaw_law_1375 : decode code 1375 = .ok (.if_icmp .eq 5, 3) := by decide +kernel
theorem d_SeriesVaultLaw_law_1380 : decode code 1380 = .ok (.iload 5, 2) := by decide +kernel
theorem d_SeriesVaultLaw_law_1382 : decode code 1382 = .ok (.ifCond .ne 22, 3) := by decide +kernel
theorem d_SeriesVaultLaw_law_1385 : decode code 1385 = .ok (.aload_n 3, 1) := by decide +kernel
theorem d_SeriesVaultLaw_law_1386 : decode code 1386 = .ok (.iconst 0, 1) := by decide +kernel
theorem d_SeriesVaultLaw_law_1387 : decode code 1387 = .ok (.laload, 1) := by decide +kernel
theorem d_SeriesVaultLaw_law_1388 : decode code 1388 = .ok (.iload 6, 2) := by decide +kernel
theorem d_SeriesVaultLaw_law_1390 : decode code 1390 = .ok (.ifCond .eq 7, 3) := by decide +kernel
theorem d_SeriesVaultLaw_law_1393 : decode code 1393 = .ok (.lconst 1, 1) := by decide +kernel
theorem d_SeriesVaultLaw_law_1394 : decode code 1394 = .ok (.goto 4, 3) := by decide +kernel
theorem d_SeriesVaultLaw_law_1398 : decode code 1398 = .ok (.lcmp, 1) := by decide +kernel
theorem d_SeriesVaultLaw_law_1399 : decode code 1399 = .ok (.ifCond .eq 5, 3) := by decide +kernel
theorem d_SeriesVaultLaw_law_1404 : decode code 1404 = .ok (.goto 366, 3) := by decide +kernel
theorem w1911 : Cond.methodLink "SeriesVaultLaw" 170 ⟨"SeriesVaultLaw", "isThere", "(LSeriesVault;II[J)I"⟩ ∈ aW := aw_of (tb_8 (List.mem_of_getElem? (i := 86) rfl)) rfl
theorem w1912 : Cond.codeWith ⟨"SeriesVaultLaw", "isThere", "(LSeriesVault;II[J)I"⟩ method_18_code 5 (some FieldType.int) [(0, 17, 20, 35)] ∈ aW := aw_of (tb_8 (List.mem_of_getElem? (i := 88) rfl)) rfl
theorem w1913 : Cond.static ⟨"SeriesVaultLaw", "isThere", "(LSeriesVault;II[J)I"⟩ ∈ aW := aw_of (tb_8 (List.mem_of_getElem? (i := 87) rfl)) rfl
theorem w1914 : Cond.methodLink "SeriesVaultLaw" 172 ⟨"SeriesVaultModel", "isThere", "(II)Z"⟩ ∈ aW := aw_of (tb_11 (List.mem_of_getElem? (i := 71) rfl)) rfl
theorem w1915 : Cond.code ⟨"SeriesVaultModel", "isThere", "(II)Z"⟩ prog_14_method_95_code 3 (some FieldType.boolean) ∈ aW := aw_of (tb_11 (List.mem_of_getElem? (i := 74) rfl)) rfl
theorem w1916 : Cond.instanceMethod ⟨"SeriesVaultModel", "isThere", "(II)Z"⟩ ∈ aW := aw_of (tb_11 (List.mem_of_getElem? (i := 72) rfl)) rfl
theorem w1917 : Cond.selects "SeriesVaultModel" ⟨"SeriesVaultModel", "isThere", "(II)Z"⟩ ⟨"SeriesVaultModel", "isThere", "(II)Z"⟩ ∈ aW := aw_of (tb_11 (List.mem_of_getElem? (i := 73) rfl)) rfl
set_option maxHeartbeats 4000000 in
set_option maxRecDepth 100000 in
theorem l9_16_1 {p : Program} {e : Env} {s : State} {m : MethodId} {below : List Frame} {meth : Method} {c : Code} (l : Launch) {b L : Nat} {xs : Nat → Int32} {D : va_G} {dA : Nat → ClassId} {e0 : Nat} {A : Nat → Prop} {H : Heap} {locs : List Loc} {ls : Array Slot} (hC : lS p l s m meth c b L xs D dA e0 A) {h : Nat} {ad : Nat → Nat} {x : VS} {mm : Nat} {mad : Nat → Nat} {M M1 : MS} {o : Nat} {og : Nat → Int64} {i fr1 lo1 fr2 lo2 mc9 ms9 cells slots : Nat} {F9 : VS → Prop} {v9 : Int64} (hi : i + 6 ≤ L) (hL : L ≤ 3072) (hfr : fr1 ≤ 2000 ∧ lo1 ≤ 80000 ∧ fr2 ≤ 2000 ∧ lo2 ≤ 80000) (hrm : cells + mc9 ≤ 601024 ∧ slots + ms9 ≤ 7293034) (hcod : M1.cod = 0) (hv : v9 = 1) (hW : ∀ sz : Nat, Met l ⟨"SeriesVaultLaw", "isThere", "(LSeriesVault;II[J)I"⟩ [Cond.codeWith ⟨"SeriesVaultLaw", "isThere", "(LSeriesVault;II[J)I"⟩ method_18_code 5 (some FieldType.int) [(0, 17, 20, 35)]] { frames := fr1, cells := mc9, slots := ms9, locals := lo1 } (pC D dA [.ref h, .int (xs (i + 1)), .int (xs (i + 2)), .ref o] (([(o, .inl (dA 2, 1, .inr (.inl og)))] : va_W) ++ (VW dA h ad x)) sz) (va_Qi (fun (r9 : Int32) (u9 : VS) => r9 = 0 ∧ F9 u9) (fun (u9 : VS) t9 => bW D (va_A (([(o, .inl (dA 2, 1, .inr (.inl og)))] : va_W) ++ (VW dA h ad x)) sz) (([(o, .inl (dA 2, 1, .inr (.inl (va_up og 0 v9))))] : va_W) ++ (VW dA h ad u9)) t9) (va_A (([(o, .inl (dA 2, 1, .inr (.inl og)))] : va_W) ++ (VW dA h ad x)) sz)) mc9 ms9 (va_A (([(o, .inl (dA 2, 1, .inr (.inl og)))] : va_W) ++ (VW dA h ad x)) sz)) (hM : ∀ sz : Nat, Met l ⟨"SeriesVaultModel", "isThere", "(II)Z"⟩ [Cond.code ⟨"SeriesVaultModel", "isThere", "(II)Z"⟩ prog_14_method_95_code 3 (some FieldType.boolean)] { frames := fr2, cells := 0, slots := 0, locals := lo2 } (pC D dA [.ref mm, .int (xs (i + 1)), .int (xs (i + 2))] (MW dA mm mad M) sz) (va_Qi (fun (r9 : Int32) (u9 : Unit) => r9 = 1) (fun (u9 : Unit) t9 => bW D (va_A (MW dA mm mad M) sz) (MW dA mm mad M1) t9) (va_A (MW dA mm mad M) sz)) 0 0 (va_A (MW dA mm mad M) sz)) (hP : va_P D vwCl (MW dA mm mad M ++ (([(o, .inl (dA 2, 1, .inr (.inl og)))] : va_W) ++ (VW dA h ad x))) H) (hD : va_D A (MW dA mm mad M ++ (([(o, .inl (dA 2, 1, .inr (.inl og)))] : va_W) ++ (VW dA h ad x)))) (hS : va_S A s.heap H locs) (hl : lv_has ls 8 [(4, .int (nI i)), (3, .ref o), (2, .ref mm), (1, .ref h), (0, .ref b)]) (cont : ∀ (u : VS) (H1 : Heap) (locs1 : List Loc) (ls1 : Array Slot), F9 u → va_P D vwCl (MW dA mm mad M1 ++ (([(o, .inl (dA 2, 1, .inr (.inl (va_up og 0 v9))))] : va_W) ++ (VW dA h ad u))) H1 → va_D A (MW dA mm mad M1 ++ (([(o, .inl (dA 2, 1, .inr (.inl (va_up og 0 v9))))] : va_W) ++ (VW dA h ad u))) → va_S A s.heap H1 locs1 → lv_has ls1 8 [(4, .int (nI (i + 6))), (3, .ref o), (2, .ref mm), (1, .ref h), (0, .ref b)] → W p l e room_1 s m #[Value.ref b] below meth c H1 locs1 (cells + mc9 + 0 + 0) (slots + ms9 + 0 + 0) (lw_Z below #[Value.ref b] s) (F0 m 23 ls1 [])) : W p l e room_1 s m #[Value.ref b] below meth c H locs cells slots (lw_Z below #[Value.ref b] s) (F0 m 1332 ls []) := by
  have hC0 := hC
  obtain ⟨hx, hb, hr, hml, hown, hlk, hE, hK, hA, hN, hZ, hT, hX, hbl, hbA, hnew, htr⟩ := hC
  refine lv_aload_n hx hb d_SeriesVaultLaw_law_1332 rfl (lv_at hl 3 rfl) ?_
  refine lv_aload_n hx hb d_SeriesVaultLaw_law_1333 rfl (lv_at hl 4 rfl) ?_
  refine lv_iload hx hb d_SeriesVaultLaw_law_1334 (lv_at hl 0 rfl) ?_
  refine lv_iconst (v := 1) hx hb d_SeriesVaultLaw_law_1336 (by decide) ?_
  refine lv_iadd hx hb d_SeriesVaultLaw_law_1337 (tpi (y := nI (i + 1)) (nI_add (i) (1)) ?_)
  refine sldN hx hb hX hbl hbA hS (show i + 1 < L by omega) (show L ≤ 65536 by omega) d_SeriesVaultLaw_law_1338 ?_
  refine lv_aload_n hx hb d_SeriesVaultLaw_law_1339 rfl (lv_at hl 4 rfl) ?_
  refine lv_iload hx hb d_SeriesVaultLaw_law_1340 (lv_at hl 0 rfl) ?_
  refine lv_iconst (v := 2) hx hb d_SeriesVaultLaw_law_1342 (by decide) ?_
  refine lv_iadd hx hb d_SeriesVaultLaw_law_1343 (tpi (y := nI (i + 2)) (nI_add (i) (2)) ?_)
  refine sldN hx hb hX hbl hbA hS (show i + 2 < L by omega) (show L ≤ 65536 by omega) d_SeriesVaultLaw_law_1344 ?_
  refine lv_aload_n hx hb d_SeriesVaultLaw_law_1345 rfl (lv_at hl 1 rfl) ?_
  have hPc : va_P D vwCl (([(o, .inl (dA 2, 1, .inr (.inl og)))] : va_W) ++ (VW dA h ad x)) H := spP (wr := MW dA mm mad M) hP
  have hDc : va_D A (([(o, .inl (dA 2, 1, .inr (.inl og)))] : va_W) ++ (VW dA h ad x)) := spD (wr := MW dA mm mad M) hD
  refine jkI (wr := MW dA mm mad M) (rnW (As := [.ref h, .int (xs (i + 1)), .int (xs (i + 2)), .ref o]) (rest := []) hx hb hml hown hE hK (hN _ _ hS) hPc hDc (hW H.size) w1912 w1911 w1913 w1793 rfl rfl ⟨⟨by decide, by decide⟩, rfl⟩ ⟨(show fr1 + 1 ≤ 2048 by omega), (show 8 + (5 + 11) + lo1 ≤ 84000 by omega)⟩ rfl hl.1 rfl (Nat.le_of_ble_eq_true rfl) d_SeriesVaultLaw_law_1346 ⟨(show cells + mc9 ≤ 601024 by omega), (show slots + ms9 ≤ 7293034 by omega)⟩) hP hD hS hA (fun k8 u8 H locs hp9 hP hD hS => ?_)
  obtain ⟨hp9, hf9⟩ := hp9
  replace hp9 : 0 = k8 := Eq.symm hp9
  subst hp9
  have hP : va_P D vwCl (MW dA mm mad M ++ (([(o, .inl (dA 2, 1, .inr (.inl (va_up og 0 v9))))] : va_W) ++ (VW dA h ad u8))) H := hP
  have hD : va_D A (MW dA mm mad M ++ (([(o, .inl (dA 2, 1, .inr (.inl (va_up og 0 v9))))] : va_W) ++ (VW dA h ad u8))) := hD
  refine lv_istore hx hb d_SeriesVaultLaw_law_1349 hl (by decide) rfl (fun ls hl => ?_)
  have hl : lv_has ls 8 [(5, .int 0), (4, .int (nI i)), (3, .ref o), (2, .ref mm), (1, .ref h), (0, .ref b)] := hl
  refine lv_aload_n hx hb d_SeriesVaultLaw_law_1351 rfl (lv_at hl 3 rfl) ?_
  refine lv_aload_n hx hb d_SeriesVaultLaw_law_1352 rfl (lv_at hl 5 rfl) ?_
  refine lv_iload hx hb d_SeriesVaultLaw_law_1353 (lv_at hl 1 rfl) ?_
  refine lv_iconst (v := 1) hx hb d_SeriesVaultLaw_law_1355 (by decide) ?_
  refine lv_iadd hx hb d_SeriesVaultLaw_law_1356 (tpi (y := nI (i + 1)) (nI_add (i) (1)) ?_)
  refine sldN hx hb hX hbl hbA hS (show i + 1 < L by omega) (show L ≤ 65536 by omega) d_SeriesVaultLaw_law_1357 ?_
  refine lv_aload_n hx hb d_SeriesVaultLaw_law_1358 rfl (lv_at hl 5 rfl) ?_
  refine lv_iload hx hb d_SeriesVaultLaw_law_1359 (lv_at hl 1 rfl) ?_
  refine lv_iconst (v := 2) hx hb d_SeriesVaultLaw_law_1361 (by decide) ?_
  refine lv_iadd hx hb d_SeriesVaultLaw_law_1362 (tpi (y := nI (i + 2)) (nI_add (i) (2)) ?_)
  refine sldN hx hb hX hbl hbA hS (show i + 2 < L by omega) (show L ≤ 65536 by omega) d_SeriesVaultLaw_law_1363 ?_
  have hP := pmP (show List.Perm (α := Nat × va_E) (MW dA mm mad M ++ (([(o, .inl (dA 2, 1, .inr (.inl (va_up og 0 v9))))] : va_W) ++ (VW dA h ad u8))) (([(o, .inl (dA 2, 1, .inr (.inl (va_up og 0 v9))))] : va_W) ++ (MW dA mm mad M ++ (VW dA h ad u8))) from List.perm_append_comm_assoc (MW dA mm mad M) (([(o, .inl (dA 2, 1, .inr (.inl (va_up og 0 v9))))] : va_W)) (VW dA h ad u8)) hP
  have hD := pmD (show List.Perm (α := Nat × va_E) (MW dA mm mad M ++ (([(o, .inl (dA 2, 1, .inr (.inl (va_up og 0 v9))))] : va_W) ++ (VW dA h ad u8))) (([(o, .inl (dA 2, 1, .inr (.inl (va_up og 0 v9))))] : va_W) ++ (MW dA mm mad M ++ (VW dA h ad u8))) from List.perm_append_comm_assoc (MW dA mm mad M) (([(o, .inl (dA 2, 1, .inr (.inl (va_up og 0 v9))))] : va_W)) (VW dA h ad u8)) hD
  have hP := pmP (show List.Perm (α := Nat × va_E) (([(o, .inl (dA 2, 1, .inr (.inl (va_up og 0 v9))))] : va_W) ++ (MW dA mm mad M ++ (VW dA h ad u8))) (([(o, .inl (dA 2, 1, .inr (.inl (va_up og 0 v9))))] : va_W) ++ (VW dA h ad u8 ++ (MW dA mm mad M))) from List.Perm.append_left (([(o, .inl (dA 2, 1, .inr (.inl (va_up og 0 v9))))] : va_W)) (List.perm_append_comm)) hP
  have hD := pmD (show List.Perm (α := Nat × va_E) (([(o, .inl (dA 2, 1, .inr (.inl (va_up og 0 v9))))] : va_W) ++ (MW dA mm mad M ++ (VW dA h ad u8))) (([(o, .inl (dA 2, 1, .inr (.inl (va_up og 0 v9))))] : va_W) ++ (VW dA h ad u8 ++ (MW dA mm mad M))) from List.Perm.append_left (([(o, .inl (dA 2, 1, .inr (.inl (va_up og 0 v9))))] : va_W)) (List.perm_append_comm)) hD
  have hPc : va_P D vwCl (MW dA mm mad M) H := spP (wr := ([(o, .inl (dA 2, 1, .inr (.inl (va_up og 0 v9))))] : va_W) ++ (VW dA h ad u8)) hP
  have hDc : va_D A (MW dA mm mad M) := spD (wr := ([(o, .inl (dA 2, 1, .inr (.inl (va_up og 0 v9))))] : va_W) ++ (VW dA h ad u8)) hD
  refine jkI (wr := ([(o, .inl (dA 2, 1, .inr (.inl (va_up og 0 v9))))] : va_W) ++ (VW dA h ad u8)) (rnV (As := [.int (xs (i + 1)), .int (xs (i + 2))]) (rest := []) hx hb hml hown hE hK (hN _ _ hS) hPc hDc (hM H.size) (q0 := 0) rfl rfl w1915 w1914 w1916 w1917 w328 rfl rfl ⟨⟨by decide, by decide⟩, rfl⟩ ⟨(show fr2 + 1 ≤ 2048 by omega), (show 8 + (3 + 11) + lo2 ≤ 84000 by omega)⟩ rfl hl.1 rfl (Nat.le_of_ble_eq_true rfl) d_SeriesVaultLaw_law_1364 ⟨(show cells + mc9 + 0 ≤ 601024 by omega), (show slots + ms9 + 0 ≤ 7293034 by omega)⟩) hP hD hS hA (fun r7 u7 H locs hp9 hP hD hS => ?_)
  replace hp9 : 1 = r7 := Eq.symm hp9
  subst hp9
  have hP : va_P D vwCl (([(o, .inl (dA 2, 1, .inr (.inl (va_up og 0 v9))))] : va_W) ++ (VW dA h ad u8 ++ (MW dA mm mad M1))) H := hP
  have hD : va_D A (([(o, .inl (dA 2, 1, .inr (.inl (va_up og 0 v9))))] : va_W) ++ (VW dA h ad u8 ++ (MW dA mm mad M1))) := hD
  refine lv_istore hx hb d_SeriesVaultLaw_law_1367 hl (by decide) rfl (fun ls hl => ?_)
  have hl : lv_has ls 8 [(6, .int 1), (5, .int 0), (4, .int (nI i)), (3, .ref o), (2, .ref mm), (1, .ref h), (0, .ref b)] := hl
  refine lv_aload_n hx hb d_SeriesVaultLaw_law_1369 rfl (lv_at hl 4 rfl) ?_
  have hPc : va_P D vwCl (MW dA mm mad M1) H := spP (wr := ([(o, .inl (dA 2, 1, .inr (.inl (va_up og 0 v9))))] : va_W) ++ (VW dA h ad u8)) hP
  have hDc : va_D A (MW dA mm mad M1) := spD (wr := ([(o, .inl (dA 2, 1, .inr (.inl (va_up og 0 v9))))] : va_W) ++ (VW dA h ad u8)) hD
  refine jkI (wr := ([(o, .inl (dA 2, 1, .inr (.inl (va_up og 0 v9))))] : va_W) ++ (VW dA h ad u8)) (rnV (As := []) (rest := []) hx hb hml hown hE hK (hN _ _ hS) hPc hDc (k_thrown l D dA H.size mm mad M1) (q0 := 0) rfl rfl w1801 w1800 w1802 w1803 w328 rfl rfl ⟨⟨by decide, by decide⟩, rfl⟩ ⟨(show 1 + 1 ≤ 2048 by omega), (show 8 + (1 + 11) + 0 ≤ 84000 by omega)⟩ rfl hl.1 rfl (Nat.le_of_ble_eq_true rfl) d_SeriesVaultLaw_law_1370 ⟨(show cells + mc9 + 0 ≤ 601024 by omega), (show slots + ms9 + 0 ≤ 7293034 by omega)⟩) hP hD hS hA (fun r7 u7 H locs hp9 hP hD hS => ?_)
  replace hp9 : 0 = r7 := Eq.symm (hp9.trans hcod)
  subst hp9
  have hP : va_P D vwCl (([(o, .inl (dA 2, 1, .inr (.inl (va_up og 0 v9))))] : va_W) ++ (VW dA h ad u8 ++ (MW dA mm mad M1))) H := hP
  have hD : va_D A (([(o, .inl (dA 2, 1, .inr (.inl (va_up og 0 v9))))] : va_W) ++ (VW dA h ad u8 ++ (MW dA mm mad M1))) := hD
  refine lv_iload hx hb d_SeriesVaultLaw_law_1373 (lv_at hl 1 rfl) ?_
  refine lv_icmp_eq hx hb d_SeriesVaultLaw_law_1375 (tgt := 1380) rfl (fun _ => ?_) (fun h9 => absurd rfl h9)
  refine lv_iload hx hb d_SeriesVaultLaw_law_1380 (lv_at hl 1 rfl) ?_
  refine lv_if_ne hx hb d_SeriesVaultLaw_law_1382 (tgt := 1404) rfl (fun h9 => absurd (by decide) h9) (fun _ => ?_)
  refine lv_aload_n hx hb d_SeriesVaultLaw_law_1385 rfl (lv_at hl 3 rfl) ?_
  refine lv_iconst (v := 0) hx hb d_SeriesVaultLaw_law_1386 (by decide) ?_
  refine nlld (f := (va_up og 0 v9)) (n := 1) hx hb hK hP (0) 2 rfl rfl (0) (by decide) (by decide) d_SeriesVaultLaw_law_1387 ?_
  refine tpl (y := v9) (va_up_self _ _ _) ?_
  refine lv_iload hx hb d_SeriesVaultLaw_law_1388 (lv_at hl 0 rfl) ?_
  refine lv_if_eq hx hb d_SeriesVaultLaw_law_1390 (tgt := 1397) rfl (fun h9 => absurd h9 (by decide)) (fun _ => ?_)
  refine lv_lconst (v := 1) hx hb d_SeriesVaultLaw_law_1393 (by decide) ?_
  refine lv_goto hx hb d_SeriesVaultLaw_law_1394 (tgt := 1398) rfl ?_
  refine W.lcmp hx hb d_SeriesVaultLaw_law_1398 ?_
  refine lv_if_eq hx hb d_SeriesVaultLaw_law_1399 (tgt := 1404) rfl (fun _ => ?_) (fun h9 => absurd ((lg_cmp_eq _ _).mpr hv) h9)
  refine lv_goto hx hb d_SeriesVaultLaw_law_1404 (tgt := 1770) rfl ?_
  refine lv_iinc (k := 2) (v := nI (i + 6)) hx hb d_SeriesVaultLaw_law_1770 hl rfl (iincN (i) 6 6 (by decide)) (by decide) rfl (fun ls hl => ?_)
  have hl : lv_has ls 8 [(4, .int (nI (i + 6))), (6, .int 1), (5, .int 0), (3, .ref o), (2, .ref mm), (1, .ref h), (0, .ref b)] := hl
  refine lv_goto hx hb d_SeriesVaultLaw_law_1773 (tgt := 23) rfl ?_
  have hP := pmP (show List.Perm (α := Nat × va_E) (([(o, .inl (dA 2, 1, .inr (.inl (va_up og 0 v9))))] : va_W) ++ (VW dA h ad u8 ++ (MW dA mm mad M1))) (MW dA mm mad M1 ++ (([(o, .inl (dA 2, 1, .inr (.inl (va_up og 0 v9))))] : va_W) ++ (VW dA h ad u8))) from (List.Perm.append_left (([(o, .inl (dA 2, 1, .inr (.inl (va_up og 0 v9))))] : va_W)) (List.perm_append_comm)).trans (List.perm_append_comm_assoc (([(o, .inl (dA 2, 1, .inr (.inl (va_up og 0 v9))))] : va_W)) (MW dA mm mad M1) (VW dA h ad u8))) hP
  have hD := pmD (show List.Perm (α := Nat × va_E) (([(o, .inl (dA 2, 1, .inr (.inl (va_up og 0 v9))))] : va_W) ++ (VW dA h ad u8 ++ (MW dA mm mad M1))) (MW dA mm mad M1 ++ (([(o, .inl (dA 2, 1, .inr (.inl (va_up og 0 v9))))] : va_W) ++ (VW dA h ad u8))) from (List.Perm.append_left (([(o, .inl (dA 2, 1, .inr (.inl (va_up og 0 v9))))] : va_W)) (List.perm_append_comm)).trans (List.perm_append_comm_assoc (([(o, .inl (dA 2, 1, .inr (.inl (va_up og 0 v9))))] : va_W)) (MW dA mm mad M1) (VW dA h ad u8))) hD
  have hP : va_P D vwCl (MW dA mm mad M1 ++ (([(o, .inl (dA 2, 1, .inr (.inl (va_up og 0 v9))))] : va_W) ++ (VW dA h ad u8))) H := hP
  have hD : va_D A (MW dA mm mad M1 ++ (([(o, .inl (dA 2, 1, .inr (.inl (va_up og 0 v9))))] : va_W) ++ (VW dA h ad u8))) := hD
  have hl := lv_sub (l' := [(4, .int (nI (i + 6))), (3, .ref o), (2, .ref mm), (1, .ref h), (0, .ref b)]) hl [0, 3, 4, 5, 6] rfl
  exact cont u8 H locs ls hf9 hP hD hS hl
theorem d_SeriesVaultLaw_law_1397 : decode code 1397 = .ok (.lconst 0, 1) := by decide +kernel
set_option maxHeartbeats 4000000 in
set_option maxRecDepth 100000 in
theorem l9_16_0 {p : Program} {e : Env} {s : State} {m : MethodId} {below : List Frame} {meth : Method} {c : Code} (l : Launch) {b L : Nat} {xs : Nat → Int32} {D : va_G} {dA : Nat → ClassId} {e0 : Nat} {A : Nat → Prop} {H : Heap} {locs : List Loc} {ls : Array Slot} (hC : lS p l s m meth c b L xs D dA e0 A) {h : Nat} {ad : Nat → Nat} {x : VS} {mm : Nat} {mad : Nat → Nat} {M M1 : MS} {o : Nat} {og : Nat → Int64} {i fr1 lo1 fr2 lo2 mc9 ms9 cells slots : Nat} {F9 : VS → Prop} {v9 : Int64} (hi : i + 6 ≤ L) (hL : L ≤ 3072) (hfr : fr1 ≤ 2000 ∧ lo1 ≤ 80000 ∧ fr2 ≤ 2000 ∧ lo2 ≤ 80000) (hrm : cells + mc9 ≤ 601024 ∧ slots + ms9 ≤ 7293034) (hcod : M1.cod = 0) (hv : v9 = 0) (hW : ∀ sz : Nat, Met l ⟨"SeriesVaultLaw", "isThere", "(LSeriesVault;II[J)I"⟩ [Cond.codeWith ⟨"SeriesVaultLaw", "isThere", "(LSeriesVault;II[J)I"⟩ method_18_code 5 (some FieldType.int) [(0, 17, 20, 35)]] { frames := fr1, cells := mc9, slots := ms9, locals := lo1 } (pC D dA [.ref h, .int (xs (i + 1)), .int (xs (i + 2)), .ref o] (([(o, .inl (dA 2, 1, .inr (.inl og)))] : va_W) ++ (VW dA h ad x)) sz) (va_Qi (fun (r9 : Int32) (u9 : VS) => r9 = 0 ∧ F9 u9) (fun (u9 : VS) t9 => bW D (va_A (([(o, .inl (dA 2, 1, .inr (.inl og)))] : va_W) ++ (VW dA h ad x)) sz) (([(o, .inl (dA 2, 1, .inr (.inl (va_up og 0 v9))))] : va_W) ++ (VW dA h ad u9)) t9) (va_A (([(o, .inl (dA 2, 1, .inr (.inl og)))] : va_W) ++ (VW dA h ad x)) sz)) mc9 ms9 (va_A (([(o, .inl (dA 2, 1, .inr (.inl og)))] : va_W) ++ (VW dA h ad x)) sz)) (hM : ∀ sz : Nat, Met l ⟨"SeriesVaultModel", "isThere", "(II)Z"⟩ [Cond.code ⟨"SeriesVaultModel", "isThere", "(II)Z"⟩ prog_14_method_95_code 3 (some FieldType.boolean)] { frames := fr2, cells := 0, slots := 0, locals := lo2 } (pC D dA [.ref mm, .int (xs (i + 1)), .int (xs (i + 2))] (MW dA mm mad M) sz) (va_Qi (fun (r9 : Int32) (u9 : Unit) => r9 = 0) (fun (u9 : Unit) t9 => bW D (va_A (MW dA mm mad M) sz) (MW dA mm mad M1) t9) (va_A (MW dA mm mad M) sz)) 0 0 (va_A (MW dA mm mad M) sz)) (hP : va_P D vwCl (MW dA mm mad M ++ (([(o, .inl (dA 2, 1, .inr (.inl og)))] : va_W) ++ (VW dA h ad x))) H) (hD : va_D A (MW dA mm mad M ++ (([(o, .inl (dA 2, 1, .inr (.inl og)))] : va_W) ++ (VW dA h ad x)))) (hS : va_S A s.heap H locs) (hl : lv_has ls 8 [(4, .int (nI i)), (3, .ref o), (2, .ref mm), (1, .ref h), (0, .ref b)]) (cont : ∀ (u : VS) (H1 : Heap) (locs1 : List Loc) (ls1 : Array Slot), F9 u → va_P D vwCl (MW dA mm mad M1 ++ (([(o, .inl (dA 2, 1, .inr (.inl (va_up og 0 v9))))] : va_W) ++ (VW dA h ad u))) H1 → va_D A (MW dA mm mad M1 ++ (([(o, .inl (dA 2, 1, .inr (.inl (va_up og 0 v9))))] : va_W) ++ (VW dA h ad u))) → va_S A s.heap H1 locs1 → lv_has ls1 8 [(4, .int (nI (i + 6))), (3, .ref o), (2, .ref mm), (1, .ref h), (0, .ref b)] → W p l e room_1 s m #[Value.ref b] below meth c H1 locs1 (cells + mc9 + 0 + 0) (slots + ms9 + 0 + 0) (lw_Z below #[Value.ref b] s) (F0 m 23 ls1 [])) : W p l e room_1 s m #[Value.ref b] below meth c H locs cells slots (lw_Z below #[Value.ref b] s) (F0 m 1332 ls []) := by
  have hC0 := hC
  obtain ⟨hx, hb, hr, hml, hown, hlk, hE, hK, hA, hN, hZ, hT, hX, hbl, hbA, hnew, htr⟩ := hC
  refine lv_aload_n hx hb d_SeriesVaultLaw_law_1332 rfl (lv_at hl 3 rfl) ?_
  refine lv_aload_n hx hb d_SeriesVaultLaw_law_1333 rfl (lv_at hl 4 rfl) ?_
  refine lv_iload hx hb d_SeriesVaultLaw_law_1334 (lv_at hl 0 rfl) ?_
  refine lv_iconst (v := 1) hx hb d_SeriesVaultLaw_law_1336 (by decide) ?_
  refine lv_iadd hx hb d_SeriesVaultLaw_law_1337 (tpi (y := nI (i + 1)) (nI_add (i) (1)) ?_)
  refine sldN hx hb hX hbl hbA hS (show i + 1 < L by omega) (show L ≤ 65536 by omega) d_SeriesVaultLaw_law_1338 ?_
  refine lv_aload_n hx hb d_SeriesVaultLaw_law_1339 rfl (lv_at hl 4 rfl) ?_
  refine lv_iload hx hb d_SeriesVaultLaw_law_1340 (lv_at hl 0 rfl) ?_
  refine lv_iconst (v := 2) hx hb d_SeriesVaultLaw_law_1342 (by decide) ?_
  refine lv_iadd hx hb d_SeriesVaultLaw_law_1343 (tpi (y := nI (i + 2)) (nI_add (i) (2)) ?_)
  refine sldN hx hb hX hbl hbA hS (show i + 2 < L by omega) (show L ≤ 65536 by omega) d_SeriesVaultLaw_law_1344 ?_
  refine lv_aload_n hx hb d_SeriesVaultLaw_law_1345 rfl (lv_at hl 1 rfl) ?_
  have hPc : va_P D vwCl (([(o, .inl (dA 2, 1, .inr (.inl og)))] : va_W) ++ (VW dA h ad x)) H := spP (wr := MW dA mm mad M) hP
  have hDc : va_D A (([(o, .inl (dA 2, 1, .inr (.inl og)))] : va_W) ++ (VW dA h ad x)) := spD (wr := MW dA mm mad M) hD
  refine jkI (wr := MW dA mm mad M) (rnW (As := [.ref h, .int (xs (i + 1)), .int (xs (i + 2)), .ref o]) (rest := []) hx hb hml hown hE hK (hN _ _ hS) hPc hDc (hW H.size) w1912 w1911 w1913 w1793 rfl rfl ⟨⟨by decide, by decide⟩, rfl⟩ ⟨(show fr1 + 1 ≤ 2048 by omega), (show 8 + (5 + 11) + lo1 ≤ 84000 by omega)⟩ rfl hl.1 rfl (Nat.le_of_ble_eq_true rfl) d_SeriesVaultLaw_law_1346 ⟨(show cells + mc9 ≤ 601024 by omega), (show slots + ms9 ≤ 7293034 by omega)⟩) hP hD hS hA (fun k8 u8 H locs hp9 hP hD hS => ?_)
  obtain ⟨hp9, hf9⟩ := hp9
  replace hp9 : 0 = k8 := Eq.symm hp9
  subst hp9
  have hP : va_P D vwCl (MW dA mm mad M ++ (([(o, .inl (dA 2, 1, .inr (.inl (va_up og 0 v9))))] : va_W) ++ (VW dA h ad u8))) H := hP
  have hD : va_D A (MW dA mm mad M ++ (([(o, .inl (dA 2, 1, .inr (.inl (va_up og 0 v9))))] : va_W) ++ (VW dA h ad u8))) := hD
  refine lv_istore hx hb d_SeriesVaultLaw_law_1349 hl (by decide) rfl (fun ls hl => ?_)
  have hl : lv_has ls 8 [(5, .int 0), (4, .int (nI i)), (3, .ref o), (2, .ref mm), (1, .ref h), (0, .ref b)] := hl
  refine lv_aload_n hx hb d_SeriesVaultLaw_law_1351 rfl (lv_at hl 3 rfl) ?_
  refine lv_aload_n hx hb d_SeriesVaultLaw_law_1352 rfl (lv_at hl 5 rfl) ?_
  refine lv_iload hx hb d_SeriesVaultLaw_law_1353 (lv_at hl 1 rfl) ?_
  refine lv_iconst (v := 1) hx hb d_SeriesVaultLaw_law_1355 (by decide) ?_
  refine lv_iadd hx hb d_SeriesVaultLaw_law_1356 (tpi (y := nI (i + 1)) (nI_add (i) (1)) ?_)
  refine sldN hx hb hX hbl hbA hS (show i + 1 < L by omega) (show L ≤ 65536 by omega) d_SeriesVaultLaw_law_1357 ?_
  refine lv_aload_n hx hb d_SeriesVaultLaw_law_1358 rfl (lv_at hl 5 rfl) ?_
  refine lv_iload hx hb d_SeriesVaultLaw_law_1359 (lv_at hl 1 rfl) ?_
  refine lv_iconst (v := 2) hx hb d_SeriesVaultLaw_law_1361 (by decide) ?_
  refine lv_iadd hx hb d_SeriesVaultLaw_law_1362 (tpi (y := nI (i + 2)) (nI_add (i) (2)) ?_)
  refine sldN hx hb hX hbl hbA hS (show i + 2 < L by omega) (show L ≤ 65536 by omega) d_SeriesVaultLaw_law_1363 ?_
  have hP := pmP (show List.Perm (α := Nat × va_E) (MW dA mm mad M ++ (([(o, .inl (dA 2, 1, .inr (.inl (va_up og 0 v9))))] : va_W) ++ (VW dA h ad u8))) (([(o, .inl (dA 2, 1, .inr (.inl (va_up og 0 v9))))] : va_W) ++ (MW dA mm mad M ++ (VW dA h ad u8))) from List.perm_append_comm_assoc (MW dA mm mad M) (([(o, .inl (dA 2, 1, .inr (.inl (va_up og 0 v9))))] : va_W)) (VW dA h ad u8)) hP
  have hD := pmD (show List.Perm (α := Nat × va_E) (MW dA mm mad M ++ (([(o, .inl (dA 2, 1, .inr (.inl (va_up og 0 v9))))] : va_W) ++ (VW dA h ad u8))) (([(o, .inl (dA 2, 1, .inr (.inl (va_up og 0 v9))))] : va_W) ++ (MW dA mm mad M ++ (VW dA h ad u8))) from List.perm_append_comm_assoc (MW dA mm mad M) (([(o, .inl (dA 2, 1, .inr (.inl (va_up og 0 v9))))] : va_W)) (VW dA h ad u8)) hD
  have hP := pmP (show List.Perm (α := Nat × va_E) (([(o, .inl (dA 2, 1, .inr (.inl (va_up og 0 v9))))] : va_W) ++ (MW dA mm mad M ++ (VW dA h ad u8))) (([(o, .inl (dA 2, 1, .inr (.inl (va_up og 0 v9))))] : va_W) ++ (VW dA h ad u8 ++ (MW dA mm mad M))) from List.Perm.append_left (([(o, .inl (dA 2, 1, .inr (.inl (va_up og 0 v9))))] : va_W)) (List.perm_append_comm)) hP
  have hD := pmD (show List.Perm (α := Nat × va_E) (([(o, .inl (dA 2, 1, .inr (.inl (va_up og 0 v9))))] : va_W) ++ (MW dA mm mad M ++ (VW dA h ad u8))) (([(o, .inl (dA 2, 1, .inr (.inl (va_up og 0 v9))))] : va_W) ++ (VW dA h ad u8 ++ (MW dA mm mad M))) from List.Perm.append_left (([(o, .inl (dA 2, 1, .inr (.inl (va_up og 0 v9))))] : va_W)) (List.perm_append_comm)) hD
  have hPc : va_P D vwCl (MW dA mm mad M) H := spP (wr := ([(o, .inl (dA 2, 1, .inr (.inl (va_up og 0 v9))))] : va_W) ++ (VW dA h ad u8)) hP
  have hDc : va_D A (MW dA mm mad M) := spD (wr := ([(o, .inl (dA 2, 1, .inr (.inl (va_up og 0 v9))))] : va_W) ++ (VW dA h ad u8)) hD
  refine jkI (wr := ([(o, .inl (dA 2, 1, .inr (.inl (va_up og 0 v9))))] : va_W) ++ (VW dA h ad u8)) (rnV (As := [.int (xs (i + 1)), .int (xs (i + 2))]) (rest := []) hx hb hml hown hE hK (hN _ _ hS) hPc hDc (hM H.size) (q0 := 0) rfl rfl w1915 w1914 w1916 w1917 w328 rfl rfl ⟨⟨by decide, by decide⟩, rfl⟩ ⟨(show fr2 + 1 ≤ 2048 by omega), (show 8 + (3 + 11) + lo2 ≤ 84000 by omega)⟩ rfl hl.1 rfl (Nat.le_of_ble_eq_true rfl) d_SeriesVaultLaw_law_1364 ⟨(show cells + mc9 + 0 ≤ 601024 by omega), (show slots + ms9 + 0 ≤ 7293034 by omega)⟩) hP hD hS hA (fun r7 u7 H locs hp9 hP hD hS => ?_)
  replace hp9 : 0 = r7 := Eq.symm hp9
  subst hp9
  have hP : va_P D vwCl (([(o, .inl (dA 2, 1, .inr (.inl (va_up og 0 v9))))] : va_W) ++ (VW dA h ad u8 ++ (MW dA mm mad M1))) H := hP
  have hD : va_D A (([(o, .inl (dA 2, 1, .inr (.inl (va_up og 0 v9))))] : va_W) ++ (VW dA h ad u8 ++ (MW dA mm mad M1))) := hD
  refine lv_istore hx hb d_SeriesVaultLaw_law_1367 hl (by decide) rfl (fun ls hl => ?_)
  have hl : lv_has ls 8 [(6, .int 0), (5, .int 0), (4, .int (nI i)), (3, .ref o), (2, .ref mm), (1, .ref h), (0, .ref b)] := hl
  refine lv_aload_n hx hb d_SeriesVaultLaw_law_1369 rfl (lv_at hl 4 rfl) ?_
  have hPc : va_P D vwCl (MW dA mm mad M1) H := spP (wr := ([(o, .inl (dA 2, 1, .inr (.inl (va_up og 0 v9))))] : va_W) ++ (VW dA h ad u8)) hP
  have hDc : va_D A (MW dA mm mad M1) := spD (wr := ([(o, .inl (dA 2, 1, .inr (.inl (va_up og 0 v9))))] : va_W) ++ (VW dA h ad u8)) hD
  refine jkI (wr := ([(o, .inl (dA 2, 1, .inr (.inl (va_up og 0 v9))))] : va_W) ++ (VW dA h ad u8)) (rnV (As := []) (rest := []) hx hb hml hown hE hK (hN _ _ hS) hPc hDc (k_thrown l D dA H.size mm mad M1) (q0 := 0) rfl rfl w1801 w1800 w1802 w1803 w328 rfl rfl ⟨⟨by decide, by decide⟩, rfl⟩ ⟨(show 1 + 1 ≤ 2048 by omega), (show 8 + (1 + 11) + 0 ≤ 84000 by omega)⟩ rfl hl.1 rfl (Nat.le_of_ble_eq_true rfl) d_SeriesVaultLaw_law_1370 ⟨(show cells + mc9 + 0 ≤ 601024 by omega), (show slots + ms9 + 0 ≤ 7293034 by omega)⟩) hP hD hS hA (fun r7 u7 H locs hp9 hP hD hS => ?_)
  replace hp9 : 0 = r7 := Eq.symm (hp9.trans hcod)
  subst hp9
  have hP : va_P D vwCl (([(o, .inl (dA 2, 1, .inr (.inl (va_up og 0 v9))))] : va_W) ++ (VW dA h ad u8 ++ (MW dA mm mad M1))) H := hP
  have hD : va_D A (([(o, .inl (dA 2, 1, .inr (.inl (va_up og 0 v9))))] : va_W) ++ (VW dA h ad u8 ++ (MW dA mm mad M1))) := hD
  refine lv_iload hx hb d_SeriesVaultLaw_law_1373 (lv_at hl 1 rfl) ?_
  refine lv_icmp_eq hx hb d_SeriesVaultLaw_law_1375 (tgt := 1380) rfl (fun _ => ?_) (fun h9 => absurd rfl h9)
  refine lv_iload hx hb d_SeriesVaultLaw_law_1380 (lv_at hl 1 rfl) ?_
  refine lv_if_ne hx hb d_SeriesVaultLaw_law_1382 (tgt := 1404) rfl (fun h9 => absurd (by decide) h9) (fun _ => ?_)
  refine lv_aload_n hx hb d_SeriesVaultLaw_law_1385 rfl (lv_at hl 3 rfl) ?_
  refine lv_iconst (v := 0) hx hb d_SeriesVaultLaw_law_1386 (by decide) ?_
  refine nlld (f := (va_up og 0 v9)) (n := 1) hx hb hK hP (0) 2 rfl rfl (0) (by decide) (by decide) d_SeriesVaultLaw_law_1387 ?_
  refine tpl (y := v9) (va_up_self _ _ _) ?_
  refine lv_iload hx hb d_SeriesVaultLaw_law_1388 (lv_at hl 0 rfl) ?_
  refine lv_if_eq hx hb d_SeriesVaultLaw_law_1390 (tgt := 1397) rfl (fun _ => ?_) (fun h9 => absurd (by decide) h9)
  refine lv_lconst (v := 0) hx hb d_SeriesVaultLaw_law_1397 (by decide) ?_
  refine W.lcmp hx hb d_SeriesVaultLaw_law_1398 ?_
  refine lv_if_eq hx hb d_SeriesVaultLaw_law_1399 (tgt := 1404) rfl (fun _ => ?_) (fun h9 => absurd ((lg_cmp_eq _ _).mpr hv) h9)
  refine lv_goto hx hb d_SeriesVaultLaw_law_1404 (tgt := 1770) rfl ?_
  refine lv_iinc (k := 2) (v := nI (i + 6)) hx hb d_SeriesVaultLaw_law_1770 hl rfl (iincN (i) 6 6 (by decide)) (by decide) rfl (fun ls hl => ?_)
  have hl : lv_has ls 8 [(4, .int (nI (i + 6))), (6, .int 0), (5, .int 0), (3, .ref o), (2, .ref mm), (1, .ref h), (0, .ref b)] := hl
  refine lv_goto hx hb d_SeriesVaultLaw_law_1773 (tgt := 23) rfl ?_
  have hP := pmP (show List.Perm (α := Nat × va_E) (([(o, .inl (dA 2, 1, .inr (.inl (va_up og 0 v9))))] : va_W) ++ (VW dA h ad u8 ++ (MW dA mm mad M1))) (MW dA mm mad M1 ++ (([(o, .inl (dA 2, 1, .inr (.inl (va_up og 0 v9))))] : va_W) ++ (VW dA h ad u8))) from (List.Perm.append_left (([(o, .inl (dA 2, 1, .inr (.inl (va_up og 0 v9))))] : va_W)) (List.perm_append_comm)).trans (List.perm_append_comm_assoc (([(o, .inl (dA 2, 1, .inr (.inl (va_up og 0 v9))))] : va_W)) (MW dA mm mad M1) (VW dA h ad u8))) hP
  have hD := pmD (show List.Perm (α := Nat × va_E) (([(o, .inl (dA 2, 1, .inr (.inl (va_up og 0 v9))))] : va_W) ++ (VW dA h ad u8 ++ (MW dA mm mad M1))) (MW dA mm mad M1 ++ (([(o, .inl (dA 2, 1, .inr (.inl (va_up og 0 v9))))] : va_W) ++ (VW dA h ad u8))) from (List.Perm.append_left (([(o, .inl (dA 2, 1, .inr (.inl (va_up og 0 v9))))] : va_W)) (List.perm_append_comm)).trans (List.perm_append_comm_assoc (([(o, .inl (dA 2, 1, .inr (.inl (va_up og 0 v9))))] : va_W)) (MW dA mm mad M1) (VW dA h ad u8))) hD
  have hP : va_P D vwCl (MW dA mm mad M1 ++ (([(o, .inl (dA 2, 1, .inr (.inl (va_up og 0 v9))))] : va_W) ++ (VW dA h ad u8))) H := hP
  have hD : va_D A (MW dA mm mad M1 ++ (([(o, .inl (dA 2, 1, .inr (.inl (va_up og 0 v9))))] : va_W) ++ (VW dA h ad u8))) := hD
  have hl := lv_sub (l' := [(4, .int (nI (i + 6))), (3, .ref o), (2, .ref mm), (1, .ref h), (0, .ref b)]) hl [0, 3, 4, 5, 6] rfl
  exact cont u8 H locs ls hf9 hP hD hS hl
set_option maxHeartbeats 4000000 in
set_option maxRecDepth 100000 in
theorem l9_16_x {p : Program} {e : Env} {s : State} {m : MethodId} {below : List Frame} {meth : Method} {c : Code} (l : Launch) {b L : Nat} {xs : Nat → Int32} {D : va_G} {dA : Nat → ClassId} {e0 : Nat} {A : Nat → Prop} {H : Heap} {locs : List Loc} {ls : Array Slot} (hC : lS p l s m meth c b L xs D dA e0 A) {h : Nat} {ad : Nat → Nat} {x : VS} {mm : Nat} {mad : Nat → Nat} {M M1 : MS} {o : Nat} {og : Nat → Int64} {i fr1 lo1 fr2 lo2 mc9 ms9 cells slots : Nat} {F9 : VS → Prop} {b9 : Bool} {k9 : Nat} (hi : i + 6 ≤ L) (hL : L ≤ 3072) (hfr : fr1 ≤ 2000 ∧ lo1 ≤ 80000 ∧ fr2 ≤ 2000 ∧ lo2 ≤ 80000) (hrm : cells + mc9 ≤ 601024 ∧ slots + ms9 ≤ 7293034) (hcod : M1.cod = nI k9) (hk9 : ¬ nI k9 = 0) (hW : ∀ sz : Nat, Met l ⟨"SeriesVaultLaw", "isThere", "(LSeriesVault;II[J)I"⟩ [Cond.codeWith ⟨"SeriesVaultLaw", "isThere", "(LSeriesVault;II[J)I"⟩ method_18_code 5 (some FieldType.int) [(0, 17, 20, 35)]] { frames := fr1, cells := mc9, slots := ms9, locals := lo1 } (pC D dA [.ref h, .int (xs (i + 1)), .int (xs (i + 2)), .ref o] (([(o, .inl (dA 2, 1, .inr (.inl og)))] : va_W) ++ (VW dA h ad x)) sz) (va_Qi (fun (r9 : Int32) (u9 : VS) => r9 = nI k9 ∧ F9 u9) (fun (u9 : VS) t9 => bW D (va_A (([(o, .inl (dA 2, 1, .inr (.inl og)))] : va_W) ++ (VW dA h ad x)) sz) (([(o, .inl (dA 2, 1, .inr (.inl (og))))] : va_W) ++ (VW dA h ad u9)) t9) (va_A (([(o, .inl (dA 2, 1, .inr (.inl og)))] : va_W) ++ (VW dA h ad x)) sz)) mc9 ms9 (va_A (([(o, .inl (dA 2, 1, .inr (.inl og)))] : va_W) ++ (VW dA h ad x)) sz)) (hM : ∀ sz : Nat, Met l ⟨"SeriesVaultModel", "isThere", "(II)Z"⟩ [Cond.code ⟨"SeriesVaultModel", "isThere", "(II)Z"⟩ prog_14_method_95_code 3 (some FieldType.boolean)] { frames := fr2, cells := 0, slots := 0, locals := lo2 } (pC D dA [.ref mm, .int (xs (i + 1)), .int (xs (i + 2))] (MW dA mm mad M) sz) (va_Qi (fun (r9 : Int32) (u9 : Unit) => r9 = bI b9) (fun (u9 : Unit) t9 => bW D (va_A (MW dA mm mad M) sz) (MW dA mm mad M1) t9) (va_A (MW dA mm mad M) sz)) 0 0 (va_A (MW dA mm mad M) sz)) (hP : va_P D vwCl (MW dA mm mad M ++ (([(o, .inl (dA 2, 1, .inr (.inl og)))] : va_W) ++ (VW dA h ad x))) H) (hD : va_D A (MW dA mm mad M ++ (([(o, .inl (dA 2, 1, .inr (.inl og)))] : va_W) ++ (VW dA h ad x)))) (hS : va_S A s.heap H locs) (hl : lv_has ls 8 [(4, .int (nI i)), (3, .ref o), (2, .ref mm), (1, .ref h), (0, .ref b)]) (cont : ∀ (u : VS) (H1 : Heap) (locs1 : List Loc) (ls1 : Array Slot), F9 u → va_P D vwCl (MW dA mm mad M1 ++ (([(o, .inl (dA 2, 1, .inr (.inl og)))] : va_W) ++ (VW dA h ad u))) H1 → va_D A (MW dA mm mad M1 ++ (([(o, .inl (dA 2, 1, .inr (.inl og)))] : va_W) ++ (VW dA h ad u))) → va_S A s.heap H1 locs1 → lv_has ls1 8 [(4, .int (nI (i + 6))), (3, .ref o), (2, .ref mm), (1, .ref h), (0, .ref b)] → W p l e room_1 s m #[Value.ref b] below meth c H1 locs1 (cells + mc9 + 0 + 0) (slots + ms9 + 0 + 0) (lw_Z below #[Value.ref b] s) (F0 m 23 ls1 [])) : W p l e room_1 s m #[Value.ref b] below meth c H locs cells slots (lw_Z below #[Value.ref b] s) (F0 m 1332 ls []) := by
  have hC0 := hC
  obtain ⟨hx, hb, hr, hml, hown, hlk, hE, hK, hA, hN, hZ, hT, hX, hbl, hbA, hnew, htr⟩ := hC
  refine lv_aload_n hx hb d_SeriesVaultLaw_law_1332 rfl (lv_at hl 3 rfl) ?_
  refine lv_aload_n hx hb d_SeriesVaultLaw_law_1333 rfl (lv_at hl 4 rfl) ?_
  refine lv_iload hx hb d_SeriesVaultLaw_law_1334 (lv_at hl 0 rfl) ?_
  refine lv_iconst (v := 1) hx hb d_SeriesVaultLaw_law_1336 (by decide) ?_
  refine lv_iadd hx hb d_SeriesVaultLaw_law_1337 (tpi (y := nI (i + 1)) (nI_add (i) (1)) ?_)
  refine sldN hx hb hX hbl hbA hS (show i + 1 < L by omega) (show L ≤ 65536 by omega) d_SeriesVaultLaw_law_1338 ?_
  refine lv_aload_n hx hb d_SeriesVaultLaw_law_1339 rfl (lv_at hl 4 rfl) ?_
  refine lv_iload hx hb d_SeriesVaultLaw_law_1340 (lv_at hl 0 rfl) ?_
  refine lv_iconst (v := 2) hx hb d_SeriesVaultLaw_law_1342 (by decide) ?_
  refine lv_iadd hx hb d_SeriesVaultLaw_law_1343 (tpi (y := nI (i + 2)) (nI_add (i) (2)) ?_)
  refine sldN hx hb hX hbl hbA hS (show i + 2 < L by omega) (show L ≤ 65536 by omega) d_SeriesVaultLaw_law_1344 ?_
  refine lv_aload_n hx hb d_SeriesVaultLaw_law_1345 rfl (lv_at hl 1 rfl) ?_
  have hPc : va_P D vwCl (([(o, .inl (dA 2, 1, .inr (.inl og)))] : va_W) ++ (VW dA h ad x)) H := spP (wr := MW dA mm mad M) hP
  have hDc : va_D A (([(o, .inl (dA 2, 1, .inr (.inl og)))] : va_W) ++ (VW dA h ad x)) := spD (wr := MW dA mm mad M) hD
  refine jkI (wr := MW dA mm mad M) (rnW (As := [.ref h, .int (xs (i + 1)), .int (xs (i + 2)), .ref o]) (rest := []) hx hb hml hown hE hK (hN _ _ hS) hPc hDc (hW H.size) w1912 w1911 w1913 w1793 rfl rfl ⟨⟨by decide, by decide⟩, rfl⟩ ⟨(show fr1 + 1 ≤ 2048 by omega), (show 8 + (5 + 11) + lo1 ≤ 84000 by omega)⟩ rfl hl.1 rfl (Nat.le_of_ble_eq_true rfl) d_SeriesVaultLaw_law_1346 ⟨(show cells + mc9 ≤ 601024 by omega), (show slots + ms9 ≤ 7293034 by omega)⟩) hP hD hS hA (fun k8 u8 H locs hp9 hP hD hS => ?_)
  obtain ⟨hp9, hf9⟩ := hp9
  replace hp9 : nI k9 = k8 := Eq.symm hp9
  subst hp9
  have hP : va_P D vwCl (MW dA mm mad M ++ (([(o, .inl (dA 2, 1, .inr (.inl og)))] : va_W) ++ (VW dA h ad u8))) H := hP
  have hD : va_D A (MW dA mm mad M ++ (([(o, .inl (dA 2, 1, .inr (.inl og)))] : va_W) ++ (VW dA h ad u8))) := hD
  refine lv_istore hx hb d_SeriesVaultLaw_law_1349 hl (by decide) rfl (fun ls hl => ?_)
  have hl : lv_has ls 8 [(5, .int (nI k9)), (4, .int (nI i)), (3, .ref o), (2, .ref mm), (1, .ref h), (0, .ref b)] := hl
  refine lv_aload_n hx hb d_SeriesVaultLaw_law_1351 rfl (lv_at hl 3 rfl) ?_
  refine lv_aload_n hx hb d_SeriesVaultLaw_law_1352 rfl (lv_at hl 5 rfl) ?_
  refine lv_iload hx hb d_SeriesVaultLaw_law_1353 (lv_at hl 1 rfl) ?_
  refine lv_iconst (v := 1) hx hb d_SeriesVaultLaw_law_1355 (by decide) ?_
  refine lv_iadd hx hb d_SeriesVaultLaw_law_1356 (tpi (y := nI (i + 1)) (nI_add (i) (1)) ?_)
  refine sldN hx hb hX hbl hbA hS (show i + 1 < L by omega) (show L ≤ 65536 by omega) d_SeriesVaultLaw_law_1357 ?_
  refine lv_aload_n hx hb d_SeriesVaultLaw_law_1358 rfl (lv_at hl 5 rfl) ?_
  refine lv_iload hx hb d_SeriesVaultLaw_law_1359 (lv_at hl 1 rfl) ?_
  refine lv_iconst (v := 2) hx hb d_SeriesVaultLaw_law_1361 (by decide) ?_
  refine lv_iadd hx hb d_SeriesVaultLaw_law_1362 (tpi (y := nI (i + 2)) (nI_add (i) (2)) ?_)
  refine sldN hx hb hX hbl hbA hS (show i + 2 < L by omega) (show L ≤ 65536 by omega) d_SeriesVaultLaw_law_1363 ?_
  have hP := pmP (show List.Perm (α := Nat × va_E) (MW dA mm mad M ++ (([(o, .inl (dA 2, 1, .inr (.inl og)))] : va_W) ++ (VW dA h ad u8))) (([(o, .inl (dA 2, 1, .inr (.inl og)))] : va_W) ++ (MW dA mm mad M ++ (VW dA h ad u8))) from List.perm_append_comm_assoc (MW dA mm mad M) (([(o, .inl (dA 2, 1, .inr (.inl og)))] : va_W)) (VW dA h ad u8)) hP
  have hD := pmD (show List.Perm (α := Nat × va_E) (MW dA mm mad M ++ (([(o, .inl (dA 2, 1, .inr (.inl og)))] : va_W) ++ (VW dA h ad u8))) (([(o, .inl (dA 2, 1, .inr (.inl og)))] : va_W) ++ (MW dA mm mad M ++ (VW dA h ad u8))) from List.perm_append_comm_assoc (MW dA mm mad M) (([(o, .inl (dA 2, 1, .inr (.inl og)))] : va_W)) (VW dA h ad u8)) hD
  have hP := pmP (show List.Perm (α := Nat × va_E) (([(o, .inl (dA 2, 1, .inr (.inl og)))] : va_W) ++ (MW dA mm mad M ++ (VW dA h ad u8))) (([(o, .inl (dA 2, 1, .inr (.inl og)))] : va_W) ++ (VW dA h ad u8 ++ (MW dA mm mad M))) from List.Perm.append_left (([(o, .inl (dA 2, 1, .inr (.inl og)))] : va_W)) (List.perm_append_comm)) hP
  have hD := pmD (show List.Perm (α := Nat × va_E) (([(o, .inl (dA 2, 1, .inr (.inl og)))] : va_W) ++ (MW dA mm mad M ++ (VW dA h ad u8))) (([(o, .inl (dA 2, 1, .inr (.inl og)))] : va_W) ++ (VW dA h ad u8 ++ (MW dA mm mad M))) from List.Perm.append_left (([(o, .inl (dA 2, 1, .inr (.inl og)))] : va_W)) (List.perm_append_comm)) hD
  have hPc : va_P D vwCl (MW dA mm mad M) H := spP (wr := ([(o, .inl (dA 2, 1, .inr (.inl og)))] : va_W) ++ (VW dA h ad u8)) hP
  have hDc : va_D A (MW dA mm mad M) := spD (wr := ([(o, .inl (dA 2, 1, .inr (.inl og)))] : va_W) ++ (VW dA h ad u8)) hD
  refine jkI (wr := ([(o, .inl (dA 2, 1, .inr (.inl og)))] : va_W) ++ (VW dA h ad u8)) (rnV (As := [.int (xs (i + 1)), .int (xs (i + 2))]) (rest := []) hx hb hml hown hE hK (hN _ _ hS) hPc hDc (hM H.size) (q0 := 0) rfl rfl w1915 w1914 w1916 w1917 w328 rfl rfl ⟨⟨by decide, by decide⟩, rfl⟩ ⟨(show fr2 + 1 ≤ 2048 by omega), (show 8 + (3 + 11) + lo2 ≤ 84000 by omega)⟩ rfl hl.1 rfl (Nat.le_of_ble_eq_true rfl) d_SeriesVaultLaw_law_1364 ⟨(show cells + mc9 + 0 ≤ 601024 by omega), (show slots + ms9 + 0 ≤ 7293034 by omega)⟩) hP hD hS hA (fun r7 u7 H locs hp9 hP hD hS => ?_)
  replace hp9 : bI b9 = r7 := Eq.symm hp9
  subst hp9
  have hP : va_P D vwCl (([(o, .inl (dA 2, 1, .inr (.inl og)))] : va_W) ++ (VW dA h ad u8 ++ (MW dA mm mad M1))) H := hP
  have hD : va_D A (([(o, .inl (dA 2, 1, .inr (.inl og)))] : va_W) ++ (VW dA h ad u8 ++ (MW dA mm mad M1))) := hD
  refine lv_istore hx hb d_SeriesVaultLaw_law_1367 hl (by decide) rfl (fun ls hl => ?_)
  have hl : lv_has ls 8 [(6, .int (bI b9)), (5, .int (nI k9)), (4, .int (nI i)), (3, .ref o), (2, .ref mm), (1, .ref h), (0, .ref b)] := hl
  refine lv_aload_n hx hb d_SeriesVaultLaw_law_1369 rfl (lv_at hl 4 rfl) ?_
  have hPc : va_P D vwCl (MW dA mm mad M1) H := spP (wr := ([(o, .inl (dA 2, 1, .inr (.inl og)))] : va_W) ++ (VW dA h ad u8)) hP
  have hDc : va_D A (MW dA mm mad M1) := spD (wr := ([(o, .inl (dA 2, 1, .inr (.inl og)))] : va_W) ++ (VW dA h ad u8)) hD
  refine jkI (wr := ([(o, .inl (dA 2, 1, .inr (.inl og)))] : va_W) ++ (VW dA h ad u8)) (rnV (As := []) (rest := []) hx hb hml hown hE hK (hN _ _ hS) hPc hDc (k_thrown l D dA H.size mm mad M1) (q0 := 0) rfl rfl w1801 w1800 w1802 w1803 w328 rfl rfl ⟨⟨by decide, by decide⟩, rfl⟩ ⟨(show 1 + 1 ≤ 2048 by omega), (show 8 + (1 + 11) + 0 ≤ 84000 by omega)⟩ rfl hl.1 rfl (Nat.le_of_ble_eq_true rfl) d_SeriesVaultLaw_law_1370 ⟨(show cells + mc9 + 0 ≤ 601024 by omega), (show slots + ms9 + 0 ≤ 7293034 by omega)⟩) hP hD hS hA (fun r7 u7 H locs hp9 hP hD hS => ?_)
  replace hp9 : nI k9 = r7 := Eq.symm (hp9.trans hcod)
  subst hp9
  have hP : va_P D vwCl (([(o, .inl (dA 2, 1, .inr (.inl og)))] : va_W) ++ (VW dA h ad u8 ++ (MW dA mm mad M1))) H := hP
  have hD : va_D A (([(o, .inl (dA 2, 1, .inr (.inl og)))] : va_W) ++ (VW dA h ad u8 ++ (MW dA mm mad M1))) := hD
  refine lv_iload hx hb d_SeriesVaultLaw_law_1373 (lv_at hl 1 rfl) ?_
  refine lv_icmp_eq hx hb d_SeriesVaultLaw_law_1375 (tgt := 1380) rfl (fun _ => ?_) (fun h9 => absurd rfl h9)
  refine lv_iload hx hb d_SeriesVaultLaw_law_1380 (lv_at hl 1 rfl) ?_
  refine lv_if_ne hx hb d_SeriesVaultLaw_law_1382 (tgt := 1404) rfl (fun _ => ?_) (fun h9 => absurd h9 hk9)
  refine lv_goto hx hb d_SeriesVaultLaw_law_1404 (tgt := 1770) rfl ?_
  refine lv_iinc (k := 2) (v := nI (i + 6)) hx hb d_SeriesVaultLaw_law_1770 hl rfl (iincN (i) 6 6 (by decide)) (by decide) rfl (fun ls hl => ?_)
  have hl : lv_has ls 8 [(4, .int (nI (i + 6))), (6, .int (bI b9)), (5, .int (nI k9)), (3, .ref o), (2, .ref mm), (1, .ref h), (0, .ref b)] := hl
  refine lv_goto hx hb d_SeriesVaultLaw_law_1773 (tgt := 23) rfl ?_
  have hP := pmP (show List.Perm (α := Nat × va_E) (([(o, .inl (dA 2, 1, .inr (.inl og)))] : va_W) ++ (VW dA h ad u8 ++ (MW dA mm mad M1))) (MW dA mm mad M1 ++ (([(o, .inl (dA 2, 1, .inr (.inl og)))] : va_W) ++ (VW dA h ad u8))) from (List.Perm.append_left (([(o, .inl (dA 2, 1, .inr (.inl og)))] : va_W)) (List.perm_append_comm)).trans (List.perm_append_comm_assoc (([(o, .inl (dA 2, 1, .inr (.inl og)))] : va_W)) (MW dA mm mad M1) (VW dA h ad u8))) hP
  have hD := pmD (show List.Perm (α := Nat × va_E) (([(o, .inl (dA 2, 1, .inr (.inl og)))] : va_W) ++ (VW dA h ad u8 ++ (MW dA mm mad M1))) (MW dA mm mad M1 ++ (([(o, .inl (dA 2, 1, .inr (.inl og)))] : va_W) ++ (VW dA h ad u8))) from (List.Perm.append_left (([(o, .inl (dA 2, 1, .inr (.inl og)))] : va_W)) (List.perm_append_comm)).trans (List.perm_append_comm_assoc (([(o, .inl (dA 2, 1, .inr (.inl og)))] : va_W)) (MW dA mm mad M1) (VW dA h ad u8))) hD
  have hP : va_P D vwCl (MW dA mm mad M1 ++ (([(o, .inl (dA 2, 1, .inr (.inl og)))] : va_W) ++ (VW dA h ad u8))) H := hP
  have hD : va_D A (MW dA mm mad M1 ++ (([(o, .inl (dA 2, 1, .inr (.inl og)))] : va_W) ++ (VW dA h ad u8))) := hD
  have hl := lv_sub (l' := [(4, .int (nI (i + 6))), (3, .ref o), (2, .ref mm), (1, .ref h), (0, .ref b)]) hl [0, 3, 4, 5, 6] rfl
  exact cont u8 H locs ls hf9 hP hD hS hl
theorem d_SeriesVaultLaw_law_1407 : decode code 1407 = .ok (.aload_n 1, 1) := by decide +kernel
theorem d_SeriesVaultLaw_law_1408 : decode code 1408 = .ok (.aload_n 0, 1) := by decide +kernel
theorem d_SeriesVaultLaw_law_1409 : decode code 1409 = .ok (.iload 4, 2) := by decide +kernel
theorem d_SeriesVaultLaw_law_1411 : decode code 1411 = .ok (.iconst 1, 1) := by decide +kernel
theorem d_SeriesVaultLaw_law_1412 : decode code 1412 = .ok (.iadd, 1) := by decide +kernel
theorem d_SeriesVaultLaw_law_1413 : decode code 1413 = .ok (.iaload, 1) := by decide +kernel
theorem d_SeriesVaultLaw_law_1414 : decode code 1414 = .ok (.aload_n 0, 1) := by decide +kernel
theorem d_SeriesVaultLaw_law_1415 : decode code 1415 = .ok (.iload 4, 2) := by decide +kernel
theorem d_SeriesVaultLaw_law_1417 : decode code 1417 = .ok (.iconst 2, 1) := by decide +kernel
theorem d_SeriesVaultLaw_law_1418 : decode code 1418 = .ok (.iadd, 1) := by decide +kernel
theorem d_SeriesVaultLaw_law_1419 : decode code 1419 = .ok (.iaload, 1) := by decide +kernel
theorem d_SeriesVaultLaw_law_1420 : decode code 1420 = .ok (.aload_n 3, 1) := by decide +kernel
theorem d_SeriesVaultLaw_law_1421 : decode code 1421 = .ok (.invokestatic 173, 3) := by decide +kernel
theorem d_SeriesVaultLaw_law_1424 : decode code 1424 = .ok (.istore 5, 2) := by decide +kernel
theorem d_SeriesVaultLaw_law_1426 : decode code 1426 = .ok (.aload_n 2, 1) := by decide +kernel
theorem d_SeriesVaultLaw_law_1427 : decode code 1427 = .ok (.aload_n 0, 1) := by decide +kernel
theorem d_SeriesVaultLaw_law_1428 : decode code 1428 = .ok (.iload 4, 2) := by decide +kernel
theorem d_SeriesVaultLaw_law_1430 : decode code 1430 = .ok (.iconst 1, 1) := by decide +kernel
theorem d_SeriesVaultLaw_law_1431 : decode code 1431 = .ok (.iadd, 1) := by decide +kernel
theorem d_SeriesVaultLaw_law_1432 : decode code 1432 = .ok (.iaload, 1) := by decide +kernel
theorem d_SeriesVaultLaw_law_1433 : decode code 1433 = .ok (.aload_n 0, 1) := by decide +kernel
theorem d_SeriesVaultLaw_law_1434 : decode code 1434 = .ok (.iload 4, 2) := by decide +kernel
theorem d_SeriesVaultLaw_law_1436 : decode code 1436 = .ok (.iconst 2, 1) := by decide +kernel
theorem d_SeriesVaultLaw_law_1437 : decode code 1437 = .ok (.iadd, 1) := by decide +kernel
theorem d_SeriesVaultLaw_law_1438 : decode code 1438 = .ok (.iaload, 1) := by decide +kernel
theorem d_SeriesVaultLaw_law_1439 : decode code 1439 = .ok (.invokevirtual 175, 3) := by decide +kernel
theorem d_SeriesVaultLaw_law_1442 : decode code 1442 = .ok (.lstore 6, 2) := by decide +kernel
theorem d_SeriesVaultLaw_law_1444 : decode code 1444 = .ok (.aload_n 2, 1) := by decide +kernel
theorem d_SeriesVaultLaw_law_1445 : decode code 1445 = .ok (.invokevirtual 110, 3) := by decide +kernel
theorem d_SeriesVaultLaw_law_1448 : decode code 1448 = .ok (.iload 5, 2) := by decide +kernel
theorem d_SeriesVaultLaw_law_1450 : decode code 1450 = .ok (.if_icmp .eq 5, 3) := by decide +kernel
theorem d_SeriesVaultLaw_law_1455 : decode code 1455 = .ok (.iload 5, 2) := by decide +kernel
theorem d_SeriesVaultLaw_law_1457 : decode code 1457 = .ok (.ifCond .ne 14, 3) := by decide +kernel
theorem d_SeriesVaultLaw_law_1460 : decode code 1460 = .ok (.aload_n 3, 1) := by decide +kernel
theorem d_SeriesVaultLaw_law_1461 : decode code 1461 = .ok (.iconst 0, 1) := by decide +kernel
theorem d_SeriesVaultLaw_law_1462 : decode code 1462 = .ok (.laload, 1) := by decide +kernel
theorem d_SeriesVaultLaw_law_1463 : decode code 1463 = .ok (.lload 6, 2) := by decide +kernel
theorem d_SeriesVaultLaw_law_1465 : decode code 1465 = .ok (.lcmp, 1) := by decide +kernel
theorem d_SeriesVaultLaw_law_1466 : decode code 1466 = .ok (.ifCond .eq 5, 3) := by decide +kernel
theorem d_SeriesVaultLaw_law_1471 : decode code 1471 = .ok (.goto 299, 3) := by decide +kernel
theorem w1918 : Cond.methodLink "SeriesVaultLaw" 173 ⟨"SeriesVaultLaw", "cell", "(LSeriesVault;II[J)I"⟩ ∈ aW := aw_of (tb_8 (List.mem_of_getElem? (i := 98) rfl)) rfl
theorem w1919 : Cond.codeWith ⟨"SeriesVaultLaw", "cell", "(LSeriesVault;II[J)I"⟩ method_19_code 5 (some FieldType.int) [(0, 9, 12, 35)] ∈ aW := aw_of (tb_8 (List.mem_of_getElem? (i := 100) rfl)) rfl
theorem w1920 : Cond.static ⟨"SeriesVaultLaw", "cell", "(LSeriesVault;II[J)I"⟩ ∈ aW := aw_of (tb_8 (List.mem_of_getElem? (i := 99) rfl)) rfl
theorem w1921 : Cond.methodLink "SeriesVaultLaw" 175 ⟨"SeriesVaultModel", "cell", "(II)J"⟩ ∈ aW := aw_of (tb_11 (List.mem_of_getElem? (i := 75) rfl)) rfl
theorem w1922 : Cond.code ⟨"SeriesVaultModel", "cell", "(II)J"⟩ prog_14_method_96_code 3 (some FieldType.long) ∈ aW := aw_of (tb_11 (List.mem_of_getElem? (i := 78) rfl)) rfl
theorem w1923 : Cond.instanceMethod ⟨"SeriesVaultModel", "cell", "(II)J"⟩ ∈ aW := aw_of (tb_11 (List.mem_of_getElem? (i := 76) rfl)) rfl
theorem w1924 : Cond.selects "SeriesVaultModel" ⟨"SeriesVaultModel", "cell", "(II)J"⟩ ⟨"SeriesVaultModel", "cell", "(II)J"⟩ ∈ aW := aw_of (tb_11 (List.mem_of_getElem? (i := 77) rfl)) rfl
set_option maxHeartbeats 4000000 in
set_option maxRecDepth 100000 in
theorem l9_17 {p : Program} {e : Env} {s : State} {m : MethodId} {below : List Frame} {meth : Method} {c : Code} (l : Launch) {b L : Nat} {xs : Nat → Int32} {D : va_G} {dA : Nat → ClassId} {e0 : Nat} {A : Nat → Prop} {H : Heap} {locs : List Loc} {ls : Array Slot} (hC : lS p l s m meth c b L xs D dA e0 A) {h : Nat} {ad : Nat → Nat} {x : VS} {mm : Nat} {mad : Nat → Nat} {M M1 : MS} {o : Nat} {og : Nat → Int64} {i fr1 lo1 fr2 lo2 mc9 ms9 cells slots : Nat} {F9 : VS → Prop} {b9 : Int64} {v9 : Int64} (hi : i + 6 ≤ L) (hL : L ≤ 3072) (hfr : fr1 ≤ 2000 ∧ lo1 ≤ 80000 ∧ fr2 ≤ 2000 ∧ lo2 ≤ 80000) (hrm : cells + mc9 ≤ 601024 ∧ slots + ms9 ≤ 7293034) (hcod : M1.cod = 0) (hv : v9 = b9) (hW : ∀ sz : Nat, Met l ⟨"SeriesVaultLaw", "cell", "(LSeriesVault;II[J)I"⟩ [Cond.codeWith ⟨"SeriesVaultLaw", "cell", "(LSeriesVault;II[J)I"⟩ method_19_code 5 (some FieldType.int) [(0, 9, 12, 35)]] { frames := fr1, cells := mc9, slots := ms9, locals := lo1 } (pC D dA [.ref h, .int (xs (i + 1)), .int (xs (i + 2)), .ref o] (([(o, .inl (dA 2, 1, .inr (.inl og)))] : va_W) ++ (VW dA h ad x)) sz) (va_Qi (fun (r9 : Int32) (u9 : VS) => r9 = 0 ∧ F9 u9) (fun (u9 : VS) t9 => bW D (va_A (([(o, .inl (dA 2, 1, .inr (.inl og)))] : va_W) ++ (VW dA h ad x)) sz) (([(o, .inl (dA 2, 1, .inr (.inl (va_up og 0 v9))))] : va_W) ++ (VW dA h ad u9)) t9) (va_A (([(o, .inl (dA 2, 1, .inr (.inl og)))] : va_W) ++ (VW dA h ad x)) sz)) mc9 ms9 (va_A (([(o, .inl (dA 2, 1, .inr (.inl og)))] : va_W) ++ (VW dA h ad x)) sz)) (hM : ∀ sz : Nat, Met l ⟨"SeriesVaultModel", "cell", "(II)J"⟩ [Cond.code ⟨"SeriesVaultModel", "cell", "(II)J"⟩ prog_14_method_96_code 3 (some FieldType.long)] { frames := fr2, cells := 0, slots := 0, locals := lo2 } (pC D dA [.ref mm, .int (xs (i + 1)), .int (xs (i + 2))] (MW dA mm mad M) sz) (va_Ql (fun (r9 : Int64) (u9 : Unit) => r9 = b9) (fun (u9 : Unit) t9 => bW D (va_A (MW dA mm mad M) sz) (MW dA mm mad M1) t9) (va_A (MW dA mm mad M) sz)) 0 0 (va_A (MW dA mm mad M) sz)) (hP : va_P D vwCl (MW dA mm mad M ++ (([(o, .inl (dA 2, 1, .inr (.inl og)))] : va_W) ++ (VW dA h ad x))) H) (hD : va_D A (MW dA mm mad M ++ (([(o, .inl (dA 2, 1, .inr (.inl og)))] : va_W) ++ (VW dA h ad x)))) (hS : va_S A s.heap H locs) (hl : lv_has ls 8 [(4, .int (nI i)), (3, .ref o), (2, .ref mm), (1, .ref h), (0, .ref b)]) (cont : ∀ (u : VS) (H1 : Heap) (locs1 : List Loc) (ls1 : Array Slot), F9 u → va_P D vwCl (MW dA mm mad M1 ++ (([(o, .inl (dA 2, 1, .inr (.inl (va_up og 0 v9))))] : va_W) ++ (VW dA h ad u))) H1 → va_D A (MW dA mm mad M1 ++ (([(o, .inl (dA 2, 1, .inr (.inl (va_up og 0 v9))))] : va_W) ++ (VW dA h ad u))) → va_S A s.heap H1 locs1 → lv_has ls1 8 [(4, .int (nI (i + 6))), (3, .ref o), (2, .ref mm), (1, .ref h), (0, .ref b)] → W p l e room_1 s m #[Value.ref b] below meth c H1 locs1 (cells + mc9 + 0 + 0) (slots + ms9 + 0 + 0) (lw_Z below #[Value.ref b] s) (F0 m 23 ls1 [])) : W p l e room_1 s m #[Value.ref b] below meth c H locs cells slots (lw_Z below #[Value.ref b] s) (F0 m 1407 ls []) := by
  have hC0 := hC
  obtain ⟨hx, hb, hr, hml, hown, hlk, hE, hK, hA, hN, hZ, hT, hX, hbl, hbA, hnew, htr⟩ := hC
  refine lv_aload_n hx hb d_SeriesVaultLaw_law_1407 rfl (lv_at hl 3 rfl) ?_
  refine lv_aload_n hx hb d_SeriesVaultLaw_law_1408 rfl (lv_at hl 4 rfl) ?_
  refine lv_iload hx hb d_SeriesVaultLaw_law_1409 (lv_at hl 0 rfl) ?_
  refine lv_iconst (v := 1) hx hb d_SeriesVaultLaw_law_1411 (by decide) ?_
  refine lv_iadd hx hb d_SeriesVaultLaw_law_1412 (tpi (y := nI (i + 1)) (nI_add (i) (1)) ?_)
  refine sldN hx hb hX hbl hbA hS (show i + 1 < L by omega) (show L ≤ 65536 by omega) d_SeriesVaultLaw_law_1413 ?_
  refine lv_aload_n hx hb d_SeriesVaultLaw_law_1414 rfl (lv_at hl 4 rfl) ?_
  refine lv_iload hx hb d_SeriesVaultLaw_law_1415 (lv_at hl 0 rfl) ?_
  refine lv_iconst (v := 2) hx hb d_SeriesVaultLaw_law_1417 (by decide) ?_
  refine lv_iadd hx hb d_SeriesVaultLaw_law_1418 (tpi (y := nI (i + 2)) (nI_add (i) (2)) ?_)
  refine sldN hx hb hX hbl hbA hS (show i + 2 < L by omega) (show L ≤ 65536 by omega) d_SeriesVaultLaw_law_1419 ?_
  refine lv_aload_n hx hb d_SeriesVaultLaw_law_1420 rfl (lv_at hl 1 rfl) ?_
  have hPc : va_P D vwCl (([(o, .inl (dA 2, 1, .inr (.inl og)))] : va_W) ++ (VW dA h ad x)) H := spP (wr := MW dA mm mad M) hP
  have hDc : va_D A (([(o, .inl (dA 2, 1, .inr (.inl og)))] : va_W) ++ (VW dA h ad x)) := spD (wr := MW dA mm mad M) hD
  refine jkI (wr := MW dA mm mad M) (rnW (As := [.ref h, .int (xs (i + 1)), .int (xs (i + 2)), .ref o]) (rest := []) hx hb hml hown hE hK (hN _ _ hS) hPc hDc (hW H.size) w1919 w1918 w1920 w1793 rfl rfl ⟨⟨by decide, by decide⟩, rfl⟩ ⟨(show fr1 + 1 ≤ 2048 by omega), (show 8 + (5 + 11) + lo1 ≤ 84000 by omega)⟩ rfl hl.1 rfl (Nat.le_of_ble_eq_true rfl) d_SeriesVaultLaw_law_1421 ⟨(show cells + mc9 ≤ 601024 by omega), (show slots + ms9 ≤ 7293034 by omega)⟩) hP hD hS hA (fun k8 u8 H locs hp9 hP hD hS => ?_)
  obtain ⟨hp9, hf9⟩ := hp9
  replace hp9 : 0 = k8 := Eq.symm hp9
  subst hp9
  have hP : va_P D vwCl (MW dA mm mad M ++ (([(o, .inl (dA 2, 1, .inr (.inl (va_up og 0 v9))))] : va_W) ++ (VW dA h ad u8))) H := hP
  have hD : va_D A (MW dA mm mad M ++ (([(o, .inl (dA 2, 1, .inr (.inl (va_up og 0 v9))))] : va_W) ++ (VW dA h ad u8))) := hD
  refine lv_istore hx hb d_SeriesVaultLaw_law_1424 hl (by decide) rfl (fun ls hl => ?_)
  have hl : lv_has ls 8 [(5, .int 0), (4, .int (nI i)), (3, .ref o), (2, .ref mm), (1, .ref h), (0, .ref b)] := hl
  refine lv_aload_n hx hb d_SeriesVaultLaw_law_1426 rfl (lv_at hl 3 rfl) ?_
  refine lv_aload_n hx hb d_SeriesVaultLaw_law_1427 rfl (lv_at hl 5 rfl) ?_
  refine lv_iload hx hb d_SeriesVaultLaw_law_1428 (lv_at hl 1 rfl) ?_
  refine lv_iconst (v := 1) hx hb d_SeriesVaultLaw_law_1430 (by decide) ?_
  refine lv_iadd hx hb d_SeriesVaultLaw_law_1431 (tpi (y := nI (i + 1)) (nI_add (i) (1)) ?_)
  refine sldN hx hb hX hbl hbA hS (show i + 1 < L by omega) (show L ≤ 65536 by omega) d_SeriesVaultLaw_law_1432 ?_
  refine lv_aload_n hx hb d_SeriesVaultLaw_law_1433 rfl (lv_at hl 5 rfl) ?_
  refine lv_iload hx hb d_SeriesVaultLaw_law_1434 (lv_at hl 1 rfl) ?_
  refine lv_iconst (v := 2) hx hb d_SeriesVaultLaw_law_1436 (by decide) ?_
  refine lv_iadd hx hb d_SeriesVaultLaw_law_1437 (tpi (y := nI (i + 2)) (nI_add (i) (2)) ?_)
  refine sldN hx hb hX hbl hbA hS (show i + 2 < L by omega) (show L ≤ 65536 by omega) d_SeriesVaultLaw_law_1438 ?_
  have hP := pmP (show List.Perm (α := Nat × va_E) (MW dA mm mad M ++ (([(o, .inl (dA 2, 1, .inr (.inl (va_up og 0 v9))))] : va_W) ++ (VW dA h ad u8))) (([(o, .inl (dA 2, 1, .inr (.inl (va_up og 0 v9))))] : va_W) ++ (MW dA mm mad M ++ (VW dA h ad u8))) from List.perm_append_comm_assoc (MW dA mm mad M) (([(o, .inl (dA 2, 1, .inr (.inl (va_up og 0 v9))))] : va_W)) (VW dA h ad u8)) hP
  have hD := pmD (show List.Perm (α := Nat × va_E) (MW dA mm mad M ++ (([(o, .inl (dA 2, 1, .inr (.inl (va_up og 0 v9))))] : va_W) ++ (VW dA h ad u8))) (([(o, .inl (dA 2, 1, .inr (.inl (va_up og 0 v9))))] : va_W) ++ (MW dA mm mad M ++ (VW dA h ad u8))) from List.perm_append_comm_assoc (MW dA mm mad M) (([(o, .inl (dA 2, 1, .inr (.inl (va_up og 0 v9))))] : va_W)) (VW dA h ad u8)) hD
  have hP := pmP (show List.Perm (α := Nat × va_E) (([(o, .inl (dA 2, 1, .inr (.inl (va_up og 0 v9))))] : va_W) ++ (MW dA mm mad M ++ (VW dA h ad u8))) (([(o, .inl (dA 2, 1, .inr (.inl (va_up og 0 v9))))] : va_W) ++ (VW dA h ad u8 ++ (MW dA mm mad M))) from List.Perm.append_left (([(o, .inl (dA 2, 1, .inr (.inl (va_up og 0 v9))))] : va_W)) (List.perm_append_comm)) hP
  have hD := pmD (show List.Perm (α := Nat × va_E) (([(o, .inl (dA 2, 1, .inr (.inl (va_up og 0 v9))))] : va_W) ++ (MW dA mm mad M ++ (VW dA h ad u8))) (([(o, .inl (dA 2, 1, .inr (.inl (va_up og 0 v9))))] : va_W) ++ (VW dA h ad u8 ++ (MW dA mm mad M))) from List.Perm.append_left (([(o, .inl (dA 2, 1, .inr (.inl (va_up og 0 v9))))] : va_W)) (List.perm_append_comm)) hD
  have hPc : va_P D vwCl (MW dA mm mad M) H := spP (wr := ([(o, .inl (dA 2, 1, .inr (.inl (va_up og 0 v9))))] : va_W) ++ (VW dA h ad u8)) hP
  have hDc : va_D A (MW dA mm mad M) := spD (wr := ([(o, .inl (dA 2, 1, .inr (.inl (va_up og 0 v9))))] : va_W) ++ (VW dA h ad u8)) hD
  refine jkL (wr := ([(o, .inl (dA 2, 1, .inr (.inl (va_up og 0 v9))))] : va_W) ++ (VW dA h ad u8)) (rnV (As := [.int (xs (i + 1)), .int (xs (i + 2))]) (rest := []) hx hb hml hown hE hK (hN _ _ hS) hPc hDc (hM H.size) (q0 := 0) rfl rfl w1922 w1921 w1923 w1924 w328 rfl rfl ⟨⟨by decide, by decide⟩, rfl⟩ ⟨(show fr2 + 1 ≤ 2048 by omega), (show 8 + (3 + 11) + lo2 ≤ 84000 by omega)⟩ rfl hl.1 rfl (Nat.le_of_ble_eq_true rfl) d_SeriesVaultLaw_law_1439 ⟨(show cells + mc9 + 0 ≤ 601024 by omega), (show slots + ms9 + 0 ≤ 7293034 by omega)⟩) hP hD hS hA (fun r7 u7 H locs hp9 hP hD hS => ?_)
  replace hp9 : b9 = r7 := Eq.symm hp9
  subst hp9
  have hP : va_P D vwCl (([(o, .inl (dA 2, 1, .inr (.inl (va_up og 0 v9))))] : va_W) ++ (VW dA h ad u8 ++ (MW dA mm mad M1))) H := hP
  have hD : va_D A (([(o, .inl (dA 2, 1, .inr (.inl (va_up og 0 v9))))] : va_W) ++ (VW dA h ad u8 ++ (MW dA mm mad M1))) := hD
  refine lv_lstore hx hb d_SeriesVaultLaw_law_1442 hl (by decide) rfl (fun ls hl => ?_)
  have hl : lv_has ls 8 [(6, .long b9), (5, .int 0), (4, .int (nI i)), (3, .ref o), (2, .ref mm), (1, .ref h), (0, .ref b)] := hl
  refine lv_aload_n hx hb d_SeriesVaultLaw_law_1444 rfl (lv_at hl 4 rfl) ?_
  have hPc : va_P D vwCl (MW dA mm mad M1) H := spP (wr := ([(o, .inl (dA 2, 1, .inr (.inl (va_up og 0 v9))))] : va_W) ++ (VW dA h ad u8)) hP
  have hDc : va_D A (MW dA mm mad M1) := spD (wr := ([(o, .inl (dA 2, 1, .inr (.inl (va_up og 0 v9))))] : va_W) ++ (VW dA h ad u8)) hD
  refine jkI (wr := ([(o, .inl (dA 2, 1, .inr (.inl (va_up og 0 v9))))] : va_W) ++ (VW dA h ad u8)) (rnV (As := []) (rest := []) hx hb hml hown hE hK (hN _ _ hS) hPc hDc (k_thrown l D dA H.size mm mad M1) (q0 := 0) rfl rfl w1801 w1800 w1802 w1803 w328 rfl rfl ⟨⟨by decide, by decide⟩, rfl⟩ ⟨(show 1 + 1 ≤ 2048 by omega), (show 8 + (1 + 11) + 0 ≤ 84000 by omega)⟩ rfl hl.1 rfl (Nat.le_of_ble_eq_true rfl) d_SeriesVaultLaw_law_1445 ⟨(show cells + mc9 + 0 ≤ 601024 by omega), (show slots + ms9 + 0 ≤ 7293034 by omega)⟩) hP hD hS hA (fun r7 u7 H locs hp9 hP hD hS => ?_)
  replace hp9 : 0 = r7 := Eq.symm (hp9.trans hcod)
  subst hp9
  have hP : va_P D vwCl (([(o, .inl (dA 2, 1, .inr (.inl (va_up og 0 v9))))] : va_W) ++ (VW dA h ad u8 ++ (MW dA mm mad M1))) H := hP
  have hD : va_D A (([(o, .inl (dA 2, 1, .inr (.inl (va_up og 0 v9))))] : va_W) ++ (VW dA h ad u8 ++ (MW dA mm mad M1))) := hD
  refine lv_iload hx hb d_SeriesVaultLaw_law_1448 (lv_at hl 1 rfl) ?_
  refine lv_icmp_eq hx hb d_SeriesVaultLaw_law_1450 (tgt := 1455) rfl (fun _ => ?_) (fun h9 => absurd rfl h9)
  refine lv_iload hx hb d_SeriesVaultLaw_law_1455 (lv_at hl 1 rfl) ?_
  refine lv_if_ne hx hb d_SeriesVaultLaw_law_1457 (tgt := 1471) rfl (fun h9 => absurd (by decide) h9) (fun _ => ?_)
  refine lv_aload_n hx hb d_SeriesVaultLaw_law_1460 rfl (lv_at hl 3 rfl) ?_
  refine lv_iconst (v := 0) hx hb d_SeriesVaultLaw_law_1461 (by decide) ?_
  refine nlld (f := (va_up og 0 v9)) (n := 1) hx hb hK hP (0) 2 rfl rfl (0) (by decide) (by decide) d_SeriesVaultLaw_law_1462 ?_
  refine tpl (y := v9) (va_up_self _ _ _) ?_
  refine lv_lload hx hb d_SeriesVaultLaw_law_1463 (lv_at hl 0 rfl) ?_
  refine W.lcmp hx hb d_SeriesVaultLaw_law_1465 ?_
  refine lv_if_eq hx hb d_SeriesVaultLaw_law_1466 (tgt := 1471) rfl (fun _ => ?_) (fun h9 => absurd ((lg_cmp_eq _ _).mpr hv) h9)
  refine lv_goto hx hb d_SeriesVaultLaw_law_1471 (tgt := 1770) rfl ?_
  refine lv_iinc (k := 2) (v := nI (i + 6)) hx hb d_SeriesVaultLaw_law_1770 hl rfl (iincN (i) 6 6 (by decide)) (by decide) rfl (fun ls hl => ?_)
  have hl : lv_has ls 8 [(4, .int (nI (i + 6))), (6, .long b9), (5, .int 0), (3, .ref o), (2, .ref mm), (1, .ref h), (0, .ref b)] := hl
  refine lv_goto hx hb d_SeriesVaultLaw_law_1773 (tgt := 23) rfl ?_
  have hP := pmP (show List.Perm (α := Nat × va_E) (([(o, .inl (dA 2, 1, .inr (.inl (va_up og 0 v9))))] : va_W) ++ (VW dA h ad u8 ++ (MW dA mm mad M1))) (MW dA mm mad M1 ++ (([(o, .inl (dA 2, 1, .inr (.inl (va_up og 0 v9))))] : va_W) ++ (VW dA h ad u8))) from (List.Perm.append_left (([(o, .inl (dA 2, 1, .inr (.inl (va_up og 0 v9))))] : va_W)) (List.perm_append_comm)).trans (List.perm_append_comm_assoc (([(o, .inl (dA 2, 1, .inr (.inl (va_up og 0 v9))))] : va_W)) (MW dA mm mad M1) (VW dA h ad u8))) hP
  have hD := pmD (show List.Perm (α := Nat × va_E) (([(o, .inl (dA 2, 1, .inr (.inl (va_up og 0 v9))))] : va_W) ++ (VW dA h ad u8 ++ (MW dA mm mad M1))) (MW dA mm mad M1 ++ (([(o, .inl (dA 2, 1, .inr (.inl (va_up og 0 v9))))] : va_W) ++ (VW dA h ad u8))) from (List.Perm.append_left (([(o, .inl (dA 2, 1, .inr (.inl (va_up og 0 v9))))] : va_W)) (List.perm_append_comm)).trans (List.perm_append_comm_assoc (([(o, .inl (dA 2, 1, .inr (.inl (va_up og 0 v9))))] : va_W)) (MW dA mm mad M1) (VW dA h ad u8))) hD
  have hP : va_P D vwCl (MW dA mm mad M1 ++ (([(o, .inl (dA 2, 1, .inr (.inl (va_up og 0 v9))))] : va_W) ++ (VW dA h ad u8))) H := hP
  have hD : va_D A (MW dA mm mad M1 ++ (([(o, .inl (dA 2, 1, .inr (.inl (va_up og 0 v9))))] : va_W) ++ (VW dA h ad u8))) := hD
  have hl := lv_sub (l' := [(4, .int (nI (i + 6))), (3, .ref o), (2, .ref mm), (1, .ref h), (0, .ref b)]) hl [0, 3, 4, 5, 6] rfl
  exact cont u8 H locs ls hf9 hP hD hS hl
set_option maxHeartbeats 4000000 in
set_option maxRecDepth 100000 in
theorem l9_17_x {p : Program} {e : Env} {s : State} {m : MethodId} {below : List Frame} {meth : Method} {c : Code} (l : Launch) {b L : Nat} {xs : Nat → Int32} {D : va_G} {dA : Nat → ClassId} {e0 : Nat} {A : Nat → Prop} {H : Heap} {locs : List Loc} {ls : Array Slot} (hC : lS p l s m meth c b L xs D dA e0 A) {h : Nat} {ad : Nat → Nat} {x : VS} {mm : Nat} {mad : Nat → Nat} {M M1 : MS} {o : Nat} {og : Nat → Int64} {i fr1 lo1 fr2 lo2 mc9 ms9 cells slots : Nat} {F9 : VS → Prop} {b9 : Int64} {k9 : Nat} (hi : i + 6 ≤ L) (hL : L ≤ 3072) (hfr : fr1 ≤ 2000 ∧ lo1 ≤ 80000 ∧ fr2 ≤ 2000 ∧ lo2 ≤ 80000) (hrm : cells + mc9 ≤ 601024 ∧ slots + ms9 ≤ 7293034) (hcod : M1.cod = nI k9) (hk9 : ¬ nI k9 = 0) (hW : ∀ sz : Nat, Met l ⟨"SeriesVaultLaw", "cell", "(LSeriesVault;II[J)I"⟩ [Cond.codeWith ⟨"SeriesVaultLaw", "cell", "(LSeriesVault;II[J)I"⟩ method_19_code 5 (some FieldType.int) [(0, 9, 12, 35)]] { frames := fr1, cells := mc9, slots := ms9, locals := lo1 } (pC D dA [.ref h, .int (xs (i + 1)), .int (xs (i + 2)), .ref o] (([(o, .inl (dA 2, 1, .inr (.inl og)))] : va_W) ++ (VW dA h ad x)) sz) (va_Qi (fun (r9 : Int32) (u9 : VS) => r9 = nI k9 ∧ F9 u9) (fun (u9 : VS) t9 => bW D (va_A (([(o, .inl (dA 2, 1, .inr (.inl og)))] : va_W) ++ (VW dA h ad x)) sz) (([(o, .inl (dA 2, 1, .inr (.inl (og))))] : va_W) ++ (VW dA h ad u9)) t9) (va_A (([(o, .inl (dA 2, 1, .inr (.inl og)))] : va_W) ++ (VW dA h ad x)) sz)) mc9 ms9 (va_A (([(o, .inl (dA 2, 1, .inr (.inl og)))] : va_W) ++ (VW dA h ad x)) sz)) (hM : ∀ sz : Nat, Met l ⟨"SeriesVaultModel", "cell", "(II)J"⟩ [Cond.code ⟨"SeriesVaultModel", "cell", "(II)J"⟩ prog_14_method_96_code 3 (some FieldType.long)] { frames := fr2, cells := 0, slots := 0, locals := lo2 } (pC D dA [.ref mm, .int (xs (i + 1)), .int (xs (i + 2))] (MW dA mm mad M) sz) (va_Ql (fun (r9 : Int64) (u9 : Unit) => r9 = b9) (fun (u9 : Unit) t9 => bW D (va_A (MW dA mm mad M) sz) (MW dA mm mad M1) t9) (va_A (MW dA mm mad M) sz)) 0 0 (va_A (MW dA mm mad M) sz)) (hP : va_P D vwCl (MW dA mm mad M ++ (([(o, .inl (dA 2, 1, .inr (.inl og)))] : va_W) ++ (VW dA h ad x))) H) (hD : va_D A (MW dA mm mad M ++ (([(o, .inl (dA 2, 1, .inr (.inl og)))] : va_W) ++ (VW dA h ad x)))) (hS : va_S A s.heap H locs) (hl : lv_has ls 8 [(4, .int (nI i)), (3, .ref o), (2, .ref mm), (1, .ref h), (0, .ref b)]) (cont : ∀ (u : VS) (H1 : Heap) (locs1 : List Loc) (ls1 : Array Slot), F9 u → va_P D vwCl (MW dA mm mad M1 ++ (([(o, .inl (dA 2, 1, .inr (.inl og)))] : va_W) ++ (VW dA h ad u))) H1 → va_D A (MW dA mm mad M1 ++ (([(o, .inl (dA 2, 1, .inr (.inl og)))] : va_W) ++ (VW dA h ad u))) → va_S A s.heap H1 locs1 → lv_has ls1 8 [(4, .int (nI (i + 6))), (3, .ref o), (2, .ref mm), (1, .ref h), (0, .ref b)] → W p l e room_1 s m #[Value.ref b] below meth c H1 locs1 (cells + mc9 + 0 + 0) (slots + ms9 + 0 + 0) (lw_Z below #[Value.ref b] s) (F0 m 23 ls1 [])) : W p l e room_1 s m #[Value.ref b] below meth c H locs cells slots (lw_Z below #[Value.ref b] s) (F0 m 1407 ls []) := by
  have hC0 := hC
  obtain ⟨hx, hb, hr, hml, hown, hlk, hE, hK, hA, hN, hZ, hT, hX, hbl, hbA, hnew, htr⟩ := hC
  refine lv_aload_n hx hb d_SeriesVaultLaw_law_1407 rfl (lv_at hl 3 rfl) ?_
  refine lv_aload_n hx hb d_SeriesVaultLaw_law_1408 rfl (lv_at hl 4 rfl) ?_
  refine lv_iload hx hb d_SeriesVaultLaw_law_1409 (lv_at hl 0 rfl) ?_
  refine lv_iconst (v := 1) hx hb d_SeriesVaultLaw_law_1411 (by decide) ?_
  refine lv_iadd hx hb d_SeriesVaultLaw_law_1412 (tpi (y := nI (i + 1)) (nI_add (i) (1)) ?_)
  refine sldN hx hb hX hbl hbA hS (show i + 1 < L by omega) (show L ≤ 65536 by omega) d_SeriesVaultLaw_law_1413 ?_
  refine lv_aload_n hx hb d_SeriesVaultLaw_law_1414 rfl (lv_at hl 4 rfl) ?_
  refine lv_iload hx hb d_SeriesVaultLaw_law_1415 (lv_at hl 0 rfl) ?_
  refine lv_iconst (v := 2) hx hb d_SeriesVaultLaw_law_1417 (by decide) ?_
  refine lv_iadd hx hb d_SeriesVaultLaw_law_1418 (tpi (y := nI (i + 2)) (nI_add (i) (2)) ?_)
  refine sldN hx hb hX hbl hbA hS (show i + 2 < L by omega) (show L ≤ 65536 by omega) d_SeriesVaultLaw_law_1419 ?_
  refine lv_aload_n hx hb d_SeriesVaultLaw_law_1420 rfl (lv_at hl 1 rfl) ?_
  have hPc : va_P D vwCl (([(o, .inl (dA 2, 1, .inr (.inl og)))] : va_W) ++ (VW dA h ad x)) H := spP (wr := MW dA mm mad M) hP
  have hDc : va_D A (([(o, .inl (dA 2, 1, .inr (.inl og)))] : va_W) ++ (VW dA h ad x)) := spD (wr := MW dA mm mad M) hD
  refine jkI (wr := MW dA mm mad M) (rnW (As := [.ref h, .int (xs (i + 1)), .int (xs (i + 2)), .ref o]) (rest := []) hx hb hml hown hE hK (hN _ _ hS) hPc hDc (hW H.size) w1919 w1918 w1920 w1793 rfl rfl ⟨⟨by decide, by decide⟩, rfl⟩ ⟨(show fr1 + 1 ≤ 2048 by omega), (show 8 + (5 + 11) + lo1 ≤ 84000 by omega)⟩ rfl hl.1 rfl (Nat.le_of_ble_eq_true rfl) d_SeriesVaultLaw_law_1421 ⟨(show cells + mc9 ≤ 601024 by omega), (show slots + ms9 ≤ 7293034 by omega)⟩) hP hD hS hA (fun k8 u8 H locs hp9 hP hD hS => ?_)
  obtain ⟨hp9, hf9⟩ := hp9
  replace hp9 : nI k9 = k8 := Eq.symm hp9
  subst hp9
  have hP : va_P D vwCl (MW dA mm mad M ++ (([(o, .inl (dA 2, 1, .inr (.inl og)))] : va_W) ++ (VW dA h ad u8))) H := hP
  have hD : va_D A (MW dA mm mad M ++ (([(o, .inl (dA 2, 1, .inr (.inl og)))] : va_W) ++ (VW dA h ad u8))) := hD
  refine lv_istore hx hb d_SeriesVaultLaw_law_1424 hl (by decide) rfl (fun ls hl => ?_)
  have hl : lv_has ls 8 [(5, .int (nI k9)), (4, .int (nI i)), (3, .ref o), (2, .ref mm), (1, .ref h), (0, .ref b)] := hl
  refine lv_aload_n hx hb d_SeriesVaultLaw_law_1426 rfl (lv_at hl 3 rfl) ?_
  refine lv_aload_n hx hb d_SeriesVaultLaw_law_1427 rfl (lv_at hl 5 rfl) ?_
  refine lv_iload hx hb d_SeriesVaultLaw_law_1428 (lv_at hl 1 rfl) ?_
  refine lv_iconst (v := 1) hx hb d_SeriesVaultLaw_law_1430 (by decide) ?_
  refine lv_iadd hx hb d_SeriesVaultLaw_law_1431 (tpi (y := nI (i + 1)) (nI_add (i) (1)) ?_)
  refine sldN hx hb hX hbl hbA hS (show i + 1 < L by omega) (show L ≤ 65536 by omega) d_SeriesVaultLaw_law_1432 ?_
  refine lv_aload_n hx hb d_SeriesVaultLaw_law_1433 rfl (lv_at hl 5 rfl) ?_
  refine lv_iload hx hb d_SeriesVaultLaw_law_1434 (lv_at hl 1 rfl) ?_
  refine lv_iconst (v := 2) hx hb d_SeriesVaultLaw_law_1436 (by decide) ?_
  refine lv_iadd hx hb d_SeriesVaultLaw_law_1437 (tpi (y := nI (i + 2)) (nI_add (i) (2)) ?_)
  refine sldN hx hb hX hbl hbA hS (show i + 2 < L by omega) (show L ≤ 65536 by omega) d_SeriesVaultLaw_law_1438 ?_
  have hP := pmP (show List.Perm (α := Nat × va_E) (MW dA mm mad M ++ (([(o, .inl (dA 2, 1, .inr (.inl og)))] : va_W) ++ (VW dA h ad u8))) (([(o, .inl (dA 2, 1, .inr (.inl og)))] : va_W) ++ (MW dA mm mad M ++ (VW dA h ad u8))) from List.perm_append_comm_assoc (MW dA mm mad M) (([(o, .inl (dA 2, 1, .inr (.inl og)))] : va_W)) (VW dA h ad u8)) hP
  have hD := pmD (show List.Perm (α := Nat × va_E) (MW dA mm mad M ++ (([(o, .inl (dA 2, 1, .inr (.inl og)))] : va_W) ++ (VW dA h ad u8))) (([(o, .inl (dA 2, 1, .inr (.inl og)))] : va_W) ++ (MW dA mm mad M ++ (VW dA h ad u8))) from List.perm_append_comm_assoc (MW dA mm mad M) (([(o, .inl (dA 2, 1, .inr (.inl og)))] : va_W)) (VW dA h ad u8)) hD
  have hP := pmP (show List.Perm (α := Nat × va_E) (([(o, .inl (dA 2, 1, .inr (.inl og)))] : va_W) ++ (MW dA mm mad M ++ (VW dA h ad u8))) (([(o, .inl (dA 2, 1, .inr (.inl og)))] : va_W) ++ (VW dA h ad u8 ++ (MW dA mm mad M))) from List.Perm.append_left (([(o, .inl (dA 2, 1, .inr (.inl og)))] : va_W)) (List.perm_append_comm)) hP
  have hD := pmD (show List.Perm (α := Nat × va_E) (([(o, .inl (dA 2, 1, .inr (.inl og)))] : va_W) ++ (MW dA mm mad M ++ (VW dA h ad u8))) (([(o, .inl (dA 2, 1, .inr (.inl og)))] : va_W) ++ (VW dA h ad u8 ++ (MW dA mm mad M))) from List.Perm.append_left (([(o, .inl (dA 2, 1, .inr (.inl og)))] : va_W)) (List.perm_append_comm)) hD
  have hPc : va_P D vwCl (MW dA mm mad M) H := spP (wr := ([(o, .inl (dA 2, 1, .inr (.inl og)))] : va_W) ++ (VW dA h ad u8)) hP
  have hDc : va_D A (MW dA mm mad M) := spD (wr := ([(o, .inl (dA 2, 1, .inr (.inl og)))] : va_W) ++ (VW dA h ad u8)) hD
  refine jkL (wr := ([(o, .inl (dA 2, 1, .inr (.inl og)))] : va_W) ++ (VW dA h ad u8)) (rnV (As := [.int (xs (i + 1)), .int (xs (i + 2))]) (rest := []) hx hb hml hown hE hK (hN _ _ hS) hPc hDc (hM H.size) (q0 := 0) rfl rfl w1922 w1921 w1923 w1924 w328 rfl rfl ⟨⟨by decide, by decide⟩, rfl⟩ ⟨(show fr2 + 1 ≤ 2048 by omega), (show 8 + (3 + 11) + lo2 ≤ 84000 by omega)⟩ rfl hl.1 rfl (Nat.le_of_ble_eq_true rfl) d_SeriesVaultLaw_law_1439 ⟨(show cells + mc9 + 0 ≤ 601024 by omega), (show slots + ms9 + 0 ≤ 7293034 by omega)⟩) hP hD hS hA (fun r7 u7 H locs hp9 hP hD hS => ?_)
  replace hp9 : b9 = r7 := Eq.symm hp9
  subst hp9
  have hP : va_P D vwCl (([(o, .inl (dA 2, 1, .inr (.inl og)))] : va_W) ++ (VW dA h ad u8 ++ (MW dA mm mad M1))) H := hP
  have hD : va_D A (([(o, .inl (dA 2, 1, .inr (.inl og)))] : va_W) ++ (VW dA h ad u8 ++ (MW dA mm mad M1))) := hD
  refine lv_lstore hx hb d_SeriesVaultLaw_law_1442 hl (by decide) rfl (fun ls hl => ?_)
  have hl : lv_has ls 8 [(6, .long b9), (5, .int (nI k9)), (4, .int (nI i)), (3, .ref o), (2, .ref mm), (1, .ref h), (0, .ref b)] := hl
  refine lv_aload_n hx hb d_SeriesVaultLaw_law_1444 rfl (lv_at hl 4 rfl) ?_
  have hPc : va_P D vwCl (MW dA mm mad M1) H := spP (wr := ([(o, .inl (dA 2, 1, .inr (.inl og)))] : va_W) ++ (VW dA h ad u8)) hP
  have hDc : va_D A (MW dA mm mad M1) := spD (wr := ([(o, .inl (dA 2, 1, .inr (.inl og)))] : va_W) ++ (VW dA h ad u8)) hD
  refine jkI (wr := ([(o, .inl (dA 2, 1, .inr (.inl og)))] : va_W) ++ (VW dA h ad u8)) (rnV (As := []) (rest := []) hx hb hml hown hE hK (hN _ _ hS) hPc hDc (k_thrown l D dA H.size mm mad M1) (q0 := 0) rfl rfl w1801 w1800 w1802 w1803 w328 rfl rfl ⟨⟨by decide, by decide⟩, rfl⟩ ⟨(show 1 + 1 ≤ 2048 by omega), (show 8 + (1 + 11) + 0 ≤ 84000 by omega)⟩ rfl hl.1 rfl (Nat.le_of_ble_eq_true rfl) d_SeriesVaultLaw_law_1445 ⟨(show cells + mc9 + 0 ≤ 601024 by omega), (show slots + ms9 + 0 ≤ 7293034 by omega)⟩) hP hD hS hA (fun r7 u7 H locs hp9 hP hD hS => ?_)
  replace hp9 : nI k9 = r7 := Eq.symm (hp9.trans hcod)
  subst hp9
  have hP : va_P D vwCl (([(o, .inl (dA 2, 1, .inr (.inl og)))] : va_W) ++ (VW dA h ad u8 ++ (MW dA mm mad M1))) H := hP
  have hD : va_D A (([(o, .inl (dA 2, 1, .inr (.inl og)))] : va_W) ++ (VW dA h ad u8 ++ (MW dA mm mad M1))) := hD
  refine lv_iload hx hb d_SeriesVaultLaw_law_1448 (lv_at hl 1 rfl) ?_
  refine lv_icmp_eq hx hb d_SeriesVaultLaw_law_1450 (tgt := 1455) rfl (fun _ => ?_) (fun h9 => absurd rfl h9)
  refine lv_iload hx hb d_SeriesVaultLaw_law_1455 (lv_at hl 1 rfl) ?_
  refine lv_if_ne hx hb d_SeriesVaultLaw_law_1457 (tgt := 1471) rfl (fun _ => ?_) (fun h9 => absurd h9 hk9)
  refine lv_goto hx hb d_SeriesVaultLaw_law_1471 (tgt := 1770) rfl ?_
  refine lv_iinc (k := 2) (v := nI (i + 6)) hx hb d_SeriesVaultLaw_law_1770 hl rfl (iincN (i) 6 6 (by decide)) (by decide) rfl (fun ls hl => ?_)
  have hl : lv_has ls 8 [(4, .int (nI (i + 6))), (6, .long b9), (5, .int (nI k9)), (3, .ref o), (2, .ref mm), (1, .ref h), (0, .ref b)] := hl
  refine lv_goto hx hb d_SeriesVaultLaw_law_1773 (tgt := 23) rfl ?_
  have hP := pmP (show List.Perm (α := Nat × va_E) (([(o, .inl (dA 2, 1, .inr (.inl og)))] : va_W) ++ (VW dA h ad u8 ++ (MW dA mm mad M1))) (MW dA mm mad M1 ++ (([(o, .inl (dA 2, 1, .inr (.inl og)))] : va_W) ++ (VW dA h ad u8))) from (List.Perm.append_left (([(o, .inl (dA 2, 1, .inr (.inl og)))] : va_W)) (List.perm_append_comm)).trans (List.perm_append_comm_assoc (([(o, .inl (dA 2, 1, .inr (.inl og)))] : va_W)) (MW dA mm mad M1) (VW dA h ad u8))) hP
  have hD := pmD (show List.Perm (α := Nat × va_E) (([(o, .inl (dA 2, 1, .inr (.inl og)))] : va_W) ++ (VW dA h ad u8 ++ (MW dA mm mad M1))) (MW dA mm mad M1 ++ (([(o, .inl (dA 2, 1, .inr (.inl og)))] : va_W) ++ (VW dA h ad u8))) from (List.Perm.append_left (([(o, .inl (dA 2, 1, .inr (.inl og)))] : va_W)) (List.perm_append_comm)).trans (List.perm_append_comm_assoc (([(o, .inl (dA 2, 1, .inr (.inl og)))] : va_W)) (MW dA mm mad M1) (VW dA h ad u8))) hD
  have hP : va_P D vwCl (MW dA mm mad M1 ++ (([(o, .inl (dA 2, 1, .inr (.inl og)))] : va_W) ++ (VW dA h ad u8))) H := hP
  have hD : va_D A (MW dA mm mad M1 ++ (([(o, .inl (dA 2, 1, .inr (.inl og)))] : va_W) ++ (VW dA h ad u8))) := hD
  have hl := lv_sub (l' := [(4, .int (nI (i + 6))), (3, .ref o), (2, .ref mm), (1, .ref h), (0, .ref b)]) hl [0, 3, 4, 5, 6] rfl
  exact cont u8 H locs ls hf9 hP hD hS hl
end
