theorem d_A_join_0 : decode prog_2_method_5_code 0 = .ok (.aload_n 0, 1) := by decide +kernel
theorem d_A_join_1 : decode prog_2_method_5_code 1 = .ok (.getfield 12, 3) := by decide +kernel
theorem d_A_join_4 : decode prog_2_method_5_code 4 = .ok (.aload_n 0, 1) := by decide +kernel
theorem d_A_join_5 : decode prog_2_method_5_code 5 = .ok (.getfield 58, 3) := by decide +kernel
theorem d_A_join_8 : decode prog_2_method_5_code 8 = .ok (.iconst 2, 1) := by decide +kernel
theorem d_A_join_9 : decode prog_2_method_5_code 9 = .ok (.isub, 1) := by decide +kernel
theorem d_A_join_10 : decode prog_2_method_5_code 10 = .ok (.invokevirtual 43, 3) := by decide +kernel
theorem d_A_join_13 : decode prog_2_method_5_code 13 = .ok (.checkcast 36, 3) := by decide +kernel
theorem d_A_join_16 : decode prog_2_method_5_code 16 = .ok (.astore_n 2, 1) := by decide +kernel
theorem d_A_join_17 : decode prog_2_method_5_code 17 = .ok (.aload_n 0, 1) := by decide +kernel
theorem d_A_join_18 : decode prog_2_method_5_code 18 = .ok (.getfield 12, 3) := by decide +kernel
theorem d_A_join_21 : decode prog_2_method_5_code 21 = .ok (.aload_n 0, 1) := by decide +kernel
theorem d_A_join_22 : decode prog_2_method_5_code 22 = .ok (.getfield 58, 3) := by decide +kernel
theorem d_A_join_25 : decode prog_2_method_5_code 25 = .ok (.iconst 1, 1) := by decide +kernel
theorem d_A_join_26 : decode prog_2_method_5_code 26 = .ok (.isub, 1) := by decide +kernel
theorem d_A_join_27 : decode prog_2_method_5_code 27 = .ok (.invokevirtual 43, 3) := by decide +kernel
theorem d_A_join_30 : decode prog_2_method_5_code 30 = .ok (.checkcast 36, 3) := by decide +kernel
theorem d_A_join_33 : decode prog_2_method_5_code 33 = .ok (.astore_n 3, 1) := by decide +kernel
theorem d_A_join_34 : decode prog_2_method_5_code 34 = .ok (.aload_n 0, 1) := by decide +kernel
theorem d_A_join_35 : decode prog_2_method_5_code 35 = .ok (.dup, 1) := by decide +kernel
theorem d_A_join_36 : decode prog_2_method_5_code 36 = .ok (.getfield 58, 3) := by decide +kernel
theorem d_A_join_39 : decode prog_2_method_5_code 39 = .ok (.iconst 1, 1) := by decide +kernel
theorem d_A_join_40 : decode prog_2_method_5_code 40 = .ok (.isub, 1) := by decide +kernel
theorem d_A_join_41 : decode prog_2_method_5_code 41 = .ok (.putfield 58, 3) := by decide +kernel
theorem d_A_join_44 : decode prog_2_method_5_code 44 = .ok (.aload_n 2, 1) := by decide +kernel
theorem d_A_join_45 : decode prog_2_method_5_code 45 = .ok (.aload_n 3, 1) := by decide +kernel
theorem d_A_join_46 : decode prog_2_method_5_code 46 = .ok (.invokevirtual 100, 3) := by decide +kernel
theorem d_A_join_49 : decode prog_2_method_5_code 49 = .ok (.ifCond .eq 11, 3) := by decide +kernel
theorem d_A_join_60 : decode prog_2_method_5_code 60 = .ok (.aload_n 3, 1) := by decide +kernel
theorem d_A_join_61 : decode prog_2_method_5_code 61 = .ok (.getfield 108, 3) := by decide +kernel
theorem d_A_join_64 : decode prog_2_method_5_code 64 = .ok (.ifCond .ne 12, 3) := by decide +kernel
theorem d_A_join_76 : decode prog_2_method_5_code 76 = .ok (.aload_n 2, 1) := by decide +kernel
theorem d_A_join_77 : decode prog_2_method_5_code 77 = .ok (.getfield 108, 3) := by decide +kernel
theorem d_A_join_80 : decode prog_2_method_5_code 80 = .ok (.ifCond .ne 40, 3) := by decide +kernel
theorem d_A_join_120 : decode prog_2_method_5_code 120 = .ok (.iconst 0, 1) := by decide +kernel
theorem d_A_join_121 : decode prog_2_method_5_code 121 = .ok (.ireturn, 1) := by decide +kernel
theorem w1540 : Cond.methodLink "SeriesVault$Answers" 100 ⟨"SeriesVault$Table", "hasNamesOf", "(LSeriesVault$Table;)Z"⟩ ∈ aW := aw_of (tb_8 (List.mem_of_getElem? (i := 45) rfl)) rfl
theorem w1541 : Cond.code ⟨"SeriesVault$Table", "hasNamesOf", "(LSeriesVault$Table;)Z"⟩ prog_11_method_16_code 3 (some FieldType.boolean) ∈ aW := aw_of (tb_8 (List.mem_of_getElem? (i := 48) rfl)) rfl
theorem w1542 : Cond.instanceMethod ⟨"SeriesVault$Table", "hasNamesOf", "(LSeriesVault$Table;)Z"⟩ ∈ aW := aw_of (tb_8 (List.mem_of_getElem? (i := 46) rfl)) rfl
theorem w1543 : Cond.selects "SeriesVault$Table" ⟨"SeriesVault$Table", "hasNamesOf", "(LSeriesVault$Table;)Z"⟩ ⟨"SeriesVault$Table", "hasNamesOf", "(LSeriesVault$Table;)Z"⟩ ∈ aW := aw_of (tb_8 (List.mem_of_getElem? (i := 47) rfl)) rfl
theorem w1544 : Cond.fieldLinkNest "SeriesVault$Answers" 108 "SeriesVault$Table" "nameCount" "I" "SeriesVault" ∈ aW := aw_of (tb_2 (List.mem_of_getElem? (i := 55) rfl)) rfl
set_option maxHeartbeats 4000000 in
set_option maxRecDepth 100000 in
theorem v_Ajoin_n (l : Launch) (D : va_G) (dA : Nat → ClassId) (sz : Nat) (h : Nat) (ad : Nat → Nat) (ta : Nat → Nat) (t : TB) (tb : Nat → Nat) (u : TB) (la : Nat → Nat) (g : LI) (x : VS) (sg : Int32) (NL : Nat → List Int32) (NR : Nat → List Int32) (hla : la 0 = ad 25) (hs : g.sz ≤ g.eN) (hn : g.eN ≤ 65536) (hd : 2 ≤ x.adep) (hd2 : x.adep ≤ g.sz) (he1 : g.el (x.adep - 2) = some (ta 0)) (he2 : g.el (x.adep - 1) = some (tb 0)) (hna : nmOk dA x.pl t.nm t.nc NL) (hnb : nmOk dA x.pl u.nm u.nc NR) (hc1 : t.nc ≤ 6) (hc2 : u.nc ≤ 6) (hnn : namB NL NR t.nc u.nc = false) (h1 : ¬ u.nc = 0) (h2 : ¬ t.nc = 0) : Met l ⟨"SeriesVault$Answers", "join", "(I)Z"⟩ [Cond.code ⟨"SeriesVault$Answers", "join", "(I)Z"⟩ prog_2_method_5_code 4 (some FieldType.boolean)] { frames := 4, cells := 0, slots := 0, locals := 64 } (pC D dA [.ref (ad 24), .int sg] (TbW dA ta t ++ (TbW dA tb u ++ (LiW dA la g ++ (VW dA h ad x)))) sz) (va_Qi (fun (r9 : Int32) (u9 : Unit) => r9 = 0) (fun (u9 : Unit) t9 => bW D (va_A (TbW dA ta t ++ (TbW dA tb u ++ (LiW dA la g ++ (VW dA h ad x)))) sz) (TbW dA ta t ++ (TbW dA tb u ++ (LiW dA la g ++ (VW dA h ad (VS.s_adep x (x.adep - 1)))))) t9) (va_A (TbW dA ta t ++ (TbW dA tb u ++ (LiW dA la g ++ (VW dA h ad x)))) sz)) 0 0 (va_A (TbW dA ta t ++ (TbW dA tb u ++ (LiW dA la g ++ (VW dA h ad x)))) sz) := by
  refine mkC (y := ⟨"SeriesVault$Answers", "join", "(I)Z"⟩) (cc := prog_2_method_5_code) (maxL := 4) (av := [.ref (ad 24), .int sg]) (ws := TbW dA ta t ++ (TbW dA tb u ++ (LiW dA la g ++ (VW dA h ad x)))) (sz := sz) (Qc := fun A => va_Qi (fun (r9 : Int32) (u9 : Unit) => r9 = 0) (fun (u9 : Unit) t9 => bW D A (TbW dA ta t ++ (TbW dA tb u ++ (LiW dA la g ++ (VW dA h ad (VS.s_adep x (x.adep - 1)))))) t9) A) (by decide) (Nat.le_of_ble_eq_true rfl) ?_
  intro A p e s m below meth c ls hsz hB
  obtain ⟨hx, hb, hr, hml, hown, hin, hlk, hE, hK, hP, hD, hS, hA, hN, hl⟩ := hB
  have hown : s.vm.findClass "SeriesVault$Answers" = some m.cls := hown
  have hl : lv_has ls 4 [(0, .ref (ad 24)), (1, .int sg)] := hl
  obtain ⟨H, hH⟩ : ∃ z, z = s.heap := ⟨_, rfl⟩
  have hP : va_P D vwCl (TbW dA ta t ++ (TbW dA tb u ++ (LiW dA la g ++ (VW dA h ad x)))) H := by rw [hH]; exact hP
  have hS : va_S A s.heap H [] := by rw [hH]; exact hS
  rw [← hH]
  refine lv_aload_n hx hb d_A_join_0 rfl (lv_at hl 0 rfl) ?_
  refine gF (v := .ref (ad 25)) hx hb hown hE hK hP 49 rfl rfl layA 0 (by decide) w799 rfl d_A_join_1 ?_
  rw [← hla]
  refine lv_aload_n hx hb d_A_join_4 rfl (lv_at hl 0 rfl) ?_
  refine gF (v := .int (nI x.adep)) hx hb hown hE hK hP 49 rfl rfl layA 1 (by decide) w1538 rfl d_A_join_5 ?_
  refine lv_iconst (v := 2) hx hb d_A_join_8 (by decide) ?_
  refine lv_isub hx hb d_A_join_9 (tpi (y := nI (x.adep - 2)) (pk_sub (a := x.adep) (b := 2) (by omega)) ?_)
  have hP := pmP (show List.Perm (α := Nat × va_E) (TbW dA ta t ++ (TbW dA tb u ++ (LiW dA la g ++ (VW dA h ad x)))) (LiW dA la g ++ (TbW dA ta t ++ (TbW dA tb u ++ (VW dA h ad x)))) from (List.Perm.append_left (TbW dA ta t) (List.perm_append_comm_assoc (TbW dA tb u) (LiW dA la g) (VW dA h ad x))).trans (List.perm_append_comm_assoc (TbW dA ta t) (LiW dA la g) (TbW dA tb u ++ (VW dA h ad x)))) hP
  have hD := pmD (show List.Perm (α := Nat × va_E) (TbW dA ta t ++ (TbW dA tb u ++ (LiW dA la g ++ (VW dA h ad x)))) (LiW dA la g ++ (TbW dA ta t ++ (TbW dA tb u ++ (VW dA h ad x)))) from (List.Perm.append_left (TbW dA ta t) (List.perm_append_comm_assoc (TbW dA tb u) (LiW dA la g) (VW dA h ad x))).trans (List.perm_append_comm_assoc (TbW dA ta t) (LiW dA la g) (TbW dA tb u ++ (VW dA h ad x)))) hD
  refine jkR (wr := []) (rnV (As := [.int (nI (x.adep - 2))]) (rest := []) hx hb hml hown hE hK (hN _ _ hS) hP hD (v_Lget l D dA H.size (TbW dA ta t ++ (TbW dA tb u ++ (VW dA h ad x))) la g (x.adep - 2) (ta 0) hs hn (show (x.adep - 2) < g.sz from by omega) he1) (q0 := 0) rfl rfl w1489 w1537 w1490 w1491 w680 rfl rfl ⟨⟨by decide, by decide⟩, rfl⟩ ⟨(Nat.le_of_ble_eq_true rfl), (Nat.le_of_ble_eq_true rfl)⟩ rfl hl.1 rfl (Nat.le_of_ble_eq_true rfl) d_A_join_10 ⟨(Nat.le_of_ble_eq_true rfl), (Nat.le_of_ble_eq_true rfl)⟩) hP hD hS hA (fun u2 r1 H locs hp9 hP hD hS => ?_)
  have hP : va_P D vwCl (LiW dA la g ++ (TbW dA ta t ++ (TbW dA tb u ++ (VW dA h ad x)))) H := hP
  have hD : va_D A (LiW dA la g ++ (TbW dA ta t ++ (TbW dA tb u ++ (VW dA h ad x)))) := hD
  have f_e_3 := hp9
  have e9 := f_e_3
  subst e9
  refine va_castE hx hb hown (hE.t w805 rfl) (va_recv hK hP (ci := 8) (q0 := 2) (q := ("SeriesVault$Table", TT, 7)) rfl rfl) d_A_join_13 ?_
  refine lv_astore_n hx hb d_A_join_16 rfl hl (by decide) rfl (fun ls hl => ?_)
  have hl : lv_has ls 4 [(2, .ref (ta 0)), (0, .ref (ad 24)), (1, .int sg)] := hl
  refine lv_aload_n hx hb d_A_join_17 rfl (lv_at hl 1 rfl) ?_
  refine gF (v := .ref (ad 25)) hx hb hown hE hK hP 49 rfl rfl layA 0 (by decide) w799 rfl d_A_join_18 ?_
  rw [← hla]
  refine lv_aload_n hx hb d_A_join_21 rfl (lv_at hl 1 rfl) ?_
  refine gF (v := .int (nI x.adep)) hx hb hown hE hK hP 49 rfl rfl layA 1 (by decide) w1538 rfl d_A_join_22 ?_
  refine lv_iconst (v := 1) hx hb d_A_join_25 (by decide) ?_
  refine lv_isub hx hb d_A_join_26 (tpi (y := nI (x.adep - 1)) (pk_sub (a := x.adep) (b := 1) (by omega)) ?_)
  refine jkR (wr := []) (rnV (As := [.int (nI (x.adep - 1))]) (rest := []) hx hb hml hown hE hK (hN _ _ hS) hP hD (v_Lget l D dA H.size (TbW dA ta t ++ (TbW dA tb u ++ (VW dA h ad x))) la g (x.adep - 1) (tb 0) hs hn (show (x.adep - 1) < g.sz from by omega) he2) (q0 := 0) rfl rfl w1489 w1537 w1490 w1491 w680 rfl rfl ⟨⟨by decide, by decide⟩, rfl⟩ ⟨(Nat.le_of_ble_eq_true rfl), (Nat.le_of_ble_eq_true rfl)⟩ rfl hl.1 rfl (Nat.le_of_ble_eq_true rfl) d_A_join_27 ⟨(Nat.le_of_ble_eq_true rfl), (Nat.le_of_ble_eq_true rfl)⟩) hP hD hS hA (fun u5 r4 H locs hp9 hP hD hS => ?_)
  have hP : va_P D vwCl (LiW dA la g ++ (TbW dA ta t ++ (TbW dA tb u ++ (VW dA h ad x)))) H := hP
  have hD : va_D A (LiW dA la g ++ (TbW dA ta t ++ (TbW dA tb u ++ (VW dA h ad x)))) := hD
  have f_e_6 := hp9
  have e9 := f_e_6
  subst e9
  refine va_castE hx hb hown (hE.t w805 rfl) (va_recv hK hP (ci := 8) (q0 := 7) (q := ("SeriesVault$Table", TT, 7)) rfl rfl) d_A_join_30 ?_
  refine lv_astore_n hx hb d_A_join_33 rfl hl (by decide) rfl (fun ls hl => ?_)
  have hl : lv_has ls 4 [(3, .ref (tb 0)), (2, .ref (ta 0)), (0, .ref (ad 24)), (1, .int sg)] := hl
  refine lv_aload_n hx hb d_A_join_34 rfl (lv_at hl 2 rfl) ?_
  refine lv_dup hx hb d_A_join_35 rfl ?_
  refine gF (v := .int (nI x.adep)) hx hb hown hE hK hP 49 rfl rfl layA 1 (by decide) w1538 rfl d_A_join_36 ?_
  refine lv_iconst (v := 1) hx hb d_A_join_39 (by decide) ?_
  refine lv_isub hx hb d_A_join_40 (tpi (y := nI (x.adep - 1)) (pk_sub (a := x.adep) (b := 1) (by omega)) ?_)
  refine pF (v := .int (nI (x.adep - 1))) hx hb hown hE hK hP hD hS 49 rfl rfl layA tyA tokA nmA 1 (by decide) w1538 rfl rfl rfl (Nat.le_of_ble_eq_true rfl) d_A_join_41 (fun H locs hP hD hS => ?_)
  have hP : va_P D vwCl (LiW dA la g ++ (TbW dA ta t ++ (TbW dA tb u ++ (VW dA h ad (VS.s_adep x (x.adep - 1)))))) H := hP
  have hD : va_D A (LiW dA la g ++ (TbW dA ta t ++ (TbW dA tb u ++ (VW dA h ad (VS.s_adep x (x.adep - 1)))))) := hD
  refine lv_aload_n hx hb d_A_join_44 rfl (lv_at hl 1 rfl) ?_
  refine lv_aload_n hx hb d_A_join_45 rfl (lv_at hl 0 rfl) ?_
  have hP := pmP (show List.Perm (α := Nat × va_E) (LiW dA la g ++ (TbW dA ta t ++ (TbW dA tb u ++ (VW dA h ad (VS.s_adep x (x.adep - 1)))))) (TbW dA ta t ++ (LiW dA la g ++ (TbW dA tb u ++ (VW dA h ad (VS.s_adep x (x.adep - 1)))))) from List.perm_append_comm_assoc (LiW dA la g) (TbW dA ta t) (TbW dA tb u ++ (VW dA h ad (VS.s_adep x (x.adep - 1))))) hP
  have hD := pmD (show List.Perm (α := Nat × va_E) (LiW dA la g ++ (TbW dA ta t ++ (TbW dA tb u ++ (VW dA h ad (VS.s_adep x (x.adep - 1)))))) (TbW dA ta t ++ (LiW dA la g ++ (TbW dA tb u ++ (VW dA h ad (VS.s_adep x (x.adep - 1)))))) from List.perm_append_comm_assoc (LiW dA la g) (TbW dA ta t) (TbW dA tb u ++ (VW dA h ad (VS.s_adep x (x.adep - 1))))) hD
  have hP := pmP (show List.Perm (α := Nat × va_E) (TbW dA ta t ++ (LiW dA la g ++ (TbW dA tb u ++ (VW dA h ad (VS.s_adep x (x.adep - 1)))))) (TbW dA ta t ++ (TbW dA tb u ++ (LiW dA la g ++ (VW dA h ad (VS.s_adep x (x.adep - 1)))))) from List.Perm.append_left (TbW dA ta t) (List.perm_append_comm_assoc (LiW dA la g) (TbW dA tb u) (VW dA h ad (VS.s_adep x (x.adep - 1))))) hP
  have hD := pmD (show List.Perm (α := Nat × va_E) (TbW dA ta t ++ (LiW dA la g ++ (TbW dA tb u ++ (VW dA h ad (VS.s_adep x (x.adep - 1)))))) (TbW dA ta t ++ (TbW dA tb u ++ (LiW dA la g ++ (VW dA h ad (VS.s_adep x (x.adep - 1)))))) from List.Perm.append_left (TbW dA ta t) (List.perm_append_comm_assoc (LiW dA la g) (TbW dA tb u) (VW dA h ad (VS.s_adep x (x.adep - 1))))) hD
  refine jkI (wr := []) (rnV (As := [.ref (tb 0)]) (rest := []) hx hb hml hown hE hK (hN _ _ hS) hP hD (v_ThasNamesOf l D dA H.size (LiW dA la g ++ (VW dA h ad (VS.s_adep x (x.adep - 1)))) ta t tb u NL NR (nmOk_m (fun _ hm => (List.mem_append_right _ (plm hm))) hna) (nmOk_m (fun _ hm => (List.mem_append_right _ (plm hm))) hnb) hc1 hc2) (q0 := 0) rfl rfl w1541 w1540 w1542 w1543 w807 rfl rfl ⟨⟨by decide, by decide⟩, rfl⟩ ⟨(Nat.le_of_ble_eq_true rfl), (Nat.le_of_ble_eq_true rfl)⟩ rfl hl.1 rfl (Nat.le_of_ble_eq_true rfl) d_A_join_46 ⟨(Nat.le_of_ble_eq_true rfl), (Nat.le_of_ble_eq_true rfl)⟩) hP hD hS hA (fun r7 u8 H locs hp9 hP hD hS => ?_)
  have hP : va_P D vwCl (TbW dA ta t ++ (TbW dA tb u ++ (LiW dA la g ++ (VW dA h ad (VS.s_adep x (x.adep - 1)))))) H := hP
  have hD : va_D A (TbW dA ta t ++ (TbW dA tb u ++ (LiW dA la g ++ (VW dA h ad (VS.s_adep x (x.adep - 1)))))) := hD
  replace hp9 : bI (namB NL NR t.nc u.nc) = r7 := Eq.symm hp9
  subst hp9
  refine lv_if_eq hx hb d_A_join_49 (tgt := 60) rfl (fun _ => ?_) (fun h9 => absurd (by rw [hnn]; decide) h9)
  refine lv_aload_n hx hb d_A_join_60 rfl (lv_at hl 0 rfl) ?_
  refine gFN (v := .int (nI u.nc)) hx hb hown hE hK hP 5 rfl rfl layT 1 (by decide) w1544 rfl d_A_join_61 ?_
  refine lv_if_ne hx hb d_A_join_64 (tgt := 76) rfl (fun _ => ?_) (fun h9 => absurd h9 (mt (nI_eq (a := u.nc) (b := 0) (by omega) (by omega)).mp h1))
  refine lv_aload_n hx hb d_A_join_76 rfl (lv_at hl 1 rfl) ?_
  refine gFN (v := .int (nI t.nc)) hx hb hown hE hK hP 0 rfl rfl layT 1 (by decide) w1544 rfl d_A_join_77 ?_
  refine lv_if_ne hx hb d_A_join_80 (tgt := 120) rfl (fun _ => ?_) (fun h9 => absurd h9 (mt (nI_eq (a := t.nc) (b := 0) (by omega) (by omega)).mp h2))
  refine lv_iconst (v := 0) hx hb d_A_join_120 (by decide) ?_
  exact rfZ hx hb hr (bI_nar false) hlk hS () rfl hP hD (Nat.le_of_ble_eq_true rfl) (Nat.le_of_ble_eq_true rfl) d_A_join_121
theorem d_A_join_52 : decode prog_2_method_5_code 52 = .ok (.aload_n 2, 1) := by decide +kernel
theorem d_A_join_53 : decode prog_2_method_5_code 53 = .ok (.iload_n 1, 1) := by decide +kernel
theorem d_A_join_54 : decode prog_2_method_5_code 54 = .ok (.aload_n 3, 1) := by decide +kernel
theorem d_A_join_55 : decode prog_2_method_5_code 55 = .ok (.invokevirtual 104, 3) := by decide +kernel
theorem d_A_join_58 : decode prog_2_method_5_code 58 = .ok (.iconst 1, 1) := by decide +kernel
theorem d_A_join_59 : decode prog_2_method_5_code 59 = .ok (.ireturn, 1) := by decide +kernel
theorem w1545 : Cond.methodLink "SeriesVault$Answers" 104 ⟨"SeriesVault$Table", "joinRows", "(ILSeriesVault$Table;)V"⟩ ∈ aW := aw_of (tb_8 (List.mem_of_getElem? (i := 50) rfl)) rfl
theorem w1546 : Cond.code ⟨"SeriesVault$Table", "joinRows", "(ILSeriesVault$Table;)V"⟩ prog_11_method_17_code 6 none ∈ aW := aw_of (tb_8 (List.mem_of_getElem? (i := 53) rfl)) rfl
theorem w1547 : Cond.instanceMethod ⟨"SeriesVault$Table", "joinRows", "(ILSeriesVault$Table;)V"⟩ ∈ aW := aw_of (tb_8 (List.mem_of_getElem? (i := 51) rfl)) rfl
theorem w1548 : Cond.selects "SeriesVault$Table" ⟨"SeriesVault$Table", "joinRows", "(ILSeriesVault$Table;)V"⟩ ⟨"SeriesVault$Table", "joinRows", "(ILSeriesVault$Table;)V"⟩ ∈ aW := aw_of (tb_8 (List.mem_of_getElem? (i := 52) rfl)) rfl
set_option maxHeartbeats 4000000 in
set_option maxRecDepth 100000 in
theorem v_Ajoin_s (l : Launch) (D : va_G) (dA : Nat → ClassId) (sz : Nat) (h : Nat) (ad : Nat → Nat) (ta : Nat → Nat) (t : TB) (tb : Nat → Nat) (u : TB) (la : Nat → Nat) (g : LI) (x : VS) (sg : Int32) (NL : Nat → List Int32) (NR : Nat → List Int32) (RS : Nat → List LB) (RU : Nat → List LB) (hla : la 0 = ad 25) (hs : g.sz ≤ g.eN) (hn : g.eN ≤ 65536) (hd : 2 ≤ x.adep) (hd2 : x.adep ≤ g.sz) (he1 : g.el (x.adep - 2) = some (ta 0)) (he2 : g.el (x.adep - 1) = some (tb 0)) (hna : nmOk dA x.pl t.nm t.nc NL) (hnb : nmOk dA x.pl u.nm u.nc NR) (hc1 : t.nc ≤ 6) (hc2 : u.nc ≤ 6) (hnn : namB NL NR t.nc u.nc = true) (hop : isOp sg) (hcN : t.cN ≤ 65536) (hcM : u.cN ≤ 65536) (hw : u.wi = t.wi) (k1 : t.rc * t.wi ≤ t.cN) (k2 : t.rc ≤ 256) (k3 : u.rc * u.wi ≤ u.cN) (k4 : u.rc ≤ 256) (hra : rsAll dA x.pl t.rs) (hrs : rsOk dA x.pl t.rs t.rc RS) (hru : rsOk dA x.pl u.rs u.rc RU) : Met l ⟨"SeriesVault$Answers", "join", "(I)Z"⟩ [Cond.code ⟨"SeriesVault$Answers", "join", "(I)Z"⟩ prog_2_method_5_code 4 (some FieldType.boolean)] { frames := 5, cells := 0, slots := 0, locals := 109 } (pC D dA [.ref (ad 24), .int sg] (TbW dA ta t ++ (TbW dA tb u ++ (LiW dA la g ++ (VW dA h ad x)))) sz) (va_Qi (fun (r9 : Int32) (u9 : TB) => r9 = 1 ∧ u9 = TB.jm sg NL t u RS RU) (fun (u9 : TB) t9 => bW D (va_A (TbW dA ta t ++ (TbW dA tb u ++ (LiW dA la g ++ (VW dA h ad x)))) sz) (TbW dA ta u9 ++ (TbW dA tb u ++ (LiW dA la g ++ (VW dA h ad (VS.s_adep x (x.adep - 1)))))) t9) (va_A (TbW dA ta t ++ (TbW dA tb u ++ (LiW dA la g ++ (VW dA h ad x)))) sz)) 0 0 (va_A (TbW dA ta t ++ (TbW dA tb u ++ (LiW dA la g ++ (VW dA h ad x)))) sz) := by
  refine mkC (y := ⟨"SeriesVault$Answers", "join", "(I)Z"⟩) (cc := prog_2_method_5_code) (maxL := 4) (av := [.ref (ad 24), .int sg]) (ws := TbW dA ta t ++ (TbW dA tb u ++ (LiW dA la g ++ (VW dA h ad x)))) (sz := sz) (Qc := fun A => va_Qi (fun (r9 : Int32) (u9 : TB) => r9 = 1 ∧ u9 = TB.jm sg NL t u RS RU) (fun (u9 : TB) t9 => bW D A (TbW dA ta u9 ++ (TbW dA tb u ++ (LiW dA la g ++ (VW dA h ad (VS.s_adep x (x.adep - 1)))))) t9) A) (by decide) (Nat.le_of_ble_eq_true rfl) ?_
  intro A p e s m below meth c ls hsz hB
  obtain ⟨hx, hb, hr, hml, hown, hin, hlk, hE, hK, hP, hD, hS, hA, hN, hl⟩ := hB
  have hown : s.vm.findClass "SeriesVault$Answers" = some m.cls := hown
  have hl : lv_has ls 4 [(0, .ref (ad 24)), (1, .int sg)] := hl
  obtain ⟨H, hH⟩ : ∃ z, z = s.heap := ⟨_, rfl⟩
  have hP : va_P D vwCl (TbW dA ta t ++ (TbW dA tb u ++ (LiW dA la g ++ (VW dA h ad x)))) H := by rw [hH]; exact hP
  have hS : va_S A s.heap H [] := by rw [hH]; exact hS
  rw [← hH]
  refine lv_aload_n hx hb d_A_join_0 rfl (lv_at hl 0 rfl) ?_
  refine gF (v := .ref (ad 25)) hx hb hown hE hK hP 49 rfl rfl layA 0 (by decide) w799 rfl d_A_join_1 ?_
  rw [← hla]
  refine lv_aload_n hx hb d_A_join_4 rfl (lv_at hl 0 rfl) ?_
  refine gF (v := .int (nI x.adep)) hx hb hown hE hK hP 49 rfl rfl layA 1 (by decide) w1538 rfl d_A_join_5 ?_
  refine lv_iconst (v := 2) hx hb d_A_join_8 (by decide) ?_
  refine lv_isub hx hb d_A_join_9 (tpi (y := nI (x.adep - 2)) (pk_sub (a := x.adep) (b := 2) (by omega)) ?_)
  have hP := pmP (show List.Perm (α := Nat × va_E) (TbW dA ta t ++ (TbW dA tb u ++ (LiW dA la g ++ (VW dA h ad x)))) (LiW dA la g ++ (TbW dA ta t ++ (TbW dA tb u ++ (VW dA h ad x)))) from (List.Perm.append_left (TbW dA ta t) (List.perm_append_comm_assoc (TbW dA tb u) (LiW dA la g) (VW dA h ad x))).trans (List.perm_append_comm_assoc (TbW dA ta t) (LiW dA la g) (TbW dA tb u ++ (VW dA h ad x)))) hP
  have hD := pmD (show List.Perm (α := Nat × va_E) (TbW dA ta t ++ (TbW dA tb u ++ (LiW dA la g ++ (VW dA h ad x)))) (LiW dA la g ++ (TbW dA ta t ++ (TbW dA tb u ++ (VW dA h ad x)))) from (List.Perm.append_left (TbW dA ta t) (List.perm_append_comm_assoc (TbW dA tb u) (LiW dA la g) (VW dA h ad x))).trans (List.perm_append_comm_assoc (TbW dA ta t) (LiW dA la g) (TbW dA tb u ++ (VW dA h ad x)))) hD
  refine jkR (wr := []) (rnV (As := [.int (nI (x.adep - 2))]) (rest := []) hx hb hml hown hE hK (hN _ _ hS) hP hD (v_Lget l D dA H.size (TbW dA ta t ++ (TbW dA tb u ++ (VW dA h ad x))) la g (x.adep - 2) (ta 0) hs hn (show (x.adep - 2) < g.sz from by omega) he1) (q0 := 0) rfl rfl w1489 w1537 w1490 w1491 w680 rfl rfl ⟨⟨by decide, by decide⟩, rfl⟩ ⟨(Nat.le_of_ble_eq_true rfl), (Nat.le_of_ble_eq_true rfl)⟩ rfl hl.1 rfl (Nat.le_of_ble_eq_true rfl) d_A_join_10 ⟨(Nat.le_of_ble_eq_true rfl), (Nat.le_of_ble_eq_true rfl)⟩) hP hD hS hA (fun u2 r1 H locs hp9 hP hD hS => ?_)
  have hP : va_P D vwCl (LiW dA la g ++ (TbW dA ta t ++ (TbW dA tb u ++ (VW dA h ad x)))) H := hP
  have hD : va_D A (LiW dA la g ++ (TbW dA ta t ++ (TbW dA tb u ++ (VW dA h ad x)))) := hD
  have f_e_3 := hp9
  have e9 := f_e_3
  subst e9
  refine va_castE hx hb hown (hE.t w805 rfl) (va_recv hK hP (ci := 8) (q0 := 2) (q := ("SeriesVault$Table", TT, 7)) rfl rfl) d_A_join_13 ?_
  refine lv_astore_n hx hb d_A_join_16 rfl hl (by decide) rfl (fun ls hl => ?_)
  have hl : lv_has ls 4 [(2, .ref (ta 0)), (0, .ref (ad 24)), (1, .int sg)] := hl
  refine lv_aload_n hx hb d_A_join_17 rfl (lv_at hl 1 rfl) ?_
  refine gF (v := .ref (ad 25)) hx hb hown hE hK hP 49 rfl rfl layA 0 (by decide) w799 rfl d_A_join_18 ?_
  rw [← hla]
  refine lv_aload_n hx hb d_A_join_21 rfl (lv_at hl 1 rfl) ?_
  refine gF (v := .int (nI x.adep)) hx hb hown hE hK hP 49 rfl rfl layA 1 (by decide) w1538 rfl d_A_join_22 ?_
  refine lv_iconst (v := 1) hx hb d_A_join_25 (by decide) ?_
  refine lv_isub hx hb d_A_join_26 (tpi (y := nI (x.adep - 1)) (pk_sub (a := x.adep) (b := 1) (by omega)) ?_)
  refine jkR (wr := []) (rnV (As := [.int (nI (x.adep - 1))]) (rest := []) hx hb hml hown hE hK (hN _ _ hS) hP hD (v_Lget l D dA H.size (TbW dA ta t ++ (TbW dA tb u ++ (VW dA h ad x))) la g (x.adep - 1) (tb 0) hs hn (show (x.adep - 1) < g.sz from by omega) he2) (q0 := 0) rfl rfl w1489 w1537 w1490 w1491 w680 rfl rfl ⟨⟨by decide, by decide⟩, rfl⟩ ⟨(Nat.le_of_ble_eq_true rfl), (Nat.le_of_ble_eq_true rfl)⟩ rfl hl.1 rfl (Nat.le_of_ble_eq_true rfl) d_A_join_27 ⟨(Nat.le_of_ble_eq_true rfl), (Nat.le_of_ble_eq_true rfl)⟩) hP hD hS hA (fun u5 r4 H locs hp9 hP hD hS => ?_)
  have hP : va_P D vwCl (LiW dA la g ++ (TbW dA ta t ++ (TbW dA tb u ++ (VW dA h ad x)))) H := hP
  have hD : va_D A (LiW dA la g ++ (TbW dA ta t ++ (TbW dA tb u ++ (VW dA h ad x)))) := hD
  have f_e_6 := hp9
  have e9 := f_e_6
  subst e9
  refine va_castE hx hb hown (hE.t w805 rfl) (va_recv hK hP (ci := 8) (q0 := 7) (q := ("SeriesVault$Table", TT, 7)) rfl rfl) d_A_join_30 ?_
  refine lv_astore_n hx hb d_A_join_33 rfl hl (by decide) rfl (fun ls hl => ?_)
  have hl : lv_has ls 4 [(3, .ref (tb 0)), (2, .ref (ta 0)), (0, .ref (ad 24)), (1, .int sg)] := hl
  refine lv_aload_n hx hb d_A_join_34 rfl (lv_at hl 2 rfl) ?_
  refine lv_dup hx hb d_A_join_35 rfl ?_
  refine gF (v := .int (nI x.adep)) hx hb hown hE hK hP 49 rfl rfl layA 1 (by decide) w1538 rfl d_A_join_36 ?_
  refine lv_iconst (v := 1) hx hb d_A_join_39 (by decide) ?_
  refine lv_isub hx hb d_A_join_40 (tpi (y := nI (x.adep - 1)) (pk_sub (a := x.adep) (b := 1) (by omega)) ?_)
  refine pF (v := .int (nI (x.adep - 1))) hx hb hown hE hK hP hD hS 49 rfl rfl layA tyA tokA nmA 1 (by decide) w1538 rfl rfl rfl (Nat.le_of_ble_eq_true rfl) d_A_join_41 (fun H locs hP hD hS => ?_)
  have hP : va_P D vwCl (LiW dA la g ++ (TbW dA ta t ++ (TbW dA tb u ++ (VW dA h ad (VS.s_adep x (x.adep - 1)))))) H := hP
  have hD : va_D A (LiW dA la g ++ (TbW dA ta t ++ (TbW dA tb u ++ (VW dA h ad (VS.s_adep x (x.adep - 1)))))) := hD
  refine lv_aload_n hx hb d_A_join_44 rfl (lv_at hl 1 rfl) ?_
  refine lv_aload_n hx hb d_A_join_45 rfl (lv_at hl 0 rfl) ?_
  have hP := pmP (show List.Perm (α := Nat × va_E) (LiW dA la g ++ (TbW dA ta t ++ (TbW dA tb u ++ (VW dA h ad (VS.s_adep x (x.adep - 1)))))) (TbW dA ta t ++ (LiW dA la g ++ (TbW dA tb u ++ (VW dA h ad (VS.s_adep x (x.adep - 1)))))) from List.perm_append_comm_assoc (LiW dA la g) (TbW dA ta t) (TbW dA tb u ++ (VW dA h ad (VS.s_adep x (x.adep - 1))))) hP
  have hD := pmD (show List.Perm (α := Nat × va_E) (LiW dA la g ++ (TbW dA ta t ++ (TbW dA tb u ++ (VW dA h ad (VS.s_adep x (x.adep - 1)))))) (TbW dA ta t ++ (LiW dA la g ++ (TbW dA tb u ++ (VW dA h ad (VS.s_adep x (x.adep - 1)))))) from List.perm_append_comm_assoc (LiW dA la g) (TbW dA ta t) (TbW dA tb u ++ (VW dA h ad (VS.s_adep x (x.adep - 1))))) hD
  have hP := pmP (show List.Perm (α := Nat × va_E) (TbW dA ta t ++ (LiW dA la g ++ (TbW dA tb u ++ (VW dA h ad (VS.s_adep x (x.adep - 1)))))) (TbW dA ta t ++ (TbW dA tb u ++ (LiW dA la g ++ (VW dA h ad (VS.s_adep x (x.adep - 1)))))) from List.Perm.append_left (TbW dA ta t) (List.perm_append_comm_assoc (LiW dA la g) (TbW dA tb u) (VW dA h ad (VS.s_adep x (x.adep - 1))))) hP
  have hD := pmD (show List.Perm (α := Nat × va_E) (TbW dA ta t ++ (LiW dA la g ++ (TbW dA tb u ++ (VW dA h ad (VS.s_adep x (x.adep - 1)))))) (TbW dA ta t ++ (TbW dA tb u ++ (LiW dA la g ++ (VW dA h ad (VS.s_adep x (x.adep - 1)))))) from List.Perm.append_left (TbW dA ta t) (List.perm_append_comm_assoc (LiW dA la g) (TbW dA tb u) (VW dA h ad (VS.s_adep x (x.adep - 1))))) hD
  refine jkI (wr := []) (rnV (As := [.ref (tb 0)]) (rest := []) hx hb hml hown hE hK (hN _ _ hS) hP hD (v_ThasNamesOf l D dA H.size (LiW dA la g ++ (VW dA h ad (VS.s_adep x (x.adep - 1)))) ta t tb u NL NR (nmOk_m (fun _ hm => (List.mem_append_right _ (plm hm))) hna) (nmOk_m (fun _ hm => (List.mem_append_right _ (plm hm))) hnb) hc1 hc2) (q0 := 0) rfl rfl w1541 w1540 w1542 w1543 w807 rfl rfl ⟨⟨by decide, by decide⟩, rfl⟩ ⟨(Nat.le_of_ble_eq_true rfl), (Nat.le_of_ble_eq_true rfl)⟩ rfl hl.1 rfl (Nat.le_of_ble_eq_true rfl) d_A_join_46 ⟨(Nat.le_of_ble_eq_true rfl), (Nat.le_of_ble_eq_true rfl)⟩) hP hD hS hA (fun r7 u8 H locs hp9 hP hD hS => ?_)
  have hP : va_P D vwCl (TbW dA ta t ++ (TbW dA tb u ++ (LiW dA la g ++ (VW dA h ad (VS.s_adep x (x.adep - 1)))))) H := hP
  have hD : va_D A (TbW dA ta t ++ (TbW dA tb u ++ (LiW dA la g ++ (VW dA h ad (VS.s_adep x (x.adep - 1)))))) := hD
  replace hp9 : bI (namB NL NR t.nc u.nc) = r7 := Eq.symm hp9
  subst hp9
  refine lv_if_eq hx hb d_A_join_49 (tgt := 60) rfl (fun h9 => absurd h9 (by rw [hnn]; decide)) (fun _ => ?_)
  refine lv_aload_n hx hb d_A_join_52 rfl (lv_at hl 1 rfl) ?_
  refine lv_iload_n hx hb d_A_join_53 rfl (lv_at hl 3 rfl) ?_
  refine lv_aload_n hx hb d_A_join_54 rfl (lv_at hl 0 rfl) ?_
  refine jkV (wr := []) (rnV (As := [.int sg, .ref (tb 0)]) (rest := []) hx hb hml hown hE hK (hN _ _ hS) hP hD (v_TjoinRows l D dA H.size (LiW dA la g ++ (VW dA h ad (VS.s_adep x (x.adep - 1)))) ta t tb u sg NL RS RU hop hcN hcM k1 k2 hw k3 k4 (nmOk_m (fun _ hm => (List.mem_append_right _ (plm hm))) hna) hc1 (rsAll_m (fun _ hm => (List.mem_append_right _ (plm hm))) hra) (rsOk_m (fun _ hm => (List.mem_append_right _ (plm hm))) hrs) (rsOk_m (fun _ hm => (List.mem_append_right _ (plm hm))) hru)) (q0 := 0) rfl rfl w1546 w1545 w1547 w1548 w807 rfl rfl ⟨⟨by decide, by decide⟩, rfl⟩ ⟨(Nat.le_of_ble_eq_true rfl), (Nat.le_of_ble_eq_true rfl)⟩ rfl hl.1 rfl (Nat.le_of_ble_eq_true rfl) d_A_join_55 ⟨(Nat.le_of_ble_eq_true rfl), (Nat.le_of_ble_eq_true rfl)⟩) hP hD hS hA (fun u10 H locs hp9 hP hD hS => ?_)
  obtain ⟨y11, h9u⟩ : ∃ z9, z9 = u10 := ⟨_, rfl⟩
  subst h9u
  have hP : va_P D vwCl (TbW dA ta y11 ++ (TbW dA tb u ++ (LiW dA la g ++ (VW dA h ad (VS.s_adep x (x.adep - 1)))))) H := hP
  have hD : va_D A (TbW dA ta y11 ++ (TbW dA tb u ++ (LiW dA la g ++ (VW dA h ad (VS.s_adep x (x.adep - 1)))))) := hD
  have f_e_12 := hp9
  refine lv_iconst (v := 1) hx hb d_A_join_58 (by decide) ?_
  exact rfZ hx hb hr (bI_nar true) hlk hS y11 ⟨rfl, f_e_12⟩ hP hD (Nat.le_of_ble_eq_true rfl) (Nat.le_of_ble_eq_true rfl) d_A_join_59
