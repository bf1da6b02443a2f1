set_option maxHeartbeats 4000000 in
set_option maxRecDepth 100000 in
theorem v_Ajoin_a (l : Launch) (D : va_G) (dA : Nat → ClassId) (sz : Nat) (h : Nat) (ad : Nat → Nat) (ta : Nat → Nat) (t : TB) (tb : Nat → Nat) (u : TB) (la : Nat → Nat) (g : LI) (x : VS) (sg : Int32) (NL : Nat → List Int32) (NR : Nat → List Int32) (hla : la 0 = ad 25) (hs : g.sz ≤ g.eN) (hn : g.eN ≤ 65536) (hd : 2 ≤ x.adep) (hd2 : x.adep ≤ g.sz) (he1 : g.el (x.adep - 2) = some (ta 0)) (he2 : g.el (x.adep - 1) = some (tb 0)) (hna : nmOk dA x.pl t.nm t.nc NL) (hnb : nmOk dA x.pl u.nm u.nc NR) (hc1 : t.nc ≤ 6) (hc2 : u.nc ≤ 6) (hnn : namB NL NR t.nc u.nc = true) (hcN : t.cN ≤ 65536) (hra : rsAll dA x.pl t.rs) (h0 : t.rc = 0) : Met l ⟨"SeriesVault$Answers", "join", "(I)Z"⟩ [Cond.code ⟨"SeriesVault$Answers", "join", "(I)Z"⟩ prog_2_method_5_code 4 (some FieldType.boolean)] { frames := 4, cells := 0, slots := 0, locals := 109 } (pC D dA [.ref (ad 24), .int sg] (TbW dA ta t ++ (TbW dA tb u ++ (LiW dA la g ++ (VW dA h ad x)))) sz) (va_Qi (fun (r9 : Int32) (u9 : TB) => r9 = 1 ∧ u9 = TB.j0 sg t u) (fun (u9 : TB) t9 => bW D (va_A (TbW dA ta t ++ (TbW dA tb u ++ (LiW dA la g ++ (VW dA h ad x)))) sz) (TbW dA ta u9 ++ (TbW dA tb u ++ (LiW dA la g ++ (VW dA h ad (VS.s_adep x (x.adep - 1)))))) t9) (va_A (TbW dA ta t ++ (TbW dA tb u ++ (LiW dA la g ++ (VW dA h ad x)))) sz)) 0 0 (va_A (TbW dA ta t ++ (TbW dA tb u ++ (LiW dA la g ++ (VW dA h ad x)))) sz) := by
  refine mkC (y := ⟨"SeriesVault$Answers", "join", "(I)Z"⟩) (cc := prog_2_method_5_code) (maxL := 4) (av := [.ref (ad 24), .int sg]) (ws := TbW dA ta t ++ (TbW dA tb u ++ (LiW dA la g ++ (VW dA h ad x)))) (sz := sz) (Qc := fun A => va_Qi (fun (r9 : Int32) (u9 : TB) => r9 = 1 ∧ u9 = TB.j0 sg t u) (fun (u9 : TB) t9 => bW D A (TbW dA ta u9 ++ (TbW dA tb u ++ (LiW dA la g ++ (VW dA h ad (VS.s_adep x (x.adep - 1)))))) t9) A) (by decide) (Nat.le_of_ble_eq_true rfl) ?_
  intro A p e s m below meth c ls hsz hB
  obtain ⟨hx, hb, hr, hml, hown, hin, hlk, hE, hK, hP, hD, hS, hA, hN, hl⟩ := hB
  have hown : s.vm.findClass "SeriesVault$Answers" = some m.cls := hown
  have hl : lv_has ls 4 [(0, .ref (ad 24)), (1, .int sg)] := hl
  obtain ⟨H, hH⟩ : ∃ z, z = s.heap := ⟨_, rfl⟩
  have hP : va_P D vwCl (TbW dA ta t ++ (TbW dA tb u ++ (LiW dA la g ++ (VW dA h ad x)))) H := by rw [hH]; exact hP
  have hS : va_S A s.heap H [] := by rw [hH]; exact hS
  rw [← hH]
  refine lv_aload_n hx hb d_A_join_0 rfl (lv_at hl 0 rfl) ?_
  refine gF (v := .ref (ad 25)) hx hb hown hE hK hP 49 rfl rfl layA 0 (by decide) w799 rfl d_A_join_1 ?_
  rw [← hla]
  refine lv_aload_n hx hb d_A_join_4 rfl (lv_at hl 0 rfl) ?_
  refine gF (v := .int (nI x.adep)) hx hb hown hE hK hP 49 rfl rfl layA 1 (by decide) w1538 rfl d_A_join_5 ?_
  refine lv_iconst (v := 2) hx hb d_A_join_8 (by decide) ?_
  refine lv_isub hx hb d_A_join_9 (tpi (y := nI (x.adep - 2)) (pk_sub (a := x.adep) (b := 2) (by omega)) ?_)
  have hP := pmP (show List.Perm (α := Nat × va_E) (TbW dA ta t ++ (TbW dA tb u ++ (LiW dA la g ++ (VW dA h ad x)))) (LiW dA la g ++ (TbW dA ta t ++ (TbW dA tb u ++ (VW dA h ad x)))) from (List.Perm.append_left (TbW dA ta t) (List.perm_append_comm_assoc (TbW dA tb u) (LiW dA la g) (VW dA h ad x))).trans (List.perm_append_comm_assoc (TbW dA ta t) (LiW dA la g) (TbW dA tb u ++ (VW dA h ad x)))) hP
  have hD := pmD (show List.Perm (α := Nat × va_E) (TbW dA ta t ++ (TbW dA tb u ++ (LiW dA la g ++ (VW dA h ad x)))) (LiW dA la g ++ (TbW dA ta t ++ (TbW dA tb u ++ (VW dA h ad x)))) from (List.Perm.append_left (TbW dA ta t) (List.perm_append_comm_assoc (TbW dA tb u) (LiW dA la g) (VW dA h ad x))).trans (List.perm_append_comm_assoc (TbW dA ta t) (LiW dA la g) (TbW dA tb u ++ (VW dA h ad x)))) hD
  refine jkR (wr := []) (rnV (As := [.int (nI (x.adep - 2))]) (rest := []) hx hb hml hown hE hK (hN _ _ hS) hP hD (v_Lget l D dA H.size (TbW dA ta t ++ (TbW dA tb u ++ (VW dA h ad x))) la g (x.adep - 2) (ta 0) hs hn (show (x.adep - 2) < g.sz from by omega) he1) (q0 := 0) rfl rfl w1489 w1537 w1490 w1491 w680 rfl rfl ⟨⟨by decide, by decide⟩, rfl⟩ ⟨(Nat.le_of_ble_eq_true rfl), (Nat.le_of_ble_eq_true rfl)⟩ rfl hl.1 rfl (Nat.le_of_ble_eq_true rfl) d_A_join_10 ⟨(Nat.le_of_ble_eq_true rfl), (Nat.le_of_ble_eq_true rfl)⟩) hP hD hS hA (fun u2 r1 H locs hp9 hP hD hS => ?_)
  have hP : va_P D vwCl (LiW dA la g ++ (TbW dA ta t ++ (TbW dA tb u ++ (VW dA h ad x)))) H := hP
  have hD : va_D A (LiW dA la g ++ (TbW dA ta t ++ (TbW dA tb u ++ (VW dA h ad x)))) := hD
  have f_e_3 := hp9
  have e9 := f_e_3
  subst e9
  refine va_castE hx hb hown (hE.t w805 rfl) (va_recv hK hP (ci := 8) (q0 := 2) (q := ("SeriesVault$Table", TT, 7)) rfl rfl) d_A_join_13 ?_
  refine lv_astore_n hx hb d_A_join_16 rfl hl (by decide) rfl (fun ls hl => ?_)
  have hl : lv_has ls 4 [(2, .ref (ta 0)), (0, .ref (ad 24)), (1, .int sg)] := hl
  refine lv_aload_n hx hb d_A_join_17 rfl (lv_at hl 1 rfl) ?_
  refine gF (v := .ref (ad 25)) hx hb hown hE hK hP 49 rfl rfl layA 0 (by decide) w799 rfl d_A_join_18 ?_
  rw [← hla]
  refine lv_aload_n hx hb d_A_join_21 rfl (lv_at hl 1 rfl) ?_
  refine gF (v := .int (nI x.adep)) hx hb hown hE hK hP 49 rfl rfl layA 1 (by decide) w1538 rfl d_A_join_22 ?_
  refine lv_iconst (v := 1) hx hb d_A_join_25 (by decide) ?_
  refine lv_isub hx hb d_A_join_26 (tpi (y := nI (x.adep - 1)) (pk_sub (a := x.adep) (b := 1) (by omega)) ?_)
  refine jkR (wr := []) (rnV (As := [.int (nI (x.adep - 1))]) (rest := []) hx hb hml hown hE hK (hN _ _ hS) hP hD (v_Lget l D dA H.size (TbW dA ta t ++ (TbW dA tb u ++ (VW dA h ad x))) la g (x.adep - 1) (tb 0) hs hn (show (x.adep - 1) < g.sz from by omega) he2) (q0 := 0) rfl rfl w1489 w1537 w1490 w1491 w680 rfl rfl ⟨⟨by decide, by decide⟩, rfl⟩ ⟨(Nat.le_of_ble_eq_true rfl), (Nat.le_of_ble_eq_true rfl)⟩ rfl hl.1 rfl (Nat.le_of_ble_eq_true rfl) d_A_join_27 ⟨(Nat.le_of_ble_eq_true rfl), (Nat.le_of_ble_eq_true rfl)⟩) hP hD hS hA (fun u5 r4 H locs hp9 hP hD hS => ?_)
  have hP : va_P D vwCl (LiW dA la g ++ (TbW dA ta t ++ (TbW dA tb u ++ (VW dA h ad x)))) H := hP
  have hD : va_D A (LiW dA la g ++ (TbW dA ta t ++ (TbW dA tb u ++ (VW dA h ad x)))) := hD
  have f_e_6 := hp9
  have e9 := f_e_6
  subst e9
  refine va_castE hx hb hown (hE.t w805 rfl) (va_recv hK hP (ci := 8) (q0 := 7) (q := ("SeriesVault$Table", TT, 7)) rfl rfl) d_A_join_30 ?_
  refine lv_astore_n hx hb d_A_join_33 rfl hl (by decide) rfl (fun ls hl => ?_)
  have hl : lv_has ls 4 [(3, .ref (tb 0)), (2, .ref (ta 0)), (0, .ref (ad 24)), (1, .int sg)] := hl
  refine lv_aload_n hx hb d_A_join_34 rfl (lv_at hl 2 rfl) ?_
  refine lv_dup hx hb d_A_join_35 rfl ?_
  refine gF (v := .int (nI x.adep)) hx hb hown hE hK hP 49 rfl rfl layA 1 (by decide) w1538 rfl d_A_join_36 ?_
  refine lv_iconst (v := 1) hx hb d_A_join_39 (by decide) ?_
  refine lv_isub hx hb d_A_join_40 (tpi (y := nI (x.adep - 1)) (pk_sub (a := x.adep) (b := 1) (by omega)) ?_)
  refine pF (v := .int (nI (x.adep - 1))) hx hb hown hE hK hP hD hS 49 rfl rfl layA tyA tokA nmA 1 (by decide) w1538 rfl rfl rfl (Nat.le_of_ble_eq_true rfl) d_A_join_41 (fun H locs hP hD hS => ?_)
  have hP : va_P D vwCl (LiW dA la g ++ (TbW dA ta t ++ (TbW dA tb u ++ (VW dA h ad (VS.s_adep x (x.adep - 1)))))) H := hP
  have hD : va_D A (LiW dA la g ++ (TbW dA ta t ++ (TbW dA tb u ++ (VW dA h ad (VS.s_adep x (x.adep - 1)))))) := hD
  refine lv_aload_n hx hb d_A_join_44 rfl (lv_at hl 1 rfl) ?_
  refine lv_aload_n hx hb d_A_join_45 rfl (lv_at hl 0 rfl) ?_
  have hP := pmP (show List.Perm (α := Nat × va_E) (LiW dA la g ++ (TbW dA ta t ++ (TbW dA tb u ++ (VW dA h ad (VS.s_adep x (x.adep - 1)))))) (TbW dA ta t ++ (LiW dA la g ++ (TbW dA tb u ++ (VW dA h ad (VS.s_adep x (x.adep - 1)))))) from List.perm_append_comm_assoc (LiW dA la g) (TbW dA ta t) (TbW dA tb u ++ (VW dA h ad (VS.s_adep x (x.adep - 1))))) hP
  have hD := pmD (show List.Perm (α := Nat × va_E) (LiW dA la g ++ (TbW dA ta t ++ (TbW dA tb u ++ (VW dA h ad (VS.s_adep x (x.adep - 1)))))) (TbW dA ta t ++ (LiW dA la g ++ (TbW dA tb u ++ (VW dA h ad (VS.s_adep x (x.adep - 1)))))) from List.perm_append_comm_assoc (LiW dA la g) (TbW dA ta t) (TbW dA tb u ++ (VW dA h ad (VS.s_adep x (x.adep - 1))))) hD
  have hP := pmP (show List.Perm (α := Nat × va_E) (TbW dA ta t ++ (LiW dA la g ++ (TbW dA tb u ++ (VW dA h ad (VS.s_adep x (x.adep - 1)))))) (TbW dA ta t ++ (TbW dA tb u ++ (LiW dA la g ++ (VW dA h ad (VS.s_adep x (x.adep - 1)))))) from List.Perm.append_left (TbW dA ta t) (List.perm_append_comm_assoc (LiW dA la g) (TbW dA tb u) (VW dA h ad (VS.s_adep x (x.adep - 1))))) hP
  have hD := pmD (show List.Perm (α := Nat × va_E) (TbW dA ta t ++ (LiW dA la g ++ (TbW dA tb u ++ (VW dA h ad (VS.s_adep x (x.adep - 1)))))) (TbW dA ta t ++ (TbW dA tb u ++ (LiW dA la g ++ (VW dA h ad (VS.s_adep x (x.adep - 1)))))) from List.Perm.append_left (TbW dA ta t) (List.perm_append_comm_assoc (LiW dA la g) (TbW dA tb u) (VW dA h ad (VS.s_adep x (x.adep - 1))))) hD
  refine jkI (wr := []) (rnV (As := [.ref (tb 0)]) (rest := []) hx hb hml hown hE hK (hN _ _ hS) hP hD (v_ThasNamesOf l D dA H.size (LiW dA la g ++ (VW dA h ad (VS.s_adep x (x.adep - 1)))) ta t tb u NL NR (nmOk_m (fun _ hm => (List.mem_append_right _ (plm hm))) hna) (nmOk_m (fun _ hm => (List.mem_append_right _ (plm hm))) hnb) hc1 hc2) (q0 := 0) rfl rfl w1541 w1540 w1542 w1543 w807 rfl rfl ⟨⟨by decide, by decide⟩, rfl⟩ ⟨(Nat.le_of_ble_eq_true rfl), (Nat.le_of_ble_eq_true rfl)⟩ rfl hl.1 rfl (Nat.le_of_ble_eq_true rfl) d_A_join_46 ⟨(Nat.le_of_ble_eq_true rfl), (Nat.le_of_ble_eq_true rfl)⟩) hP hD hS hA (fun r7 u8 H locs hp9 hP hD hS => ?_)
  have hP : va_P D vwCl (TbW dA ta t ++ (TbW dA tb u ++ (LiW dA la g ++ (VW dA h ad (VS.s_adep x (x.adep - 1)))))) H := hP
  have hD : va_D A (TbW dA ta t ++ (TbW dA tb u ++ (LiW dA la g ++ (VW dA h ad (VS.s_adep x (x.adep - 1)))))) := hD
  replace hp9 : bI (namB NL NR t.nc u.nc) = r7 := Eq.symm hp9
  subst hp9
  refine lv_if_eq hx hb d_A_join_49 (tgt := 60) rfl (fun h9 => absurd h9 (by rw [hnn]; decide)) (fun _ => ?_)
  refine lv_aload_n hx hb d_A_join_52 rfl (lv_at hl 1 rfl) ?_
  refine lv_iload_n hx hb d_A_join_53 rfl (lv_at hl 3 rfl) ?_
  refine lv_aload_n hx hb d_A_join_54 rfl (lv_at hl 0 rfl) ?_
  refine jkV (wr := []) (rnV (As := [.int sg, .ref (tb 0)]) (rest := []) hx hb hml hown hE hK (hN _ _ hS) hP hD (v_TjoinRows_a l D dA H.size (LiW dA la g ++ (VW dA h ad (VS.s_adep x (x.adep - 1)))) ta t tb u sg hcN (rsAll_m (fun _ hm => (List.mem_append_right _ (plm hm))) hra) h0) (q0 := 0) rfl rfl w1546 w1545 w1547 w1548 w807 rfl rfl ⟨⟨by decide, by decide⟩, rfl⟩ ⟨(Nat.le_of_ble_eq_true rfl), (Nat.le_of_ble_eq_true rfl)⟩ rfl hl.1 rfl (Nat.le_of_ble_eq_true rfl) d_A_join_55 ⟨(Nat.le_of_ble_eq_true rfl), (Nat.le_of_ble_eq_true rfl)⟩) hP hD hS hA (fun u10 H locs hp9 hP hD hS => ?_)
  obtain ⟨y11, h9u⟩ : ∃ z9, z9 = u10 := ⟨_, rfl⟩
  subst h9u
  have hP : va_P D vwCl (TbW dA ta y11 ++ (TbW dA tb u ++ (LiW dA la g ++ (VW dA h ad (VS.s_adep x (x.adep - 1)))))) H := hP
  have hD : va_D A (TbW dA ta y11 ++ (TbW dA tb u ++ (LiW dA la g ++ (VW dA h ad (VS.s_adep x (x.adep - 1)))))) := hD
  have f_e_12 := hp9
  refine lv_iconst (v := 1) hx hb d_A_join_58 (by decide) ?_
  exact rfZ hx hb hr (bI_nar true) hlk hS y11 ⟨rfl, f_e_12⟩ hP hD (Nat.le_of_ble_eq_true rfl) (Nat.le_of_ble_eq_true rfl) d_A_join_59
set_option maxHeartbeats 4000000 in
set_option maxRecDepth 100000 in
theorem v_Ajoin_b (l : Launch) (D : va_G) (dA : Nat → ClassId) (sz : Nat) (h : Nat) (ad : Nat → Nat) (ta : Nat → Nat) (t : TB) (tb : Nat → Nat) (u : TB) (la : Nat → Nat) (g : LI) (x : VS) (sg : Int32) (NL : Nat → List Int32) (NR : Nat → List Int32) (hla : la 0 = ad 25) (hs : g.sz ≤ g.eN) (hn : g.eN ≤ 65536) (hd : 2 ≤ x.adep) (hd2 : x.adep ≤ g.sz) (he1 : g.el (x.adep - 2) = some (ta 0)) (he2 : g.el (x.adep - 1) = some (tb 0)) (hna : nmOk dA x.pl t.nm t.nc NL) (hnb : nmOk dA x.pl u.nm u.nc NR) (hc1 : t.nc ≤ 6) (hc2 : u.nc ≤ 6) (hnn : namB NL NR t.nc u.nc = true) (hcN : t.cN ≤ 65536) (hra : rsAll dA x.pl t.rs) (h0 : t.rc = 1) (hu : u.rc = 0) : Met l ⟨"SeriesVault$Answers", "join", "(I)Z"⟩ [Cond.code ⟨"SeriesVault$Answers", "join", "(I)Z"⟩ prog_2_method_5_code 4 (some FieldType.boolean)] { frames := 4, cells := 0, slots := 0, locals := 109 } (pC D dA [.ref (ad 24), .int sg] (TbW dA ta t ++ (TbW dA tb u ++ (LiW dA la g ++ (VW dA h ad x)))) sz) (va_Qi (fun (r9 : Int32) (u9 : TB) => r9 = 1 ∧ u9 = TB.j0 sg t u) (fun (u9 : TB) t9 => bW D (va_A (TbW dA ta t ++ (TbW dA tb u ++ (LiW dA la g ++ (VW dA h ad x)))) sz) (TbW dA ta u9 ++ (TbW dA tb u ++ (LiW dA la g ++ (VW dA h ad (VS.s_adep x (x.adep - 1)))))) t9) (va_A (TbW dA ta t ++ (TbW dA tb u ++ (LiW dA la g ++ (VW dA h ad x)))) sz)) 0 0 (va_A (TbW dA ta t ++ (TbW dA tb u ++ (LiW dA la g ++ (VW dA h ad x)))) sz) := by
  refine mkC (y := ⟨"SeriesVault$Answers", "join", "(I)Z"⟩) (cc := prog_2_method_5_code) (maxL := 4) (av := [.ref (ad 24), .int sg]) (ws := TbW dA ta t ++ (TbW dA tb u ++ (LiW dA la g ++ (VW dA h ad x)))) (sz := sz) (Qc := fun A => va_Qi (fun (r9 : Int32) (u9 : TB) => r9 = 1 ∧ u9 = TB.j0 sg t u) (fun (u9 : TB) t9 => bW D A (TbW dA ta u9 ++ (TbW dA tb u ++ (LiW dA la g ++ (VW dA h ad (VS.s_adep x (x.adep - 1)))))) t9) A) (by decide) (Nat.le_of_ble_eq_true rfl) ?_
  intro A p e s m below meth c ls hsz hB
  obtain ⟨hx, hb, hr, hml, hown, hin, hlk, hE, hK, hP, hD, hS, hA, hN, hl⟩ := hB
  have hown : s.vm.findClass "SeriesVault$Answers" = some m.cls := hown
  have hl : lv_has ls 4 [(0, .ref (ad 24)), (1, .int sg)] := hl
  obtain ⟨H, hH⟩ : ∃ z, z = s.heap := ⟨_, rfl⟩
  have hP : va_P D vwCl (TbW dA ta t ++ (TbW dA tb u ++ (LiW dA la g ++ (VW dA h ad x)))) H := by rw [hH]; exact hP
  have hS : va_S A s.heap H [] := by rw [hH]; exact hS
  rw [← hH]
  refine lv_aload_n hx hb d_A_join_0 rfl (lv_at hl 0 rfl) ?_
  refine gF (v := .ref (ad 25)) hx hb hown hE hK hP 49 rfl rfl layA 0 (by decide) w799 rfl d_A_join_1 ?_
  rw [← hla]
  refine lv_aload_n hx hb d_A_join_4 rfl (lv_at hl 0 rfl) ?_
  refine gF (v := .int (nI x.adep)) hx hb hown hE hK hP 49 rfl rfl layA 1 (by decide) w1538 rfl d_A_join_5 ?_
  refine lv_iconst (v := 2) hx hb d_A_join_8 (by decide) ?_
  refine lv_isub hx hb d_A_join_9 (tpi (y := nI (x.adep - 2)) (pk_sub (a := x.adep) (b := 2) (by omega)) ?_)
  have hP := pmP (show List.Perm (α := Nat × va_E) (TbW dA ta t ++ (TbW dA tb u ++ (LiW dA la g ++ (VW dA h ad x)))) (LiW dA la g ++ (TbW dA ta t ++ (TbW dA tb u ++ (VW dA h ad x)))) from (List.Perm.append_left (TbW dA ta t) (List.perm_append_comm_assoc (TbW dA tb u) (LiW dA la g) (VW dA h ad x))).trans (List.perm_append_comm_assoc (TbW dA ta t) (LiW dA la g) (TbW dA tb u ++ (VW dA h ad x)))) hP
  have hD := pmD (show List.Perm (α := Nat × va_E) (TbW dA ta t ++ (TbW dA tb u ++ (LiW dA la g ++ (VW dA h ad x)))) (LiW dA la g ++ (TbW dA ta t ++ (TbW dA tb u ++ (VW dA h ad x)))) from (List.Perm.append_left (TbW dA ta t) (List.perm_append_comm_assoc (TbW dA tb u) (LiW dA la g) (VW dA h ad x))).trans (List.perm_append_comm_assoc (TbW dA ta t) (LiW dA la g) (TbW dA tb u ++ (VW dA h ad x)))) hD
  refine jkR (wr := []) (rnV (As := [.int (nI (x.adep - 2))]) (rest := []) hx hb hml hown hE hK (hN _ _ hS) hP hD (v_Lget l D dA H.size (TbW dA ta t ++ (TbW dA tb u ++ (VW dA h ad x))) la g (x.adep - 2) (ta 0) hs hn (show (x.adep - 2) < g.sz from by omega) he1) (q0 := 0) rfl rfl w1489 w1537 w1490 w1491 w680 rfl rfl ⟨⟨by decide, by decide⟩, rfl⟩ ⟨(Nat.le_of_ble_eq_true rfl), (Nat.le_of_ble_eq_true rfl)⟩ rfl hl.1 rfl (Nat.le_of_ble_eq_true rfl) d_A_join_10 ⟨(Nat.le_of_ble_eq_true rfl), (Nat.le_of_ble_eq_true rfl)⟩) hP hD hS hA (fun u2 r1 H locs hp9 hP hD hS => ?_)
  have hP : va_P D vwCl (LiW dA la g ++ (TbW dA ta t ++ (TbW dA tb u ++ (VW dA h ad x)))) H := hP
  have hD : va_D A (LiW dA la g ++ (TbW dA ta t ++ (TbW dA tb u ++ (VW dA h ad x)))) := hD
  have f_e_3 := hp9
  have e9 := f_e_3
  subst e9
  refine va_castE hx hb hown (hE.t w805 rfl) (va_recv hK hP (ci := 8) (q0 := 2) (q := ("SeriesVault$Table", TT, 7)) rfl rfl) d_A_join_13 ?_
  refine lv_astore_n hx hb d_A_join_16 rfl hl (by decide) rfl (fun ls hl => ?_)
  have hl : lv_has ls 4 [(2, .ref (ta 0)), (0, .ref (ad 24)), (1, .int sg)] := hl
  refine lv_aload_n hx hb d_A_join_17 rfl (lv_at hl 1 rfl) ?_
  refine gF (v := .ref (ad 25)) hx hb hown hE hK hP 49 rfl rfl layA 0 (by decide) w799 rfl d_A_join_18 ?_
  rw [← hla]
  refine lv_aload_n hx hb d_A_join_21 rfl (lv_at hl 1 rfl) ?_
  refine gF (v := .int (nI x.adep)) hx hb hown hE hK hP 49 rfl rfl layA 1 (by decide) w1538 rfl d_A_join_22 ?_
  refine lv_iconst (v := 1) hx hb d_A_join_25 (by decide) ?_
  refine lv_isub hx hb d_A_join_26 (tpi (y := nI (x.adep - 1)) (pk_sub (a := x.adep) (b := 1) (by omega)) ?_)
  refine jkR (wr := []) (rnV (As := [.int (nI (x.adep - 1))]) (rest := []) hx hb hml hown hE hK (hN _ _ hS) hP hD (v_Lget l D dA H.size (TbW dA ta t ++ (TbW dA tb u ++ (VW dA h ad x))) la g (x.adep - 1) (tb 0) hs hn (show (x.adep - 1) < g.sz from by omega) he2) (q0 := 0) rfl rfl w1489 w1537 w1490 w1491 w680 rfl rfl ⟨⟨by decide, by decide⟩, rfl⟩ ⟨(Nat.le_of_ble_eq_true rfl), (Nat.le_of_ble_eq_true rfl)⟩ rfl hl.1 rfl (Nat.le_of_ble_eq_true rfl) d_A_join_27 ⟨(Nat.le_of_ble_eq_true rfl), (Nat.le_of_ble_eq_true rfl)⟩) hP hD hS hA (fun u5 r4 H locs hp9 hP hD hS => ?_)
  have hP : va_P D vwCl (LiW dA la g ++ (TbW dA ta t ++ (TbW dA tb u ++ (VW dA h ad x)))) H := hP
  have hD : va_D A (LiW dA la g ++ (TbW dA ta t ++ (TbW dA tb u ++ (VW dA h ad x)))) := hD
  have f_e_6 := hp9
  have e9 := f_e_6
  subst e9
  refine va_castE hx hb hown (hE.t w805 rfl) (va_recv hK hP (ci := 8) (q0 := 7) (q := ("SeriesVault$Table", TT, 7)) rfl rfl) d_A_join_30 ?_
  refine lv_astore_n hx hb d_A_join_33 rfl hl (by decide) rfl (fun ls hl => ?_)
  have hl : lv_has ls 4 [(3, .ref (tb 0)), (2, .ref (ta 0)), (0, .ref (ad 24)), (1, .int sg)] := hl
  refine lv_aload_n hx hb d_A_join_34 rfl (lv_at hl 2 rfl) ?_
  refine lv_dup hx hb d_A_join_35 rfl ?_
  refine gF (v := .int (nI x.adep)) hx hb hown hE hK hP 49 rfl rfl layA 1 (by decide) w1538 rfl d_A_join_36 ?_
  refine lv_iconst (v := 1) hx hb d_A_join_39 (by decide) ?_
  refine lv_isub hx hb d_A_join_40 (tpi (y := nI (x.adep - 1)) (pk_sub (a := x.adep) (b := 1) (by omega)) ?_)
  refine pF (v := .int (nI (x.adep - 1))) hx hb hown hE hK hP hD hS 49 rfl rfl layA tyA tokA nmA 1 (by decide) w1538 rfl rfl rfl (Nat.le_of_ble_eq_true rfl) d_A_join_41 (fun H locs hP hD hS => ?_)
  have hP : va_P D vwCl (LiW dA la g ++ (TbW dA ta t ++ (TbW dA tb u ++ (VW dA h ad (VS.s_adep x (x.adep - 1)))))) H := hP
  have hD : va_D A (LiW dA la g ++ (TbW dA ta t ++ (TbW dA tb u ++ (VW dA h ad (VS.s_adep x (x.adep - 1)))))) := hD
  refine lv_aload_n hx hb d_A_join_44 rfl (lv_at hl 1 rfl) ?_
  refine lv_aload_n hx hb d_A_join_45 rfl (lv_at hl 0 rfl) ?_
  have hP := pmP (show List.Perm (α := Nat × va_E) (LiW dA la g ++ (TbW dA ta t ++ (TbW dA tb u ++ (VW dA h ad (VS.s_adep x (x.adep - 1)))))) (TbW dA ta t ++ (LiW dA la g ++ (TbW dA tb u ++ (VW dA h ad (VS.s_adep x (x.adep - 1)))))) from List.perm_append_comm_assoc (LiW dA la g) (TbW dA ta t) (TbW dA tb u ++ (VW dA h ad (VS.s_adep x (x.adep - 1))))) hP
  have hD := pmD (show List.Perm (α := Nat × va_E) (LiW dA la g ++ (TbW dA ta t ++ (TbW dA tb u ++ (VW dA h ad (VS.s_adep x (x.adep - 1)))))) (TbW dA ta t ++ (LiW dA la g ++ (TbW dA tb u ++ (VW dA h ad (VS.s_adep x (x.adep - 1)))))) from List.perm_append_comm_assoc (LiW dA la g) (TbW dA ta t) (TbW dA tb u ++ (VW dA h ad (VS.s_adep x (x.adep - 1))))) hD
  have hP := pmP (show List.Perm (α := Nat × va_E) (TbW dA ta t ++ (LiW dA la g ++ (TbW dA tb u ++ (VW dA h ad (VS.s_adep x (x.adep - 1)))))) (TbW dA ta t ++ (TbW dA tb u ++ (LiW dA la g ++ (VW dA h ad (VS.s_adep x (x.adep - 1)))))) from List.Perm.append_left (TbW dA ta t) (List.perm_append_comm_assoc (LiW dA la g) (TbW dA tb u) (VW dA h ad (VS.s_adep x (x.adep - 1))))) hP
  have hD := pmD (show List.Perm (α := Nat × va_E) (TbW dA ta t ++ (LiW dA la g ++ (TbW dA tb u ++ (VW dA h ad (VS.s_adep x (x.adep - 1)))))) (TbW dA ta t ++ (TbW dA tb u ++ (LiW dA la g ++ (VW dA h ad (VS.s_adep x (x.adep - 1)))))) from List.Perm.append_left (TbW dA ta t) (List.perm_append_comm_assoc (LiW dA la g) (TbW dA tb u) (VW dA h ad (VS.s_adep x (x.adep - 1))))) hD
  refine jkI (wr := []) (rnV (As := [.ref (tb 0)]) (rest := []) hx hb hml hown hE hK (hN _ _ hS) hP hD (v_ThasNamesOf l D dA H.size (LiW dA la g ++ (VW dA h ad (VS.s_adep x (x.adep - 1)))) ta t tb u NL NR (nmOk_m (fun _ hm => (List.mem_append_right _ (plm hm))) hna) (nmOk_m (fun _ hm => (List.mem_append_right _ (plm hm))) hnb) hc1 hc2) (q0 := 0) rfl rfl w1541 w1540 w1542 w1543 w807 rfl rfl ⟨⟨by decide, by decide⟩, rfl⟩ ⟨(Nat.le_of_ble_eq_true rfl), (Nat.le_of_ble_eq_true rfl)⟩ rfl hl.1 rfl (Nat.le_of_ble_eq_true rfl) d_A_join_46 ⟨(Nat.le_of_ble_eq_true rfl), (Nat.le_of_ble_eq_true rfl)⟩) hP hD hS hA (fun r7 u8 H locs hp9 hP hD hS => ?_)
  have hP : va_P D vwCl (TbW dA ta t ++ (TbW dA tb u ++ (LiW dA la g ++ (VW dA h ad (VS.s_adep x (x.adep - 1)))))) H := hP
  have hD : va_D A (TbW dA ta t ++ (TbW dA tb u ++ (LiW dA la g ++ (VW dA h ad (VS.s_adep x (x.adep - 1)))))) := hD
  replace hp9 : bI (namB NL NR t.nc u.nc) = r7 := Eq.symm hp9
  subst hp9
  refine lv_if_eq hx hb d_A_join_49 (tgt := 60) rfl (fun h9 => absurd h9 (by rw [hnn]; decide)) (fun _ => ?_)
  refine lv_aload_n hx hb d_A_join_52 rfl (lv_at hl 1 rfl) ?_
  refine lv_iload_n hx hb d_A_join_53 rfl (lv_at hl 3 rfl) ?_
  refine lv_aload_n hx hb d_A_join_54 rfl (lv_at hl 0 rfl) ?_
  refine jkV (wr := []) (rnV (As := [.int sg, .ref (tb 0)]) (rest := []) hx hb hml hown hE hK (hN _ _ hS) hP hD (v_TjoinRows_b l D dA H.size (LiW dA la g ++ (VW dA h ad (VS.s_adep x (x.adep - 1)))) ta t tb u sg hcN (rsAll_m (fun _ hm => (List.mem_append_right _ (plm hm))) hra) h0 hu) (q0 := 0) rfl rfl w1546 w1545 w1547 w1548 w807 rfl rfl ⟨⟨by decide, by decide⟩, rfl⟩ ⟨(Nat.le_of_ble_eq_true rfl), (Nat.le_of_ble_eq_true rfl)⟩ rfl hl.1 rfl (Nat.le_of_ble_eq_true rfl) d_A_join_55 ⟨(Nat.le_of_ble_eq_true rfl), (Nat.le_of_ble_eq_true rfl)⟩) hP hD hS hA (fun u10 H locs hp9 hP hD hS => ?_)
  obtain ⟨y11, h9u⟩ : ∃ z9, z9 = u10 := ⟨_, rfl⟩
  subst h9u
  have hP : va_P D vwCl (TbW dA ta y11 ++ (TbW dA tb u ++ (LiW dA la g ++ (VW dA h ad (VS.s_adep x (x.adep - 1)))))) H := hP
  have hD : va_D A (TbW dA ta y11 ++ (TbW dA tb u ++ (LiW dA la g ++ (VW dA h ad (VS.s_adep x (x.adep - 1)))))) := hD
  have f_e_12 := hp9
  refine lv_iconst (v := 1) hx hb d_A_join_58 (by decide) ?_
  exact rfZ hx hb hr (bI_nar true) hlk hS y11 ⟨rfl, f_e_12⟩ hP hD (Nat.le_of_ble_eq_true rfl) (Nat.le_of_ble_eq_true rfl) d_A_join_59
set_option maxHeartbeats 4000000 in
set_option maxRecDepth 100000 in
theorem v_Ajoin_c (l : Launch) (D : va_G) (dA : Nat → ClassId) (sz : Nat) (h : Nat) (ad : Nat → Nat) (ta : Nat → Nat) (t : TB) (tb : Nat → Nat) (u : TB) (la : Nat → Nat) (g : LI) (x : VS) (sg : Int32) (NL : Nat → List Int32) (NR : Nat → List Int32) (hla : la 0 = ad 25) (hs : g.sz ≤ g.eN) (hn : g.eN ≤ 65536) (hd : 2 ≤ x.adep) (hd2 : x.adep ≤ g.sz) (he1 : g.el (x.adep - 2) = some (ta 0)) (he2 : g.el (x.adep - 1) = some (tb 0)) (hna : nmOk dA x.pl t.nm t.nc NL) (hnb : nmOk dA x.pl u.nm u.nc NR) (hc1 : t.nc ≤ 6) (hc2 : u.nc ≤ 6) (hnn : namB NL NR t.nc u.nc = true) (hcN : t.cN ≤ 65536) (hra : rsAll dA x.pl t.rs) (hop : isOp sg) (hcM : u.cN ≤ 65536) (hn0 : t.nc = 0) (h0 : t.rc = 1) (hu : u.rc = 1) (k1 : t.wi ≤ t.cN) (k3 : t.wi ≤ u.cN) (hw : u.wi = t.wi) : Met l ⟨"SeriesVault$Answers", "join", "(I)Z"⟩ [Cond.code ⟨"SeriesVault$Answers", "join", "(I)Z"⟩ prog_2_method_5_code 4 (some FieldType.boolean)] { frames := 4, cells := 0, slots := 0, locals := 109 } (pC D dA [.ref (ad 24), .int sg] (TbW dA ta t ++ (TbW dA tb u ++ (LiW dA la g ++ (VW dA h ad x)))) sz) (va_Qi (fun (r9 : Int32) (u9 : TB) => r9 = 1 ∧ u9 = TB.j0 sg t u) (fun (u9 : TB) t9 => bW D (va_A (TbW dA ta t ++ (TbW dA tb u ++ (LiW dA la g ++ (VW dA h ad x)))) sz) (TbW dA ta u9 ++ (TbW dA tb u ++ (LiW dA la g ++ (VW dA h ad (VS.s_adep x (x.adep - 1)))))) t9) (va_A (TbW dA ta t ++ (TbW dA tb u ++ (LiW dA la g ++ (VW dA h ad x)))) sz)) 0 0 (va_A (TbW dA ta t ++ (TbW dA tb u ++ (LiW dA la g ++ (VW dA h ad x)))) sz) := by
  refine mkC (y := ⟨"SeriesVault$Answers", "join", "(I)Z"⟩) (cc := prog_2_method_5_code) (maxL := 4) (av := [.ref (ad 24), .int sg]) (ws := TbW dA ta t ++ (TbW dA tb u ++ (LiW dA la g ++ (VW dA h ad x)))) (sz := sz) (Qc := fun A => va_Qi (fun (r9 : Int32) (u9 : TB) => r9 = 1 ∧ u9 = TB.j0 sg t u) (fun (u9 : TB) t9 => bW D A (TbW dA ta u9 ++ (TbW dA tb u ++ (LiW dA la g ++ (VW dA h ad (VS.s_adep x (x.adep - 1)))))) t9) A) (by decide) (Nat.le_of_ble_eq_true rfl) ?_
  intro A p e s m below meth c ls hsz hB
  obtain ⟨hx, hb, hr, hml, hown, hin, hlk, hE, hK, hP, hD, hS, hA, hN, hl⟩ := hB
  have hown : s.vm.findClass "SeriesVault$Answers" = some m.cls := hown
  have hl : lv_has ls 4 [(0, .ref (ad 24)), (1, .int sg)] := hl
  obtain ⟨H, hH⟩ : ∃ z, z = s.heap := ⟨_, rfl⟩
  have hP : va_P D vwCl (TbW dA ta t ++ (TbW dA tb u ++ (LiW dA la g ++ (VW dA h ad x)))) H := by rw [hH]; exact hP
  have hS : va_S A s.heap H [] := by rw [hH]; exact hS
  rw [← hH]
  refine lv_aload_n hx hb d_A_join_0 rfl (lv_at hl 0 rfl) ?_
  refine gF (v := .ref (ad 25)) hx hb hown hE hK hP 49 rfl rfl layA 0 (by decide) w799 rfl d_A_join_1 ?_
  rw [← hla]
  refine lv_aload_n hx hb d_A_join_4 rfl (lv_at hl 0 rfl) ?_
  refine gF (v := .int (nI x.adep)) hx hb hown hE hK hP 49 rfl rfl layA 1 (by decide) w1538 rfl d_A_join_5 ?_
  refine lv_iconst (v := 2) hx hb d_A_join_8 (by decide) ?_
  refine lv_isub hx hb d_A_join_9 (tpi (y := nI (x.adep - 2)) (pk_sub (a := x.adep) (b := 2) (by omega)) ?_)
  have hP := pmP (show List.Perm (α := Nat × va_E) (TbW dA ta t ++ (TbW dA tb u ++ (LiW dA la g ++ (VW dA h ad x)))) (LiW dA la g ++ (TbW dA ta t ++ (TbW dA tb u ++ (VW dA h ad x)))) from (List.Perm.append_left (TbW dA ta t) (List.perm_append_comm_assoc (TbW dA tb u) (LiW dA la g) (VW dA h ad x))).trans (List.perm_append_comm_assoc (TbW dA ta t) (LiW dA la g) (TbW dA tb u ++ (VW dA h ad x)))) hP
  have hD := pmD (show List.Perm (α := Nat × va_E) (TbW dA ta t ++ (TbW dA tb u ++ (LiW dA la g ++ (VW dA h ad x)))) (LiW dA la g ++ (TbW dA ta t ++ (TbW dA tb u ++ (VW dA h ad x)))) from (List.Perm.append_left (TbW dA ta t) (List.perm_append_comm_assoc (TbW dA tb u) (LiW dA la g) (VW dA h ad x))).trans (List.perm_append_comm_assoc (TbW dA ta t) (LiW dA la g) (TbW dA tb u ++ (VW dA h ad x)))) hD
  refine jkR (wr := []) (rnV (As := [.int (nI (x.adep - 2))]) (rest := []) hx hb hml hown hE hK (hN _ _ hS) hP hD (v_Lget l D dA H.size (TbW dA ta t ++ (TbW dA tb u ++ (VW dA h ad x))) la g (x.adep - 2) (ta 0) hs hn (show (x.adep - 2) < g.sz from by omega) he1) (q0 := 0) rfl rfl w1489 w1537 w1490 w1491 w680 rfl rfl ⟨⟨by decide, by decide⟩, rfl⟩ ⟨(Nat.le_of_ble_eq_true rfl), (Nat.le_of_ble_eq_true rfl)⟩ rfl hl.1 rfl (Nat.le_of_ble_eq_true rfl) d_A_join_10 ⟨(Nat.le_of_ble_eq_true rfl), (Nat.le_of_ble_eq_true rfl)⟩) hP hD hS hA (fun u2 r1 H locs hp9 hP hD hS => ?_)
  have hP : va_P D vwCl (LiW dA la g ++ (TbW dA ta t ++ (TbW dA tb u ++ (VW dA h ad x)))) H := hP
  have hD : va_D A (LiW dA la g ++ (TbW dA ta t ++ (TbW dA tb u ++ (VW dA h ad x)))) := hD
  have f_e_3 := hp9
  have e9 := f_e_3
  subst e9
  refine va_castE hx hb hown (hE.t w805 rfl) (va_recv hK hP (ci := 8) (q0 := 2) (q := ("SeriesVault$Table", TT, 7)) rfl rfl) d_A_join_13 ?_
  refine lv_astore_n hx hb d_A_join_16 rfl hl (by decide) rfl (fun ls hl => ?_)
  have hl : lv_has ls 4 [(2, .ref (ta 0)), (0, .ref (ad 24)), (1, .int sg)] := hl
  refine lv_aload_n hx hb d_A_join_17 rfl (lv_at hl 1 rfl) ?_
  refine gF (v := .ref (ad 25)) hx hb hown hE hK hP 49 rfl rfl layA 0 (by decide) w799 rfl d_A_join_18 ?_
  rw [← hla]
  refine lv_aload_n hx hb d_A_join_21 rfl (lv_at hl 1 rfl) ?_
  refine gF (v := .int (nI x.adep)) hx hb hown hE hK hP 49 rfl rfl layA 1 (by decide) w1538 rfl d_A_join_22 ?_
  refine lv_iconst (v := 1) hx hb d_A_join_25 (by decide) ?_
  refine lv_isub hx hb d_A_join_26 (tpi (y := nI (x.adep - 1)) (pk_sub (a := x.adep) (b := 1) (by omega)) ?_)
  refine jkR (wr := []) (rnV (As := [.int (nI (x.adep - 1))]) (rest := []) hx hb hml hown hE hK (hN _ _ hS) hP hD (v_Lget l D dA H.size (TbW dA ta t ++ (TbW dA tb u ++ (VW dA h ad x))) la g (x.adep - 1) (tb 0) hs hn (show (x.adep - 1) < g.sz from by omega) he2) (q0 := 0) rfl rfl w1489 w1537 w1490 w1491 w680 rfl rfl ⟨⟨by decide, by decide⟩, rfl⟩ ⟨(Nat.le_of_ble_eq_true rfl), (Nat.le_of_ble_eq_true rfl)⟩ rfl hl.1 rfl (Nat.le_of_ble_eq_true rfl) d_A_join_27 ⟨(Nat.le_of_ble_eq_true rfl), (Nat.le_of_ble_eq_true rfl)⟩) hP hD hS hA (fun u5 r4 H locs hp9 hP hD hS => ?_)
  have hP : va_P D vwCl (LiW dA la g ++ (TbW dA ta t ++ (TbW dA tb u ++ (VW dA h ad x)))) H := hP
  have hD : va_D A (LiW dA la g ++ (TbW dA ta t ++ (TbW dA tb u ++ (VW dA h ad x)))) := hD
  have f_e_6 := hp9
  have e9 := f_e_6
  subst e9
  refine va_castE hx hb hown (hE.t w805 rfl) (va_recv hK hP (ci := 8) (q0 := 7) (q := ("SeriesVault$Table", TT, 7)) rfl rfl) d_A_join_30 ?_
  refine lv_astore_n hx hb d_A_join_33 rfl hl (by decide) rfl (fun ls hl => ?_)
  have hl : lv_has ls 4 [(3, .ref (tb 0)), (2, .ref (ta 0)), (0, .ref (ad 24)), (1, .int sg)] := hl
  refine lv_aload_n hx hb d_A_join_34 rfl (lv_at hl 2 rfl) ?_
  refine lv_dup hx hb d_A_join_35 rfl ?_
  refine gF (v := .int (nI x.adep)) hx hb hown hE hK hP 49 rfl rfl layA 1 (by decide) w1538 rfl d_A_join_36 ?_
  refine lv_iconst (v := 1) hx hb d_A_join_39 (by decide) ?_
  refine lv_isub hx hb d_A_join_40 (tpi (y := nI (x.adep - 1)) (pk_sub (a := x.adep) (b := 1) (by omega)) ?_)
  refine pF (v := .int (nI (x.adep - 1))) hx hb hown hE hK hP hD hS 49 rfl rfl layA tyA tokA nmA 1 (by decide) w1538 rfl rfl rfl (Nat.le_of_ble_eq_true rfl) d_A_join_41 (fun H locs hP hD hS => ?_)
  have hP : va_P D vwCl (LiW dA la g ++ (TbW dA ta t ++ (TbW dA tb u ++ (VW dA h ad (VS.s_adep x (x.adep - 1)))))) H := hP
  have hD : va_D A (LiW dA la g ++ (TbW dA ta t ++ (TbW dA tb u ++ (VW dA h ad (VS.s_adep x (x.adep - 1)))))) := hD
  refine lv_aload_n hx hb d_A_join_44 rfl (lv_at hl 1 rfl) ?_
  refine lv_aload_n hx hb d_A_join_45 rfl (lv_at hl 0 rfl) ?_
  have hP := pmP (show List.Perm (α := Nat × va_E) (LiW dA la g ++ (TbW dA ta t ++ (TbW dA tb u ++ (VW dA h ad (VS.s_adep x (x.adep - 1)))))) (TbW dA ta t ++ (LiW dA la g ++ (TbW dA tb u ++ (VW dA h ad (VS.s_adep x (x.adep - 1)))))) from List.perm_append_comm_assoc (LiW dA la g) (TbW dA ta t) (TbW dA tb u ++ (VW dA h ad (VS.s_adep x (x.adep - 1))))) hP
  have hD := pmD (show List.Perm (α := Nat × va_E) (LiW dA la g ++ (TbW dA ta t ++ (TbW dA tb u ++ (VW dA h ad (VS.s_adep x (x.adep - 1)))))) (TbW dA ta t ++ (LiW dA la g ++ (TbW dA tb u ++ (VW dA h ad (VS.s_adep x (x.adep - 1)))))) from List.perm_append_comm_assoc (LiW dA la g) (TbW dA ta t) (TbW dA tb u ++ (VW dA h ad (VS.s_adep x (x.adep - 1))))) hD
  have hP := pmP (show List.Perm (α := Nat × va_E) (TbW dA ta t ++ (LiW dA la g ++ (TbW dA tb u ++ (VW dA h ad (VS.s_adep x (x.adep - 1)))))) (TbW dA ta t ++ (TbW dA tb u ++ (LiW dA la g ++ (VW dA h ad (VS.s_adep x (x.adep - 1)))))) from List.Perm.append_left (TbW dA ta t) (List.perm_append_comm_assoc (LiW dA la g) (TbW dA tb u) (VW dA h ad (VS.s_adep x (x.adep - 1))))) hP
  have hD := pmD (show List.Perm (α := Nat × va_E) (TbW dA ta t ++ (LiW dA la g ++ (TbW dA tb u ++ (VW dA h ad (VS.s_adep x (x.adep - 1)))))) (TbW dA ta t ++ (TbW dA tb u ++ (LiW dA la g ++ (VW dA h ad (VS.s_adep x (x.adep - 1)))))) from List.Perm.append_left (TbW dA ta t) (List.perm_append_comm_assoc (LiW dA la g) (TbW dA tb u) (VW dA h ad (VS.s_adep x (x.adep - 1))))) hD
  refine jkI (wr := []) (rnV (As := [.ref (tb 0)]) (rest := []) hx hb hml hown hE hK (hN _ _ hS) hP hD (v_ThasNamesOf l D dA H.size (LiW dA la g ++ (VW dA h ad (VS.s_adep x (x.adep - 1)))) ta t tb u NL NR (nmOk_m (fun _ hm => (List.mem_append_right _ (plm hm))) hna) (nmOk_m (fun _ hm => (List.mem_append_right _ (plm hm))) hnb) hc1 hc2) (q0 := 0) rfl rfl w1541 w1540 w1542 w1543 w807 rfl rfl ⟨⟨by decide, by decide⟩, rfl⟩ ⟨(Nat.le_of_ble_eq_true rfl), (Nat.le_of_ble_eq_true rfl)⟩ rfl hl.1 rfl (Nat.le_of_ble_eq_true rfl) d_A_join_46 ⟨(Nat.le_of_ble_eq_true rfl), (Nat.le_of_ble_eq_true rfl)⟩) hP hD hS hA (fun r7 u8 H locs hp9 hP hD hS => ?_)
  have hP : va_P D vwCl (TbW dA ta t ++ (TbW dA tb u ++ (LiW dA la g ++ (VW dA h ad (VS.s_adep x (x.adep - 1)))))) H := hP
  have hD : va_D A (TbW dA ta t ++ (TbW dA tb u ++ (LiW dA la g ++ (VW dA h ad (VS.s_adep x (x.adep - 1)))))) := hD
  replace hp9 : bI (namB NL NR t.nc u.nc) = r7 := Eq.symm hp9
  subst hp9
  refine lv_if_eq hx hb d_A_join_49 (tgt := 60) rfl (fun h9 => absurd h9 (by rw [hnn]; decide)) (fun _ => ?_)
  refine lv_aload_n hx hb d_A_join_52 rfl (lv_at hl 1 rfl) ?_
  refine lv_iload_n hx hb d_A_join_53 rfl (lv_at hl 3 rfl) ?_
  refine lv_aload_n hx hb d_A_join_54 rfl (lv_at hl 0 rfl) ?_
  refine jkV (wr := []) (rnV (As := [.int sg, .ref (tb 0)]) (rest := []) hx hb hml hown hE hK (hN _ _ hS) hP hD (v_TjoinRows_c l D dA H.size (LiW dA la g ++ (VW dA h ad (VS.s_adep x (x.adep - 1)))) ta t tb u sg hop hcN hcM (rsAll_m (fun _ hm => (List.mem_append_right _ (plm hm))) hra) hn0 h0 hu k1 k3 hw) (q0 := 0) rfl rfl w1546 w1545 w1547 w1548 w807 rfl rfl ⟨⟨by decide, by decide⟩, rfl⟩ ⟨(Nat.le_of_ble_eq_true rfl), (Nat.le_of_ble_eq_true rfl)⟩ rfl hl.1 rfl (Nat.le_of_ble_eq_true rfl) d_A_join_55 ⟨(Nat.le_of_ble_eq_true rfl), (Nat.le_of_ble_eq_true rfl)⟩) hP hD hS hA (fun u10 H locs hp9 hP hD hS => ?_)
  obtain ⟨y11, h9u⟩ : ∃ z9, z9 = u10 := ⟨_, rfl⟩
  subst h9u
  have hP : va_P D vwCl (TbW dA ta y11 ++ (TbW dA tb u ++ (LiW dA la g ++ (VW dA h ad (VS.s_adep x (x.adep - 1)))))) H := hP
  have hD : va_D A (TbW dA ta y11 ++ (TbW dA tb u ++ (LiW dA la g ++ (VW dA h ad (VS.s_adep x (x.adep - 1)))))) := hD
  have f_e_12 := hp9
  refine lv_iconst (v := 1) hx hb d_A_join_58 (by decide) ?_
  exact rfZ hx hb hr (bI_nar true) hlk hS y11 ⟨rfl, f_e_12⟩ hP hD (Nat.le_of_ble_eq_true rfl) (Nat.le_of_ble_eq_true rfl) d_A_join_59
