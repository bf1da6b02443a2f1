section
set_option maxHeartbeats 4000000 in
set_option maxRecDepth 100000 in
theorem v_Ajoin_a (l : Launch) (D : va_G) (dA : Nat → ClassId) (sz : Nat) (h : Nat) (ad : Nat → Nat) (ta : Nat → Nat) (t : TB) (tb : Nat → Nat) (u : TB) (la : Nat → Nat) (g : LI) (x : VS) (sg : Int32) (NL : Nat → List Int32) (NR : Nat → List Int32) (hla : la 0 = ad 25) (hs : g.sz ≤ g.eN) (hn : g.eN ≤ 65536) (hd : 2 ≤ x.adep) (hd2 : x.adep ≤ g.sz) (he1 : g.el (x.adep - 2) = some (ta 0)) (he2 : g.el (x.adep - 1) = some (tb 0)) (hna : nmOk dA x.pl t.nm t.nc NL) (hnb : nmOk dA x.pl u.nm u.nc NR) (hc1 : t.nc ≤ 6) (hc2 : u.nc ≤ 6) (hnn : namB NL NR t.nc u.nc = true) (hcN : t.cN ≤ 65536) (hra : rsAll dA x.pl t.rs) (h0 : t.rc = 0) : Met l ⟨"SeriesVault$Answers", "join", "(I)Z"⟩ [Cond.code ⟨"SeriesVault$Answers", "join", "(I)Z"⟩ prog_2_method_5_code 4 (some FieldType.boolean)] { frames := 4, cells := 0, slots := 0, locals := 109 } (pC D dA [.ref (ad 24), .int sg] (TbW dA ta t ++ (TbW dA tb u ++ (LiW dA la g ++ (VW dA h ad x)))) sz) (va_Qi (fun (r9 : Int32) (u9 : TB) => r9 = 1 ∧ u9 = TB.j0 sg t u) (fun (u9 : TB) t9 => bW D (va_A (TbW dA ta t ++ (TbW dA tb u ++ (LiW dA la g ++ (VW dA h ad x)))) sz) (TbW dA ta u9 ++ (TbW dA tb u ++ (LiW dA la g ++ (VW dA h ad (VS.s_adep x (x.adep - 1)))))) t9) (va_A (TbW dA ta t ++ (TbW dA tb u ++ (LiW dA la g ++ (VW dA h ad x)))) sz)) 0 0 (va_A (TbW dA ta t ++ (TbW dA tb u ++ (LiW dA la g ++ (VW dA h ad x)))) sz) := by
  refine mkC (y := ⟨"SeriesVault$Answers", "join", "(I)Z"⟩) (cc := prog_2_method_5_code) (maxL := 4) (av := [.ref (ad 24), .int sg]) (ws := TbW dA ta t ++ (TbW dA tb u ++ (LiW dA la g ++ (VW dA h ad x)))) (sz := sz) (Qc := fun A => va_Qi (fun (r9 : Int32) (u9 : TB) => r9 = 1 ∧ u9 = TB.j0 sg t u) (fun (u9 : TB) t9 => bW D A (TbW dA ta u9 ++ (TbW dA tb u ++ (LiW dA la g ++ (VW dA h ad (VS.s_adep x (x.adep - 1)))))) t9) A) (by decide) (Nat.le_of_ble_eq_true rfl) ?_
  intro A p e s m below meth c ls hsz hB
  obtain ⟨hx, hb, hr, hml, hown, hin, hlk, hE, hK, hP, hD, hS, hA, hN, hl⟩ := hB
  have hown : s.vm.findClass "SeriesVault$Answers" = some m.cls := hown
  have hl : lv_has ls 4 [(0, .ref (ad 24)), (1, .int sg)] := hl
  obtain ⟨H, hH⟩ : ∃ z, z = s.heap := ⟨_, rfl⟩
  have hP : va_P D vwCl (TbW dA ta t ++ (TbW dA tb u ++ (LiW dA la g ++ (VW dA h ad x)))) H := by rw [hH]; exact hP
  have hS : va_S A s.heap H [] := by rw [hH]; exact hS
  rw [← hH]
  refine lv_aload_n hx hb d_A_join_0 rfl (lv_at hl 0 rfl) ?_
  refine gF (v := .ref (ad 25)) hx hb hown hE hK hP 49 rfl rfl layA 0 (by decide) w799 rfl d_A_join_1 ?_
  rw [← hla]
  refine lv_aload_n hx hb d_A_join_4 rfl (lv_at hl 0 rfl) ?_
  refine gF (v := .int (nI x.adep)) hx hb hown hE hK hP 49 rfl rfl layA 1 (by decide) w1538 rfl d_A_join_5 ?_
  refine lv_iconst (v := 2) hx hb d_A_join_8 (by decide) ?_
  refine lv_isub hx hb d_A_join_9 (tpi (y := nI (x.adep - 2)) (pk_sub (a := x.adep) (b := 2) (by omega)) ?_)
  have hP := pmP (show List.Perm (α := Nat × va_E) (TbW dA ta t ++ (TbW dA tb u ++ (LiW dA la g ++ (VW dA h ad x)))) (LiW dA la g ++ (TbW dA ta t ++ (TbW dA tb u ++ (VW dA h ad x)))) from (List.Perm.append_left (TbW dA ta t) (List.perm_append_comm_assoc (TbW dA tb u) (LiW dA la g) (VW dA h ad x))).trans (List.perm_append_comm_assoc (TbW dA ta t) (LiW dA la g) (TbW dA tb u ++ (VW dA h ad x)))) hP
  have hD := pmD (show List.Perm (α := Nat × va_E) (TbW dA ta t ++ (TbW dA tb u ++ (LiW dA la g ++ (VW dA h ad x)))) (LiW dA la g ++ (TbW dA ta t ++ (TbW dA tb u ++ (VW dA h ad x)))) from (List.Perm.append_left (TbW dA ta t) (List.perm_append_comm_assoc (TbW dA tb u) (LiW dA la g) (VW dA h ad x))).trans (List.perm_append_comm_assoc (TbW dA ta t) (LiW dA la g) (TbW dA tb u ++ (VW dA h ad x)))) hD
  refine jkR (wr := []) (rnV (As := [.int (nI (x.adep - 2))]) (rest := []) hx hb hml hown hE hK (hN _ _ hS) hP hD (v_Lget l D dA H.size (TbW dA ta t ++ (TbW dA tb u ++ (VW dA h ad x))) la g (x.adep - 2) (ta 0) hs hn (show (x.adep - 2) < g.sz from by omega) he1) (q0 := 0) rfl rfl w1489 w1537 w1490 w1491 w680 rfl rfl ⟨⟨by decide, by decide⟩, rfl⟩ ⟨(Nat.le_of_ble_eq_true rfl), (Nat.le_of_ble_eq_true rfl)⟩ rfl hl.1 rfl (Nat.le_of_ble_eq_true rfl) d_A_join_10 ⟨(Nat.le_of_ble_eq_true rfl), (Nat.le_of_ble_eq_true rfl)⟩) hP hD hS hA (fun u2 r1 H locs hp9 hP hD hS => ?_)
  have hP : va_P D vwCl (LiW dA la g ++ (TbW dA ta t ++ (TbW dA tb u ++ (VW dA h ad x)))) H := hP
  have hD : va_D A (LiW dA la g ++ (TbW dA ta t ++ (TbW dA tb u ++ (VW dA h ad x)))) := hD
  have f_e_3 := hp9
  have e9 := f_e_3
  subst e9
  refine va_castE hx hb hown (hE.t w805 rfl) (va_recv hK hP (ci := 8) (q0 := 2) (q := ("SeriesVault$Table", TT, 7)) rfl rfl) d_A_join_13 ?_
  refine lv_astore_n hx hb d_A_join_16 rfl hl (by decide) rfl (fun ls hl => ?_)
  have hl : lv_has ls 4 [(2, .ref (ta 0)), (0, .ref (ad 24)), (1, .int sg)] := hl
  refine lv_aload_n hx hb d_A_join_17 rfl (lv_at hl 1 rfl) ?_
  refine gF (v := .ref (ad 25)) hx hb hown hE hK hP 49 rfl rfl layA 0 (by decide) w799 rfl d_A_join_18 ?_
  rw [← hla]
  refine lv_aload_n hx hb d_A_join_21 rfl (lv_at hl 1 rfl) ?_
  refine gF (v := .int (nI x.adep)) hx hb hown hE hK hP 49 rfl rfl layA 1 (by decide) w1538 rfl d_A_join_22 ?_
  refine lv_iconst (v := 1) hx hb d_A_join_25 (by decide) ?_
  refine lv_isub hx hb d_A_join_26 (tpi (y := nI (x.adep - 1)) (pk_sub (a := x.adep) (b := 1) (by omega)) ?_)
  refine jkR (wr := []) (rnV (As := [.int (nI (x.adep - 1))]) (rest := []) hx hb hml hown hE hK (hN _ _ hS) hP hD (v_Lget l D dA H.size (TbW dA ta t ++ (TbW dA tb u ++ (VW dA h ad x))) la g (x.adep - 1) (tb 0) hs hn (show (x.adep - 1) < g.sz from by omega) he2) (q0 := 0) rfl rfl w1489 w1537 w1490 w1491 w680 rfl rfl ⟨⟨by decide, by decide⟩, rfl⟩ ⟨(Nat.le_of_ble_eq_true rfl), (Nat.le_of_ble_eq_true rfl)⟩ rfl hl.1 rfl (Nat.le_of_ble_eq_true rfl) d_A_join_27 ⟨(Nat.le_of_ble_eq_true rfl), (Nat.le_of_ble_eq_true rfl)⟩) hP hD hS hA (fun u5 r4 H locs hp9 hP hD hS => ?_)
  have hP : va_P D vwCl (LiW dA la g ++ (TbW dA ta t ++ (TbW dA tb u ++ (VW dA h ad x)))) H := hP
  have hD : va_D A (LiW dA la g ++ (TbW dA ta t ++ (TbW dA tb u ++ (VW dA h ad x)))) := hD
  have f_e_6 := hp9
  have e9 := f_e_6
  subst e9
  refine va_castE hx hb hown (hE.t w805 rfl) (va_recv hK hP (ci := 8) (q0 := 7) (q := ("SeriesVault$Table", TT, 7)) rfl rfl) d_A_join_30 ?_
  refine lv_astore_n hx hb d_A_join_33 rfl hl (by decide) rfl (fun ls hl => ?_)
  have hl : lv_has ls 4 [(3, .ref (tb 0)), (2, .ref (ta 0)), (0, .ref (ad 24)), (1, .int sg)] := hl
  refine lv_aload_n hx hb d_A_join_34 rfl (lv_at hl 2 rfl) ?_
  refine lv_dup hx hb d_A_join_35 rfl ?_
  refine gF (v := .int (nI x.adep)) hx hb hown hE hK hP 49 rfl rfl layA 1 (by decide) w1538 rfl d_A_join_36 ?_
  refine lv_iconst (v := 1) hx hb d_A_join_39 (by decide) ?_
  refine lv_isub hx hb d_A_join_40 (tpi (y := nI (x.adep - 1)) (pk_sub (a := x.adep) (b := 1) (by omega)) ?_)
  refine pF (v := .int (nI (x.adep - 1))) hx hb hown hE hK hP hD hS 49 rfl rfl layA tyA tokA nmA 1 (by decide) w1538 rfl rfl rfl (Nat.le_of_ble_eq_true rfl) d_A_join_41 (fun H locs hP hD hS => ?_)
  have hP : va_P D vwCl (LiW dA la g ++ (TbW dA ta t ++ (TbW dA tb u ++ (VW dA h ad (VS.s_adep x (x.adep - 1)))))) H := hP
  have hD : va_D A (LiW dA la g ++ (TbW dA ta t ++ (TbW dA tb u ++ (VW dA h ad (VS.s_adep x (x.adep - 1)))))) := hD
  refine lv_aload_n hx hb d_A_join_44 rfl (lv_at hl 1 rfl) ?_
  refine lv_aload_n hx hb d_A_join_45 rfl (lv_at hl 0 rfl) ?_
  have hP := pmP (show List.Perm (α := Nat × va_E) (LiW dA la g ++ (TbW dA ta t ++ (TbW dA tb u ++ (VW dA h ad (VS.s_adep x (x.adep - 1)))))) (TbW dA ta t ++ (LiW dA la g ++ (TbW dA tb u ++ (VW dA h ad (VS.s_adep x (x.adep - 1)))))) from List.perm_append_comm_assoc (LiW dA la g) (TbW dA ta t) (TbW dA tb u ++ (VW dA h ad (VS.s_adep x (x.adep - 1))))) hP
  have hD := pmD (show List.Perm (α := Nat × va_E) (LiW dA la g ++ (TbW dA ta t ++ (TbW dA tb u ++ (VW dA h ad (VS.s_adep x (x.adep - 1)))))) (TbW dA ta t ++ (LiW dA la g ++ (TbW dA tb u ++ (VW dA h ad (VS.s_adep x (x.adep - 1)))))) from List.perm_append_comm_assoc (LiW dA la g) (TbW dA ta t) (TbW dA tb u ++ (VW dA h ad (VS.s_adep x (x.adep - 1))))) hD
  have hP := pmP (show List.Perm (α := Nat × va_E) (TbW dA ta t ++ (LiW dA la g ++ (TbW dA tb u ++ (VW dA h ad (VS.s_adep x (x.adep - 1)))))) (TbW dA ta t ++ (TbW dA tb u ++ (LiW dA la g ++ (VW dA h ad (VS.s_adep x (x.adep - 1)))))) from List.Perm.append_left (TbW dA ta t) (List.perm_append_comm_assoc (LiW dA la g) (TbW dA tb u) (VW dA h ad (VS.s_adep x (x.adep - 1))))) hP
  have hD := pmD (show List.Perm (α := Nat × va_E) (TbW dA ta t ++ (LiW dA la g ++ (TbW dA tb u ++ (VW dA h ad (VS.s_adep x (x.adep - 1)))))) (TbW dA ta t ++ (TbW dA tb u ++ (LiW dA la g ++ (VW dA h ad (VS.s_adep x (x.adep - 1)))))) from List.Perm.append_left (TbW dA ta t) (List.perm_append_comm_assoc (LiW dA la g) (TbW dA tb u) (VW dA h ad (VS.s_adep x (x.adep - 1))))) hD
  refine jkI (wr := []) (rnV (As := [.ref (tb 0)]) (rest := []) hx hb hml hown hE hK (hN _ _ hS) hP hD (v_ThasNamesOf l D dA H.size (LiW dA la g ++ (VW dA h ad (VS.s_adep x (x.adep - 1)))) ta t tb u NL NR (nmOk_m (fun _ hm => (List.mem_append_right _ (plm hm))) hna) (nmOk_m (fun _ hm => (List.mem_append_right _ (plm hm))) hnb) hc1 hc2) (q0 := 0) rfl rfl w1541 w1540 w1542 w1543 w807 rfl rfl ⟨⟨by decide, by decide⟩, rfl⟩ ⟨(Nat.le_of_ble_eq_true rfl), (Nat.le_of_ble_eq_true rfl)⟩ rfl hl.1 rfl (Nat.le_of_ble_eq_true rfl) d_A_join_46 ⟨(Nat.le_of_ble_eq_true rfl), (Nat.le_of_ble_eq_true rfl)⟩) hP hD hS hA (fun r7 u8 H locs hp9 hP hD hS => ?_)
  have hP : va_P D vwCl (TbW dA ta t ++ (TbW dA tb u ++ (LiW dA la g ++ (VW dA h ad (VS.s_adep x (x.adep - 1)))))) H := hP
  have hD : va_D A (TbW dA ta t ++ (TbW dA tb u ++ (LiW dA la g ++ (VW dA h ad (VS.s_adep x (x.adep - 1)))))) := hD
  replace hp9 : bI (namB NL NR t.nc u.nc) = r7 := Eq.symm hp9
  subst hp9
  refine lv_if_eq hx hb d_A_join_49 (tgt := 60) rfl (fun h9 => absurd h9 (by rw [hnn]; decide)) (fun _ => ?_)
  refine lv_aload_n hx hb d_A_join_52 rfl (lv_at hl 1 rfl) ?_
  refine lv_iload_n hx hb d_A_join_53 rfl (lv_at hl 3 rfl) ?_
  refine lv_aload_n hx hb d_A_join_54 rfl (lv_at hl 0 rfl) ?_
  refine jkV (wr := []) (rnV (As := [.int sg, .ref (tb 0)]) (rest := []) hx hb hml hown hE hK (hN _ _ hS) hP hD (v_TjoinRows_a l D dA H.size (LiW dA la g ++ (VW dA h ad (VS.s_adep x (x.adep - 1)))) ta t tb u sg hcN (rsAll_m (fun _ hm => (List.mem_append_right _ (plm hm))) hra) h0) (q0 := 0) rfl rfl w1546 w1545 w1547 w1548 w807 rfl rfl ⟨⟨by decide, by decide⟩, rfl⟩ ⟨(Nat.le_of_ble_eq_true rfl), (Nat.le_of_ble_eq_true rfl)⟩ rfl hl.1 rfl (Nat.le_of_ble_eq_true rfl) d_A_join_55 ⟨(Nat.le_of_ble_eq_true rfl), (Nat.le_of_ble_eq_true rfl)⟩) hP hD hS hA (fun u10 H locs hp9 hP hD hS => ?_)
  obtain ⟨y11, h9u⟩ : ∃ z9, z9 = u10 := ⟨_, rfl⟩
  subst h9u
  have hP : va_P D vwCl (TbW dA ta y11 ++ (TbW dA tb u ++ (LiW dA la g ++ (VW dA h ad (VS.s_adep x (x.adep - 1)))))) H := hP
  have hD : va_D A (TbW dA ta y11 ++ (TbW dA tb u ++ (LiW dA la g ++ (VW dA h ad (VS.s_adep x (x.adep - 1)))))) := hD
  have f_e_12 := hp9
  refine lv_iconst (v := 1) hx hb d_A_join_58 (by decide) ?_
  exact rfZ hx hb hr (bI_nar true) hlk hS y11 ⟨rfl, f_e_12⟩ hP hD (Nat.le_of_ble_eq_true rfl) (Nat.le_of_ble_eq_true rfl) d_A_join_59
set_option maxHeartbeats 4000000 in
set_option maxRecDepth 100000 in
theorem v_Ajoin_b (l : Launch) (D : va_G) (dA : Nat → ClassId) (sz : Nat) (h : Nat) (ad : Nat → Nat) (ta : Nat → Nat) (t : TB) (tb : Nat → Nat) (u : TB) (la : Nat → Nat) (g : LI) (x : VS) (sg : Int32) (NL : Nat → List Int32) (NR : Nat → List Int32) (hla : la 0 = ad 25) (hs : g.sz ≤ g.eN) (hn : g.eN ≤ 65536) (hd : 2 ≤ x.adep) (hd2 : x.adep ≤ g.sz) (he1 : g.el (x.adep - 2) = some (ta 0)) (he2 : g.el (x.adep - 1) = some (tb 0)) (hna : nmOk dA x.pl t.nm t.nc NL) (hnb : nmOk dA x.pl u.nm u.nc NR) (hc1 : t.nc ≤ 6) (hc2 : u.nc ≤ 6) (hnn : namB NL NR t.nc u.nc = true) (hcN : t.cN ≤ 65536) (hra : rsAll dA x.pl t.rs) (h0 : t.rc = 1) (hu : u.rc = 0) : Met l ⟨"SeriesVault$Answers", "join", "(I)Z"⟩ [Cond.code ⟨"SeriesVault$Answers", "join", "(I)Z"⟩ prog_2_method_5_code 4 (some FieldType.boolean)] { frames := 4, cells := 0, slots := 0, locals := 109 } (pC D dA [.ref (ad 24), .int sg] (TbW dA ta t ++ (TbW dA tb u ++ (LiW dA la g ++ (VW dA h ad x)))) sz) (va_Qi (fun (r9 : Int32) (u9 : TB) => r9 = 1 ∧ u9 = TB.j0 sg t u) (fun (u9 : TB) t9 => bW D (va_A (TbW dA ta t ++ (TbW dA tb u ++ (LiW dA la g ++ (VW dA h ad x)))) sz) (TbW dA ta u9 ++ (TbW dA tb u ++ (LiW dA la g ++ (VW dA h ad (VS.s_adep x (x.adep - 1)))))) t9) (va_A (TbW dA ta t ++ (TbW dA tb u ++ (LiW dA la g ++ (VW dA h ad x)))) sz)) 0 0 (va_A (TbW dA ta t ++ (TbW dA tb u ++ (LiW dA la g ++ (VW dA h ad x)))) sz) := by
  refine mkC (y := ⟨"SeriesVault$Answers", "join", "(I)Z"⟩) (cc := prog_2_method_5_code) (maxL := 4) (av := [.ref (ad 24), .int sg]) (ws := TbW dA ta t ++ (TbW dA tb u ++ (LiW dA la g ++ (VW dA h ad x)))) (sz := sz) (Qc := fun A => va_Qi (fun (r9 : Int32) (u9 : TB) => r9 = 1 ∧ u9 = TB.j0 sg t u) (fun (u9 : TB) t9 => bW D A (TbW dA ta u9 ++ (TbW dA tb u ++ (LiW dA la g ++ (VW dA h ad (VS.s_adep x (x.adep - 1)))))) t9) A) (by decide) (Nat.le_of_ble_eq_true rfl) ?_
  intro A p e s m below meth c ls hsz hB
  obtain ⟨hx, hb, hr, hml, hown, hin, hlk, hE, hK, hP, hD, hS, hA, hN, hl⟩ := hB
  have hown : s.vm.findClass "SeriesVault$Answers" = some m.cls := hown
  have hl : lv_has ls 4 [(0, .ref (ad 24)), (1, .int sg)] := hl
  obtain ⟨H, hH⟩ : ∃ z, z = s.heap := ⟨_, rfl⟩
  have hP : va_P D vwCl (TbW dA ta t ++ (TbW dA tb u ++ (LiW dA la g ++ (VW dA h ad x)))) H := by rw [hH]; exact hP
  have hS : va_S A s.heap H [] := by rw [hH]; exact hS
  rw [← hH]
  refine lv_aload_n hx hb d_A_join_0 rfl (lv_at hl 0 rfl) ?_
  refine gF (v := .ref (ad 25)) hx hb hown hE hK hP 49 rfl rfl layA 0 (by decide) w799 rfl d_A_join_1 ?_
  rw [← hla]
  refine lv_aload_n hx hb d_A_join_4 rfl (lv_at hl 0 rfl) ?_
  refine gF (v := .int (nI x.adep)) hx hb hown hE hK hP 49 rfl rfl layA 1 (by decide) w1538 rfl d_A_join_5 ?_
  refine lv_iconst (v := 2) hx hb d_A_join_8 (by decide) ?_
  refine lv_isub hx hb d_A_join_9 (tpi (y := nI (x.adep - 2)) (pk_sub (a := x.adep) (b := 2) (by omega)) ?_)
  have hP := pmP (show List.Perm (α := Nat × va_E) (TbW dA ta t ++ (TbW dA tb u ++ (LiW dA la g ++ (VW dA h ad x)))) (LiW dA la g ++ (TbW dA ta t ++ (TbW dA tb u ++ (VW dA h ad x)))) from (List.Perm.append_left (TbW dA ta t) (List.perm_append_comm_assoc (TbW dA tb u) (LiW dA la g) (VW dA h ad x))).trans (List.perm_append_comm_assoc (TbW dA ta t) (LiW dA la g) (TbW dA tb u ++ (VW dA h ad x)))) hP
  have hD := pmD (show List.Perm (α := Nat × va_E) (TbW dA ta t ++ (TbW dA tb u ++ (LiW dA la g ++ (VW dA h ad x)))) (LiW dA la g ++ (TbW dA ta t ++ (TbW dA tb u ++ (VW dA h ad x)))) from (List.Perm.append_left (TbW dA ta t) (List.perm_append_comm_assoc (TbW dA tb u) (LiW dA la g) (VW dA h ad x))).trans (List.perm_append_comm_assoc (TbW dA ta t) (LiW dA la g) (TbW dA tb u ++ (VW dA h ad x)))) hD
  refine jkR (wr := []) (rnV (As := [.int (nI (x.adep - 2))]) (rest := []) hx hb hml hown hE hK (hN _ _ hS) hP hD (v_Lget l D dA H.size (TbW dA ta t ++ (TbW dA tb u ++ (VW dA h ad x))) la g (x.adep - 2) (ta 0) hs hn (show (x.adep - 2) < g.sz from by omega) he1) (q0 := 0) rfl rfl w1489 w1537 w1490 w1491 w680 rfl rfl ⟨⟨by decide, by decide⟩, rfl⟩ ⟨(Nat.le_of_ble_eq_true rfl), (Nat.le_of_ble_eq_true rfl)⟩ rfl hl.1 rfl (Nat.le_of_ble_eq_true rfl) d_A_join_10 ⟨(Nat.le_of_ble_eq_true rfl), (Nat.le_of_ble_eq_true rfl)⟩) hP hD hS hA (fun u2 r1 H locs hp9 hP hD hS => ?_)
  have hP : va_P D vwCl (LiW dA la g ++ (TbW dA ta t ++ (TbW dA tb u ++ (VW dA h ad x)))) H := hP
  have hD : va_D A (LiW dA la g ++ (TbW dA ta t ++ (TbW dA tb u ++ (VW dA h ad x)))) := hD
  have f_e_3 := hp9
  have e9 := f_e_3
  subst e9
  refine va_castE hx hb hown (hE.t w805 rfl) (va_recv hK hP (ci := 8) (q0 := 2) (q := ("SeriesVault$Table", TT, 7)) rfl rfl) d_A_join_13 ?_
  refine lv_astore_n hx hb d_A_join_16 rfl hl (by decide) rfl (fun ls hl => ?_)
  have hl : lv_has ls 4 [(2, .ref (ta 0)), (0, .ref (ad 24)), (1, .int sg)] := hl
  refine lv_aload_n hx hb d_A_join_17 rfl (lv_at hl 1 rfl) ?_
  refine gF (v := .ref (ad 25)) hx hb hown hE hK hP 49 rfl rfl layA 0 (by decide) w799 rfl d_A_join_18 ?_
  rw [← hla]
  refine lv_aload_n hx hb d_A_join_21 rfl (lv_at hl 1 rfl) ?_
  refine gF (v := .int (nI x.adep)) hx hb hown hE hK hP 49 rfl rfl layA 1 (by decide) w1538 rfl d_A_join_22 ?_
  refine lv_iconst (v := 1) hx hb d_A_join_25 (by decide) ?_
  refine lv_isub hx hb d_A_join_26 (tpi (y := nI (x.adep - 1)) (pk_sub (a := x.adep) (b := 1) (by omega)) ?_)
  refine jkR (wr := []) (rnV (As := [.int (nI (x.adep - 1))]) (rest := []) hx hb hml hown hE hK (hN _ _ hS) hP hD (v_Lget l D dA H.size (TbW dA ta t ++ (TbW dA tb u ++ (VW dA h ad x))) la g (x.adep - 1) (tb 0) hs hn (show (x.adep - 1) < g.sz from by omega) he2) (q0 := 0) rfl rfl w1489 w1537 w1490 w1491 w680 rfl rfl ⟨⟨by decide, by decide⟩, rfl⟩ ⟨(Nat.le_of_ble_eq_true rfl), (Nat.le_of_ble_eq_true rfl)⟩ rfl hl.1 rfl (Nat.le_of_ble_eq_true rfl) d_A_join_27 ⟨(Nat.le_of_ble_eq_true rfl), (Nat.le_of_ble_eq_true rfl)⟩) hP hD hS hA (fun u5 r4 H locs hp9 hP hD hS => ?_)
  have hP : va_P D vwCl (LiW dA la g ++ (TbW dA ta t ++ (TbW dA tb u ++ (VW dA h ad x)))) H := hP
  have hD : va_D A (LiW dA la g ++ (TbW dA ta t ++ (TbW dA tb u ++ (VW dA h ad x)))) := hD
  have f_e_6 := hp9
  have e9 := f_e_6
  subst e9
  refine va_castE hx hb hown (hE.t w805 rfl) (va_recv hK hP (ci := 8) (q0 := 7) (q := ("SeriesVault$Table", TT, 7)) rfl rfl) d_A_join_30 ?_
  refine lv_astore_n hx hb d_A_join_33 rfl hl (by decide) rfl (fun ls hl => ?_)
  have hl : lv_has ls 4 [(3, .ref (tb 0)), (2, .ref (ta 0)), (0, .ref (ad 24)), (1, .int sg)] := hl
  refine lv_aload_n hx hb d_A_join_34 rfl (lv_at hl 2 rfl) ?_
  refine lv_dup hx hb d_A_join_35 rfl ?_
  refine gF (v := .int (nI x.adep)) hx hb hown hE hK hP 49 rfl rfl layA 1 (by decide) w1538 rfl d_A_join_36 ?_
  refine lv_iconst (v := 1) hx hb d_A_join_39 (by decide) ?_
  refine lv_isub hx hb d_A_join_40 (tpi (y := nI (x.adep - 1)) (pk_sub (a := x.adep) (b := 1) (by omega)) ?_)
  refine pF (v := .int (nI (x.adep - 1))) hx hb hown hE hK hP hD hS 49 rfl rfl layA tyA tokA nmA 1 (by decide) w1538 rfl rfl rfl (Nat.le_of_ble_eq_true rfl) d_A_join_41 (fun H locs hP hD hS => ?_)
  have hP : va_P D vwCl (LiW dA la g ++ (TbW dA ta t ++ (TbW dA tb u ++ (VW dA h ad (VS.s_adep x (x.adep - 1)))))) H := hP
  have hD : va_D A (LiW dA la g ++ (TbW dA ta t ++ (TbW dA tb u ++ (VW dA h ad (VS.s_adep x (x.adep - 1)))))) := hD
  refine lv_aload_n hx hb d_A_join_44 rfl (lv_at hl 1 rfl) ?_
  refine lv_aload_n hx hb d_A_join_45 rfl (lv_at hl 0 rfl) ?_
  have hP := pmP (show List.Perm (α := Nat × va_E) (LiW dA la g ++ (TbW dA ta t ++ (TbW dA tb u ++ (VW dA h ad (VS.s_adep x (x.adep - 1)))))) (TbW dA ta t ++ (LiW dA la g ++ (TbW dA tb u ++ (VW dA h ad (VS.s_adep x (x.adep - 1)))))) from List.perm_append_comm_assoc (LiW dA la g) (TbW dA ta t) (TbW dA tb u ++ (VW dA h ad (VS.s_adep x (x.adep - 1))))) hP
  have hD := pmD (show List.Perm (α := Nat × va_E) (LiW dA la g ++ (TbW dA ta t ++ (TbW dA tb u ++ (VW dA h ad (VS.s_adep x (x.adep - 1)))))) (TbW dA ta t ++ (LiW dA la g ++ (TbW dA tb u ++ (VW dA h ad (VS.s_adep x (x.adep - 1)))))) from List.perm_append_comm_assoc (LiW dA la g) (TbW dA ta t) (TbW dA tb u ++ (VW dA h ad (VS.s_adep x (x.adep - 1))))) hD
  have hP := pmP (show List.Perm (α := Nat × va_E) (TbW dA ta t ++ (LiW dA la g ++ (TbW dA tb u ++ (VW dA h ad (VS.s_adep x (x.adep - 1)))))) (TbW dA ta t ++ (TbW dA tb u ++ (LiW dA la g ++ (VW dA h ad (VS.s_adep x (x.adep - 1)))))) from List.Perm.append_left (TbW dA ta t) (List.perm_append_comm_assoc (LiW dA la g) (TbW dA tb u) (VW dA h ad (VS.s_adep x (x.adep - 1))))) hP
  have hD := pmD (show List.Perm (α := Nat × va_E) (TbW dA ta t ++ (LiW dA la g ++ (TbW dA tb u ++ (VW dA h ad (VS.s_adep x (x.adep - 1)))))) (TbW dA ta t ++ (TbW dA tb u ++ (LiW dA la g ++ (VW dA h ad (VS.s_adep x (x.adep - 1)))))) from List.Perm.append_left (TbW dA ta t) (List.perm_append_comm_assoc (LiW dA la g) (TbW dA tb u) (VW dA h ad (VS.s_adep x (x.adep - 1))))) hD
  refine jkI (wr := []) (rnV (As := [.ref (tb 0)]) (rest := []) hx hb hml hown hE hK (hN _ _ hS) hP hD (v_ThasNamesOf l D dA H.size (LiW dA la g ++ (VW dA h ad (VS.s_adep x (x.adep - 1)))) ta t tb u NL NR (nmOk_m (fun _ hm => (List.mem_append_right _ (plm hm))) hna) (nmOk_m (fun _ hm => (List.mem_append_right _ (plm hm))) hnb) hc1 hc2) (q0 := 0) rfl rfl w1541 w1540 w1542 w1543 w807 rfl rfl ⟨⟨by decide, by decide⟩, rfl⟩ ⟨(Nat.le_of_ble_eq_true rfl), (Nat.le_of_ble_eq_true rfl)⟩ rfl hl.1 rfl (Nat.le_of_ble_eq_true rfl) d_A_join_46 ⟨(Nat.le_of_ble_eq_true rfl), (Nat.le_of_ble_eq_true rfl)⟩) hP hD hS hA (fun r7 u8 H locs hp9 hP hD hS => ?_)
  have hP : va_P D vwCl (TbW dA ta t ++ (TbW dA tb u ++ (LiW dA la g ++ (VW dA h ad (VS.s_adep x (x.adep - 1)))))) H := hP
  have hD : va_D A (TbW dA ta t ++ (TbW dA tb u ++ (LiW dA la g ++ (VW dA h ad (VS.s_adep x (x.adep - 1)))))) := hD
  replace hp9 : bI (namB NL NR t.nc u.nc) = r7 := Eq.symm hp9
  subst hp9
  refine lv_if_eq hx hb d_A_join_49 (tgt := 60) rfl (fun h9 => absurd h9 (by rw [hnn]; decide)) (fun _ => ?_)
  refine lv_aload_n hx hb d_A_join_52 rfl (lv_at hl 1 rfl) ?_
  refine lv_iload_n hx hb d_A_join_53 rfl (lv_at hl 3 rfl) ?_
  refine lv_aload_n hx hb d_A_join_54 rfl (lv_at hl 0 rfl) ?_
  refine jkV (wr := []) (rnV (As := [.int sg, .ref (tb 0)]) (rest := []) hx hb hml hown hE hK (hN _ _ hS) hP hD (v_TjoinRows_b l D dA H.size (LiW dA la g ++ (VW dA h ad (VS.s_adep x (x.adep - 1)))) ta t tb u sg hcN (rsAll_m (fun _ hm => (List.mem_append_right _ (plm hm))) hra) h0 hu) (q0 := 0) rfl rfl w1546 w1545 w1547 w1548 w807 rfl rfl ⟨⟨by decide, by decide⟩, rfl⟩ ⟨(Nat.le_of_ble_eq_true rfl), (Nat.le_of_ble_eq_true rfl)⟩ rfl hl.1 rfl (Nat.le_of_ble_eq_true rfl) d_A_join_55 ⟨(Nat.le_of_ble_eq_true rfl), (Nat.le_of_ble_eq_true rfl)⟩) hP hD hS hA (fun u10 H locs hp9 hP hD hS => ?_)
  obtain ⟨y11, h9u⟩ : ∃ z9, z9 = u10 := ⟨_, rfl⟩
  subst h9u
  have hP : va_P D vwCl (TbW dA ta y11 ++ (TbW dA tb u ++ (LiW dA la g ++ (VW dA h ad (VS.s_adep x (x.adep - 1)))))) H := hP
  have hD : va_D A (TbW dA ta y11 ++ (TbW dA tb u ++ (LiW dA la g ++ (VW dA h ad (VS.s_adep x (x.adep - 1)))))) := hD
  have f_e_12 := hp9
  refine lv_iconst (v := 1) hx hb d_A_join_58 (by decide) ?_
  exact rfZ hx hb hr (bI_nar true) hlk hS y11 ⟨rfl, f_e_12⟩ hP hD (Nat.le_of_ble_eq_true rfl) (Nat.le_of_ble_eq_true rfl) d_A_join_59
set_option maxHeartbeats 4000000 in
set_option maxRecDepth 100000 in
theorem v_Ajoin_c (l : Launch) (D : va_G) (dA : Nat → ClassId) (sz : Nat) (h : Nat) (ad : Nat → Nat) (ta : Nat → Nat) (t : TB) (tb : Nat → Nat) (u : TB) (la : Nat → Nat) (g : LI) (x : VS) (sg : Int32) (NL : Nat → List Int32) (NR : Nat → List Int32) (hla : la 0 = ad 25) (hs : g.sz ≤ g.eN) (hn : g.eN ≤ 65536) (hd : 2 ≤ x.adep) (hd2 : x.adep ≤ g.sz) (he1 : g.el (x.adep - 2) = some (ta 0)) (he2 : g.el (x.adep - 1) = some (tb 0)) (hna : nmOk dA x.pl t.nm t.nc NL) (hnb : nmOk dA x.pl u.nm u.nc NR) (hc1 : t.nc ≤ 6) (hc2 : u.nc ≤ 6) (hnn : namB NL NR t.nc u.nc = true) (hcN : t.cN ≤ 65536) (hra : rsAll dA x.pl t.rs) (hop : isOp sg) (hcM : u.cN ≤ 65536) (hn0 : t.nc = 0) (h0 : t.rc = 1) (hu : u.rc = 1) (k1 : t.wi ≤ t.cN) (k3 : t.wi ≤ u.cN) (hw : u.wi = t.wi) : Met l ⟨"SeriesVault$Answers", "join", "(I)Z"⟩ [Cond.code ⟨"SeriesVault$Answers", "join", "(I)Z"⟩ prog_2_method_5_code 4 (some FieldType.boolean)] { frames := 4, cells := 0, slots := 0, locals := 109 } (pC D dA [.ref (ad 24), .int sg] (TbW dA ta t ++ (TbW dA tb u ++ (LiW dA la g ++ (VW dA h ad x)))) sz) (va_Qi (fun (r9 : Int32) (u9 : TB) => r9 = 1 ∧ u9 = TB.j0 sg t u) (fun (u9 : TB) t9 => bW D (va_A (TbW dA ta t ++ (TbW dA tb u ++ (LiW dA la g ++ (VW dA h ad x)))) sz) (TbW dA ta u9 ++ (TbW dA tb u ++ (LiW dA la g ++ (VW dA h ad (VS.s_adep x (x.adep - 1)))))) t9) (va_A (TbW dA ta t ++ (TbW dA tb u ++ (LiW dA la g ++ (VW dA h ad x)))) sz)) 0 0 (va_A (TbW dA ta t ++ (TbW dA tb u ++ (LiW dA la g ++ (VW dA h ad x)))) sz) := by
  refine mkC (y := ⟨"SeriesVault$Answers", "join", "(I)Z"⟩) (cc := prog_2_method_5_code) (maxL := 4) (av := [.ref (ad 24), .int sg]) (ws := TbW dA ta t ++ (TbW dA tb u ++ (LiW dA la g ++ (VW dA h ad x)))) (sz := sz) (Qc := fun A => va_Qi (fun (r9 : Int32) (u9 : TB) => r9 = 1 ∧ u9 = TB.j0 sg t u) (fun (u9 : TB) t9 => bW D A (TbW dA ta u9 ++ (TbW dA tb u ++ (LiW dA la g ++ (VW dA h ad (VS.s_adep x (x.adep - 1)))))) t9) A) (by decide) (Nat.le_of_ble_eq_true rfl) ?_
  intro A p e s m below meth c ls hsz hB
  obtain ⟨hx, hb, hr, hml, hown, hin, hlk, hE, hK, hP, hD, hS, hA, hN, hl⟩ := hB
  have hown : s.vm.findClass "SeriesVault$Answers" = some m.cls := hown
  have hl : lv_has ls 4 [(0, .ref (ad 24)), (1, .int sg)] := hl
  obtain ⟨H, hH⟩ : ∃ z, z = s.heap := ⟨_, rfl⟩
  have hP : va_P D vwCl (TbW dA ta t ++ (TbW dA tb u ++ (LiW dA la g ++ (VW dA h ad x)))) H := by rw [hH]; exact hP
  have hS : va_S A s.heap H [] := by rw [hH]; exact hS
  rw [← hH]
  refine lv_aload_n hx hb d_A_join_0 rfl (lv_at hl 0 rfl) ?_
  refine gF (v := .ref (ad 25)) hx hb hown hE hK hP 49 rfl rfl layA 0 (by decide) w799 rfl d_A_join_1 ?_
  rw [← hla]
  refine lv_aload_n hx hb d_A_join_4 rfl (lv_at hl 0 rfl) ?_
  refine gF (v := .int (nI x.adep)) hx hb hown hE hK hP 49 rfl rfl layA 1 (by decide) w1538 rfl d_A_join_5 ?_
  refine lv_iconst (v := 2) hx hb d_A_join_8 (by decide) ?_
  refine lv_isub hx hb d_A_join_9 (tpi (y := nI (x.adep - 2)) (pk_sub (a := x.adep) (b := 2) (by omega)) ?_)
  have hP := pmP (show List.Perm (α := Nat × va_E) (TbW dA ta t ++ (TbW dA tb u ++ (LiW dA la g ++ (VW dA h ad x)))) (LiW dA la g ++ (TbW dA ta t ++ (TbW dA tb u ++ (VW dA h ad x)))) from (List.Perm.append_left (TbW dA ta t) (List.perm_append_comm_assoc (TbW dA tb u) (LiW dA la g) (VW dA h ad x))).trans (List.perm_append_comm_assoc (TbW dA ta t) (LiW dA la g) (TbW dA tb u ++ (VW dA h ad x)))) hP
  have hD := pmD (show List.Perm (α := Nat × va_E) (TbW dA ta t ++ (TbW dA tb u ++ (LiW dA la g ++ (VW dA h ad x)))) (LiW dA la g ++ (TbW dA ta t ++ (TbW dA tb u ++ (VW dA h ad x)))) from (List.Perm.append_left (TbW dA ta t) (List.perm_append_comm_assoc (TbW dA tb u) (LiW dA la g) (VW dA h ad x))).trans (List.perm_append_comm_assoc (TbW dA ta t) (LiW dA la g) (TbW dA tb u ++ (VW dA h ad x)))) hD
  refine jkR (wr := []) (rnV (As := [.int (nI (x.adep - 2))]) (rest := []) hx hb hml hown hE hK (hN _ _ hS) hP hD (v_Lget l D dA H.size (TbW dA ta t ++ (TbW dA tb u ++ (VW dA h ad x))) la g (x.adep - 2) (ta 0) hs hn (show (x.adep - 2) < g.sz from by omega) he1) (q0 := 0) rfl rfl w1489 w1537 w1490 w1491 w680 rfl rfl ⟨⟨by decide, by decide⟩, rfl⟩ ⟨(Nat.le_of_ble_eq_true rfl), (Nat.le_of_ble_eq_true rfl)⟩ rfl hl.1 rfl (Nat.le_of_ble_eq_true rfl) d_A_join_10 ⟨(Nat.le_of_ble_eq_true rfl), (Nat.le_of_ble_eq_true rfl)⟩) hP hD hS hA (fun u2 r1 H locs hp9 hP hD hS => ?_)
  have hP : va_P D vwCl (LiW dA la g ++ (TbW dA ta t ++ (TbW dA tb u ++ (VW dA h ad x)))) H := hP
  have hD : va_D A (LiW dA la g ++ (TbW dA ta t ++ (TbW dA tb u ++ (VW dA h ad x)))) := hD
  have f_e_3 := hp9
  have e9 := f_e_3
  subst e9
  refine va_castE hx hb hown (hE.t w805 rfl) (va_recv hK hP (ci := 8) (q0 := 2) (q := ("SeriesVault$Table", TT, 7)) rfl rfl) d_A_join_13 ?_
  refine lv_astore_n hx hb d_A_join_16 rfl hl (by decide) rfl (fun ls hl => ?_)
  have hl : lv_has ls 4 [(2, .ref (ta 0)), (0, .ref (ad 24)), (1, .int sg)] := hl
  refine lv_aload_n hx hb d_A_join_17 rfl (lv_at hl 1 rfl) ?_
  refine gF (v := .ref (ad 25)) hx hb hown hE hK hP 49 rfl rfl layA 0 (by decide) w799 rfl d_A_join_18 ?_
  rw [← hla]
  refine lv_aload_n hx hb d_A_join_21 rfl (lv_at hl 1 rfl) ?_
  refine gF (v := .int (nI x.adep)) hx hb hown hE hK hP 49 rfl rfl layA 1 (by decide) w1538 rfl d_A_join_22 ?_
  refine lv_iconst (v := 1) hx hb d_A_join_25 (by decide) ?_
  refine lv_isub hx hb d_A_join_26 (tpi (y := nI (x.adep - 1)) (pk_sub (a := x.adep) (b := 1) (by omega)) ?_)
  refine jkR (wr := []) (rnV (As := [.int (nI (x.adep - 1))]) (rest := []) hx hb hml hown hE hK (hN _ _ hS) hP hD (v_Lget l D dA H.size (TbW dA ta t ++ (TbW dA tb u ++ (VW dA h ad x))) la g (x.adep - 1) (tb 0) hs hn (show (x.adep - 1) < g.sz from by omega) he2) (q0 := 0) rfl rfl w1489 w1537 w1490 w1491 w680 rfl rfl ⟨⟨by decide, by decide⟩, rfl⟩ ⟨(Nat.le_of_ble_eq_true rfl), (Nat.le_of_ble_eq_true rfl)⟩ rfl hl.1 rfl (Nat.le_of_ble_eq_true rfl) d_A_join_27 ⟨(Nat.le_of_ble_eq_true rfl), (Nat.le_of_ble_eq_true rfl)⟩) hP hD hS hA (fun u5 r4 H locs hp9 hP hD hS => ?_)
  have hP : va_P D vwCl (LiW dA la g ++ (TbW dA ta t ++ (TbW dA tb u ++ (VW dA h ad x)))) H := hP
  have hD : va_D A (LiW dA la g ++ (TbW dA ta t ++ (TbW dA tb u ++ (VW dA h ad x)))) := hD
  have f_e_6 := hp9
  have e9 := f_e_6
  subst e9
  refine va_castE hx hb hown (hE.t w805 rfl) (va_recv hK hP (ci := 8) (q0 := 7) (q := ("SeriesVault$Table", TT, 7)) rfl rfl) d_A_join_30 ?_
  refine lv_astore_n hx hb d_A_join_33 rfl hl (by decide) rfl (fun ls hl => ?_)
  have hl : lv_has ls 4 [(3, .ref (tb 0)), (2, .ref (ta 0)), (0, .ref (ad 24)), (1, .int sg)] := hl
  refine lv_aload_n hx hb d_A_join_34 rfl (lv_at hl 2 rfl) ?_
  refine lv_dup hx hb d_A_join_35 rfl ?_
  refine gF (v := .int (nI x.adep)) hx hb hown hE hK hP 49 rfl rfl layA 1 (by decide) w1538 rfl d_A_join_36 ?_
  refine lv_iconst (v := 1) hx hb d_A_join_39 (by decide) ?_
  refine lv_isub hx hb d_A_join_40 (tpi (y := nI (x.adep - 1)) (pk_sub (a := x.adep) (b := 1) (by omega)) ?_)
  refine pF (v := .int (nI (x.adep - 1))) hx hb hown hE hK hP hD hS 49 rfl rfl layA tyA tokA nmA 1 (by decide) w1538 rfl rfl rfl (Nat.le_of_ble_eq_true rfl) d_A_join_41 (fun H locs hP hD hS => ?_)
  have hP : va_P D vwCl (LiW dA la g ++ (TbW dA ta t ++ (TbW dA tb u ++ (VW dA h ad (VS.s_adep x (x.adep - 1)))))) H := hP
  have hD : va_D A (LiW dA la g ++ (TbW dA ta t ++ (TbW dA tb u ++ (VW dA h ad (VS.s_adep x (x.adep - 1)))))) := hD
  refine lv_aload_n hx hb d_A_join_44 rfl (lv_at hl 1 rfl) ?_
  refine lv_aload_n hx hb d_A_join_45 rfl (lv_at hl 0 rfl) ?_
  have hP := pmP (show List.Perm (α := Nat × va_E) (LiW dA la g ++ (TbW dA ta t ++ (TbW dA tb u ++ (VW dA h ad (VS.s_adep x (x.adep - 1)))))) (TbW dA ta t ++ (LiW dA la g ++ (TbW dA tb u ++ (VW dA h ad (VS.s_adep x (x.adep - 1)))))) from List.perm_append_comm_assoc (LiW dA la g) (TbW dA ta t) (TbW dA tb u ++ (VW dA h ad (VS.s_adep x (x.adep - 1))))) hP
  have hD := pmD (show List.Perm (α := Nat × va_E) (LiW dA la g ++ (TbW dA ta t ++ (TbW dA tb u ++ (VW dA h ad (VS.s_adep x (x.adep - 1)))))) (TbW dA ta t ++ (LiW dA la g ++ (TbW dA tb u ++ (VW dA h ad (VS.s_adep x (x.adep - 1)))))) from List.perm_append_comm_assoc (LiW dA la g) (TbW dA ta t) (TbW dA tb u ++ (VW dA h ad (VS.s_adep x (x.adep - 1))))) hD
  have hP := pmP (show List.Perm (α := Nat × va_E) (TbW dA ta t ++ (LiW dA la g ++ (TbW dA tb u ++ (VW dA h ad (VS.s_adep x (x.adep - 1)))))) (TbW dA ta t ++ (TbW dA tb u ++ (LiW dA la g ++ (VW dA h ad (VS.s_adep x (x.adep - 1)))))) from List.Perm.append_left (TbW dA ta t) (List.perm_append_comm_assoc (LiW dA la g) (TbW dA tb u) (VW dA h ad (VS.s_adep x (x.adep - 1))))) hP
  have hD := pmD (show List.Perm (α := Nat × va_E) (TbW dA ta t ++ (LiW dA la g ++ (TbW dA tb u ++ (VW dA h ad (VS.s_adep x (x.adep - 1)))))) (TbW dA ta t ++ (TbW dA tb u ++ (LiW dA la g ++ (VW dA h ad (VS.s_adep x (x.adep - 1)))))) from List.Perm.append_left (TbW dA ta t) (List.perm_append_comm_assoc (LiW dA la g) (TbW dA tb u) (VW dA h ad (VS.s_adep x (x.adep - 1))))) hD
  refine jkI (wr := []) (rnV (As := [.ref (tb 0)]) (rest := []) hx hb hml hown hE hK (hN _ _ hS) hP hD (v_ThasNamesOf l D dA H.size (LiW dA la g ++ (VW dA h ad (VS.s_adep x (x.adep - 1)))) ta t tb u NL NR (nmOk_m (fun _ hm => (List.mem_append_right _ (plm hm))) hna) (nmOk_m (fun _ hm => (List.mem_append_right _ (plm hm))) hnb) hc1 hc2) (q0 := 0) rfl rfl w1541 w1540 w1542 w1543 w807 rfl rfl ⟨⟨by decide, by decide⟩, rfl⟩ ⟨(Nat.le_of_ble_eq_true rfl), (Nat.le_of_ble_eq_true rfl)⟩ rfl hl.1 rfl (Nat.le_of_ble_eq_true rfl) d_A_join_46 ⟨(Nat.le_of_ble_eq_true rfl), (Nat.le_of_ble_eq_true rfl)⟩) hP hD hS hA (fun r7 u8 H locs hp9 hP hD hS => ?_)
  have hP : va_P D vwCl (TbW dA ta t ++ (TbW dA tb u ++ (LiW dA la g ++ (VW dA h ad (VS.s_adep x (x.adep - 1)))))) H := hP
  have hD : va_D A (TbW dA ta t ++ (TbW dA tb u ++ (LiW dA la g ++ (VW dA h ad (VS.s_adep x (x.adep - 1)))))) := hD
  replace hp9 : bI (namB NL NR t.nc u.nc) = r7 := Eq.symm hp9
  subst hp9
  refine lv_if_eq hx hb d_A_join_49 (tgt := 60) rfl (fun h9 => absurd h9 (by rw [hnn]; decide)) (fun _ => ?_)
  refine lv_aload_n hx hb d_A_join_52 rfl (lv_at hl 1 rfl) ?_
  refine lv_iload_n hx hb d_A_join_53 rfl (lv_at hl 3 rfl) ?_
  refine lv_aload_n hx hb d_A_join_54 rfl (lv_at hl 0 rfl) ?_
  refine jkV (wr := []) (rnV (As := [.int sg, .ref (tb 0)]) (rest := []) hx hb hml hown hE hK (hN _ _ hS) hP hD (v_TjoinRows_c l D dA H.size (LiW dA la g ++ (VW dA h ad (VS.s_adep x (x.adep - 1)))) ta t tb u sg hop hcN hcM (rsAll_m (fun _ hm => (List.mem_append_right _ (plm hm))) hra) hn0 h0 hu k1 k3 hw) (q0 := 0) rfl rfl w1546 w1545 w1547 w1548 w807 rfl rfl ⟨⟨by decide, by decide⟩, rfl⟩ ⟨(Nat.le_of_ble_eq_true rfl), (Nat.le_of_ble_eq_true rfl)⟩ rfl hl.1 rfl (Nat.le_of_ble_eq_true rfl) d_A_join_55 ⟨(Nat.le_of_ble_eq_true rfl), (Nat.le_of_ble_eq_true rfl)⟩) hP hD hS hA (fun u10 H locs hp9 hP hD hS => ?_)
  obtain ⟨y11, h9u⟩ : ∃ z9, z9 = u10 := ⟨_, rfl⟩
  subst h9u
  have hP : va_P D vwCl (TbW dA ta y11 ++ (TbW dA tb u ++ (LiW dA la g ++ (VW dA h ad (VS.s_adep x (x.adep - 1)))))) H := hP
  have hD : va_D A (TbW dA ta y11 ++ (TbW dA tb u ++ (LiW dA la g ++ (VW dA h ad (VS.s_adep x (x.adep - 1)))))) := hD
  have f_e_12 := hp9
  refine lv_iconst (v := 1) hx hb d_A_join_58 (by decide) ?_
  exact rfZ hx hb hr (bI_nar true) hlk hS y11 ⟨rfl, f_e_12⟩ hP hD (Nat.le_of_ble_eq_true rfl) (Nat.le_of_ble_eq_true rfl) d_A_join_59
end
section
/-! Two and three chunks out of ll and into it. -/
section LL
variable {dA : Nat → ClassId} {h : Nat} {ad : Nat → Nat}
theorem llQ2 {x : VS} {A B r : va_W} (e : x.ll.Perm (A ++ (B ++ r))) : (VW dA h ad x).Perm (A ++ (B ++ VW dA h ad (VS.s_ll x r))) := by
  have a := llQ (dA := dA) (h := h) (ad := ad) (x := x) (L := A ++ B) (r := r) (by rw [List.append_assoc]; exact e)
  rw [List.append_assoc] at a
  exact a
theorem llQ3 {x : VS} {A B C r : va_W} (e : x.ll.Perm (A ++ (B ++ (C ++ r)))) : (VW dA h ad x).Perm (A ++ (B ++ (C ++ VW dA h ad (VS.s_ll x r)))) := by
  have a := llQ (dA := dA) (h := h) (ad := ad) (x := x) (L := A ++ (B ++ C)) (r := r) (by rw [List.append_assoc, List.append_assoc]; exact e)
  rw [List.append_assoc, List.append_assoc] at a
  exact a
theorem llT2 (y : VS) (A B : va_W) : (A ++ (B ++ VW dA h ad y)).Perm (VW dA h ad (VS.s_ll y (A ++ (B ++ y.ll)))) := by
  have a := llT (dA := dA) (h := h) (ad := ad) y (A ++ B)
  rw [List.append_assoc, List.append_assoc] at a
  exact a
theorem llT3 (y : VS) (A B C : va_W) : (A ++ (B ++ (C ++ VW dA h ad y))).Perm (VW dA h ad (VS.s_ll y (A ++ (B ++ (C ++ y.ll))))) := by
  have a := llT (dA := dA) (h := h) (ad := ad) y (A ++ (B ++ C))
  rw [List.append_assoc, List.append_assoc, List.append_assoc, List.append_assoc] at a
  exact a
end LL
theorem tbs_up {dA : Nat → ClassId} {AT : Nat → Nat → Nat} {T : Nat → TB} {n : Nat} {a : Nat → Nat} {t : TB} : tbs dA (va_up AT n a) (va_up T n t) (n + 1) = TbW dA a t ++ tbs dA AT T n := by
  show TbW dA (va_up AT n a n) (va_up T n t n) ++ tbs dA (va_up AT n a) (va_up T n t) n = _
  rw [va_up_self, va_up_self, tbs_e (AT := AT) (T := T) (fun j hj => ⟨va_up_ne _ _ (Nat.ne_of_lt hj), va_up_ne _ _ (Nat.ne_of_lt hj)⟩)]
/-- a table on top of the stack -/
def pgN (g : LI) : Nat := if g.sz < g.eN then g.eN else g.eN + max 1 (g.eN / 2)
def psC (x : VS) (g : LI) : Nat := if x.adep < g.sz then 0 else 6
def psS (x : VS) (g : LI) : Nat := if x.adep < g.sz then 0 else 589 + (if g.sz < g.eN then 0 else g.eN + max 1 (g.eN / 2))
def psR (dA : Nat → ClassId) (ad : Nat → Nat) (r : va_W) (la : Nat → Nat) (x : VS) (g : LI) (AT : Nat → Nat → Nat) (T : Nat → TB) (y : VS) (g' : LI) (AT' : Nat → Nat → Nat) (T' : Nat → TB) : Prop := y = VS.s_ll (VS.s_adep x (x.adep + 1)) y.ll ∧ skP dA ad r y la g' AT' T' ∧ ((x.adep < g.sz ∧ g' = g ∧ AT' = AT ∧ T' = T) ∨ (x.adep = g.sz ∧ g'.sz = g.sz + 1 ∧ g'.eN = pgN g ∧ (∀ i, i ≠ g.sz → AT' i = AT i ∧ T' i = T i) ∧ ∃ q : Nat, T' g.sz = tb0 q))
theorem sk_pm {dA : Nat → ClassId} {AT : Nat → Nat → Nat} {T : Nat → TB} {n i : Nat} {R L r : va_W} (a : (tbs dA AT T n).Perm (TbW dA (AT i) (T i) ++ R)) : (L ++ (tbs dA AT T n ++ r)).Perm (TbW dA (AT i) (T i) ++ (L ++ (R ++ r))) := by
  refine (List.Perm.append_left L (List.Perm.append_right r a)).trans ?_
  rw [List.append_assoc]
  exact List.perm_append_comm_assoc _ _ _
theorem sk_pm2 {dA : Nat → ClassId} {AT : Nat → Nat → Nat} {T : Nat → TB} {n i j : Nat} {R L r : va_W} (a : (tbs dA AT T n).Perm (TbW dA (AT i) (T i) ++ (TbW dA (AT j) (T j) ++ R))) : (L ++ (tbs dA AT T n ++ r)).Perm (TbW dA (AT i) (T i) ++ (TbW dA (AT j) (T j) ++ (L ++ (R ++ r)))) := by
  refine (List.Perm.append_left L (List.Perm.append_right r a)).trans ?_
  rw [List.append_assoc, List.append_assoc]
  exact (List.perm_append_comm_assoc _ _ _).trans (List.Perm.append_left _ (List.perm_append_comm_assoc _ _ _))
theorem tb_hd {dA : Nat → ClassId} {ta : Nat → Nat} {t : TB} : ∃ vs : List Value, (ta 0, .inr (8, vs)) ∈ TbW dA ta t := ⟨_, List.mem_of_getElem? (i := 0) rfl⟩
/-- two tables joined: how, and what becomes of them -/
def jnC (NL NR : Nat → List Int32) (t u : TB) : Nat := if namB NL NR t.nc u.nc = true then 0 else if u.nc = 0 then 1 else if t.nc = 0 then 2 else 3
def jnT (sg : Int32) (NL : Nat → List Int32) (RS RU : Nat → List LB) (t u : TB) (k : Nat) : TB := if k = 0 then (if t.nc = 0 then TB.j0 sg t u else TB.jm sg NL t u RS RU) else if k = 1 then (if u.rc = 0 then TB.de (TB.s_rc t 0) else (jsL sg t u t.rc).de) else (if t.rc = 0 then TB.de (TB.s_rc u 0) else (jsR sg u t u.rc).de)
/-- a table of the stack: its names, its rows -/
def tbK (dA : Nat → ClassId) (pl : va_W) (wi : Nat) (t : TB) (NL : Nat → List Int32) (RS : Nat → List LB) : Prop := nmOk dA pl t.nm t.nc NL ∧ t.nc ≤ 6 ∧ (0 < t.nc → rsOk dA pl t.rs t.rc RS) ∧ rsAll dA pl t.rs ∧ t.rc ≤ 256 ∧ t.wi = wi ∧ t.rc * t.wi ≤ t.cN ∧ t.cN ≤ 65536 ∧ (t.nc = 0 → t.rc ≤ 1)
def jnZ (dA : Nat → ClassId) (ad : Nat → Nat) (r : va_W) (la : Nat → Nat) (sg : Int32) (NL NR : Nat → List Int32) (RS RU : Nat → List LB) (x : VS) (g : LI) (AT : Nat → Nat → Nat) (T : Nat → TB) (y : VS) (g' : LI) (AT' : Nat → Nat → Nat) (T' : Nat → TB) : Prop := y = VS.s_ll (VS.s_adep x (x.adep - 1)) y.ll ∧ skP dA ad r y la g' AT' T' ∧ g'.sz = g.sz ∧ g'.eN = g.eN ∧ (jnC NL NR (T (x.adep - 2)) (T (x.adep - 1)) ≤ 1 → AT' = AT ∧ T' = va_up T (x.adep - 2) (jnT sg NL RS RU (T (x.adep - 2)) (T (x.adep - 1)) (jnC NL NR (T (x.adep - 2)) (T (x.adep - 1))))) ∧ (jnC NL NR (T (x.adep - 2)) (T (x.adep - 1)) = 2 → AT' = va_up (va_up AT (x.adep - 2) (AT (x.adep - 1))) (x.adep - 1) (AT (x.adep - 2)) ∧ T' = va_up (va_up T (x.adep - 2) (jnT sg NL RS RU (T (x.adep - 2)) (T (x.adep - 1)) (jnC NL NR (T (x.adep - 2)) (T (x.adep - 1))))) (x.adep - 1) (T (x.adep - 2))) ∧ (jnC NL NR (T (x.adep - 2)) (T (x.adep - 1)) = 3 → AT' = AT ∧ T' = T)
theorem jc_0 {NL NR : Nat → List Int32} {t u : TB} (h : namB NL NR t.nc u.nc = true) : jnC NL NR t u = 0 := if_pos h
theorem jc_1 {NL NR : Nat → List Int32} {t u : TB} (h : namB NL NR t.nc u.nc = false) (h2 : u.nc = 0) : jnC NL NR t u = 1 := by unfold jnC; rw [if_neg (by rw [h]; decide), if_pos h2]
theorem jc_2 {NL NR : Nat → List Int32} {t u : TB} (h : namB NL NR t.nc u.nc = false) (h2 : ¬ u.nc = 0) (h3 : t.nc = 0) : jnC NL NR t u = 2 := by unfold jnC; rw [if_neg (by rw [h]; decide), if_neg h2, if_pos h3]
theorem jc_3 {NL NR : Nat → List Int32} {t u : TB} (h : namB NL NR t.nc u.nc = false) (h2 : ¬ u.nc = 0) (h3 : ¬ t.nc = 0) : jnC NL NR t u = 3 := by unfold jnC; rw [if_neg (by rw [h]; decide), if_neg h2, if_neg h3]
theorem nam_nc {NL NR : Nat → List Int32} {n m : Nat} (h : namB NL NR n m = true) : n = m := by
  unfold namB at h
  rw [Bool.and_eq_true] at h
  exact of_decide_eq_true h.1
theorem v_pushW (l : Launch) (D : va_G) (dA : Nat → ClassId) (sz : Nat) (e0 mi : Nat) (h : Nat) (ad : Nat → Nat) (x : VS) (la : Nat → Nat) (g : LI) (AT : Nat → Nat → Nat) (T : Nat → TB) (r : va_W) (hk : skP dA ad r x la g AT T) (hd : x.adep ≤ g.sz) (hb : g.eN ≤ 2048) : Met l ⟨"SeriesVault$Answers", "push", "()LSeriesVault$Table;"⟩ [Cond.code ⟨"SeriesVault$Answers", "push", "()LSeriesVault$Table;"⟩ prog_2_method_4_code 1 (some (FieldType.object "SeriesVault$Table"))] { frames := 7, cells := psC x g, slots := psS x g, locals := 171 } (pCy D dA e0 mi [.ref (ad 24)] (VW dA h ad x) sz) (va_Qr (fun (_ : VS × LI × (Nat → Nat → Nat) × (Nat → TB)) => True) (fun (u9 : VS × LI × (Nat → Nat → Nat) × (Nat → TB)) (r9 : Nat) t9 => (u9.2.2.1 x.adep 0 = r9 ∧ psR dA ad r la x g AT T u9.1 u9.2.1 u9.2.2.1 u9.2.2.2) ∧ bW D (va_A (VW dA h ad x) sz) (VW dA h ad u9.1) t9) (va_A (VW dA h ad x) sz)) (psC x g) (psS x g) (va_A (VW dA h ad x) sz) := by
  obtain ⟨k1, k2, k3, k4, k5, k6⟩ := hk
  rcases Nat.lt_or_eq_of_le hd with h0 | h0
  · obtain ⟨R, hR⟩ := tbs_x (dA := dA) AT T h0
    have a := sk_pm (L := LiW dA la g) (r := r) (hR AT T (fun _ _ _ => ⟨rfl, rfl⟩))
    have p := llQ2 (dA := dA) (h := h) (ad := ad) (k1.trans a)
    rw [vaA_pm p]
    refine Met_mono (v_push_0 l D dA sz h ad (AT x.adep) (T x.adep) la g (VS.s_ll x (R ++ r)) k2 k3 (by omega) h0 (k6 _ h0)) (Nat.le_of_ble_eq_true rfl) (Nat.zero_le _) (Nat.zero_le _) (Nat.le_of_ble_eq_true rfl) (Nat.zero_le _) (Nat.zero_le _) (fun _ _ q => pC_pm p (pC_e q)) ?_ (fun _ q => q)
    rintro b9 st o9 t9 ⟨⟨u, a9, c1, -, c3, c4⟩, c5⟩
    exact ⟨⟨(VS.s_ll (VS.s_adep x (x.adep + 1)) (TbW dA (AT x.adep) (T x.adep) ++ (LiW dA la g ++ (R ++ r))), g, AT, T), a9, c1, trivial, ⟨c3, rfl, ⟨a.symm, k2, k3, k4, k5, k6⟩, Or.inl ⟨h0, rfl, rfl, rfl⟩⟩, bW_pm (llT2 (VS.s_adep (VS.s_ll x (R ++ r)) (x.adep + 1)) _ _) c4⟩, c5⟩
  · have p := llQ (dA := dA) (h := h) (ad := ad) k1
    rw [vaA_pm p]
    have q1 : psC x g = 6 := if_neg (by omega)
    by_cases h2 : g.sz < g.eN
    · have q2 : psS x g = 589 := by unfold psS; rw [if_neg (by omega), if_pos h2]
      refine Met_mono (v_push_r l D dA sz h ad la g (VS.s_ll x (tbs dA AT T g.sz ++ r)) k2 (by omega) h0 h2) (Nat.le_of_ble_eq_true rfl) (by rw [q1]; exact Nat.le_of_ble_eq_true rfl) (Nat.le_of_eq q2.symm) (Nat.le_of_ble_eq_true rfl) (by rw [q1]; exact Nat.le_of_ble_eq_true rfl) (Nat.le_of_eq q2.symm) (fun _ _ q => pC_pm p (pC_e q)) ?_ (fun _ q => q)
      rintro b9 st o9 t9 ⟨⟨u, a9, c1, -, ⟨c3, c6⟩, c4⟩, c5⟩
      obtain ⟨g9, eg9⟩ : ∃ q, q = LI.s_el (LI.s_mc (LI.s_sz g (g.sz + 1)) (g.mc + 1)) (va_up g.el g.sz (some (u.1 0))) := ⟨_, rfl⟩
      rw [← eg9] at c4
      have z1 : g9.sz = g.sz + 1 := by rw [eg9]
      have z2 : g9.eN = g.eN := by rw [eg9]
      have z3 : g9.el = va_up g.el g.sz (some (u.1 0)) := by rw [eg9]
      refine ⟨⟨(VS.s_ll (VS.s_adep x (x.adep + 1)) (TbW dA u.1 u.2 ++ (LiW dA la g9 ++ (tbs dA AT T g.sz ++ r))), g9, va_up AT g.sz u.1, va_up T g.sz u.2), a9, c1, trivial, ⟨?_, rfl, ⟨?_, k2, ?_, ?_, ?_, ?_⟩, Or.inr ⟨h0, z1, ?_, fun i hi => ⟨va_up_ne _ _ hi, va_up_ne _ _ hi⟩, u.2.cA, ?_⟩⟩, bW_pm (llT2 (VS.s_adep (VS.s_ll x (tbs dA AT T g.sz ++ r)) (x.adep + 1)) _ _) c4⟩, c5⟩
      · show va_up AT g.sz u.1 x.adep 0 = a9
        rw [h0, va_up_self]
        exact c3
      · show (TbW dA u.1 u.2 ++ (LiW dA la g9 ++ (tbs dA AT T g.sz ++ r))).Perm (LiW dA la g9 ++ (tbs dA (va_up AT g.sz u.1) (va_up T g.sz u.2) g9.sz ++ r))
        rw [z1, tbs_up, List.append_assoc]
        exact List.perm_append_comm_assoc _ _ _
      · show g9.sz ≤ g9.eN; omega
      · show g9.eN ≤ 4096; omega
      · show 0 < g9.eN; omega
      · intro i hi
        have hi : i < g9.sz := hi
        show g9.el i = some (va_up AT g.sz u.1 i 0)
        rw [z3]
        by_cases e : i = g.sz
        · subst e; rw [va_up_self, va_up_self]
        · rw [va_up_ne _ _ e, va_up_ne _ _ e]; exact k6 i (by omega)
      · show g9.eN = pgN g
        rw [z2]; exact (if_pos h2).symm
      · show va_up T g.sz u.2 g.sz = _
        rw [va_up_self]; exact c6
    · have q2 : psS x g = 589 + (g.eN + max 1 (g.eN / 2)) := by unfold psS; rw [if_neg (by omega), if_neg h2]
      refine Met_mono (v_push_g l D dA sz e0 mi h ad la g (VS.s_ll x (tbs dA AT T g.sz ++ r)) k2 (by omega) h0 (fun i hi y hy => ?_) k5 (by omega) k4) (Nat.le_of_ble_eq_true rfl) (by rw [q1]; exact Nat.le_of_ble_eq_true rfl) (Nat.le_of_eq q2.symm) (Nat.le_of_ble_eq_true rfl) (by rw [q1]; exact Nat.le_of_ble_eq_true rfl) (Nat.le_of_eq q2.symm) (fun _ _ q => pCy_pm p q) ?_ (fun _ q => q)
      · rw [k6 i (by omega)] at hy
        obtain ⟨vs, hv⟩ := tb_hd (dA := dA) (ta := AT i) (t := T i)
        refine ⟨vs, llm (List.mem_append_left _ (tbs_in (show i < g.sz by omega) _ ?_))⟩
        rw [← Option.some.inj hy]
        exact hv
      rintro b9 st o9 t9 ⟨⟨u, a9, c1, -, ⟨c3, c6⟩, c4⟩, c5⟩
      obtain ⟨g9, eg9⟩ : ∃ q, q = LI.s_el (LI.s_eN (LI.s_eA (LI.s_mc (LI.s_sz g (g.sz + 1)) (g.mc + 1)) u.2.2) (g.eN + max 1 (g.eN / 2))) (va_up (cpF g.el g.eN) g.sz (some (u.1 0))) := ⟨_, rfl⟩
      rw [← eg9] at c4
      have z1 : g9.sz = g.sz + 1 := by rw [eg9]
      have z2 : g9.eN = g.eN + max 1 (g.eN / 2) := by rw [eg9]
      have z3 : g9.el = va_up (cpF g.el g.eN) g.sz (some (u.1 0)) := by rw [eg9]
      refine ⟨⟨(VS.s_ll (VS.s_adep x (x.adep + 1)) (TbW dA u.1 u.2.1 ++ (LiW dA la g9 ++ (tbs dA AT T g.sz ++ r))), g9, va_up AT g.sz u.1, va_up T g.sz u.2.1), a9, c1, trivial, ⟨?_, rfl, ⟨?_, k2, ?_, ?_, ?_, ?_⟩, Or.inr ⟨h0, z1, ?_, fun i hi => ⟨va_up_ne _ _ hi, va_up_ne _ _ hi⟩, u.2.1.cA, ?_⟩⟩, bW_pm (llT2 (VS.s_adep (VS.s_ll x (tbs dA AT T g.sz ++ r)) (x.adep + 1)) _ _) c4⟩, c5⟩
      · show va_up AT g.sz u.1 x.adep 0 = a9
        rw [h0, va_up_self]
        exact c3
      · show (TbW dA u.1 u.2.1 ++ (LiW dA la g9 ++ (tbs dA AT T g.sz ++ r))).Perm (LiW dA la g9 ++ (tbs dA (va_up AT g.sz u.1) (va_up T g.sz u.2.1) g9.sz ++ r))
        rw [z1, tbs_up, List.append_assoc]
        exact List.perm_append_comm_assoc _ _ _
      · show g9.sz ≤ g9.eN; omega
      · show g9.eN ≤ 4096; omega
      · show 0 < g9.eN; omega
      · intro i hi
        have hi : i < g9.sz := hi
        show g9.el i = some (va_up AT g.sz u.1 i 0)
        rw [z3]
        by_cases e : i = g.sz
        · subst e; rw [va_up_self, va_up_self]
        · rw [va_up_ne _ _ e, va_up_ne _ _ e, show cpF g.el g.eN i = g.el i from if_pos (show i < g.eN by omega)]; exact k6 i (by omega)
      · show g9.eN = pgN g
        rw [z2]; exact (if_neg h2).symm
      · show va_up T g.sz u.2.1 g.sz = _
        rw [va_up_self]; exact c6
end
section
/-! Two tables joined: the ends. -/
theorem jt_a {sg : Int32} {NL : Nat → List Int32} {RS RU : Nat → List LB} {t u : TB} (h : t.nc = 0) : jnT sg NL RS RU t u 0 = TB.j0 sg t u := by
  unfold jnT; rw [if_pos rfl, if_pos h]
theorem jt_s {sg : Int32} {NL : Nat → List Int32} {RS RU : Nat → List LB} {t u : TB} (h : ¬ t.nc = 0) : jnT sg NL RS RU t u 0 = TB.jm sg NL t u RS RU := by
  unfold jnT; rw [if_pos rfl, if_neg h]
theorem jt_l0 {sg : Int32} {NL : Nat → List Int32} {RS RU : Nat → List LB} {t u : TB} (h : u.rc = 0) : jnT sg NL RS RU t u 1 = TB.de (TB.s_rc t 0) := by
  unfold jnT; rw [if_neg (by decide), if_pos rfl, if_pos h]
theorem jt_l {sg : Int32} {NL : Nat → List Int32} {RS RU : Nat → List LB} {t u : TB} (h : ¬ u.rc = 0) : jnT sg NL RS RU t u 1 = (jsL sg t u t.rc).de := by
  unfold jnT; rw [if_neg (by decide), if_pos rfl, if_neg h]
theorem jt_r0 {sg : Int32} {NL : Nat → List Int32} {RS RU : Nat → List LB} {t u : TB} (h : t.rc = 0) : jnT sg NL RS RU t u 2 = TB.de (TB.s_rc u 0) := by
  unfold jnT; rw [if_neg (by decide), if_neg (by decide), if_pos h]
theorem jt_r {sg : Int32} {NL : Nat → List Int32} {RS RU : Nat → List LB} {t u : TB} (h : ¬ t.rc = 0) : jnT sg NL RS RU t u 2 = (jsR sg u t u.rc).de := by
  unfold jnT; rw [if_neg (by decide), if_neg (by decide), if_neg h]
section JZ
variable {dA : Nat → ClassId} {ad : Nat → Nat} {r : va_W} {x : VS} {la : Nat → Nat} {g : LI} {AT : Nat → Nat → Nat} {T : Nat → TB} {R : va_W} {sg : Int32} {NL NR : Nat → List Int32} {RS RU : Nat → List LB}
/-- the left one changed -/
theorem jW_l (hk : skP dA ad r x la g AT T) (hd : 2 ≤ x.adep) (hR : ∀ (AT' : Nat → Nat → Nat) (T' : Nat → TB), (∀ k, k < g.sz → k ≠ x.adep - 2 → k ≠ x.adep - 1 → AT' k = AT k ∧ T' k = T k) → (tbs dA AT' T' g.sz).Perm (TbW dA (AT' (x.adep - 2)) (T' (x.adep - 2)) ++ (TbW dA (AT' (x.adep - 1)) (T' (x.adep - 1)) ++ R))) (v : TB) : skP dA ad r (VS.s_ll (VS.s_adep x (x.adep - 1)) (TbW dA (AT (x.adep - 2)) v ++ (TbW dA (AT (x.adep - 1)) (T (x.adep - 1)) ++ (LiW dA la g ++ (R ++ r))))) la g AT (va_up T (x.adep - 2) v) := by
  obtain ⟨k1, k2, k3, k4, k5, k6⟩ := hk
  have b := sk_pm2 (L := LiW dA la g) (r := r) (hR AT (va_up T (x.adep - 2) v) (fun k _ hk _ => ⟨rfl, va_up_ne _ _ hk⟩))
  rw [va_up_self, va_up_ne _ _ (show x.adep - 1 ≠ x.adep - 2 by omega)] at b
  exact ⟨b.symm, k2, k3, k4, k5, k6⟩
theorem jZ_l (hk : skP dA ad r x la g AT T) (hd : 2 ≤ x.adep) (hR : ∀ (AT' : Nat → Nat → Nat) (T' : Nat → TB), (∀ k, k < g.sz → k ≠ x.adep - 2 → k ≠ x.adep - 1 → AT' k = AT k ∧ T' k = T k) → (tbs dA AT' T' g.sz).Perm (TbW dA (AT' (x.adep - 2)) (T' (x.adep - 2)) ++ (TbW dA (AT' (x.adep - 1)) (T' (x.adep - 1)) ++ R))) {v : TB} {k : Nat} (hk1 : k ≤ 1) (hc : jnC NL NR (T (x.adep - 2)) (T (x.adep - 1)) = k) (hv : v = jnT sg NL RS RU (T (x.adep - 2)) (T (x.adep - 1)) k) : jnZ dA ad r la sg NL NR RS RU x g AT T (VS.s_ll (VS.s_adep x (x.adep - 1)) (TbW dA (AT (x.adep - 2)) v ++ (TbW dA (AT (x.adep - 1)) (T (x.adep - 1)) ++ (LiW dA la g ++ (R ++ r))))) g AT (va_up T (x.adep - 2) v) := by
  refine ⟨rfl, jW_l hk hd hR v, rfl, rfl, ?_, ?_, ?_⟩
  · intro _; rw [hc]; exact ⟨rfl, by rw [hv]⟩
  · intro q; rw [hc] at q; omega
  · intro q; rw [hc] at q; omega
/-- nothing changed -/
theorem jZ_n (hk : skP dA ad r x la g AT T) (hR : ∀ (AT' : Nat → Nat → Nat) (T' : Nat → TB), (∀ k, k < g.sz → k ≠ x.adep - 2 → k ≠ x.adep - 1 → AT' k = AT k ∧ T' k = T k) → (tbs dA AT' T' g.sz).Perm (TbW dA (AT' (x.adep - 2)) (T' (x.adep - 2)) ++ (TbW dA (AT' (x.adep - 1)) (T' (x.adep - 1)) ++ R))) (hc : jnC NL NR (T (x.adep - 2)) (T (x.adep - 1)) = 3) : jnZ dA ad r la sg NL NR RS RU x g AT T (VS.s_ll (VS.s_adep x (x.adep - 1)) (TbW dA (AT (x.adep - 2)) (T (x.adep - 2)) ++ (TbW dA (AT (x.adep - 1)) (T (x.adep - 1)) ++ (LiW dA la g ++ (R ++ r))))) g AT T := by
  obtain ⟨k1, k2, k3, k4, k5, k6⟩ := hk
  have b := sk_pm2 (L := LiW dA la g) (r := r) (hR AT T (fun k _ _ _ => ⟨rfl, rfl⟩))
  refine ⟨rfl, ⟨b.symm, k2, k3, k4, k5, k6⟩, rfl, rfl, ?_, ?_, fun _ => ⟨rfl, rfl⟩⟩
  · intro q; rw [hc] at q; omega
  · intro q; rw [hc] at q; omega
/-- the right one changed, the two change places -/
theorem jZ_r (hk : skP dA ad r x la g AT T) (hd : 2 ≤ x.adep) (hd2 : x.adep ≤ g.sz) (hR : ∀ (AT' : Nat → Nat → Nat) (T' : Nat → TB), (∀ k, k < g.sz → k ≠ x.adep - 2 → k ≠ x.adep - 1 → AT' k = AT k ∧ T' k = T k) → (tbs dA AT' T' g.sz).Perm (TbW dA (AT' (x.adep - 2)) (T' (x.adep - 2)) ++ (TbW dA (AT' (x.adep - 1)) (T' (x.adep - 1)) ++ R))) {v : TB} {g' : LI} (hg1 : g'.sz = g.sz) (hg2 : g'.eN = g.eN) (hg3 : g'.el = va_up (va_up g.el (x.adep - 1 - 1) (some (AT (x.adep - 1) 0))) (x.adep - 1) (some (AT (x.adep - 2) 0))) (hc : jnC NL NR (T (x.adep - 2)) (T (x.adep - 1)) = 2) (hv : v = jnT sg NL RS RU (T (x.adep - 2)) (T (x.adep - 1)) 2) : jnZ dA ad r la sg NL NR RS RU x g AT T (VS.s_ll (VS.s_adep x (x.adep - 1)) (TbW dA (AT (x.adep - 2)) (T (x.adep - 2)) ++ (TbW dA (AT (x.adep - 1)) v ++ (LiW dA la g' ++ (R ++ r))))) g' (va_up (va_up AT (x.adep - 2) (AT (x.adep - 1))) (x.adep - 1) (AT (x.adep - 2))) (va_up (va_up T (x.adep - 2) v) (x.adep - 1) (T (x.adep - 2))) := by
  obtain ⟨k1, k2, k3, k4, k5, k6⟩ := hk
  have ne : x.adep - 2 ≠ x.adep - 1 := by omega
  have b := sk_pm2 (L := LiW dA la g') (r := r) (hR (va_up (va_up AT (x.adep - 2) (AT (x.adep - 1))) (x.adep - 1) (AT (x.adep - 2))) (va_up (va_up T (x.adep - 2) v) (x.adep - 1) (T (x.adep - 2))) (fun k _ h1 h2 => ⟨(va_up_ne _ _ h2).trans (va_up_ne _ _ h1), (va_up_ne _ _ h2).trans (va_up_ne _ _ h1)⟩))
  rw [va_up_self, va_up_self, va_up_ne _ _ ne, va_up_self, va_up_ne _ _ ne, va_up_self] at b
  refine ⟨rfl, ⟨?_, k2, by omega, by omega, by omega, ?_⟩, hg1, hg2, ?_, ?_, ?_⟩
  · rw [hg1]
    exact (List.perm_append_comm_assoc _ _ _).trans b.symm
  · intro i hi
    rw [hg3]
    by_cases e : i = x.adep - 1
    · subst e; rw [va_up_self, va_up_self]
    · rw [va_up_ne _ _ e, va_up_ne _ _ e]
      by_cases e2 : i = x.adep - 2
      · rw [show x.adep - 1 - 1 = x.adep - 2 by omega]
        subst e2; rw [va_up_self, va_up_self]
      · rw [va_up_ne _ _ (show i ≠ x.adep - 1 - 1 by omega), va_up_ne _ _ e2]
        exact k6 i (by omega)
  · intro q; rw [hc] at q; omega
  · intro _; rw [hc]; exact ⟨rfl, by rw [hv]⟩
  · intro q; rw [hc] at q; omega
end JZ
theorem v_joinW (l : Launch) (D : va_G) (dA : Nat → ClassId) (sz : Nat) (h : Nat) (ad : Nat → Nat) (x : VS) (la : Nat → Nat) (g : LI) (AT : Nat → Nat → Nat) (T : Nat → TB) (r : va_W) (sg : Int32) (NL : Nat → List Int32) (NR : Nat → List Int32) (RS : Nat → List LB) (RU : Nat → List LB) (wi : Nat) (hk : skP dA ad r x la g AT T) (hd : 2 ≤ x.adep) (hd2 : x.adep ≤ g.sz) (hop : isOp sg) (ht : tbK dA x.pl wi (T (x.adep - 2)) NL RS) (hu : tbK dA x.pl wi (T (x.adep - 1)) NR RU) : Met l ⟨"SeriesVault$Answers", "join", "(I)Z"⟩ [Cond.code ⟨"SeriesVault$Answers", "join", "(I)Z"⟩ prog_2_method_5_code 4 (some FieldType.boolean)] { frames := 5, cells := 0, slots := 0, locals := 109 } (pC D dA [.ref (ad 24), .int sg] (VW dA h ad x) sz) (va_Qi (fun (r9 : Int32) (u9 : VS × LI × (Nat → Nat → Nat) × (Nat → TB)) => r9 = (if jnC NL NR (T (x.adep - 2)) (T (x.adep - 1)) = 3 then 0 else 1) ∧ jnZ dA ad r la sg NL NR RS RU x g AT T u9.1 u9.2.1 u9.2.2.1 u9.2.2.2) (fun (u9 : VS × LI × (Nat → Nat → Nat) × (Nat → TB)) t9 => bW D (va_A (VW dA h ad x) sz) (VW dA h ad u9.1) t9) (va_A (VW dA h ad x) sz)) 0 0 (va_A (VW dA h ad x) sz) := by
  have hkc := hk
  obtain ⟨k1, k2, k3, k4, k5, k6⟩ := hkc
  obtain ⟨R, hR⟩ := tbs_x2 (dA := dA) AT T (show x.adep - 2 ≠ x.adep - 1 by omega) (n := g.sz) (by omega) (by omega)
  have a := sk_pm2 (L := LiW dA la g) (r := r) (hR AT T (fun _ _ _ _ => ⟨rfl, rfl⟩))
  have p := llQ3 (dA := dA) (h := h) (ad := ad) (k1.trans a)
  rw [vaA_pm p]
  obtain ⟨n1, c1, r1, a1, m1, w1, l1, b1, o1⟩ := ht
  obtain ⟨n2, c2, r2, a2, m2, w2, l2, b2, o2⟩ := hu
  cases hn : namB NL NR (T (x.adep - 2)).nc (T (x.adep - 1)).nc with
  | true =>
    have en := nam_nc hn
    by_cases z0 : (T (x.adep - 2)).nc = 0
    · have o1 := o1 z0
      have o2 := o2 (en.symm.trans z0)
      rcases Nat.lt_or_ge 0 (T (x.adep - 2)).rc with z1 | z1
      · have z1 : (T (x.adep - 2)).rc = 1 := by omega
        rcases Nat.lt_or_ge 0 (T (x.adep - 1)).rc with z2 | z2
        · have z2 : (T (x.adep - 1)).rc = 1 := by omega
          rw [z1, Nat.one_mul] at l1
          rw [z2, Nat.one_mul, w2] at l2
          refine Met_mono (v_Ajoin_c l D dA sz h ad (AT (x.adep - 2)) (T (x.adep - 2)) (AT (x.adep - 1)) (T (x.adep - 1)) la g (VS.s_ll x (R ++ r)) sg NL NR k2 k3 (by omega) hd hd2 (k6 (x.adep - 2) (by omega)) (k6 (x.adep - 1) (by omega)) n1 n2 c1 c2 hn b1 a1 hop b2 z0 z1 z2 l1 (by rw [w1]; exact l2) (w2.trans w1.symm)) (Nat.le_of_ble_eq_true rfl) (Nat.le_refl _) (Nat.le_refl _) (Nat.le_of_ble_eq_true rfl) (Nat.le_refl _) (Nat.le_refl _) (fun _ _ q => pC_pm p q) ?_ (fun _ q => q)
          rintro b9 st o9 t9 ⟨⟨rr, u, d1, ⟨d2, d3⟩, d4⟩, d5⟩
          exact ⟨⟨rr, (_, g, AT, va_up T (x.adep - 2) u), d1, ⟨by rw [(jc_0 hn)]; exact d2, jZ_l hk hd hR (k := 0) (by decide) (jc_0 hn) (d3.trans (jt_a z0).symm)⟩, bW_pm (llT3 (VS.s_adep (VS.s_ll x (R ++ r)) (x.adep - 1)) _ _ _) d4⟩, d5⟩
        · refine Met_mono (v_Ajoin_b l D dA sz h ad (AT (x.adep - 2)) (T (x.adep - 2)) (AT (x.adep - 1)) (T (x.adep - 1)) la g (VS.s_ll x (R ++ r)) sg NL NR k2 k3 (by omega) hd hd2 (k6 (x.adep - 2) (by omega)) (k6 (x.adep - 1) (by omega)) n1 n2 c1 c2 hn b1 a1 z1 (by omega)) (Nat.le_of_ble_eq_true rfl) (Nat.le_refl _) (Nat.le_refl _) (Nat.le_of_ble_eq_true rfl) (Nat.le_refl _) (Nat.le_refl _) (fun _ _ q => pC_pm p q) ?_ (fun _ q => q)
          rintro b9 st o9 t9 ⟨⟨rr, u, d1, ⟨d2, d3⟩, d4⟩, d5⟩
          exact ⟨⟨rr, (_, g, AT, va_up T (x.adep - 2) u), d1, ⟨by rw [(jc_0 hn)]; exact d2, jZ_l hk hd hR (k := 0) (by decide) (jc_0 hn) (d3.trans (jt_a z0).symm)⟩, bW_pm (llT3 (VS.s_adep (VS.s_ll x (R ++ r)) (x.adep - 1)) _ _ _) d4⟩, d5⟩
      · refine Met_mono (v_Ajoin_a l D dA sz h ad (AT (x.adep - 2)) (T (x.adep - 2)) (AT (x.adep - 1)) (T (x.adep - 1)) la g (VS.s_ll x (R ++ r)) sg NL NR k2 k3 (by omega) hd hd2 (k6 (x.adep - 2) (by omega)) (k6 (x.adep - 1) (by omega)) n1 n2 c1 c2 hn b1 a1 (by omega)) (Nat.le_of_ble_eq_true rfl) (Nat.le_refl _) (Nat.le_refl _) (Nat.le_of_ble_eq_true rfl) (Nat.le_refl _) (Nat.le_refl _) (fun _ _ q => pC_pm p q) ?_ (fun _ q => q)
        rintro b9 st o9 t9 ⟨⟨rr, u, d1, ⟨d2, d3⟩, d4⟩, d5⟩
        exact ⟨⟨rr, (_, g, AT, va_up T (x.adep - 2) u), d1, ⟨by rw [(jc_0 hn)]; exact d2, jZ_l hk hd hR (k := 0) (by decide) (jc_0 hn) (d3.trans (jt_a z0).symm)⟩, bW_pm (llT3 (VS.s_adep (VS.s_ll x (R ++ r)) (x.adep - 1)) _ _ _) d4⟩, d5⟩
    · refine Met_mono (v_Ajoin_s l D dA sz h ad (AT (x.adep - 2)) (T (x.adep - 2)) (AT (x.adep - 1)) (T (x.adep - 1)) la g (VS.s_ll x (R ++ r)) sg NL NR RS RU k2 k3 (by omega) hd hd2 (k6 (x.adep - 2) (by omega)) (k6 (x.adep - 1) (by omega)) n1 n2 c1 c2 hn hop b1 b2 (w2.trans w1.symm) l1 m1 l2 m2 a1 (r1 (by omega)) (r2 (by omega))) (Nat.le_of_ble_eq_true rfl) (Nat.le_refl _) (Nat.le_refl _) (Nat.le_of_ble_eq_true rfl) (Nat.le_refl _) (Nat.le_refl _) (fun _ _ q => pC_pm p q) ?_ (fun _ q => q)
      rintro b9 st o9 t9 ⟨⟨rr, u, d1, ⟨d2, d3⟩, d4⟩, d5⟩
      exact ⟨⟨rr, (_, g, AT, va_up T (x.adep - 2) u), d1, ⟨by rw [(jc_0 hn)]; exact d2, jZ_l hk hd hR (k := 0) (by decide) (jc_0 hn) (d3.trans (jt_s z0).symm)⟩, bW_pm (llT3 (VS.s_adep (VS.s_ll x (R ++ r)) (x.adep - 1)) _ _ _) d4⟩, d5⟩
  | false =>
    by_cases hu0 : (T (x.adep - 1)).nc = 0
    · by_cases z2 : (T (x.adep - 1)).rc = 0
      · refine Met_mono (v_Ajoin_l0 l D dA sz h ad (AT (x.adep - 2)) (T (x.adep - 2)) (AT (x.adep - 1)) (T (x.adep - 1)) la g (VS.s_ll x (R ++ r)) sg NL NR k2 k3 (by omega) hd hd2 (k6 (x.adep - 2) (by omega)) (k6 (x.adep - 1) (by omega)) n1 n2 c1 c2 hn hu0 b1 a1 z2) (Nat.le_of_ble_eq_true rfl) (Nat.le_refl _) (Nat.le_refl _) (Nat.le_of_ble_eq_true rfl) (Nat.le_refl _) (Nat.le_refl _) (fun _ _ q => pC_pm p q) ?_ (fun _ q => q)
        rintro b9 st o9 t9 ⟨⟨rr, u, d1, ⟨d2, d3⟩, d4⟩, d5⟩
        exact ⟨⟨rr, (_, g, AT, va_up T (x.adep - 2) u), d1, ⟨by rw [(jc_1 hn hu0)]; exact d2, jZ_l hk hd hR (k := 1) (by decide) (jc_1 hn hu0) (d3.trans (jt_l0 z2).symm)⟩, bW_pm (llT3 (VS.s_adep (VS.s_ll x (R ++ r)) (x.adep - 1)) _ _ _) d4⟩, d5⟩
      · refine Met_mono (v_Ajoin_l l D dA sz h ad (AT (x.adep - 2)) (T (x.adep - 2)) (AT (x.adep - 1)) (T (x.adep - 1)) la g (VS.s_ll x (R ++ r)) sg NL NR k2 k3 (by omega) hd hd2 (k6 (x.adep - 2) (by omega)) (k6 (x.adep - 1) (by omega)) n1 n2 c1 c2 hn hu0 hop b1 b2 (w2.trans w1.symm) l1 m1 l2 m2 a1 z2) (Nat.le_of_ble_eq_true rfl) (Nat.le_refl _) (Nat.le_refl _) (Nat.le_of_ble_eq_true rfl) (Nat.le_refl _) (Nat.le_refl _) (fun _ _ q => pC_pm p q) ?_ (fun _ q => q)
        rintro b9 st o9 t9 ⟨⟨rr, u, d1, ⟨d2, d3⟩, d4⟩, d5⟩
        exact ⟨⟨rr, (_, g, AT, va_up T (x.adep - 2) u), d1, ⟨by rw [(jc_1 hn hu0)]; exact d2, jZ_l hk hd hR (k := 1) (by decide) (jc_1 hn hu0) (d3.trans (jt_l z2).symm)⟩, bW_pm (llT3 (VS.s_adep (VS.s_ll x (R ++ r)) (x.adep - 1)) _ _ _) d4⟩, d5⟩
    · by_cases ht0 : (T (x.adep - 2)).nc = 0
      · by_cases z1 : (T (x.adep - 2)).rc = 0
        · refine Met_mono (v_Ajoin_r0 l D dA sz h ad (AT (x.adep - 2)) (T (x.adep - 2)) (AT (x.adep - 1)) (T (x.adep - 1)) la g (VS.s_ll x (R ++ r)) sg NL NR k2 k3 (by omega) hd hd2 (k6 (x.adep - 2) (by omega)) (k6 (x.adep - 1) (by omega)) n1 n2 c1 c2 hn hu0 ht0 b2 a2 z1) (Nat.le_of_ble_eq_true rfl) (Nat.le_refl _) (Nat.le_refl _) (Nat.le_of_ble_eq_true rfl) (Nat.le_refl _) (Nat.le_refl _) (fun _ _ q => pC_pm p q) ?_ (fun _ q => q)
          rintro b9 st o9 t9 ⟨⟨rr, u, d1, ⟨d2, d3⟩, d4⟩, d5⟩
          exact ⟨⟨rr, (_, LI.s_el g (va_up (va_up g.el (x.adep - 1 - 1) (some (AT (x.adep - 1) 0))) (x.adep - 1) (some (AT (x.adep - 2) 0))), va_up (va_up AT (x.adep - 2) (AT (x.adep - 1))) (x.adep - 1) (AT (x.adep - 2)), va_up (va_up T (x.adep - 2) u) (x.adep - 1) (T (x.adep - 2))), d1, ⟨by rw [jc_2 hn hu0 ht0]; exact d2, jZ_r hk hd hd2 hR rfl rfl rfl (jc_2 hn hu0 ht0) (d3.trans (jt_r0 z1).symm)⟩, bW_pm (llT3 (VS.s_adep (VS.s_ll x (R ++ r)) (x.adep - 1)) _ _ _) d4⟩, d5⟩
        · refine Met_mono (v_Ajoin_r l D dA sz h ad (AT (x.adep - 2)) (T (x.adep - 2)) (AT (x.adep - 1)) (T (x.adep - 1)) la g (VS.s_ll x (R ++ r)) sg NL NR k2 k3 (by omega) hd hd2 (k6 (x.adep - 2) (by omega)) (k6 (x.adep - 1) (by omega)) n1 n2 c1 c2 hn hu0 ht0 hop b1 b2 (w2.trans w1.symm) l1 m1 l2 m2 a2 z1) (Nat.le_of_ble_eq_true rfl) (Nat.le_refl _) (Nat.le_refl _) (Nat.le_of_ble_eq_true rfl) (Nat.le_refl _) (Nat.le_refl _) (fun _ _ q => pC_pm p q) ?_ (fun _ q => q)
          rintro b9 st o9 t9 ⟨⟨rr, u, d1, ⟨d2, d3⟩, d4⟩, d5⟩
          exact ⟨⟨rr, (_, LI.s_el g (va_up (va_up g.el (x.adep - 1 - 1) (some (AT (x.adep - 1) 0))) (x.adep - 1) (some (AT (x.adep - 2) 0))), va_up (va_up AT (x.adep - 2) (AT (x.adep - 1))) (x.adep - 1) (AT (x.adep - 2)), va_up (va_up T (x.adep - 2) u) (x.adep - 1) (T (x.adep - 2))), d1, ⟨by rw [jc_2 hn hu0 ht0]; exact d2, jZ_r hk hd hd2 hR rfl rfl rfl (jc_2 hn hu0 ht0) (d3.trans (jt_r z1).symm)⟩, bW_pm (llT3 (VS.s_adep (VS.s_ll x (R ++ r)) (x.adep - 1)) _ _ _) d4⟩, d5⟩
      · refine Met_mono (v_Ajoin_n l D dA sz h ad (AT (x.adep - 2)) (T (x.adep - 2)) (AT (x.adep - 1)) (T (x.adep - 1)) la g (VS.s_ll x (R ++ r)) sg NL NR k2 k3 (by omega) hd hd2 (k6 (x.adep - 2) (by omega)) (k6 (x.adep - 1) (by omega)) n1 n2 c1 c2 hn hu0 ht0) (Nat.le_of_ble_eq_true rfl) (Nat.le_refl _) (Nat.le_refl _) (Nat.le_of_ble_eq_true rfl) (Nat.le_refl _) (Nat.le_refl _) (fun _ _ q => pC_pm p q) ?_ (fun _ q => q)
        rintro b9 st o9 t9 ⟨⟨rr, u, d1, d2, d4⟩, d5⟩
        exact ⟨⟨rr, (_, g, AT, T), d1, ⟨by rw [jc_3 hn hu0 ht0]; exact d2, jZ_n hk hR (jc_3 hn hu0 ht0)⟩, bW_pm (llT3 (VS.s_adep (VS.s_ll x (R ++ r)) (x.adep - 1)) _ _ _) d4⟩, d5⟩
end
section
/-- only what answers is other -/
def VS.akS (x y : VS) : VS := VS.s_ll (VS.s_bO (VS.s_bT (VS.s_bN (VS.s_bA (VS.s_abf (VS.s_ahb (VS.s_aro (VS.s_adep x y.adep) y.aro) y.ahb) y.abf) y.bA) y.bN) y.bT) y.bO) y.ll
def VS.ak (x y : VS) : Prop := y = x.akS y
theorem ak_rf (x : VS) : x.ak x := rfl
theorem ak_t {x y z : VS} (h1 : x.ak y) (h2 : y.ak z) : x.ak z := by
  unfold VS.ak at *
  rw [h2, h1]
  rfl
theorem ak_f {x y : VS} (h : x.ak y) : y.pl = x.pl ∧ y.kn = x.kn ∧ y.nser = x.nser ∧ y.awi = x.awi ∧ y.afr = x.afr ∧ y.awd = x.awd ∧ y.nP = x.nP ∧ y.npc = x.npc ∧ y.nsc = x.nsc ∧ y.nsO = x.nsO ∧ y.hsize = x.hsize ∧ y.hN = x.hN ∧ y.hO = x.hO ∧ y.hT = x.hT := by
  have h : y = x.akS y := h
  exact ⟨(congrArg VS.pl h).trans (rfl : (x.akS y).pl = x.pl), (congrArg VS.kn h).trans (rfl : (x.akS y).kn = x.kn), (congrArg VS.nser h).trans (rfl : (x.akS y).nser = x.nser), (congrArg VS.awi h).trans (rfl : (x.akS y).awi = x.awi), (congrArg VS.afr h).trans (rfl : (x.akS y).afr = x.afr), (congrArg VS.awd h).trans (rfl : (x.akS y).awd = x.awd), (congrArg VS.nP h).trans (rfl : (x.akS y).nP = x.nP), (congrArg VS.npc h).trans (rfl : (x.akS y).npc = x.npc), (congrArg VS.nsc h).trans (rfl : (x.akS y).nsc = x.nsc), (congrArg VS.nsO h).trans (rfl : (x.akS y).nsO = x.nsO), (congrArg VS.hsize h).trans (rfl : (x.akS y).hsize = x.hsize), (congrArg VS.hN h).trans (rfl : (x.akS y).hN = x.hN), (congrArg VS.hO h).trans (rfl : (x.akS y).hO = x.hO), (congrArg VS.hT h).trans (rfl : (x.akS y).hT = x.hT)⟩
abbrev SKT : Type := VS × LI × (Nat → Nat → Nat) × (Nat → TB)
section WK
variable (dA : Nat → ClassId) (ad : Nat → Nat) (r : va_W) (la : Nat → Nat) (PS : Nat → PT) (SS : Nat → List LB) (nw : Nat)
def psQ (a m : SKT) : Prop := psR dA ad r la a.1 a.2.1 a.2.2.1 a.2.2.2 m.1 m.2.1 m.2.2.1 m.2.2.2
def skQ (a : SKT) : Prop := skP dA ad r a.1 la a.2.1 a.2.2.1 a.2.2.2
/-- the rest of a step: table d becomes t -/
def skU (m : SKT) (x : VS) (d : Nat) (t : TB) (b : SKT) : Prop := b.1 = VS.s_ll x b.1.ll ∧ b.2.1 = m.2.1 ∧ b.2.2.1 = m.2.2.1 ∧ b.2.2.2 = va_up m.2.2.2 d t ∧ skQ dA ad r la b
/-- what a step does -/
def wkS (s : SP1) (a b : SKT) : Prop :=
  (s.1 = 257 ∧ ∃ m : SKT, psQ dA ad r la a m ∧ skU dA ad r la m m.1 a.1.adep ((m.2.2.2 a.1.adep).num s.2.2.1 nw) b) ∨
  (s.1 = 264 ∧ ∃ (m : SKT) (W : va_W) (v9 : PKT), psQ dA ad r la a m ∧ pkF dA (m.2.2.2 a.1.adep) (VS.s_ll m.1 W) s.2.2.1 s.2.2.2.1 s.2.2.2.2.1 s.2.2.2.2.2.1 s.2.2.2.2.2.2.1 s.2.2.2.2.2.2.2.1 s.2.2.2.2.2.2.2.2 SS PS v9 ∧ skU dA ad r la m (pkY m.1 v9) a.1.adep v9.1 b) ∨
  (s.1 = 265 ∧ skU dA ad r la a a.1 (a.1.adep - 1) (TB.s_ce (a.2.2.2 (a.1.adep - 1)) (tnG (a.2.2.2 (a.1.adep - 1)).ce ((a.2.2.2 (a.1.adep - 1)).rc * (a.2.2.2 (a.1.adep - 1)).wi))) b) ∨
  (isOp s.1 ∧ ∃ (NL NR : Nat → List Int32) (RS RU : Nat → List LB) (wi : Nat), tbK dA a.1.pl wi (a.2.2.2 (a.1.adep - 2)) NL RS ∧ tbK dA a.1.pl wi (a.2.2.2 (a.1.adep - 1)) NR RU ∧ ¬ jnC NL NR (a.2.2.2 (a.1.adep - 2)) (a.2.2.2 (a.1.adep - 1)) = 3 ∧ jnZ dA ad r la s.1 NL NR RS RU a.1 a.2.1 a.2.2.1 a.2.2.2 b.1 b.2.1 b.2.2.1 b.2.2.2)
/-- what a step wants: c0 and s0 have been used, at most c1 and s1 are used behind it -/
def wkO (s : SP1) (c0 c1 s0 s1 : Nat) (a : SKT) : Prop :=
  (s.1 = 257 ∧ a.1.adep ≤ a.2.1.sz ∧ a.2.1.eN ≤ 2048 ∧ c0 + psC a.1 a.2.1 ≤ c1 ∧ s0 + psS a.1 a.2.1 ≤ s1 ∧ ∀ m : SKT, psQ dA ad r la a m → (m.2.2.2 a.1.adep).cN ≤ 65536 ∧ 64 ≤ (m.2.2.2 a.1.adep).cN) ∨
  (s.1 = 264 ∧ a.1.adep ≤ a.2.1.sz ∧ a.2.1.eN ≤ 2048 ∧ s.2.2.2.1 ≤ 6 ∧ isFn s.2.2.1.toInt32 ∧ c0 + psC a.1 a.2.1 + 3 ≤ c1 ∧ s0 + psS a.1 a.2.1 ≤ s1 ∧ ∀ m : SKT, psQ dA ad r la a m → (m.2.2.2 a.1.adep).cN ≤ 65536 ∧ rsAll dA m.1.pl (m.2.2.2 a.1.adep).rs ∧ m.1.bN ≤ 65536 ∧ (∀ k : Nat, m.1.bO k < 256) ∧ s0 + psS a.1 a.2.1 + pkS (pkG s.2.2.2.2.1 s.2.2.2.2.2.1 s.2.2.2.2.2.2.1 s.2.2.2.2.2.2.2.1 s.2.2.2.2.2.2.2.2 SS m.1.kn (TB.s_rc (TB.s_wi (TB.s_nc (m.2.2.2 a.1.adep) s.2.2.2.1) m.1.awi) 0, fun _ => [], m.1.aro, m.1.ahb) m.1.nser).1.rc m.1.awi (m.2.2.2 a.1.adep).cN m.1.bN ≤ s1) ∨
  (s.1 = 265 ∧ 1 ≤ a.1.adep ∧ a.1.adep ≤ a.2.1.sz ∧ (a.2.2.2 (a.1.adep - 1)).cN ≤ 65536 ∧ (a.2.2.2 (a.1.adep - 1)).rc * (a.2.2.2 (a.1.adep - 1)).wi ≤ (a.2.2.2 (a.1.adep - 1)).cN ∧ c0 ≤ c1 ∧ s0 ≤ s1) ∨
  (isOp s.1 ∧ 2 ≤ a.1.adep ∧ a.1.adep ≤ a.2.1.sz ∧ c0 ≤ c1 ∧ s0 ≤ s1 ∧ ∃ (NL NR : Nat → List Int32) (RS RU : Nat → List LB) (wi : Nat), tbK dA a.1.pl wi (a.2.2.2 (a.1.adep - 2)) NL RS ∧ tbK dA a.1.pl wi (a.2.2.2 (a.1.adep - 1)) NR RU ∧ ¬ jnC NL NR (a.2.2.2 (a.1.adep - 2)) (a.2.2.2 (a.1.adep - 1)) = 3)
/-- a step whose tables do not go together -/
def wkX (s : SP1) (a : SKT) : Prop := isOp s.1 ∧ 2 ≤ a.1.adep ∧ a.1.adep ≤ a.2.1.sz ∧ ∃ (NL NR : Nat → List Int32) (RS RU : Nat → List LB) (wi : Nat), tbK dA a.1.pl wi (a.2.2.2 (a.1.adep - 2)) NL RS ∧ tbK dA a.1.pl wi (a.2.2.2 (a.1.adep - 1)) NR RU ∧ jnC NL NR (a.2.2.2 (a.1.adep - 2)) (a.2.2.2 (a.1.adep - 1)) = 3
def wkR (S : List SP1) (a0 : SKT) : Nat → SKT → Prop
  | 0, a => a = a0
  | i + 1, a => ∃ b : SKT, wkR S a0 i b ∧ wkS dA ad r la PS SS nw (S.getD i (spO 0 0 0)) b a
end WK
section WK2
variable {dA : Nat → ClassId} {ad : Nat → Nat} {r : va_W} {la : Nat → Nat} {PS : Nat → PT} {SS : Nat → List LB} {nw : Nat}
theorem ll_k {x y : VS} (h : y = VS.s_ll x y.ll) : x.ak y := by
  obtain ⟨L, hL⟩ : ∃ L, L = y.ll := ⟨_, rfl⟩
  rw [← hL] at h
  subst h
  rfl
theorem ps_k {a m : SKT} (h : psQ dA ad r la a m) : a.1.ak m.1 := by
  obtain ⟨L, hL⟩ : ∃ L, L = m.1.ll := ⟨_, rfl⟩
  have h1 := h.1
  rw [← hL] at h1
  rw [h1]
  rfl
theorem pkY_k (x : VS) (v : PKT) : x.ak (pkY x v) := rfl
theorem jn_k {sg : Int32} {NL NR : Nat → List Int32} {RS RU : Nat → List LB} {a b : SKT} (h : jnZ dA ad r la sg NL NR RS RU a.1 a.2.1 a.2.2.1 a.2.2.2 b.1 b.2.1 b.2.2.1 b.2.2.2) : a.1.ak b.1 := by
  obtain ⟨L, hL⟩ : ∃ L, L = b.1.ll := ⟨_, rfl⟩
  have h1 := h.1
  rw [← hL] at h1
  rw [h1]
  rfl
theorem wkS_k {s : SP1} {a b : SKT} (h : wkS dA ad r la PS SS nw s a b) : a.1.ak b.1 ∧ skQ dA ad r la b := by
  rcases h with ⟨-, m, h1, h2⟩ | ⟨-, m, W, v9, h1, -, h2⟩ | ⟨-, h2⟩ | ⟨-, NL, NR, RS, RU, wi, -, -, -, h2⟩
  · exact ⟨ak_t (ps_k h1) (ll_k h2.1), h2.2.2.2.2⟩
  · exact ⟨ak_t (ps_k h1) (ak_t (pkY_k m.1 v9) (ll_k h2.1)), h2.2.2.2.2⟩
  · exact ⟨ll_k h2.1, h2.2.2.2.2⟩
  · exact ⟨jn_k h2, h2.2.1⟩
theorem wk_k {S : List SP1} {a0 : SKT} (h0 : skQ dA ad r la a0) : ∀ {i : Nat} {a : SKT}, wkR dA ad r la PS SS nw S a0 i a → a0.1.ak a.1 ∧ skQ dA ad r la a
  | 0, a, h => by
    rw [show a = a0 from h]
    exact ⟨ak_rf _, h0⟩
  | i + 1, a, h => by
    obtain ⟨b, h1, h2⟩ := h
    have k1 := wk_k h0 h1
    have k2 := wkS_k h2
    exact ⟨ak_t k1.1 k2.1, k2.2⟩
theorem lswJ {z : Int32} (h : isOp z) : Op.lookupswitch.offset [(257, 35), (264, 52), (265, 69)] 91 z.toInt = 91 := by
  rcases h with h | h | h | h | h <;> subst h <;> decide
end WK2
end
section
theorem v_getW (l : Launch) (D : va_G) (dA : Nat → ClassId) (sz : Nat) (h : Nat) (ad : Nat → Nat) (x : VS) (la : Nat → Nat) (g : LI) (AT : Nat → Nat → Nat) (T : Nat → TB) (r : va_W) (i : Nat) (hk : skP dA ad r x la g AT T) (hi : i < g.sz) : Met l ⟨"java/util/ArrayList", "get", "(I)Ljava/lang/Object;"⟩ [Cond.code ⟨"java/util/ArrayList", "get", "(I)Ljava/lang/Object;"⟩ prog_37_method_20_code 2 (some (FieldType.object "java/lang/Object"))] { frames := 3, cells := 0, slots := 0, locals := 43 } (pC D dA [.ref (la 0), .int (nI i)] (VW dA h ad x) sz) (va_Qr (fun (_ : Unit) => True) (fun (u9 : Unit) (r9 : Nat) t9 => (AT i 0 = r9) ∧ bW D (va_A (VW dA h ad x) sz) (VW dA h ad x) t9) (va_A (VW dA h ad x) sz)) 0 0 (va_A (VW dA h ad x) sz) := by
  obtain ⟨k1, k2, k3, k4, k5, k6⟩ := hk
  have p := llQ (dA := dA) (h := h) (ad := ad) k1
  rw [vaA_pm p]
  refine Met_mono (v_Lget l D dA sz (VW dA h ad (VS.s_ll x (tbs dA AT T g.sz ++ r))) la g i (AT i 0) k3 (by omega) hi (k6 i hi)) (Nat.le_refl _) (Nat.le_refl _) (Nat.le_refl _) (Nat.le_refl _) (Nat.le_refl _) (Nat.le_refl _) (fun _ _ q => pC_pm p q) ?_ (fun _ q => q)
  rintro b9 st o9 t9 ⟨⟨u, a9, c1, -, c3, c4⟩, c5⟩
  exact ⟨⟨(), a9, c1, trivial, c3, bW_pm p.symm c4⟩, c5⟩
theorem sk_m {dA : Nat → ClassId} {ad : Nat → Nat} {r : va_W} {x : VS} {la : Nat → Nat} {g : LI} {AT : Nat → Nat → Nat} {T : Nat → TB} {i : Nat} (hk : skP dA ad r x la g AT T) (hi : i < g.sz) : ∃ vs : List Value, (AT i 0, .inr (8, vs)) ∈ x.ll := by
  obtain ⟨vs, hv⟩ := tb_hd (dA := dA) (ta := AT i) (t := T i)
  exact ⟨vs, hk.1.mem_iff.mpr (List.mem_append_right _ (List.mem_append_left _ (tbs_in hi _ hv)))⟩
theorem sk_l {dA : Nat → ClassId} {ad : Nat → Nat} {r : va_W} {x : VS} {la : Nat → Nat} {g : LI} {AT : Nat → Nat → Nat} {T : Nat → TB} (hk : skP dA ad r x la g AT T) : ∃ vs : List Value, (la 0, .inr (6, vs)) ∈ x.ll := ⟨[.ref g.eA, .int (nI g.sz), .int g.mc], hk.1.mem_iff.mpr (List.mem_append_left _ (List.mem_of_getElem? (i := 0) rfl))⟩
def VS.wk0 (x : VS) (fr wd : Int64) (nw : Nat) : VS := VS.s_awi (VS.s_awd (VS.s_afr (VS.s_adep x 0) fr) wd) nw
theorem d_A_work_0 : decode prog_2_method_3_code 0 = .ok (.aload_n 0, 1) := by decide +kernel
theorem d_A_work_1 : decode prog_2_method_3_code 1 = .ok (.lload 5, 2) := by decide +kernel
theorem d_A_work_3 : decode prog_2_method_3_code 3 = .ok (.putfield 47, 3) := by decide +kernel
theorem d_A_work_6 : decode prog_2_method_3_code 6 = .ok (.aload_n 0, 1) := by decide +kernel
theorem d_A_work_7 : decode prog_2_method_3_code 7 = .ok (.lload 7, 2) := by decide +kernel
theorem d_A_work_9 : decode prog_2_method_3_code 9 = .ok (.putfield 51, 3) := by decide +kernel
theorem d_A_work_12 : decode prog_2_method_3_code 12 = .ok (.aload_n 0, 1) := by decide +kernel
theorem d_A_work_13 : decode prog_2_method_3_code 13 = .ok (.iload 9, 2) := by decide +kernel
theorem d_A_work_15 : decode prog_2_method_3_code 15 = .ok (.putfield 54, 3) := by decide +kernel
theorem d_A_work_18 : decode prog_2_method_3_code 18 = .ok (.aload_n 0, 1) := by decide +kernel
theorem d_A_work_19 : decode prog_2_method_3_code 19 = .ok (.iconst 0, 1) := by decide +kernel
theorem d_A_work_20 : decode prog_2_method_3_code 20 = .ok (.putfield 58, 3) := by decide +kernel
theorem d_A_work_23 : decode prog_2_method_3_code 23 = .ok (.iconst 0, 1) := by decide +kernel
theorem d_A_work_24 : decode prog_2_method_3_code 24 = .ok (.istore 10, 2) := by decide +kernel
theorem d_A_work_26 : decode prog_2_method_3_code 26 = .ok (.iload 10, 2) := by decide +kernel
theorem d_A_work_28 : decode prog_2_method_3_code 28 = .ok (.aload_n 1, 1) := by decide +kernel
theorem d_A_work_29 : decode prog_2_method_3_code 29 = .ok (.getfield 61, 3) := by decide +kernel
theorem d_A_work_32 : decode prog_2_method_3_code 32 = .ok (.invokevirtual 66, 3) := by decide +kernel
theorem d_A_work_35 : decode prog_2_method_3_code 35 = .ok (.if_icmp .ge 137, 3) := by decide +kernel
theorem d_A_work_172 : decode prog_2_method_3_code 172 = .ok (.iconst (-1), 1) := by decide +kernel
theorem d_A_work_173 : decode prog_2_method_3_code 173 = .ok (.ireturn, 1) := by decide +kernel
theorem d_A_work_38 : decode prog_2_method_3_code 38 = .ok (.aload_n 1, 1) := by decide +kernel
theorem d_A_work_39 : decode prog_2_method_3_code 39 = .ok (.getfield 61, 3) := by decide +kernel
theorem d_A_work_42 : decode prog_2_method_3_code 42 = .ok (.iload 10, 2) := by decide +kernel
theorem d_A_work_44 : decode prog_2_method_3_code 44 = .ok (.invokevirtual 43, 3) := by decide +kernel
theorem d_A_work_47 : decode prog_2_method_3_code 47 = .ok (.checkcast 70, 3) := by decide +kernel
theorem d_A_work_50 : decode prog_2_method_3_code 50 = .ok (.astore 11, 2) := by decide +kernel
theorem d_A_work_52 : decode prog_2_method_3_code 52 = .ok (.aload 11, 2) := by decide +kernel
theorem d_A_work_54 : decode prog_2_method_3_code 54 = .ok (.getfield 72, 3) := by decide +kernel
theorem d_A_work_57 : decode prog_2_method_3_code 57 = .ok (.lookupswitch 91 #[(257, 35), (264, 52), (265, 69)], 35) := by decide +kernel
theorem d_A_work_92 : decode prog_2_method_3_code 92 = .ok (.aload_n 0, 1) := by decide +kernel
theorem d_A_work_93 : decode prog_2_method_3_code 93 = .ok (.invokevirtual 75, 3) := by decide +kernel
theorem d_A_work_96 : decode prog_2_method_3_code 96 = .ok (.aload 11, 2) := by decide +kernel
theorem d_A_work_98 : decode prog_2_method_3_code 98 = .ok (.getfield 79, 3) := by decide +kernel
theorem d_A_work_101 : decode prog_2_method_3_code 101 = .ok (.iload 9, 2) := by decide +kernel
theorem d_A_work_103 : decode prog_2_method_3_code 103 = .ok (.invokevirtual 82, 3) := by decide +kernel
theorem d_A_work_106 : decode prog_2_method_3_code 106 = .ok (.goto 60, 3) := by decide +kernel
theorem d_A_work_166 : decode prog_2_method_3_code 166 = .ok (.iinc 10 1, 3) := by decide +kernel
theorem d_A_work_169 : decode prog_2_method_3_code 169 = .ok (.goto (-143), 3) := by decide +kernel
theorem d_A_work_109 : decode prog_2_method_3_code 109 = .ok (.aload_n 0, 1) := by decide +kernel
theorem d_A_work_110 : decode prog_2_method_3_code 110 = .ok (.aload 11, 2) := by decide +kernel
theorem d_A_work_112 : decode prog_2_method_3_code 112 = .ok (.aload_n 0, 1) := by decide +kernel
theorem d_A_work_113 : decode prog_2_method_3_code 113 = .ok (.invokevirtual 75, 3) := by decide +kernel
theorem d_A_work_116 : decode prog_2_method_3_code 116 = .ok (.aload_n 2, 1) := by decide +kernel
theorem d_A_work_117 : decode prog_2_method_3_code 117 = .ok (.aload_n 3, 1) := by decide +kernel
theorem d_A_work_118 : decode prog_2_method_3_code 118 = .ok (.aload 4, 2) := by decide +kernel
theorem d_A_work_120 : decode prog_2_method_3_code 120 = .ok (.invokevirtual 86, 3) := by decide +kernel
theorem d_A_work_123 : decode prog_2_method_3_code 123 = .ok (.goto 43, 3) := by decide +kernel
theorem d_A_work_126 : decode prog_2_method_3_code 126 = .ok (.aload_n 0, 1) := by decide +kernel
theorem d_A_work_127 : decode prog_2_method_3_code 127 = .ok (.getfield 12, 3) := by decide +kernel
theorem d_A_work_130 : decode prog_2_method_3_code 130 = .ok (.aload_n 0, 1) := by decide +kernel
theorem d_A_work_131 : decode prog_2_method_3_code 131 = .ok (.getfield 58, 3) := by decide +kernel
theorem d_A_work_134 : decode prog_2_method_3_code 134 = .ok (.iconst 1, 1) := by decide +kernel
theorem d_A_work_135 : decode prog_2_method_3_code 135 = .ok (.isub, 1) := by decide +kernel
theorem d_A_work_136 : decode prog_2_method_3_code 136 = .ok (.invokevirtual 43, 3) := by decide +kernel
theorem d_A_work_139 : decode prog_2_method_3_code 139 = .ok (.checkcast 36, 3) := by decide +kernel
theorem d_A_work_142 : decode prog_2_method_3_code 142 = .ok (.invokevirtual 90, 3) := by decide +kernel
theorem d_A_work_145 : decode prog_2_method_3_code 145 = .ok (.goto 21, 3) := by decide +kernel
theorem d_A_work_148 : decode prog_2_method_3_code 148 = .ok (.aload_n 0, 1) := by decide +kernel
theorem d_A_work_149 : decode prog_2_method_3_code 149 = .ok (.aload 11, 2) := by decide +kernel
theorem d_A_work_151 : decode prog_2_method_3_code 151 = .ok (.getfield 72, 3) := by decide +kernel
theorem d_A_work_154 : decode prog_2_method_3_code 154 = .ok (.invokevirtual 93, 3) := by decide +kernel
theorem d_A_work_157 : decode prog_2_method_3_code 157 = .ok (.ifCond .ne 9, 3) := by decide +kernel
theorem d_A_work_160 : decode prog_2_method_3_code 160 = .ok (.aload 11, 2) := by decide +kernel
theorem d_A_work_162 : decode prog_2_method_3_code 162 = .ok (.getfield 97, 3) := by decide +kernel
theorem d_A_work_165 : decode prog_2_method_3_code 165 = .ok (.ireturn, 1) := by decide +kernel
theorem w1763 : Cond.fieldLinkNest "SeriesVault$Answers" 61 "SeriesVault$Question" "steps" "Ljava/util/ArrayList;" "SeriesVault" ∈ aW := aw_of (tb_2 (List.mem_of_getElem? (i := 16) rfl)) rfl
theorem w1764 : Cond.classLink "SeriesVault$Answers" 70 "SeriesVault$Step" ∈ aW := aw_of (tb_7 (List.mem_of_getElem? (i := 135) rfl)) rfl
theorem w1765 : Cond.fieldLinkNest "SeriesVault$Answers" 72 "SeriesVault$Step" "kind" "I" "SeriesVault" ∈ aW := aw_of (tb_7 (List.mem_of_getElem? (i := 11) rfl)) rfl
theorem w1766 : Cond.methodLink "SeriesVault$Answers" 75 ⟨"SeriesVault$Answers", "push", "()LSeriesVault$Table;"⟩ ∈ aW := aw_of (tb_7 (List.mem_of_getElem? (i := 136) rfl)) rfl
theorem w1767 : Cond.code ⟨"SeriesVault$Answers", "push", "()LSeriesVault$Table;"⟩ prog_2_method_4_code 1 (some (FieldType.object "SeriesVault$Table")) ∈ aW := aw_of (tb_7 (List.mem_of_getElem? (i := 139) rfl)) rfl
theorem w1768 : Cond.instanceMethod ⟨"SeriesVault$Answers", "push", "()LSeriesVault$Table;"⟩ ∈ aW := aw_of (tb_7 (List.mem_of_getElem? (i := 138) rfl)) rfl
theorem w1769 : Cond.selects "SeriesVault$Answers" ⟨"SeriesVault$Answers", "push", "()LSeriesVault$Table;"⟩ ⟨"SeriesVault$Answers", "push", "()LSeriesVault$Table;"⟩ ∈ aW := aw_pr (List.mem_map.mpr ⟨_, pv_4 (List.mem_of_getElem? (i := 3) rfl), rfl⟩) rfl
theorem w1770 : Cond.methodLink "SeriesVault$Answers" 82 ⟨"SeriesVault$Table", "makeNumber", "(JI)V"⟩ ∈ aW := aw_of (tb_7 (List.mem_of_getElem? (i := 140) rfl)) rfl
theorem w1771 : Cond.code ⟨"SeriesVault$Table", "makeNumber", "(JI)V"⟩ prog_11_method_2_code 5 none ∈ aW := aw_of (tb_7 (List.mem_of_getElem? (i := 143) rfl)) rfl
theorem w1772 : Cond.instanceMethod ⟨"SeriesVault$Table", "makeNumber", "(JI)V"⟩ ∈ aW := aw_of (tb_7 (List.mem_of_getElem? (i := 141) rfl)) rfl
theorem w1773 : Cond.selects "SeriesVault$Table" ⟨"SeriesVault$Table", "makeNumber", "(JI)V"⟩ ⟨"SeriesVault$Table", "makeNumber", "(JI)V"⟩ ∈ aW := aw_of (tb_7 (List.mem_of_getElem? (i := 142) rfl)) rfl
theorem w1774 : Cond.methodLink "SeriesVault$Answers" 86 ⟨"SeriesVault$Answers", "pick", "(LSeriesVault$Step;LSeriesVault$Table;[LSeriesVault$Series;LSeriesVault$Shelf;LSeriesVault$Points;)V"⟩ ∈ aW := aw_of (tb_7 (List.mem_of_getElem? (i := 184) rfl)) rfl
theorem w1775 : Cond.code ⟨"SeriesVault$Answers", "pick", "(LSeriesVault$Step;LSeriesVault$Table;[LSeriesVault$Series;LSeriesVault$Shelf;LSeriesVault$Points;)V"⟩ prog_2_method_6_code 7 none ∈ aW := aw_of (tb_7 (List.mem_of_getElem? (i := 187) rfl)) rfl
theorem w1776 : Cond.instanceMethod ⟨"SeriesVault$Answers", "pick", "(LSeriesVault$Step;LSeriesVault$Table;[LSeriesVault$Series;LSeriesVault$Shelf;LSeriesVault$Points;)V"⟩ ∈ aW := aw_of (tb_7 (List.mem_of_getElem? (i := 186) rfl)) rfl
theorem w1777 : Cond.selects "SeriesVault$Answers" ⟨"SeriesVault$Answers", "pick", "(LSeriesVault$Step;LSeriesVault$Table;[LSeriesVault$Series;LSeriesVault$Shelf;LSeriesVault$Points;)V"⟩ ⟨"SeriesVault$Answers", "pick", "(LSeriesVault$Step;LSeriesVault$Table;[LSeriesVault$Series;LSeriesVault$Shelf;LSeriesVault$Points;)V"⟩ ∈ aW := aw_pr (List.mem_map.mpr ⟨_, pv_4 (List.mem_of_getElem? (i := 4) rfl), rfl⟩) rfl
theorem w1778 : Cond.methodLink "SeriesVault$Answers" 90 ⟨"SeriesVault$Table", "turn", "()V"⟩ ∈ aW := aw_of (tb_8 (List.mem_of_getElem? (i := 37) rfl)) rfl
theorem w1779 : Cond.code ⟨"SeriesVault$Table", "turn", "()V"⟩ prog_11_method_13_code 2 none ∈ aW := aw_of (tb_8 (List.mem_of_getElem? (i := 40) rfl)) rfl
theorem w1780 : Cond.instanceMethod ⟨"SeriesVault$Table", "turn", "()V"⟩ ∈ aW := aw_of (tb_8 (List.mem_of_getElem? (i := 38) rfl)) rfl
theorem w1781 : Cond.selects "SeriesVault$Table" ⟨"SeriesVault$Table", "turn", "()V"⟩ ⟨"SeriesVault$Table", "turn", "()V"⟩ ∈ aW := aw_of (tb_8 (List.mem_of_getElem? (i := 39) rfl)) rfl
theorem w1782 : Cond.methodLink "SeriesVault$Answers" 93 ⟨"SeriesVault$Answers", "join", "(I)Z"⟩ ∈ aW := aw_of (tb_8 (List.mem_of_getElem? (i := 41) rfl)) rfl
theorem w1783 : Cond.code ⟨"SeriesVault$Answers", "join", "(I)Z"⟩ prog_2_method_5_code 4 (some FieldType.boolean) ∈ aW := aw_of (tb_8 (List.mem_of_getElem? (i := 44) rfl)) rfl
theorem w1784 : Cond.instanceMethod ⟨"SeriesVault$Answers", "join", "(I)Z"⟩ ∈ aW := aw_of (tb_8 (List.mem_of_getElem? (i := 43) rfl)) rfl
theorem w1785 : Cond.selects "SeriesVault$Answers" ⟨"SeriesVault$Answers", "join", "(I)Z"⟩ ⟨"SeriesVault$Answers", "join", "(I)Z"⟩ ∈ aW := aw_pr (List.mem_map.mpr ⟨_, pv_4 (List.mem_of_getElem? (i := 14) rfl), rfl⟩) rfl
theorem w1786 : Cond.fieldLinkNest "SeriesVault$Answers" 97 "SeriesVault$Step" "place" "I" "SeriesVault" ∈ aW := aw_of (tb_7 (List.mem_of_getElem? (i := 13) rfl)) rfl
set_option maxHeartbeats 4000000 in
set_option maxRecDepth 100000 in
theorem v_work (l : Launch) (D : va_G) (dA : Nat → ClassId) (sz : Nat) (e0 mi : Nat) (h : Nat) (ad : Nat → Nat) (lb : Nat → Nat) (gs : LI) (x : VS) (fr : Int64) (wd : Int64) (nw : Nat) (la : Nat → Nat) (g : LI) (AT : Nat → Nat → Nat) (T : Nat → TB) (r : va_W) (S : List SP1) (SS : Nat → List LB) (PS : Nat → PT) (cC : Nat → Nat) (cS : Nat → Nat) (k : Nat) (hlb : lb 0 = ad 23) (hgs : gs.sz ≤ gs.eN) (hgn : gs.eN ≤ 65536) (hgl : gs.sz = S.length) (hst : stps dA x.pl gs 0 S) (hk : skP dA ad r x la g AT T) (hnw : nw ≤ 64) (hkn : knOk dA x.kn x.nser x.pl SS) (hps : psOk dA x.nP x.npc x.pl PS) (hpn : x.npc ≤ 32) (hs1 : x.nsc ≤ 64) (hs7 : ∀ q : Nat, q < x.nsc → x.nsO q < 2 ^ 31) (hns : x.nser ≤ 256) (hpo : ∀ k : Nat, k < x.npc → ∀ i : Nat, i < (PS k).n → (PS k).o i < x.nser ∧ wOk fr wd nw ((PS k).t i)) (hho : ∀ i : Nat, i < x.hsize → x.hO i < x.nser ∧ wOk fr wd nw (x.hT i)) (hhz : x.hsize ≤ x.hN) (hhN : x.hN ≤ 65536) (hkS : k ≤ S.length) (hcC : ∀ i : Nat, i ≤ k → cC i ≤ cC k ∧ cS i ≤ cS k) (hgo : ∀ (i : Nat) (a : SKT), i < k → wkR dA ad r la PS SS nw S ((x.wk0 fr wd nw), g, AT, T) i a → wkO dA ad r la SS (S.getD i (spO 0 0 0)) (cC i) (cC (i + 1)) (cS i) (cS (i + 1)) a) (hxx : ∀ a : SKT, k < S.length → wkR dA ad r la PS SS nw S ((x.wk0 fr wd nw), g, AT, T) k a → wkX dA (S.getD k (spO 0 0 0)) a) : Met l ⟨"SeriesVault$Answers", "work", "(LSeriesVault$Question;[LSeriesVault$Series;LSeriesVault$Shelf;LSeriesVault$Points;JJI)I"⟩ [Cond.code ⟨"SeriesVault$Answers", "work", "(LSeriesVault$Question;[LSeriesVault$Series;LSeriesVault$Shelf;LSeriesVault$Points;JJI)I"⟩ prog_2_method_3_code 12 (some FieldType.int)] { frames := 8, cells := cC k, slots := cS k, locals := 382 } (pCy D dA e0 mi [.ref (ad 24), .ref (ad 22), .ref (ad 17), .ref (ad 3), .ref (ad 1), .long fr, .long wd, .int (nI nw)] (LiW dA lb gs ++ (VW dA h ad x)) sz) (va_Qi (fun (r9 : Int32) (u9 : VS × LI × (Nat → Nat → Nat) × (Nat → TB)) => ((k = S.length ∧ r9 = (-1) ∧ wkR dA ad r la PS SS nw S ((x.wk0 fr wd nw), g, AT, T) k (u9.1, u9.2.1, u9.2.2.1, u9.2.2.2)) ∨ (k < S.length ∧ r9 = nI (S.getD k (spO 0 0 0)).2.1 ∧ ∃ (a : SKT) (NL NR : Nat → List Int32) (RS RU : Nat → List LB) (wi : Nat), wkR dA ad r la PS SS nw S ((x.wk0 fr wd nw), g, AT, T) k a ∧ tbK dA a.1.pl wi (a.2.2.2 (a.1.adep - 2)) NL RS ∧ tbK dA a.1.pl wi (a.2.2.2 (a.1.adep - 1)) NR RU ∧ jnC NL NR (a.2.2.2 (a.1.adep - 2)) (a.2.2.2 (a.1.adep - 1)) = 3 ∧ jnZ dA ad r la (S.getD k (spO 0 0 0)).1 NL NR RS RU a.1 a.2.1 a.2.2.1 a.2.2.2 u9.1 u9.2.1 u9.2.2.1 u9.2.2.2))) (fun (u9 : VS × LI × (Nat → Nat → Nat) × (Nat → TB)) t9 => bW D (va_A (LiW dA lb gs ++ (VW dA h ad x)) sz) (LiW dA lb gs ++ (VW dA h ad u9.1)) t9) (va_A (LiW dA lb gs ++ (VW dA h ad x)) sz)) (cC k) (cS k) (va_A (LiW dA lb gs ++ (VW dA h ad x)) sz) := by
  refine mkY (y := ⟨"SeriesVault$Answers", "work", "(LSeriesVault$Question;[LSeriesVault$Series;LSeriesVault$Shelf;LSeriesVault$Points;JJI)I"⟩) (cc := prog_2_method_3_code) (maxL := 12) (av := [.ref (ad 24), .ref (ad 22), .ref (ad 17), .ref (ad 3), .ref (ad 1), .long fr, .long wd, .int (nI nw)]) (ws := LiW dA lb gs ++ (VW dA h ad x)) (sz := sz) (Qc := fun A => va_Qi (fun (r9 : Int32) (u9 : VS × LI × (Nat → Nat → Nat) × (Nat → TB)) => ((k = S.length ∧ r9 = (-1) ∧ wkR dA ad r la PS SS nw S ((x.wk0 fr wd nw), g, AT, T) k (u9.1, u9.2.1, u9.2.2.1, u9.2.2.2)) ∨ (k < S.length ∧ r9 = nI (S.getD k (spO 0 0 0)).2.1 ∧ ∃ (a : SKT) (NL NR : Nat → List Int32) (RS RU : Nat → List LB) (wi : Nat), wkR dA ad r la PS SS nw S ((x.wk0 fr wd nw), g, AT, T) k a ∧ tbK dA a.1.pl wi (a.2.2.2 (a.1.adep - 2)) NL RS ∧ tbK dA a.1.pl wi (a.2.2.2 (a.1.adep - 1)) NR RU ∧ jnC NL NR (a.2.2.2 (a.1.adep - 2)) (a.2.2.2 (a.1.adep - 1)) = 3 ∧ jnZ dA ad r la (S.getD k (spO 0 0 0)).1 NL NR RS RU a.1 a.2.1 a.2.2.1 a.2.2.2 u9.1 u9.2.1 u9.2.2.1 u9.2.2.2))) (fun (u9 : VS × LI × (Nat → Nat → Nat) × (Nat → TB)) t9 => bW D A (LiW dA lb gs ++ (VW dA h ad u9.1)) t9) A) (by decide) (Nat.le_of_ble_eq_true rfl) ?_
  intro A p e s m below meth c ls hsz hZ hT hM hB
  obtain ⟨hx, hb, hr, hml, hown, hin, hlk, hE, hK, hP, hD, hS, hA, hN, hl⟩ := hB
  have hown : s.vm.findClass "SeriesVault$Answers" = some m.cls := hown
  have hl : lv_has ls 12 [(0, .ref (ad 24)), (1, .ref (ad 22)), (2, .ref (ad 17)), (3, .ref (ad 3)), (4, .ref (ad 1)), (5, .long fr), (7, .long wd), (9, .int (nI nw))] := hl
  obtain ⟨H, hH⟩ : ∃ z, z = s.heap := ⟨_, rfl⟩
  have hP : va_P D vwCl (LiW dA lb gs ++ (VW dA h ad x)) H := by rw [hH]; exact hP
  have hS : va_S A s.heap H [] := by rw [hH]; exact hS
  rw [← hH]
  refine lv_aload_n hx hb d_A_work_0 rfl (lv_at hl 0 rfl) ?_
  refine lv_lload hx hb d_A_work_1 (lv_at hl 5 rfl) ?_
  refine pF (v := .long fr) hx hb hown hE hK hP hD hS 39 rfl rfl layA tyA tokA nmA 7 (by decide) w1501 rfl rfl rfl (Nat.le_of_ble_eq_true rfl) d_A_work_3 (fun H locs hP hD hS => ?_)
  have hP : va_P D vwCl (LiW dA lb gs ++ (VW dA h ad (VS.s_afr x fr))) H := hP
  have hD : va_D A (LiW dA lb gs ++ (VW dA h ad (VS.s_afr x fr))) := hD
  refine lv_aload_n hx hb d_A_work_6 rfl (lv_at hl 0 rfl) ?_
  refine lv_lload hx hb d_A_work_7 (lv_at hl 6 rfl) ?_
  refine pF (v := .long wd) hx hb hown hE hK hP hD hS 39 rfl rfl layA tyA tokA nmA 8 (by decide) w1502 rfl rfl rfl (Nat.le_of_ble_eq_true rfl) d_A_work_9 (fun H locs hP hD hS => ?_)
  have hP : va_P D vwCl (LiW dA lb gs ++ (VW dA h ad (VS.s_awd (VS.s_afr x fr) wd))) H := hP
  have hD : va_D A (LiW dA lb gs ++ (VW dA h ad (VS.s_awd (VS.s_afr x fr) wd))) := hD
  refine lv_aload_n hx hb d_A_work_12 rfl (lv_at hl 0 rfl) ?_
  refine lv_iload hx hb d_A_work_13 (lv_at hl 7 rfl) ?_
  refine pF (v := .int (nI nw)) hx hb hown hE hK hP hD hS 39 rfl rfl layA tyA tokA nmA 9 (by decide) w1503 rfl rfl rfl (Nat.le_of_ble_eq_true rfl) d_A_work_15 (fun H locs hP hD hS => ?_)
  have hP : va_P D vwCl (LiW dA lb gs ++ (VW dA h ad (VS.s_awi (VS.s_awd (VS.s_afr x fr) wd) nw))) H := hP
  have hD : va_D A (LiW dA lb gs ++ (VW dA h ad (VS.s_awi (VS.s_awd (VS.s_afr x fr) wd) nw))) := hD
  refine lv_aload_n hx hb d_A_work_18 rfl (lv_at hl 0 rfl) ?_
  refine lv_iconst (v := 0) hx hb d_A_work_19 (by decide) ?_
  refine pF (v := .int (nI 0)) hx hb hown hE hK hP hD hS 39 rfl rfl layA tyA tokA nmA 1 (by decide) w1538 rfl rfl rfl (Nat.le_of_ble_eq_true rfl) d_A_work_20 (fun H locs hP hD hS => ?_)
  have hP : va_P D vwCl (LiW dA lb gs ++ (VW dA h ad (VS.s_awi (VS.s_awd (VS.s_afr (VS.s_adep x 0) fr) wd) nw))) H := hP
  have hD : va_D A (LiW dA lb gs ++ (VW dA h ad (VS.s_awi (VS.s_awd (VS.s_afr (VS.s_adep x 0) fr) wd) nw))) := hD
  refine lv_iconst (v := 0) hx hb d_A_work_23 (by decide) ?_
  refine lv_istore hx hb d_A_work_24 hl (by decide) rfl (fun ls hl => ?_)
  have hl : lv_has ls 12 [(10, .int 0), (0, .ref (ad 24)), (1, .ref (ad 22)), (2, .ref (ad 17)), (3, .ref (ad 3)), (4, .ref (ad 1)), (5, .long fr), (7, .long wd), (9, .int (nI nw))] := hl
  have L26 : ∀ (k9 : Nat) (i : Nat) (z : VS) (gk : LI) (AK : Nat → Nat → Nat) (TK : Nat → TB) (i1 : i ≤ k) (hR0 : wkR dA ad r la PS SS nw S ((x.wk0 fr wd nw), g, AT, T) i (z, gk, AK, TK)) (hk9 : S.length - i = k9), ∀ (H : Heap) (locs : List Loc) (ls : Array Slot) (hP : va_P D vwCl (LiW dA lb gs ++ (VW dA h ad z)) H) (hD : va_D A (LiW dA lb gs ++ (VW dA h ad z))) (hS : va_S A s.heap H locs) (hl : lv_has ls 12 [(10, .int (nI i)), (0, .ref (ad 24)), (1, .ref (ad 22)), (2, .ref (ad 17)), (3, .ref (ad 3)), (4, .ref (ad 1)), (5, .long fr), (7, .long wd), (9, .int (nI nw))]), W p l e ({ frames := 8, cells := cC k, slots := cS k, locals := 382 } : Room) s m ([.ref (ad 24), .ref (ad 22), .ref (ad 17), .ref (ad 3), .ref (ad 1), .long fr, .long wd, .int (nI nw)] : List Value).toArray below meth c H locs (cC i) (cS i) (MQ below (va_Qi (fun (r9 : Int32) (u9 : VS × LI × (Nat → Nat → Nat) × (Nat → TB)) => ((k = S.length ∧ r9 = (-1) ∧ wkR dA ad r la PS SS nw S ((x.wk0 fr wd nw), g, AT, T) k (u9.1, u9.2.1, u9.2.2.1, u9.2.2.2)) ∨ (k < S.length ∧ r9 = nI (S.getD k (spO 0 0 0)).2.1 ∧ ∃ (a : SKT) (NL NR : Nat → List Int32) (RS RU : Nat → List LB) (wi : Nat), wkR dA ad r la PS SS nw S ((x.wk0 fr wd nw), g, AT, T) k a ∧ tbK dA a.1.pl wi (a.2.2.2 (a.1.adep - 2)) NL RS ∧ tbK dA a.1.pl wi (a.2.2.2 (a.1.adep - 1)) NR RU ∧ jnC NL NR (a.2.2.2 (a.1.adep - 2)) (a.2.2.2 (a.1.adep - 1)) = 3 ∧ jnZ dA ad r la (S.getD k (spO 0 0 0)).1 NL NR RS RU a.1 a.2.1 a.2.2.1 a.2.2.2 u9.1 u9.2.1 u9.2.2.1 u9.2.2.2))) (fun (u9 : VS × LI × (Nat → Nat → Nat) × (Nat → TB)) t9 => bW D A (LiW dA lb gs ++ (VW dA h ad u9.1)) t9) A) ([.ref (ad 24), .ref (ad 22), .ref (ad 17), .ref (ad 3), .ref (ad 1), .long fr, .long wd, .int (nI nw)] : List Value).toArray s (cC k) (cS k) A) (F0 m 26 ls []) := by
    intro k9
    induction k9 using Nat.strongRecOn with
    | ind k9 ih26 =>
      intro i z gk AK TK i1 hR0 hk9 H locs ls hP hD hS hl
      have hwk := wk_k (show skQ dA ad r la ((x.wk0 fr wd nw), g, AT, T) from hk) hR0
      have hkz : skP dA ad r z la gk AK TK := hwk.2
      have haz : (x.wk0 fr wd nw).ak z := hwk.1
      have hcm := hcC i i1
      refine lv_iload hx hb d_A_work_26 (lv_at hl 0 rfl) ?_
      refine lv_aload_n hx hb d_A_work_28 rfl (lv_at hl 2 rfl) ?_
      refine gFN (v := .ref (ad 23)) hx hb hown hE hK hP 38 rfl rfl layQ 8 (by decide) w1763 rfl d_A_work_29 ?_
      rw [← hlb]
      refine jkI (wr := []) (rnV (As := []) (rest := [.int (nI i)]) hx hb hml hown hE hK (hN _ _ hS) hP hD (v_Lsize l D dA H.size (VW dA h ad z) lb gs) (q0 := 0) rfl rfl w1484 w1539 w1485 w1486 w680 rfl rfl ⟨⟨by decide, by decide⟩, rfl⟩ ⟨(Nat.le_of_ble_eq_true rfl), (Nat.le_of_ble_eq_true rfl)⟩ rfl hl.1 rfl (Nat.le_of_ble_eq_true rfl) d_A_work_32 ⟨(show cC i + 0 ≤ cC k by omega), (show cS i + 0 ≤ cS k by omega)⟩) hP hD hS hA (fun r1 u2 H locs hp9 hP hD hS => ?_)
      have hP : va_P D vwCl (LiW dA lb gs ++ (VW dA h ad z)) H := hP
      have hD : va_D A (LiW dA lb gs ++ (VW dA h ad z)) := hD
      replace hp9 : nI gs.sz = r1 := Eq.symm hp9
      subst hp9
      refine lv_icmp_ge hx hb d_A_work_35 (tgt := 172) rfl (fun g3 => ?_) (fun g3 => ?_)
      · have g3 := (nI_leI (a := gs.sz) (b := i) (by omega) (by omega)).mp g3
        refine lv_iconst (v := (-1)) hx hb d_A_work_172 (by decide) ?_
        exact rfI hx hb hr hlk hS (⟨z, gk, AK, TK⟩) (Or.inl ⟨by omega, rfl, by rw [← show i = k by omega]; exact hR0⟩) hP hD (show cC i + 0 ≤ cC k by omega) (show cS i + 0 ≤ cS k by omega) d_A_work_173
      · have g3 := mt (nI_leI (a := gs.sz) (b := i) (by omega) (by omega)).mpr g3
        rcases (show i < k ∨ i = k by omega) with hik | hik
        · refine lv_aload_n hx hb d_A_work_38 rfl (lv_at hl 2 rfl) ?_
          obtain ⟨sp, hei, hsp⟩ := hst i (by omega)
          rw [Nat.zero_add] at hei
          obtain ⟨⟨kd, pq, nu, nn, NL, n9, KD, MN, MT⟩, hsi⟩ : ∃ q : SP1, S.getD i (spO 0 0 0) = q := ⟨_, rfl⟩
          rw [hsi] at hsp
          have hg9 := hgo i (z, gk, AK, TK) hik hR0
          rw [hsi] at hg9
          have hcn := hcC (i + 1) (by omega)
          obtain ⟨pl_z, kn_z, nser_z, awi_z, afr_z, awd_z, nP_z, npc_z, nsc_z, nsO_z, hsize_z, hN_z, hO_z, hT_z⟩ := ak_f haz
          have hsp : isStp dA z.pl sp kd pq nu nn NL n9 KD MN MT := by rw [pl_z]; exact hsp
          have hspc := hsp
          obtain ⟨na, ln, lt, mk, cap, kN, fn, fk, j1, -⟩ := hspc
          refine gFN (v := .ref (ad 23)) hx hb hown hE hK hP 38 rfl rfl layQ 8 (by decide) w1763 rfl d_A_work_39 ?_
          rw [← hlb]
          refine lv_iload hx hb d_A_work_42 (lv_at hl 0 rfl) ?_
          refine jkR (wr := []) (rnV (As := [.int (nI i)]) (rest := []) hx hb hml hown hE hK (hN _ _ hS) hP hD (v_Lget l D dA H.size (VW dA h ad z) lb gs i sp hgs hgn (show i < gs.sz from by omega) hei) (q0 := 0) rfl rfl w1489 w1537 w1490 w1491 w680 rfl rfl ⟨⟨by decide, by decide⟩, rfl⟩ ⟨(Nat.le_of_ble_eq_true rfl), (Nat.le_of_ble_eq_true rfl)⟩ rfl hl.1 rfl (Nat.le_of_ble_eq_true rfl) d_A_work_44 ⟨(show cC i + 0 + 0 ≤ cC k by omega), (show cS i + 0 + 0 ≤ cS k by omega)⟩) hP hD hS hA (fun u5 r4 H locs hp9 hP hD hS => ?_)
          have hP : va_P D vwCl (LiW dA lb gs ++ (VW dA h ad z)) H := hP
          have hD : va_D A (LiW dA lb gs ++ (VW dA h ad z)) := hD
          have f_e_6 := hp9
          have e9 := f_e_6
          subst e9
          obtain ⟨qp7, ep8⟩ := List.getElem?_of_mem (show ((sp, .inr (13, [.int kd, .int (nI pq), .long nu, .ref na, .int (nI nn), .ref ln, .ref lt, .ref mk])) : Nat × va_E) ∈ LiW dA lb gs ++ (VW dA h ad z) from (List.mem_append_right _ (plm j1)))
          refine va_castE hx hb hown (hE.t w1764 rfl) (va_recv hK hP (ci := 13) (q0 := qp7) (q := ("SeriesVault$Step", TE, 8)) rfl ep8) d_A_work_47 ?_
          refine lv_astore hx hb d_A_work_50 hl (by decide) rfl (fun ls hl => ?_)
          have hl : lv_has ls 12 [(11, .ref sp), (10, .int (nI i)), (0, .ref (ad 24)), (1, .ref (ad 22)), (2, .ref (ad 17)), (3, .ref (ad 3)), (4, .ref (ad 1)), (5, .long fr), (7, .long wd), (9, .int (nI nw))] := hl
          rcases hg9 with ⟨h57, ha1, ha2, ha5, ha6, hal⟩ | ⟨h64, ha1, ha2, ha3, ha4, ha5, ha6, hal⟩ | ⟨h65, ha1, ha2, ha3, ha4, ha5, ha6⟩ | ⟨hop, hd1, hd2, ha5, ha6, NL2, NR2, RS2, RU2, wi2, ht2, hu2, hj3⟩
          · refine lv_aload hx hb d_A_work_52 (lv_at hl 0 rfl) ?_
            have ha1 : z.adep ≤ gk.sz := ha1
            have ha2 : gk.eN ≤ 2048 := ha2
            have ha5 : cC i + psC z gk ≤ cC (i + 1) := ha5
            have ha6 : cS i + psS z gk ≤ cS (i + 1) := ha6
            obtain ⟨qp9, ep10⟩ := List.getElem?_of_mem (show ((sp, .inr (13, [.int kd, .int (nI pq), .long nu, .ref na, .int (nI nn), .ref ln, .ref lt, .ref mk])) : Nat × va_E) ∈ LiW dA lb gs ++ (VW dA h ad z) from (List.mem_append_right _ (plm j1)))
            refine gFN (v := .int kd) hx hb hown hE hK hP qp9 ep10 rfl layE 0 (by decide) w1765 rfl d_A_work_54 ?_
            refine tpi (y := 257) (show kd = 257 from h57) ?_
            refine lv_lookup (x := 257) (off := 35) (tgt := 92) hx hb d_A_work_57 (by decide) (by decide) rfl ?_
            refine lv_aload_n hx hb d_A_work_92 rfl (lv_at hl 2 rfl) ?_
            have hPc : va_P D vwCl (VW dA h ad z) H := spP (wr := LiW dA lb gs) hP
            have hDc : va_D A (VW dA h ad z) := spD (wr := LiW dA lb gs) hD
            refine jkR (wr := LiW dA lb gs) (rnVy (As := []) (rest := []) hx hb hml hown hE hK hZ hT hM hS (hN _ _ hS) hPc hDc (v_pushW l D dA H.size e0 mi h ad z la gk AK TK r hkz ha1 ha2) (q0 := 37) rfl rfl w1767 w1766 w1768 w1769 w846 rfl rfl ⟨⟨by decide, by decide⟩, rfl⟩ ⟨(Nat.le_of_ble_eq_true rfl), (Nat.le_of_ble_eq_true rfl)⟩ rfl hl.1 rfl (Nat.le_of_ble_eq_true rfl) d_A_work_93 ⟨(show cC i + 0 + 0 + (psC z gk) ≤ cC k by omega), (show cS i + 0 + 0 + (psS z gk) ≤ cS k by omega)⟩) hP hD hS hA (fun u11 tr H locs hp9 hP hD hS => ?_)
            obtain ⟨w1, gq1, Aq, Tq⟩ := u11
            have hP : va_P D vwCl (LiW dA lb gs ++ (VW dA h ad w1)) H := hP
            have hD : va_D A (LiW dA lb gs ++ (VW dA h ad w1)) := hD
            obtain ⟨f_e_12, f_k_13⟩ := hp9
            have e9 := f_e_12
            have hps1 := f_k_13
            subst e9
            have hpq : psQ dA ad r la (z, gk, AK, TK) (w1, gq1, Aq, Tq) := hps1
            have hk1 : skP dA ad r w1 la gq1 Aq Tq := hps1.2.1
            have hag := hal (w1, gq1, Aq, Tq) hpq
            have hdq : z.adep < gq1.sz := by rcases hps1.2.2 with ⟨d1, d2, -⟩ | ⟨d1, d2, -⟩; (rw [show gq1 = gk from d2]; exact d1); (have d1 : z.adep = gk.sz := d1; have d2 : gq1.sz = gk.sz + 1 := d2; omega)
            obtain ⟨vs9, mv9⟩ := sk_m hk1 hdq
            obtain ⟨pl_w1, kn_w1, nser_w1, awi_w1, afr_w1, awd_w1, nP_w1, npc_w1, nsc_w1, nsO_w1, hsize_w1, hN_w1, hO_w1, hT_w1⟩ := ak_f (ak_t haz (ps_k hpq))
            have j1 : ((sp, .inr (13, [.int kd, .int (nI pq), .long nu, .ref na, .int (nI nn), .ref ln, .ref lt, .ref mk])) : Nat × va_E) ∈ w1.pl := by rw [pl_w1, ← pl_z]; exact j1
            refine lv_aload hx hb d_A_work_96 (lv_at hl 0 rfl) ?_
            obtain ⟨qp14, ep15⟩ := List.getElem?_of_mem (show ((sp, .inr (13, [.int kd, .int (nI pq), .long nu, .ref na, .int (nI nn), .ref ln, .ref lt, .ref mk])) : Nat × va_E) ∈ LiW dA lb gs ++ (VW dA h ad w1) from (List.mem_append_right _ (plm j1)))
            refine gFN (v := .long nu) hx hb hown hE hK hP qp14 ep15 rfl layE 2 (by decide) w1703 rfl d_A_work_98 ?_
            refine lv_iload hx hb d_A_work_101 (lv_at hl 9 rfl) ?_
            have hPc : va_P D vwCl (VW dA h ad w1) H := spP (wr := LiW dA lb gs) hP
            have hDc : va_D A (VW dA h ad w1) := spD (wr := LiW dA lb gs) hD
            obtain ⟨qp16, ep17⟩ := List.getElem?_of_mem (show ((Aq z.adep 0, .inr (8, vs9)) : Nat × va_E) ∈ VW dA h ad w1 from (llm mv9))
            refine jkV (wr := LiW dA lb gs) (rnV (As := [.long nu, .int (nI nw)]) (rest := []) hx hb hml hown hE hK (hN _ _ hS) hPc hDc (v_numW l D dA H.size h ad w1 la gq1 Aq Tq r z.adep nu nw hk1 hdq hag.1 hnw hag.2) (q0 := qp16) ep17 rfl w1771 w1770 w1772 w1773 w807 rfl rfl ⟨⟨by decide, by decide⟩, rfl⟩ ⟨(Nat.le_of_ble_eq_true rfl), (Nat.le_of_ble_eq_true rfl)⟩ rfl hl.1 rfl (Nat.le_of_ble_eq_true rfl) d_A_work_103 ⟨(show cC i + 0 + 0 + (psC z gk) + 0 ≤ cC k by omega), (show cS i + 0 + 0 + (psS z gk) + 0 ≤ cS k by omega)⟩) hP hD hS hA (fun u19 H locs hp9 hP hD hS => ?_)
            obtain ⟨w2, h9u⟩ : ∃ z9, z9 = u19 := ⟨_, rfl⟩
            subst h9u
            have hP : va_P D vwCl (LiW dA lb gs ++ (VW dA h ad w2)) H := hP
            have hD : va_D A (LiW dA lb gs ++ (VW dA h ad w2)) := hD
            obtain ⟨f_k_20, f_s_21⟩ := hp9
            have hR1 : wkR dA ad r la PS SS nw S ((x.wk0 fr wd nw), g, AT, T) (i + 1) (w2, gq1, Aq, va_up Tq z.adep ((Tq z.adep).num nu nw)) := ⟨(z, gk, AK, TK), hR0, by rw [hsi]; exact Or.inl ⟨h57, (w1, gq1, Aq, Tq), hpq, f_k_20, rfl, rfl, rfl, f_s_21⟩⟩
            refine lv_goto hx hb d_A_work_106 (tgt := 166) rfl ?_
            refine lv_iinc (k := 1) (v := nI (i + 1)) hx hb d_A_work_166 hl rfl (iincN (i) 1 1 (by decide)) (by decide) rfl (fun ls hl => ?_)
            have hl : lv_has ls 12 [(10, .int (nI (i + 1))), (11, .ref sp), (0, .ref (ad 24)), (1, .ref (ad 22)), (2, .ref (ad 17)), (3, .ref (ad 3)), (4, .ref (ad 1)), (5, .long fr), (7, .long wd), (9, .int (nI nw))] := hl
            refine lv_goto hx hb d_A_work_169 (tgt := 26) rfl ?_
            refine W.widen (k := cC (i + 1)) (n := cS (i + 1)) (show cC i + 0 + 0 + (psC z gk) + 0 ≤ cC (i + 1) from by omega) (show cS i + 0 + 0 + (psS z gk) + 0 ≤ cS (i + 1) from by omega) ?_
            exact ih26 _ (by omega) (i + 1) w2 gq1 Aq (va_up Tq z.adep ((Tq z.adep).num nu nw)) (by omega) hR1 rfl H _ ls hP hD hS (lv_sub hl [0, 2, 3, 4, 5, 6, 7, 8, 9] rfl)
          · refine lv_aload hx hb d_A_work_52 (lv_at hl 0 rfl) ?_
            have ha1 : z.adep ≤ gk.sz := ha1
            have ha2 : gk.eN ≤ 2048 := ha2
            have ha3 : nn ≤ 6 := ha3
            have ha4 : isFn nu.toInt32 := ha4
            have ha5 : cC i + psC z gk + 3 ≤ cC (i + 1) := ha5
            have ha6 : cS i + psS z gk ≤ cS (i + 1) := ha6
            obtain ⟨qp22, ep23⟩ := List.getElem?_of_mem (show ((sp, .inr (13, [.int kd, .int (nI pq), .long nu, .ref na, .int (nI nn), .ref ln, .ref lt, .ref mk])) : Nat × va_E) ∈ LiW dA lb gs ++ (VW dA h ad z) from (List.mem_append_right _ (plm j1)))
            refine gFN (v := .int kd) hx hb hown hE hK hP qp22 ep23 rfl layE 0 (by decide) w1765 rfl d_A_work_54 ?_
            refine tpi (y := 264) (show kd = 264 from h64) ?_
            refine lv_lookup (x := 264) (off := 52) (tgt := 109) hx hb d_A_work_57 (by decide) (by decide) rfl ?_
            refine lv_aload_n hx hb d_A_work_109 rfl (lv_at hl 2 rfl) ?_
            refine lv_aload hx hb d_A_work_110 (lv_at hl 0 rfl) ?_
            refine lv_aload_n hx hb d_A_work_112 rfl (lv_at hl 2 rfl) ?_
            have hPc : va_P D vwCl (VW dA h ad z) H := spP (wr := LiW dA lb gs) hP
            have hDc : va_D A (VW dA h ad z) := spD (wr := LiW dA lb gs) hD
            refine jkR (wr := LiW dA lb gs) (rnVy (As := []) (rest := [.ref sp, .ref (ad 24)]) hx hb hml hown hE hK hZ hT hM hS (hN _ _ hS) hPc hDc (v_pushW l D dA H.size e0 mi h ad z la gk AK TK r hkz ha1 ha2) (q0 := 37) rfl rfl w1767 w1766 w1768 w1769 w846 rfl rfl ⟨⟨by decide, by decide⟩, rfl⟩ ⟨(Nat.le_of_ble_eq_true rfl), (Nat.le_of_ble_eq_true rfl)⟩ rfl hl.1 rfl (Nat.le_of_ble_eq_true rfl) d_A_work_113 ⟨(show cC i + 0 + 0 + (psC z gk) ≤ cC k by omega), (show cS i + 0 + 0 + (psS z gk) ≤ cS k by omega)⟩) hP hD hS hA (fun u24 tr H locs hp9 hP hD hS => ?_)
            obtain ⟨w1, gq1, Aq, Tq⟩ := u24
            have hP : va_P D vwCl (LiW dA lb gs ++ (VW dA h ad w1)) H := hP
            have hD : va_D A (LiW dA lb gs ++ (VW dA h ad w1)) := hD
            obtain ⟨f_e_25, f_k_26⟩ := hp9
            have e9 := f_e_25
            have hps1 := f_k_26
            subst e9
            have hpq : psQ dA ad r la (z, gk, AK, TK) (w1, gq1, Aq, Tq) := hps1
            have hk1 : skP dA ad r w1 la gq1 Aq Tq := hps1.2.1
            have hag := hal (w1, gq1, Aq, Tq) hpq
            have hdq : z.adep < gq1.sz := by rcases hps1.2.2 with ⟨d1, d2, -⟩ | ⟨d1, d2, -⟩; (rw [show gq1 = gk from d2]; exact d1); (have d1 : z.adep = gk.sz := d1; have d2 : gq1.sz = gk.sz + 1 := d2; omega)
            obtain ⟨vs9, mv9⟩ := sk_m hk1 hdq
            obtain ⟨pl_w1, kn_w1, nser_w1, awi_w1, afr_w1, awd_w1, nP_w1, npc_w1, nsc_w1, nsO_w1, hsize_w1, hN_w1, hO_w1, hT_w1⟩ := ak_f (ak_t haz (ps_k hpq))
            have j1 : ((sp, .inr (13, [.int kd, .int (nI pq), .long nu, .ref na, .int (nI nn), .ref ln, .ref lt, .ref mk])) : Nat × va_E) ∈ w1.pl := by rw [pl_w1, ← pl_z]; exact j1
            refine lv_aload_n hx hb d_A_work_116 rfl (lv_at hl 4 rfl) ?_
            refine lv_aload_n hx hb d_A_work_117 rfl (lv_at hl 5 rfl) ?_
            refine lv_aload hx hb d_A_work_118 (lv_at hl 6 rfl) ?_
            have hsl : cS i + psS z gk + pkS (pkG NL n9 KD MN MT SS w1.kn (TB.s_rc (TB.s_wi (TB.s_nc (Tq z.adep) nn) w1.awi) 0, fun _ => [], w1.aro, w1.ahb) w1.nser).1.rc w1.awi (Tq z.adep).cN w1.bN ≤ cS (i + 1) := hag.2.2.2.2
            have hsl : cS i + psS z gk + pkS (pkG NL n9 KD MN MT SS w1.kn (TB.s_rc (TB.s_wi (TB.s_nc (Tq z.adep) nn) w1.awi) 0, fun _ => [], w1.aro, w1.ahb) w1.nser).1.rc w1.awi (Tq z.adep).cN w1.bN ≤ cS (i + 1) := hag.2.2.2.2
            have hPc : va_P D vwCl (VW dA h ad w1) H := spP (wr := LiW dA lb gs) hP
            have hDc : va_D A (VW dA h ad w1) := spD (wr := LiW dA lb gs) hD
            refine jkV (wr := LiW dA lb gs) (rnV (As := [.ref sp, .ref (Aq z.adep 0), .ref (ad 17), .ref (ad 3), .ref (ad 1)]) (rest := []) hx hb hml hown hE hK (hN _ _ hS) hPc hDc (v_pickW l D dA H.size h ad w1 la gq1 Aq Tq r z.adep sp kd pq nu nn NL n9 KD MN MT SS PS hk1 hdq (by rw [pl_w1, ← pl_z]; exact hsp) ha3 (by rw [kn_w1, nser_w1, pl_w1]; exact hkn) (by rw [awi_w1]; exact hnw) hag.1 hag.2.1 ha4 hag.2.2.1 hag.2.2.2.1 (by rw [nP_w1, npc_w1, pl_w1]; exact hps) (by rw [npc_w1]; exact hpn) (by rw [nsc_w1]; exact hs1) (by rw [nsc_w1, nsO_w1]; exact hs7) (by rw [nser_w1]; exact hns) (by rw [npc_w1, nser_w1, afr_w1, awd_w1, awi_w1]; exact hpo) (by rw [hsize_w1, hO_w1, nser_w1, afr_w1, awd_w1, awi_w1, hT_w1]; exact hho) (by rw [hsize_w1, hN_w1]; exact hhz) (by rw [hN_w1]; exact hhN)) (q0 := 37) rfl rfl w1775 w1774 w1776 w1777 w846 rfl rfl ⟨⟨by decide, by decide⟩, rfl⟩ ⟨(Nat.le_of_ble_eq_true rfl), (Nat.le_of_ble_eq_true rfl)⟩ rfl hl.1 rfl (Nat.le_of_ble_eq_true rfl) d_A_work_120 ⟨(show cC i + 0 + 0 + (psC z gk) + 3 ≤ cC k by omega), (show cS i + 0 + 0 + (psS z gk) + (pkS (pkG NL n9 KD MN MT SS w1.kn (TB.s_rc (TB.s_wi (TB.s_nc (Tq z.adep) nn) w1.awi) 0, fun _ => [], w1.aro, w1.ahb) w1.nser).1.rc w1.awi (Tq z.adep).cN w1.bN) ≤ cS k by omega)⟩) hP hD hS hA (fun u28 H locs hp9 hP hD hS => ?_)
            obtain ⟨w2, tn⟩ := u28
            have hP : va_P D vwCl (LiW dA lb gs ++ (VW dA h ad w2)) H := hP
            have hD : va_D A (LiW dA lb gs ++ (VW dA h ad w2)) := hD
            have f_k_29 := hp9
            obtain ⟨W9, v9, pf1, pf2, pf3, pf4⟩ := f_k_29
            have hR1 : wkR dA ad r la PS SS nw S ((x.wk0 fr wd nw), g, AT, T) (i + 1) (w2, gq1, Aq, va_up Tq z.adep v9.1) := ⟨(z, gk, AK, TK), hR0, by rw [hsi]; exact Or.inr (Or.inl ⟨h64, (w1, gq1, Aq, Tq), W9, v9, hpq, pf1, pf3, rfl, rfl, rfl, by rw [← pf2]; exact pf4⟩)⟩
            refine lv_goto hx hb d_A_work_123 (tgt := 166) rfl ?_
            refine lv_iinc (k := 1) (v := nI (i + 1)) hx hb d_A_work_166 hl rfl (iincN (i) 1 1 (by decide)) (by decide) rfl (fun ls hl => ?_)
            have hl : lv_has ls 12 [(10, .int (nI (i + 1))), (11, .ref sp), (0, .ref (ad 24)), (1, .ref (ad 22)), (2, .ref (ad 17)), (3, .ref (ad 3)), (4, .ref (ad 1)), (5, .long fr), (7, .long wd), (9, .int (nI nw))] := hl
            refine lv_goto hx hb d_A_work_169 (tgt := 26) rfl ?_
            refine W.widen (k := cC (i + 1)) (n := cS (i + 1)) (show cC i + 0 + 0 + (psC z gk) + 3 ≤ cC (i + 1) from by omega) (show cS i + 0 + 0 + (psS z gk) + (pkS (pkG NL n9 KD MN MT SS w1.kn (TB.s_rc (TB.s_wi (TB.s_nc (Tq z.adep) nn) w1.awi) 0, fun _ => [], w1.aro, w1.ahb) w1.nser).1.rc w1.awi (Tq z.adep).cN w1.bN) ≤ cS (i + 1) from by omega) ?_
            exact ih26 _ (by omega) (i + 1) w2 gq1 Aq (va_up Tq z.adep v9.1) (by omega) hR1 rfl H _ ls hP hD hS (lv_sub hl [0, 2, 3, 4, 5, 6, 7, 8, 9] rfl)
          · refine lv_aload hx hb d_A_work_52 (lv_at hl 0 rfl) ?_
            have ha1 : 1 ≤ z.adep := ha1
            have ha2 : z.adep ≤ gk.sz := ha2
            have ha3 : (TK (z.adep - 1)).cN ≤ 65536 := ha3
            have ha4 : (TK (z.adep - 1)).rc * (TK (z.adep - 1)).wi ≤ (TK (z.adep - 1)).cN := ha4
            have ha5 : cC i ≤ cC (i + 1) := ha5
            have ha6 : cS i ≤ cS (i + 1) := ha6
            have hla9 : la 0 = ad 25 := hkz.2.1
            obtain ⟨vl9, ml9⟩ := sk_l hkz
            obtain ⟨vs9, mv9⟩ := sk_m hkz (show z.adep - 1 < gk.sz by omega)
            obtain ⟨qp30, ep31⟩ := List.getElem?_of_mem (show ((sp, .inr (13, [.int kd, .int (nI pq), .long nu, .ref na, .int (nI nn), .ref ln, .ref lt, .ref mk])) : Nat × va_E) ∈ LiW dA lb gs ++ (VW dA h ad z) from (List.mem_append_right _ (plm j1)))
            refine gFN (v := .int kd) hx hb hown hE hK hP qp30 ep31 rfl layE 0 (by decide) w1765 rfl d_A_work_54 ?_
            refine tpi (y := 265) (show kd = 265 from h65) ?_
            refine lv_lookup (x := 265) (off := 69) (tgt := 126) hx hb d_A_work_57 (by decide) (by decide) rfl ?_
            refine lv_aload_n hx hb d_A_work_126 rfl (lv_at hl 2 rfl) ?_
            refine gF (v := .ref (ad 25)) hx hb hown hE hK hP 39 rfl rfl layA 0 (by decide) w799 rfl d_A_work_127 ?_
            rw [← hla9]
            refine lv_aload_n hx hb d_A_work_130 rfl (lv_at hl 2 rfl) ?_
            refine gF (v := .int (nI z.adep)) hx hb hown hE hK hP 39 rfl rfl layA 1 (by decide) w1538 rfl d_A_work_131 ?_
            refine lv_iconst (v := 1) hx hb d_A_work_134 (by decide) ?_
            refine lv_isub hx hb d_A_work_135 (tpi (y := nI (z.adep - 1)) (pk_sub (a := z.adep) (b := 1) (by omega)) ?_)
            have hPc : va_P D vwCl (VW dA h ad z) H := spP (wr := LiW dA lb gs) hP
            have hDc : va_D A (VW dA h ad z) := spD (wr := LiW dA lb gs) hD
            obtain ⟨qp32, ep33⟩ := List.getElem?_of_mem (show ((la 0, .inr (6, vl9)) : Nat × va_E) ∈ VW dA h ad z from (llm ml9))
            refine jkR (wr := LiW dA lb gs) (rnV (As := [.int (nI (z.adep - 1))]) (rest := []) hx hb hml hown hE hK (hN _ _ hS) hPc hDc (v_getW l D dA H.size h ad z la gk AK TK r (z.adep - 1) hkz (show z.adep - 1 < gk.sz by omega)) (q0 := qp32) ep33 rfl w1489 w1537 w1490 w1491 w680 rfl rfl ⟨⟨by decide, by decide⟩, rfl⟩ ⟨(Nat.le_of_ble_eq_true rfl), (Nat.le_of_ble_eq_true rfl)⟩ rfl hl.1 rfl (Nat.le_of_ble_eq_true rfl) d_A_work_136 ⟨(show cC i + 0 + 0 + 0 ≤ cC k by omega), (show cS i + 0 + 0 + 0 ≤ cS k by omega)⟩) hP hD hS hA (fun u35 r34 H locs hp9 hP hD hS => ?_)
            have hP : va_P D vwCl (LiW dA lb gs ++ (VW dA h ad z)) H := hP
            have hD : va_D A (LiW dA lb gs ++ (VW dA h ad z)) := hD
            have f_e_36 := hp9
            have e9 := f_e_36
            subst e9
            obtain ⟨qp37, ep38⟩ := List.getElem?_of_mem (show ((AK (z.adep - 1) 0, .inr (8, vs9)) : Nat × va_E) ∈ LiW dA lb gs ++ (VW dA h ad z) from (List.mem_append_right _ (llm mv9)))
            refine va_castE hx hb hown (hE.t w805 rfl) (va_recv hK hP (ci := 8) (q0 := qp37) (q := ("SeriesVault$Table", TT, 7)) rfl ep38) d_A_work_139 ?_
            have hPc : va_P D vwCl (VW dA h ad z) H := spP (wr := LiW dA lb gs) hP
            have hDc : va_D A (VW dA h ad z) := spD (wr := LiW dA lb gs) hD
            obtain ⟨qp39, ep40⟩ := List.getElem?_of_mem (show ((AK (z.adep - 1) 0, .inr (8, vs9)) : Nat × va_E) ∈ VW dA h ad z from (llm mv9))
            refine jkV (wr := LiW dA lb gs) (rnV (As := []) (rest := []) hx hb hml hown hE hK (hN _ _ hS) hPc hDc (v_turnW l D dA H.size h ad z la gk AK TK r (z.adep - 1) hkz (show z.adep - 1 < gk.sz by omega) ha3 ha4) (q0 := qp39) ep40 rfl w1779 w1778 w1780 w1781 w807 rfl rfl ⟨⟨by decide, by decide⟩, rfl⟩ ⟨(Nat.le_of_ble_eq_true rfl), (Nat.le_of_ble_eq_true rfl)⟩ rfl hl.1 rfl (Nat.le_of_ble_eq_true rfl) d_A_work_142 ⟨(show cC i + 0 + 0 + 0 + 0 ≤ cC k by omega), (show cS i + 0 + 0 + 0 + 0 ≤ cS k by omega)⟩) hP hD hS hA (fun u42 H locs hp9 hP hD hS => ?_)
            obtain ⟨w2, h9u⟩ : ∃ z9, z9 = u42 := ⟨_, rfl⟩
            subst h9u
            have hP : va_P D vwCl (LiW dA lb gs ++ (VW dA h ad w2)) H := hP
            have hD : va_D A (LiW dA lb gs ++ (VW dA h ad w2)) := hD
            obtain ⟨f_k_43, f_s_44⟩ := hp9
            have hR1 : wkR dA ad r la PS SS nw S ((x.wk0 fr wd nw), g, AT, T) (i + 1) (w2, gk, AK, va_up TK (z.adep - 1) (TB.s_ce (TK (z.adep - 1)) (tnG (TK (z.adep - 1)).ce ((TK (z.adep - 1)).rc * (TK (z.adep - 1)).wi)))) := ⟨(z, gk, AK, TK), hR0, by rw [hsi]; exact Or.inr (Or.inr (Or.inl ⟨h65, f_k_43, rfl, rfl, rfl, f_s_44⟩))⟩
            refine lv_goto hx hb d_A_work_145 (tgt := 166) rfl ?_
            refine lv_iinc (k := 1) (v := nI (i + 1)) hx hb d_A_work_166 hl rfl (iincN (i) 1 1 (by decide)) (by decide) rfl (fun ls hl => ?_)
            have hl : lv_has ls 12 [(10, .int (nI (i + 1))), (11, .ref sp), (0, .ref (ad 24)), (1, .ref (ad 22)), (2, .ref (ad 17)), (3, .ref (ad 3)), (4, .ref (ad 1)), (5, .long fr), (7, .long wd), (9, .int (nI nw))] := hl
            refine lv_goto hx hb d_A_work_169 (tgt := 26) rfl ?_
            refine W.widen (k := cC (i + 1)) (n := cS (i + 1)) (show cC i + 0 + 0 + 0 + 0 ≤ cC (i + 1) from by omega) (show cS i + 0 + 0 + 0 + 0 ≤ cS (i + 1) from by omega) ?_
            exact ih26 _ (by omega) (i + 1) w2 gk AK (va_up TK (z.adep - 1) (TB.s_ce (TK (z.adep - 1)) (tnG (TK (z.adep - 1)).ce ((TK (z.adep - 1)).rc * (TK (z.adep - 1)).wi)))) (by omega) hR1 rfl H _ ls hP hD hS (lv_sub hl [0, 2, 3, 4, 5, 6, 7, 8, 9] rfl)
          · refine lv_aload hx hb d_A_work_52 (lv_at hl 0 rfl) ?_
            have hop : isOp kd := hop
            have hd1 : 2 ≤ z.adep := hd1
            have hd2 : z.adep ≤ gk.sz := hd2
            have hj3 : ¬ jnC NL2 NR2 (TK (z.adep - 2)) (TK (z.adep - 1)) = 3 := hj3
            obtain ⟨qp45, ep46⟩ := List.getElem?_of_mem (show ((sp, .inr (13, [.int kd, .int (nI pq), .long nu, .ref na, .int (nI nn), .ref ln, .ref lt, .ref mk])) : Nat × va_E) ∈ LiW dA lb gs ++ (VW dA h ad z) from (List.mem_append_right _ (plm j1)))
            refine gFN (v := .int kd) hx hb hown hE hK hP qp45 ep46 rfl layE 0 (by decide) w1765 rfl d_A_work_54 ?_
            rcases (⟨hop, trivial⟩ : isOp kd ∧ True) with ⟨hop, -⟩
            · refine lv_lookup (x := kd) (off := 91) (tgt := 148) hx hb d_A_work_57 (by decide) (lswJ hop) rfl ?_
              refine lv_aload_n hx hb d_A_work_148 rfl (lv_at hl 2 rfl) ?_
              refine lv_aload hx hb d_A_work_149 (lv_at hl 0 rfl) ?_
              obtain ⟨qp47, ep48⟩ := List.getElem?_of_mem (show ((sp, .inr (13, [.int kd, .int (nI pq), .long nu, .ref na, .int (nI nn), .ref ln, .ref lt, .ref mk])) : Nat × va_E) ∈ LiW dA lb gs ++ (VW dA h ad z) from (List.mem_append_right _ (plm j1)))
              refine gFN (v := .int kd) hx hb hown hE hK hP qp47 ep48 rfl layE 0 (by decide) w1765 rfl d_A_work_151 ?_
              have hPc : va_P D vwCl (VW dA h ad z) H := spP (wr := LiW dA lb gs) hP
              have hDc : va_D A (VW dA h ad z) := spD (wr := LiW dA lb gs) hD
              refine jkI (wr := LiW dA lb gs) (rnV (As := [.int kd]) (rest := []) hx hb hml hown hE hK (hN _ _ hS) hPc hDc (v_joinW l D dA H.size h ad z la gk AK TK r kd NL2 NR2 RS2 RU2 wi2 hkz hd1 hd2 hop ht2 hu2) (q0 := 37) rfl rfl w1783 w1782 w1784 w1785 w846 rfl rfl ⟨⟨by decide, by decide⟩, rfl⟩ ⟨(Nat.le_of_ble_eq_true rfl), (Nat.le_of_ble_eq_true rfl)⟩ rfl hl.1 rfl (Nat.le_of_ble_eq_true rfl) d_A_work_154 ⟨(show cC i + 0 + 0 + 0 ≤ cC k by omega), (show cS i + 0 + 0 + 0 ≤ cS k by omega)⟩) hP hD hS hA (fun r49 u50 H locs hp9 hP hD hS => ?_)
              obtain ⟨w1, gq1, Aq, Tq⟩ := u50
              have hP : va_P D vwCl (LiW dA lb gs ++ (VW dA h ad w1)) H := hP
              have hD : va_D A (LiW dA lb gs ++ (VW dA h ad w1)) := hD
              obtain ⟨f_v_51, f_k_52⟩ := hp9
              have hv9 := f_v_51
              rw [if_neg hj3] at hv9
              have hR1 : wkR dA ad r la PS SS nw S ((x.wk0 fr wd nw), g, AT, T) (i + 1) (w1, gq1, Aq, Tq) := ⟨(z, gk, AK, TK), hR0, by rw [hsi]; exact Or.inr (Or.inr (Or.inr ⟨hop, NL2, NR2, RS2, RU2, wi2, ht2, hu2, hj3, f_k_52⟩))⟩
              subst hv9
              refine lv_if_ne hx hb d_A_work_157 (tgt := 166) rfl (fun _ => ?_) (fun h9 => absurd h9 (by decide))
              refine lv_iinc (k := 1) (v := nI (i + 1)) hx hb d_A_work_166 hl rfl (iincN (i) 1 1 (by decide)) (by decide) rfl (fun ls hl => ?_)
              have hl : lv_has ls 12 [(10, .int (nI (i + 1))), (11, .ref sp), (0, .ref (ad 24)), (1, .ref (ad 22)), (2, .ref (ad 17)), (3, .ref (ad 3)), (4, .ref (ad 1)), (5, .long fr), (7, .long wd), (9, .int (nI nw))] := hl
              refine lv_goto hx hb d_A_work_169 (tgt := 26) rfl ?_
              refine W.widen (k := cC (i + 1)) (n := cS (i + 1)) (show cC i + 0 + 0 + 0 ≤ cC (i + 1) from by omega) (show cS i + 0 + 0 + 0 ≤ cS (i + 1) from by omega) ?_
              exact ih26 _ (by omega) (i + 1) w1 gq1 Aq Tq (by omega) hR1 rfl H _ ls hP hD hS (lv_sub hl [0, 2, 3, 4, 5, 6, 7, 8, 9] rfl)
        · refine lv_aload_n hx hb d_A_work_38 rfl (lv_at hl 2 rfl) ?_
          obtain ⟨sp, hei, hsp⟩ := hst i (by omega)
          rw [Nat.zero_add] at hei
          obtain ⟨⟨kd, pq, nu, nn, NL, n9, KD, MN, MT⟩, hsi⟩ : ∃ q : SP1, S.getD i (spO 0 0 0) = q := ⟨_, rfl⟩
          rw [hsi] at hsp
          have hx9 := hxx (z, gk, AK, TK) (by omega) (by rw [← hik]; exact hR0)
          rw [← hik, hsi] at hx9
          obtain ⟨hop, hd1, hd2, NL2, NR2, RS2, RU2, wi2, ht2, hu2, hj3⟩ := hx9
          have hop : isOp kd := hop
          have hd1 : 2 ≤ z.adep := hd1
          have hd2 : z.adep ≤ gk.sz := hd2
          have hj3 : jnC NL2 NR2 (TK (z.adep - 2)) (TK (z.adep - 1)) = 3 := hj3
          obtain ⟨pl_z, kn_z, nser_z, awi_z, afr_z, awd_z, nP_z, npc_z, nsc_z, nsO_z, hsize_z, hN_z, hO_z, hT_z⟩ := ak_f haz
          have hsp : isStp dA z.pl sp kd pq nu nn NL n9 KD MN MT := by rw [pl_z]; exact hsp
          have hspc := hsp
          obtain ⟨na, ln, lt, mk, cap, kN, fn, fk, j1, -⟩ := hspc
          refine gFN (v := .ref (ad 23)) hx hb hown hE hK hP 38 rfl rfl layQ 8 (by decide) w1763 rfl d_A_work_39 ?_
          rw [← hlb]
          refine lv_iload hx hb d_A_work_42 (lv_at hl 0 rfl) ?_
          refine jkR (wr := []) (rnV (As := [.int (nI i)]) (rest := []) hx hb hml hown hE hK (hN _ _ hS) hP hD (v_Lget l D dA H.size (VW dA h ad z) lb gs i sp hgs hgn (show i < gs.sz from by omega) hei) (q0 := 0) rfl rfl w1489 w1537 w1490 w1491 w680 rfl rfl ⟨⟨by decide, by decide⟩, rfl⟩ ⟨(Nat.le_of_ble_eq_true rfl), (Nat.le_of_ble_eq_true rfl)⟩ rfl hl.1 rfl (Nat.le_of_ble_eq_true rfl) d_A_work_44 ⟨(show cC i + 0 + 0 ≤ cC k by omega), (show cS i + 0 + 0 ≤ cS k by omega)⟩) hP hD hS hA (fun u54 r53 H locs hp9 hP hD hS => ?_)
          have hP : va_P D vwCl (LiW dA lb gs ++ (VW dA h ad z)) H := hP
          have hD : va_D A (LiW dA lb gs ++ (VW dA h ad z)) := hD
          have f_e_55 := hp9
          have e9 := f_e_55
          subst e9
          obtain ⟨qp56, ep57⟩ := List.getElem?_of_mem (show ((sp, .inr (13, [.int kd, .int (nI pq), .long nu, .ref na, .int (nI nn), .ref ln, .ref lt, .ref mk])) : Nat × va_E) ∈ LiW dA lb gs ++ (VW dA h ad z) from (List.mem_append_right _ (plm j1)))
          refine va_castE hx hb hown (hE.t w1764 rfl) (va_recv hK hP (ci := 13) (q0 := qp56) (q := ("SeriesVault$Step", TE, 8)) rfl ep57) d_A_work_47 ?_
          refine lv_astore hx hb d_A_work_50 hl (by decide) rfl (fun ls hl => ?_)
          have hl : lv_has ls 12 [(11, .ref sp), (10, .int (nI i)), (0, .ref (ad 24)), (1, .ref (ad 22)), (2, .ref (ad 17)), (3, .ref (ad 3)), (4, .ref (ad 1)), (5, .long fr), (7, .long wd), (9, .int (nI nw))] := hl
          refine lv_aload hx hb d_A_work_52 (lv_at hl 0 rfl) ?_
          obtain ⟨qp58, ep59⟩ := List.getElem?_of_mem (show ((sp, .inr (13, [.int kd, .int (nI pq), .long nu, .ref na, .int (nI nn), .ref ln, .ref lt, .ref mk])) : Nat × va_E) ∈ LiW dA lb gs ++ (VW dA h ad z) from (List.mem_append_right _ (plm j1)))
          refine gFN (v := .int kd) hx hb hown hE hK hP qp58 ep59 rfl layE 0 (by decide) w1765 rfl d_A_work_54 ?_
          rcases (⟨hop, trivial⟩ : isOp kd ∧ True) with ⟨hop, -⟩
          · refine lv_lookup (x := kd) (off := 91) (tgt := 148) hx hb d_A_work_57 (by decide) (lswJ hop) rfl ?_
            refine lv_aload_n hx hb d_A_work_148 rfl (lv_at hl 2 rfl) ?_
            refine lv_aload hx hb d_A_work_149 (lv_at hl 0 rfl) ?_
            obtain ⟨qp60, ep61⟩ := List.getElem?_of_mem (show ((sp, .inr (13, [.int kd, .int (nI pq), .long nu, .ref na, .int (nI nn), .ref ln, .ref lt, .ref mk])) : Nat × va_E) ∈ LiW dA lb gs ++ (VW dA h ad z) from (List.mem_append_right _ (plm j1)))
            refine gFN (v := .int kd) hx hb hown hE hK hP qp60 ep61 rfl layE 0 (by decide) w1765 rfl d_A_work_151 ?_
            have hPc : va_P D vwCl (VW dA h ad z) H := spP (wr := LiW dA lb gs) hP
            have hDc : va_D A (VW dA h ad z) := spD (wr := LiW dA lb gs) hD
            refine jkI (wr := LiW dA lb gs) (rnV (As := [.int kd]) (rest := []) hx hb hml hown hE hK (hN _ _ hS) hPc hDc (v_joinW l D dA H.size h ad z la gk AK TK r kd NL2 NR2 RS2 RU2 wi2 hkz hd1 hd2 hop ht2 hu2) (q0 := 37) rfl rfl w1783 w1782 w1784 w1785 w846 rfl rfl ⟨⟨by decide, by decide⟩, rfl⟩ ⟨(Nat.le_of_ble_eq_true rfl), (Nat.le_of_ble_eq_true rfl)⟩ rfl hl.1 rfl (Nat.le_of_ble_eq_true rfl) d_A_work_154 ⟨(show cC i + 0 + 0 + 0 ≤ cC k by omega), (show cS i + 0 + 0 + 0 ≤ cS k by omega)⟩) hP hD hS hA (fun r62 u63 H locs hp9 hP hD hS => ?_)
            obtain ⟨w1, gq1, Aq, Tq⟩ := u63
            have hP : va_P D vwCl (LiW dA lb gs ++ (VW dA h ad w1)) H := hP
            have hD : va_D A (LiW dA lb gs ++ (VW dA h ad w1)) := hD
            obtain ⟨f_v_64, f_k_65⟩ := hp9
            have hv9 := f_v_64
            rw [if_pos hj3] at hv9
            have hjz := f_k_65
            have j1 : ((sp, .inr (13, [.int kd, .int (nI pq), .long nu, .ref na, .int (nI nn), .ref ln, .ref lt, .ref mk])) : Nat × va_E) ∈ w1.pl := by rw [show w1.pl = z.pl from (ak_f (jn_k (a := (z, gk, AK, TK)) (b := (w1, gq1, Aq, Tq)) hjz)).1]; exact j1
            subst hv9
            refine lv_if_ne hx hb d_A_work_157 (tgt := 166) rfl (fun h9 => absurd (by decide) h9) (fun _ => ?_)
            refine lv_aload hx hb d_A_work_160 (lv_at hl 0 rfl) ?_
            obtain ⟨qp66, ep67⟩ := List.getElem?_of_mem (show ((sp, .inr (13, [.int kd, .int (nI pq), .long nu, .ref na, .int (nI nn), .ref ln, .ref lt, .ref mk])) : Nat × va_E) ∈ LiW dA lb gs ++ (VW dA h ad w1) from (List.mem_append_right _ (plm j1)))
            refine gFN (v := .int (nI pq)) hx hb hown hE hK hP qp66 ep67 rfl layE 1 (by decide) w1786 rfl d_A_work_162 ?_
            exact rfI hx hb hr hlk hS (⟨w1, gq1, Aq, Tq⟩) (Or.inr ⟨by omega, by rw [← hik, hsi], (z, gk, AK, TK), NL2, NR2, RS2, RU2, wi2, by rw [← hik]; exact hR0, ht2, hu2, hj3, by rw [← hik, hsi]; exact hjz⟩) hP hD (show cC i + 0 + 0 + 0 ≤ cC k by omega) (show cS i + 0 + 0 + 0 ≤ cS k by omega) d_A_work_165
  refine W.widen (k := cC 0) (n := cS 0) (show 0 ≤ cC 0 from by omega) (show 0 ≤ cS 0 from by omega) ?_
  exact L26 _ 0 (VS.s_awi (VS.s_awd (VS.s_afr (VS.s_adep x 0) fr) wd) nw) g AT T (Nat.zero_le _) rfl rfl H _ ls hP hD hS (lv_sub hl [0, 1, 2, 3, 4, 5, 6, 7, 8] rfl)
end
section
def VS.aq0 (x : VS) : VS := VS.s_hasTable (VS.s_tapeLength x 0) false
/-- a question has been read, its list of steps is out of ll -/
def VS.aq (x : VS) (n : Nat) (r : va_W) (w : VS) : Prop := ∃ y0 : VS, (x.r0 n).qr y0 ∧ w = VS.s_ll y0.aq0 r
theorem aq_f {x w : VS} {n : Nat} {r : va_W} (h : x.aq n r w) : w.kn = x.kn ∧ w.nser = x.nser ∧ w.nP = x.nP ∧ w.npc = x.npc ∧ w.nsc = x.nsc ∧ w.nsO = x.nsO ∧ w.hsize = x.hsize ∧ w.hN = x.hN ∧ w.hO = x.hO ∧ w.hT = x.hT ∧ w.ll = r ∧ ∀ c, c ∈ x.pl → c ∈ w.pl := by
  obtain ⟨y0, ⟨h1, h2⟩, e⟩ := h
  subst e
  exact ⟨(show y0.kn = x.kn from (congrArg VS.kn h1).trans rfl), (show y0.nser = x.nser from (congrArg VS.nser h1).trans rfl), (show y0.nP = x.nP from (congrArg VS.nP h1).trans rfl), (show y0.npc = x.npc from (congrArg VS.npc h1).trans rfl), (show y0.nsc = x.nsc from (congrArg VS.nsc h1).trans rfl), (show y0.nsO = x.nsO from (congrArg VS.nsO h1).trans rfl), (show y0.hsize = x.hsize from (congrArg VS.hsize h1).trans rfl), (show y0.hN = x.hN from (congrArg VS.hN h1).trans rfl), (show y0.hO = x.hO from (congrArg VS.hO h1).trans rfl), (show y0.hT = x.hT from (congrArg VS.hT h1).trans rfl), rfl, h2⟩
theorem v_tableW (l : Launch) (D : va_G) (dA : Nat → ClassId) (sz : Nat) (h : Nat) (ad : Nat → Nat) (x : VS) (la : Nat → Nat) (g : LI) (AT : Nat → Nat → Nat) (T : Nat → TB) (r : va_W) (hk : skP dA ad r x la g AT T) (hi : 0 < g.sz) : Met l ⟨"SeriesVault$Answers", "table", "()LSeriesVault$Table;"⟩ [Cond.code ⟨"SeriesVault$Answers", "table", "()LSeriesVault$Table;"⟩ prog_2_method_2_code 1 (some (FieldType.object "SeriesVault$Table"))] { frames := 4, cells := 0, slots := 0, locals := 64 } (pC D dA [.ref (ad 24)] (VW dA h ad x) sz) (va_Qr (fun (_ : Unit) => True) (fun (u9 : Unit) (r9 : Nat) t9 => (AT 0 0 = r9) ∧ bW D (va_A (VW dA h ad x) sz) (VW dA h ad x) t9) (va_A (VW dA h ad x) sz)) 0 0 (va_A (VW dA h ad x) sz) := by
  obtain ⟨k1, k2, k3, k4, k5, k6⟩ := hk
  obtain ⟨R, hR⟩ := tbs_x (dA := dA) AT T hi
  have a := sk_pm (L := LiW dA la g) (r := r) (hR AT T (fun _ _ _ => ⟨rfl, rfl⟩))
  have p := llQ2 (dA := dA) (h := h) (ad := ad) (k1.trans a)
  rw [vaA_pm p]
  refine Met_mono (v_Atable l D dA sz h ad (AT 0) (T 0) la g (VS.s_ll x (R ++ r)) k2 k3 (by omega) hi (k6 _ hi)) (Nat.le_refl _) (Nat.le_refl _) (Nat.le_refl _) (Nat.le_refl _) (Nat.le_refl _) (Nat.le_refl _) (fun _ _ q => pC_pm p q) ?_ (fun _ q => q)
  rintro b9 st o9 t9 ⟨⟨u, a9, c1, -, c3, c4⟩, c5⟩
  exact ⟨⟨(), a9, c1, trivial, c3, bW_pm p.symm c4⟩, c5⟩
theorem sk_t {dA : Nat → ClassId} {ad : Nat → Nat} {r : va_W} {x : VS} {la : Nat → Nat} {g : LI} {AT : Nat → Nat → Nat} {T : Nat → TB} {i : Nat} (hk : skP dA ad r x la g AT T) (hi : i < g.sz) : (AT i 0, .inr (8, [.ref (AT i 1), .int (nI (T i).nc), .int (nI (T i).wi), .int (nI (T i).rc), .ref (AT i 2), .ref (AT i 3), .ref (T i).cA])) ∈ x.ll := hk.1.mem_iff.mpr (List.mem_append_right _ (List.mem_append_left _ (tbs_in hi _ (List.mem_of_getElem? (i := 0) rfl))))
/-- no address twice with other contents -/
def plF (ws : va_W) : Prop := ∀ (a : Nat) (u v : va_E), (a, u) ∈ ws → (a, v) ∈ ws → u = v
theorem plF_of {A : Nat → Prop} {ws : va_W} (hD : va_D A ws) : plF ws := by
  intro a u v h1 h2
  obtain ⟨i, hi⟩ := List.mem_iff_getElem?.mp h1
  obtain ⟨j, hj⟩ := List.mem_iff_getElem?.mp h2
  have e := hD.1 i j _ _ hi hj rfl
  rw [e] at hi
  exact (congrArg Prod.snd (Option.some.inj (hi.symm.trans hj)))
theorem plF_s {ws ws1 : va_W} (hs : ∀ c, c ∈ ws → c ∈ ws1) (h : plF ws1) : plF ws := fun a u v h1 h2 => h a u v (hs _ h1) (hs _ h2)
def VS.af0 (x : VS) : VS := VS.s_hasTable (VS.s_faultPlace (VS.s_faultCode (VS.s_tapeLength x 0) x.qcode) x.qpl) false
set_option maxHeartbeats 4000000 in
set_option maxRecDepth 100000 in
theorem v_ask_1 (l : Launch) (htr : l.stackTraces = false) (D : va_G) (dA : Nat → ClassId) (sz : Nat) (h : Nat) (ad : Nat → Nat) (x : VS) (a : Int64) (b : Int64) (n : Int32) (ho : x.powered = false) : mX l ⟨"SeriesVault", "ask", "(JJI)I"⟩ [Cond.code ⟨"SeriesVault", "ask", "(JJI)I"⟩ prog_1_method_45_code 8 (some FieldType.int)] { frames := 7, cells := 1, slots := 6, locals := 101 } (pC D dA [.ref h, .long a, .long b, .int n] (VW dA h ad x) sz) "java/lang/IllegalStateException" (fun st9 t9 => va_F (va_A (VW dA h ad x) sz) st9 t9 ∧ bW D (va_A (VW dA h ad x) sz) (VW dA h ad x) t9) 1 6 (va_A (VW dA h ad x) sz) := by
  refine mkX (y := ⟨"SeriesVault", "ask", "(JJI)I"⟩) (cc := prog_1_method_45_code) (maxL := 8) (av := [.ref h, .long a, .long b, .int n]) (ws := VW dA h ad x) (sz := sz) (B := fun A => (fun st9 t9 => va_F A st9 t9 ∧ bW D A (VW dA h ad x) t9)) (by decide) (Nat.le_of_ble_eq_true rfl) ?_
  intro A p e s m below meth c ls hsz hno hB
  obtain ⟨hx, hb, hr, hml, hown, hin, hlk, hE, hK, hP, hD, hS, hA, hN, hl⟩ := hB
  have hown : s.vm.findClass "SeriesVault" = some m.cls := hown
  have hl : lv_has ls 8 [(0, .ref h), (1, .long a), (3, .long b), (5, .int n)] := hl
  obtain ⟨H, hH⟩ : ∃ z, z = s.heap := ⟨_, rfl⟩
  have hP : va_P D vwCl (VW dA h ad x) H := by rw [hH]; exact hP
  have hS : va_S A s.heap H [] := by rw [hH]; exact hS
  rw [← hH]
  refine lv_aload_n hx hb d_V_ask_0 rfl (lv_at hl 0 rfl) ?_
  refine xfV (w1 := VW dA h ad x) (As := []) (rest := []) hx hb hml hown hE hK (hN _ _ hS) (v_checkPower_x l htr D dA H.size h ad x ho) (q0 := 0) rfl rfl w278 w276 w279 w280 w277 rfl rfl ⟨⟨by decide, by decide⟩, rfl⟩ ⟨(Nat.le_of_ble_eq_true rfl), (Nat.le_of_ble_eq_true rfl)⟩ rfl hl.1 rfl (Nat.le_of_ble_eq_true rfl) d_V_ask_1 ⟨(Nat.le_of_ble_eq_true rfl), (Nat.le_of_ble_eq_true rfl)⟩ hP hD hS hA (fun xa1 ce H locs hP hD hS hce hcv hcl => ?_)
  exact xOut hno hlk hce hcv hcl (fun t ht => xEndV hP hD hS t (by rw [ht]; exact Nat.le_refl _) (fun q _ => by rw [ht])) hS.2.2 (Nat.le_of_ble_eq_true rfl) (Nat.le_of_ble_eq_true rfl)
set_option maxHeartbeats 4000000 in
set_option maxRecDepth 100000 in
theorem v_ask_f (l : Launch) (D : va_G) (dA : Nat → ClassId) (sz : Nat) (e0 mi : Nat) (kA vA : Nat → Nat) (fm : Nat) (h : Nat) (ad : Nat → Nat) (sa : Nat) (g : LI) (r : va_W) (x : VS) (fr : Int64) (wd : Int64) (nw : Nat) (ho : x.powered = true) (t1 : isTm fr = true) (t2 : 1 ≤ wd) (t3 : wd ≤ 1099511627775) (t4 : 1 ≤ nw) (t5 : nw ≤ 64) (hsa : sa = ad 23) (hll : x.ll = LqW dA sa g ++ r) (hst : stL e0 x.pl g) (hn : x.tapeLength ≤ 16384) (h2 : x.tapeLength ≤ x.tpN) (h3 : x.tpN ≤ 131072) (hby : byteF x.tape) (hR : (qRd (pQ x.tape x.tapeLength (x.t0 x.tapeLength))).1 = false) : Met l ⟨"SeriesVault", "ask", "(JJI)I"⟩ [Cond.code ⟨"SeriesVault", "ask", "(JJI)I"⟩ prog_1_method_45_code 8 (some FieldType.int)] { frames := 274, cells := 8 * x.tapeLength, slots := 64 * x.tapeLength + 4 * (cpR g.eN 0 (pQ x.tape x.tapeLength (x.t0 x.tapeLength)).2.2.length - g.eN), locals := 6670 } (pCs D dA e0 mi kA vA fm [.ref h, .long fr, .long wd, .int (nI nw)] (VW dA h ad x) sz) (va_Qi (fun (r9 : Int32) (u9 : VS × LI × VS × VS) => r9 = (-1) ∧ (x.r0 x.tapeLength).qr u9.2.2.2 ∧ VS.pq dA e0 sa r u9.2.2.1 (LI.s_el (LI.s_mc (LI.s_sz g 0) (g.mc + 1)) (clF g.el g.sz)) (qRd (pQ x.tape x.tapeLength (x.t0 x.tapeLength))) u9.2.2.2 u9.2.1 ∧ u9.1 = u9.2.2.2.af0) (fun (u9 : VS × LI × VS × VS) t9 => bW D (va_A (VW dA h ad x) sz) (VW dA h ad u9.1) t9) (va_A (VW dA h ad x) sz)) (8 * x.tapeLength) (64 * x.tapeLength + 4 * (cpR g.eN 0 (pQ x.tape x.tapeLength (x.t0 x.tapeLength)).2.2.length - g.eN)) (va_A (VW dA h ad x) sz) := by
  refine mkS (y := ⟨"SeriesVault", "ask", "(JJI)I"⟩) (cc := prog_1_method_45_code) (maxL := 8) (av := [.ref h, .long fr, .long wd, .int (nI nw)]) (ws := VW dA h ad x) (sz := sz) (Qc := fun A => va_Qi (fun (r9 : Int32) (u9 : VS × LI × VS × VS) => r9 = (-1) ∧ (x.r0 x.tapeLength).qr u9.2.2.2 ∧ VS.pq dA e0 sa r u9.2.2.1 (LI.s_el (LI.s_mc (LI.s_sz g 0) (g.mc + 1)) (clF g.el g.sz)) (qRd (pQ x.tape x.tapeLength (x.t0 x.tapeLength))) u9.2.2.2 u9.2.1 ∧ u9.1 = u9.2.2.2.af0) (fun (u9 : VS × LI × VS × VS) t9 => bW D A (VW dA h ad u9.1) t9) A) (by decide) (Nat.le_of_ble_eq_true rfl) ?_
  intro A p e s m below meth c ls hsz hZ hT hM hQ hB
  obtain ⟨hx, hb, hr, hml, hown, hin, hlk, hE, hK, hP, hD, hS, hA, hN, hl⟩ := hB
  have hown : s.vm.findClass "SeriesVault" = some m.cls := hown
  have hl : lv_has ls 8 [(0, .ref h), (1, .long fr), (3, .long wd), (5, .int (nI nw))] := hl
  obtain ⟨H, hH⟩ : ∃ z, z = s.heap := ⟨_, rfl⟩
  have hP : va_P D vwCl (VW dA h ad x) H := by rw [hH]; exact hP
  have hS : va_S A s.heap H [] := by rw [hH]; exact hS
  rw [← hH]
  refine lv_aload_n hx hb d_V_ask_0 rfl (lv_at hl 0 rfl) ?_
  refine jkV (wr := []) (rnV (As := []) (rest := []) hx hb hml hown hE hK (hN _ _ hS) hP hD (v_checkPower l D dA H.size h ad x ho) (q0 := 0) rfl rfl w278 w276 w279 w280 w277 rfl rfl ⟨⟨by decide, by decide⟩, rfl⟩ ⟨(Nat.le_of_ble_eq_true rfl), (Nat.le_of_ble_eq_true rfl)⟩ rfl hl.1 rfl (Nat.le_of_ble_eq_true rfl) d_V_ask_1 ⟨(show 0 + 0 ≤ 8 * x.tapeLength by omega), (show 0 + 0 ≤ 64 * x.tapeLength + 4 * (cpR g.eN 0 (pQ x.tape x.tapeLength (x.t0 x.tapeLength)).2.2.length - g.eN) by omega)⟩) hP hD hS hA (fun u2 H locs hp9 hP hD hS => ?_)
  have hP : va_P D vwCl (VW dA h ad x) H := hP
  have hD : va_D A (VW dA h ad x) := hD
  refine lv_lload_n hx hb d_V_ask_4 rfl (lv_at hl 1 rfl) ?_
  have hPc := hP.sub (ws' := []) [] rfl
  have hDc := hD.sub (ws' := []) [] (by decide) rfl
  refine jpI (rnS (As := [.long fr]) (rest := []) hx hb hml hown hE hK (hN _ _ hS) hPc hDc (v_isTime l D dA H.size fr) w693 w692 w694 w277 rfl rfl ⟨⟨by decide, by decide⟩, rfl⟩ ⟨(Nat.le_of_ble_eq_true rfl), (Nat.le_of_ble_eq_true rfl)⟩ rfl hl.1 rfl (Nat.le_of_ble_eq_true rfl) d_V_ask_5 ⟨(show 0 + 0 + 0 ≤ 8 * x.tapeLength by omega), (show 0 + 0 + 0 ≤ 64 * x.tapeLength + 4 * (cpR g.eN 0 (pQ x.tape x.tapeLength (x.t0 x.tapeLength)).2.2.length - g.eN) by omega)⟩) hP hD hS hA (fun r3 u9 H locs hp9 hP hD hS => ?_)
  have hP : va_P D vwCl (VW dA h ad x) H := hP
  have hD : va_D A (VW dA h ad x) := hD
  replace hp9 : bI (isTm fr) = r3 := Eq.symm hp9
  subst hp9
  refine lv_if_eq hx hb d_V_ask_8 (tgt := 38) rfl (fun h9 => absurd h9 (by rw [t1]; decide)) (fun _ => ?_)
  refine lv_lload_n hx hb d_V_ask_11 rfl (lv_at hl 2 rfl) ?_
  refine lv_lconst (v := 1) hx hb d_V_ask_12 (by decide) ?_
  refine W.lcmp hx hb d_V_ask_13 ?_
  refine lv_if_lt hx hb d_V_ask_14 (tgt := 38) rfl (fun h9 => absurd h9 (mt (lg_cmp_lt _ _).mp (Int64.not_lt.mpr t2))) (fun _ => ?_)
  refine lv_lload_n hx hb d_V_ask_17 rfl (lv_at hl 2 rfl) ?_
  refine lv_ldc2 (v := 1099511627775) hx hb hown (hE.t w653 rfl) d_V_ask_18 ?_
  refine W.lcmp hx hb d_V_ask_21 ?_
  refine lv_if_gt hx hb d_V_ask_22 (tgt := 38) rfl (fun h9 => absurd h9 (mt (lg_cmp_gt _ _).mp (Int64.not_lt.mpr t3))) (fun _ => ?_)
  refine lv_iload hx hb d_V_ask_25 (lv_at hl 3 rfl) ?_
  refine lv_iconst (v := 1) hx hb d_V_ask_27 (by decide) ?_
  refine lv_icmp_lt hx hb d_V_ask_28 (tgt := 38) rfl (fun h9 => absurd h9 (mt (nI_ltI (a := nw) (b := 1) (by omega) (by omega)).mp (Nat.not_lt.mpr t4))) (fun _ => ?_)
  refine lv_iload hx hb d_V_ask_31 (lv_at hl 3 rfl) ?_
  refine lv_bipush (v := 64) hx hb d_V_ask_33 (by decide) ?_
  refine lv_icmp_le hx hb d_V_ask_35 (tgt := 46) rfl (fun _ => ?_) (fun h9 => absurd ((nI_leI (a := nw) (b := 64) (by omega) (by omega)).mpr t5) h9)
  refine lv_aload_n hx hb d_V_ask_46 rfl (lv_at hl 0 rfl) ?_
  refine gF (v := .ref (ad 22)) hx hb hown hE hK hP 0 rfl rfl layV 15 (by decide) w695 rfl d_V_ask_47 ?_
  refine lv_aload_n hx hb d_V_ask_50 rfl (lv_at hl 0 rfl) ?_
  refine gF (v := .ref x.tpA) hx hb hown hE hK hP 0 rfl rfl layV 0 (by decide) w539 rfl d_V_ask_51 ?_
  refine lv_aload_n hx hb d_V_ask_54 rfl (lv_at hl 0 rfl) ?_
  refine gF (v := .int (nI x.tapeLength)) hx hb hown hE hK hP 0 rfl rfl layV 1 (by decide) w259 rfl d_V_ask_55 ?_
  refine jkI (wr := []) (rnVs (As := [.ref x.tpA, .int (nI x.tapeLength)]) (rest := []) hx hb hml hown hE hK hZ hT hM hQ hS (hN _ _ hS) hP hD (v_Qread l D dA H.size e0 mi kA vA fm h ad sa g r x x.tapeLength hsa hll hst hn h2 h3 hby) (q0 := 36) rfl rfl w697 w696 w698 w699 w665 rfl rfl ⟨⟨by decide, by decide⟩, rfl⟩ ⟨(Nat.le_of_ble_eq_true rfl), (Nat.le_of_ble_eq_true rfl)⟩ rfl hl.1 rfl (Nat.le_of_ble_eq_true rfl) d_V_ask_58 ⟨(show 0 + 0 + 0 + (8 * x.tapeLength) ≤ 8 * x.tapeLength by omega), (show 0 + 0 + 0 + (64 * x.tapeLength + 4 * (cpR g.eN 0 (pQ x.tape x.tapeLength (x.t0 x.tapeLength)).2.2.length - g.eN)) ≤ 64 * x.tapeLength + 4 * (cpR g.eN 0 (pQ x.tape x.tapeLength (x.t0 x.tapeLength)).2.2.length - g.eN) by omega)⟩) hP hD hS hA (fun r5 u6 H locs hp9 hP hD hS => ?_)
  obtain ⟨y0, gq, y1⟩ := u6
  have hP : va_P D vwCl (VW dA h ad y0) H := hP
  have hD : va_D A (VW dA h ad y0) := hD
  obtain ⟨hp9, f_q_7, f_p_8⟩ := hp9
  replace hp9 : bI (qRd (pQ x.tape x.tapeLength (x.t0 x.tapeLength))).1 = r5 := Eq.symm hp9
  subst hp9
  refine tpi (y := 0) (by rw [hR]; rfl) ?_
  refine lv_istore hx hb d_V_ask_61 hl (by decide) rfl (fun ls hl => ?_)
  have hl : lv_has ls 8 [(6, .int 0), (0, .ref h), (1, .long fr), (3, .long wd), (5, .int (nI nw))] := hl
  refine lv_aload_n hx hb d_V_ask_63 rfl (lv_at hl 1 rfl) ?_
  refine lv_iconst (v := 0) hx hb d_V_ask_64 (by decide) ?_
  refine pF (v := .int (nI 0)) hx hb hown hE hK hP hD hS 0 rfl rfl layV tyV tokV nmV 1 (by decide) w259 rfl rfl rfl (Nat.le_of_ble_eq_true rfl) d_V_ask_65 (fun H locs hP hD hS => ?_)
  have hP : va_P D vwCl (VW dA h ad (VS.s_tapeLength y0 0)) H := hP
  have hD : va_D A (VW dA h ad (VS.s_tapeLength y0 0)) := hD
  refine lv_aload_n hx hb d_V_ask_68 rfl (lv_at hl 1 rfl) ?_
  refine lv_iconst (v := 0) hx hb d_V_ask_69 (by decide) ?_
  refine pF (v := .int (bI false)) hx hb hown hE hK hP hD hS 0 rfl rfl layV tyV tokV nmV 17 (by decide) w210 rfl (bI_nar false) (bI_fit false) (Nat.le_of_ble_eq_true rfl) d_V_ask_70 (fun H locs hP hD hS => ?_)
  have hP : va_P D vwCl (VW dA h ad (VS.s_hasTable (VS.s_tapeLength y0 0) false)) H := hP
  have hD : va_D A (VW dA h ad (VS.s_hasTable (VS.s_tapeLength y0 0) false)) := hD
  refine lv_iload hx hb d_V_ask_73 (lv_at hl 0 rfl) ?_
  refine lv_if_ne hx hb d_V_ask_75 (tgt := 98) rfl (fun h9 => absurd (by decide) h9) (fun _ => ?_)
  refine lv_aload_n hx hb d_V_ask_78 rfl (lv_at hl 1 rfl) ?_
  refine lv_aload_n hx hb d_V_ask_79 rfl (lv_at hl 1 rfl) ?_
  refine gF (v := .ref (ad 22)) hx hb hown hE hK hP 0 rfl rfl layV 15 (by decide) w695 rfl d_V_ask_80 ?_
  refine gFN (v := .int y0.qcode) hx hb hown hE hK hP 36 rfl rfl layQ 6 (by decide) w700 rfl d_V_ask_83 ?_
  refine lv_aload_n hx hb d_V_ask_86 rfl (lv_at hl 1 rfl) ?_
  refine gF (v := .ref (ad 22)) hx hb hown hE hK hP 0 rfl rfl layV 15 (by decide) w695 rfl d_V_ask_87 ?_
  refine gFN (v := .int y0.qpl) hx hb hown hE hK hP 36 rfl rfl layQ 7 (by decide) w701 rfl d_V_ask_90 ?_
  refine jkV (wr := []) (rnV (As := [.int y0.qcode, .int y0.qpl]) (rest := []) hx hb hml hown hE hK (hN _ _ hS) hP hD (v_setFault l D dA H.size h ad (VS.s_hasTable (VS.s_tapeLength y0 0) false) y0.qcode y0.qpl) (q0 := 0) rfl rfl w616 w615 w617 w618 w277 rfl rfl ⟨⟨by decide, by decide⟩, rfl⟩ ⟨(Nat.le_of_ble_eq_true rfl), (Nat.le_of_ble_eq_true rfl)⟩ rfl hl.1 rfl (Nat.le_of_ble_eq_true rfl) d_V_ask_93 ⟨(show 0 + 0 + 0 + (8 * x.tapeLength) + 0 ≤ 8 * x.tapeLength by omega), (show 0 + 0 + 0 + (64 * x.tapeLength + 4 * (cpR g.eN 0 (pQ x.tape x.tapeLength (x.t0 x.tapeLength)).2.2.length - g.eN)) + 0 ≤ 64 * x.tapeLength + 4 * (cpR g.eN 0 (pQ x.tape x.tapeLength (x.t0 x.tapeLength)).2.2.length - g.eN) by omega)⟩) hP hD hS hA (fun u10 H locs hp9 hP hD hS => ?_)
  have hP : va_P D vwCl (VW dA h ad (VS.s_hasTable (VS.s_faultPlace (VS.s_faultCode (VS.s_tapeLength y0 0) y0.qcode) y0.qpl) false)) H := hP
  have hD : va_D A (VW dA h ad (VS.s_hasTable (VS.s_faultPlace (VS.s_faultCode (VS.s_tapeLength y0 0) y0.qcode) y0.qpl) false)) := hD
  refine lv_iconst (v := (-1)) hx hb d_V_ask_96 (by decide) ?_
  exact rfI hx hb hr hlk hS (⟨VS.s_hasTable (VS.s_faultPlace (VS.s_faultCode (VS.s_tapeLength y0 0) y0.qcode) y0.qpl) false, gq, y1, y0⟩) ⟨rfl, f_q_7, f_p_8, rfl⟩ hP hD (show 0 + 0 + 0 + (8 * x.tapeLength) + 0 ≤ 8 * x.tapeLength by omega) (show 0 + 0 + 0 + (64 * x.tapeLength + 4 * (cpR g.eN 0 (pQ x.tape x.tapeLength (x.t0 x.tapeLength)).2.2.length - g.eN)) + 0 ≤ 64 * x.tapeLength + 4 * (cpR g.eN 0 (pQ x.tape x.tapeLength (x.t0 x.tapeLength)).2.2.length - g.eN) by omega) d_V_ask_97
end
section
def VS.at1 (x : VS) : VS := VS.s_hasTable (VS.s_faultPlace (VS.s_faultCode x 0) 0) true
def VS.at5 (x : VS) (z : Int32) : VS := VS.s_faultPlace (VS.s_faultCode x 5) z
theorem d_V_ask_98 : decode prog_1_method_45_code 98 = .ok (.aload_n 0, 1) := by decide +kernel
theorem d_V_ask_99 : decode prog_1_method_45_code 99 = .ok (.getfield 63, 3) := by decide +kernel
theorem d_V_ask_102 : decode prog_1_method_45_code 102 = .ok (.aload_n 0, 1) := by decide +kernel
theorem d_V_ask_103 : decode prog_1_method_45_code 103 = .ok (.getfield 56, 3) := by decide +kernel
theorem d_V_ask_106 : decode prog_1_method_45_code 106 = .ok (.aload_n 0, 1) := by decide +kernel
theorem d_V_ask_107 : decode prog_1_method_45_code 107 = .ok (.getfield 42, 3) := by decide +kernel
theorem d_V_ask_110 : decode prog_1_method_45_code 110 = .ok (.aload_n 0, 1) := by decide +kernel
theorem d_V_ask_111 : decode prog_1_method_45_code 111 = .ok (.getfield 33, 3) := by decide +kernel
theorem d_V_ask_114 : decode prog_1_method_45_code 114 = .ok (.aload_n 0, 1) := by decide +kernel
theorem d_V_ask_115 : decode prog_1_method_45_code 115 = .ok (.getfield 23, 3) := by decide +kernel
theorem d_V_ask_118 : decode prog_1_method_45_code 118 = .ok (.lload_n 1, 1) := by decide +kernel
theorem d_V_ask_119 : decode prog_1_method_45_code 119 = .ok (.lload_n 3, 1) := by decide +kernel
theorem d_V_ask_120 : decode prog_1_method_45_code 120 = .ok (.iload 5, 2) := by decide +kernel
theorem d_V_ask_122 : decode prog_1_method_45_code 122 = .ok (.invokevirtual 382, 3) := by decide +kernel
theorem d_V_ask_125 : decode prog_1_method_45_code 125 = .ok (.istore 7, 2) := by decide +kernel
theorem d_V_ask_127 : decode prog_1_method_45_code 127 = .ok (.iload 7, 2) := by decide +kernel
theorem d_V_ask_129 : decode prog_1_method_45_code 129 = .ok (.iconst (-1), 1) := by decide +kernel
theorem d_V_ask_130 : decode prog_1_method_45_code 130 = .ok (.if_icmp .eq 12, 3) := by decide +kernel
theorem d_V_ask_142 : decode prog_1_method_45_code 142 = .ok (.aload_n 0, 1) := by decide +kernel
theorem d_V_ask_143 : decode prog_1_method_45_code 143 = .ok (.iconst 0, 1) := by decide +kernel
theorem d_V_ask_144 : decode prog_1_method_45_code 144 = .ok (.iconst 0, 1) := by decide +kernel
theorem d_V_ask_145 : decode prog_1_method_45_code 145 = .ok (.invokevirtual 210, 3) := by decide +kernel
theorem d_V_ask_148 : decode prog_1_method_45_code 148 = .ok (.aload_n 0, 1) := by decide +kernel
theorem d_V_ask_149 : decode prog_1_method_45_code 149 = .ok (.iconst 1, 1) := by decide +kernel
theorem d_V_ask_150 : decode prog_1_method_45_code 150 = .ok (.putfield 114, 3) := by decide +kernel
theorem d_V_ask_153 : decode prog_1_method_45_code 153 = .ok (.aload_n 0, 1) := by decide +kernel
theorem d_V_ask_154 : decode prog_1_method_45_code 154 = .ok (.getfield 63, 3) := by decide +kernel
theorem d_V_ask_157 : decode prog_1_method_45_code 157 = .ok (.invokevirtual 386, 3) := by decide +kernel
theorem d_V_ask_160 : decode prog_1_method_45_code 160 = .ok (.getfield 390, 3) := by decide +kernel
theorem d_V_ask_163 : decode prog_1_method_45_code 163 = .ok (.ireturn, 1) := by decide +kernel
theorem w1787 : Cond.methodLink "SeriesVault" 382 ⟨"SeriesVault$Answers", "work", "(LSeriesVault$Question;[LSeriesVault$Series;LSeriesVault$Shelf;LSeriesVault$Points;JJI)I"⟩ ∈ aW := aw_of (tb_7 (List.mem_of_getElem? (i := 130) rfl)) rfl
theorem w1788 : Cond.code ⟨"SeriesVault$Answers", "work", "(LSeriesVault$Question;[LSeriesVault$Series;LSeriesVault$Shelf;LSeriesVault$Points;JJI)I"⟩ prog_2_method_3_code 12 (some FieldType.int) ∈ aW := aw_of (tb_7 (List.mem_of_getElem? (i := 133) rfl)) rfl
theorem w1789 : Cond.instanceMethod ⟨"SeriesVault$Answers", "work", "(LSeriesVault$Question;[LSeriesVault$Series;LSeriesVault$Shelf;LSeriesVault$Points;JJI)I"⟩ ∈ aW := aw_of (tb_7 (List.mem_of_getElem? (i := 131) rfl)) rfl
theorem w1790 : Cond.selects "SeriesVault$Answers" ⟨"SeriesVault$Answers", "work", "(LSeriesVault$Question;[LSeriesVault$Series;LSeriesVault$Shelf;LSeriesVault$Points;JJI)I"⟩ ⟨"SeriesVault$Answers", "work", "(LSeriesVault$Question;[LSeriesVault$Series;LSeriesVault$Shelf;LSeriesVault$Points;JJI)I"⟩ ∈ aW := aw_of (tb_7 (List.mem_of_getElem? (i := 132) rfl)) rfl
set_option maxHeartbeats 4000000 in
set_option maxRecDepth 100000 in
theorem v_ask (l : Launch) (D : va_G) (dA : Nat → ClassId) (sz : Nat) (e0 mi : Nat) (kA vA : Nat → Nat) (fm : Nat) (h : Nat) (ad : Nat → Nat) (sa : Nat) (g : LI) (r : va_W) (x : VS) (fr : Int64) (wd : Int64) (nw : Nat) (la : Nat → Nat) (gk : LI) (AT : Nat → Nat → Nat) (T : Nat → TB) (S : List SP1) (tk9 : TKQ) (SS : Nat → List LB) (PS : Nat → PT) (cC : Nat → Nat) (cS : Nat → Nat) (k : Nat) (ho : x.powered = true) (t1 : isTm fr = true) (t2 : 1 ≤ wd) (t3 : wd ≤ 1099511627775) (t4 : 1 ≤ nw) (t5 : nw ≤ 64) (hsa : sa = ad 23) (hll : x.ll = LqW dA sa g ++ r) (hst : stL e0 x.pl g) (hn : x.tapeLength ≤ 16384) (h2 : x.tapeLength ≤ x.tpN) (h3 : x.tpN ≤ 131072) (hby : byteF x.tape) (hR : qRd (pQ x.tape x.tapeLength (x.t0 x.tapeLength)) = (true, tk9, S)) (hS0 : 0 < S.length) (hk : skP dA ad ([] : va_W) (VS.s_ll x r) la gk AT T) (hkn : knOk dA x.kn x.nser x.pl SS) (hps : psOk dA x.nP x.npc x.pl PS) (hpn : x.npc ≤ 32) (hs1 : x.nsc ≤ 64) (hs7 : ∀ q : Nat, q < x.nsc → x.nsO q < 2 ^ 31) (hns : x.nser ≤ 256) (hpo : ∀ k : Nat, k < x.npc → ∀ i : Nat, i < (PS k).n → (PS k).o i < x.nser ∧ wOk fr wd nw ((PS k).t i)) (hho : ∀ i : Nat, i < x.hsize → x.hO i < x.nser ∧ wOk fr wd nw (x.hT i)) (hhz : x.hsize ≤ x.hN) (hhN : x.hN ≤ 65536) (hkS : k ≤ S.length) (hcC : ∀ i : Nat, i ≤ k → cC i ≤ cC k ∧ cS i ≤ cS k) (hgo : ∀ (w : VS) (i : Nat) (a : SKT), x.aq x.tapeLength r w → plF w.pl → i < k → wkR dA ad ([] : va_W) la PS SS nw S (w.wk0 fr wd nw, gk, AT, T) i a → wkO dA ad ([] : va_W) la SS (S.getD i (spO 0 0 0)) (cC i) (cC (i + 1)) (cS i) (cS (i + 1)) a) (hxx : ∀ (w : VS) (a : SKT), x.aq x.tapeLength r w → plF w.pl → k < S.length → wkR dA ad ([] : va_W) la PS SS nw S (w.wk0 fr wd nw, gk, AT, T) k a → wkX dA (S.getD k (spO 0 0 0)) a) (hkl : k = S.length) (hfin : ∀ (w : VS) (a : SKT), x.aq x.tapeLength r w → plF w.pl → wkR dA ad ([] : va_W) la PS SS nw S (w.wk0 fr wd nw, gk, AT, T) S.length a → 0 < a.2.1.sz) : Met l ⟨"SeriesVault", "ask", "(JJI)I"⟩ [Cond.code ⟨"SeriesVault", "ask", "(JJI)I"⟩ prog_1_method_45_code 8 (some FieldType.int)] { frames := 274, cells := 8 * x.tapeLength + cC k, slots := 64 * x.tapeLength + 4 * (cpR g.eN 0 (pQ x.tape x.tapeLength (x.t0 x.tapeLength)).2.2.length - g.eN) + cS k, locals := 6670 } (pCs D dA e0 mi kA vA fm [.ref h, .long fr, .long wd, .int (nI nw)] (VW dA h ad x) sz) (va_Qi (fun (r9 : Int32) (u9 : VS × LI × VS × VS × VS × VS × LI × (Nat → Nat → Nat) × (Nat → TB)) => r9 = nI (u9.2.2.2.2.2.2.2.2 0).rc ∧ (x.r0 x.tapeLength).qr u9.2.2.2.1 ∧ VS.pq dA e0 sa r u9.2.2.1 (LI.s_el (LI.s_mc (LI.s_sz g 0) (g.mc + 1)) (clF g.el g.sz)) (qRd (pQ x.tape x.tapeLength (x.t0 x.tapeLength))) u9.2.2.2.1 u9.2.1 ∧ u9.2.2.2.2.1 = VS.s_ll u9.2.2.2.1.aq0 r ∧ plF u9.2.2.2.2.1.pl ∧ wkR dA ad ([] : va_W) la PS SS nw S (u9.2.2.2.2.1.wk0 fr wd nw, gk, AT, T) S.length (u9.2.2.2.2.2.1, u9.2.2.2.2.2.2.1, u9.2.2.2.2.2.2.2.1, u9.2.2.2.2.2.2.2.2) ∧ u9.1 = VS.s_ll u9.2.2.2.2.2.1.at1 (LqW dA sa u9.2.1 ++ u9.2.2.2.2.2.1.ll)) (fun (u9 : VS × LI × VS × VS × VS × VS × LI × (Nat → Nat → Nat) × (Nat → TB)) t9 => bW D (va_A (VW dA h ad x) sz) (VW dA h ad u9.1) t9) (va_A (VW dA h ad x) sz)) (8 * x.tapeLength + cC k) (64 * x.tapeLength + 4 * (cpR g.eN 0 (pQ x.tape x.tapeLength (x.t0 x.tapeLength)).2.2.length - g.eN) + cS k) (va_A (VW dA h ad x) sz) := by
  refine mkS (y := ⟨"SeriesVault", "ask", "(JJI)I"⟩) (cc := prog_1_method_45_code) (maxL := 8) (av := [.ref h, .long fr, .long wd, .int (nI nw)]) (ws := VW dA h ad x) (sz := sz) (Qc := fun A => va_Qi (fun (r9 : Int32) (u9 : VS × LI × VS × VS × VS × VS × LI × (Nat → Nat → Nat) × (Nat → TB)) => r9 = nI (u9.2.2.2.2.2.2.2.2 0).rc ∧ (x.r0 x.tapeLength).qr u9.2.2.2.1 ∧ VS.pq dA e0 sa r u9.2.2.1 (LI.s_el (LI.s_mc (LI.s_sz g 0) (g.mc + 1)) (clF g.el g.sz)) (qRd (pQ x.tape x.tapeLength (x.t0 x.tapeLength))) u9.2.2.2.1 u9.2.1 ∧ u9.2.2.2.2.1 = VS.s_ll u9.2.2.2.1.aq0 r ∧ plF u9.2.2.2.2.1.pl ∧ wkR dA ad ([] : va_W) la PS SS nw S (u9.2.2.2.2.1.wk0 fr wd nw, gk, AT, T) S.length (u9.2.2.2.2.2.1, u9.2.2.2.2.2.2.1, u9.2.2.2.2.2.2.2.1, u9.2.2.2.2.2.2.2.2) ∧ u9.1 = VS.s_ll u9.2.2.2.2.2.1.at1 (LqW dA sa u9.2.1 ++ u9.2.2.2.2.2.1.ll)) (fun (u9 : VS × LI × VS × VS × VS × VS × LI × (Nat → Nat → Nat) × (Nat → TB)) t9 => bW D A (VW dA h ad u9.1) t9) A) (by decide) (Nat.le_of_ble_eq_true rfl) ?_
  intro A p e s m below meth c ls hsz hZ hT hM hQ hB
  obtain ⟨hx, hb, hr, hml, hown, hin, hlk, hE, hK, hP, hD, hS, hA, hN, hl⟩ := hB
  have hown : s.vm.findClass "SeriesVault" = some m.cls := hown
  have hl : lv_has ls 8 [(0, .ref h), (1, .long fr), (3, .long wd), (5, .int (nI nw))] := hl
  obtain ⟨H, hH⟩ : ∃ z, z = s.heap := ⟨_, rfl⟩
  have hP : va_P D vwCl (VW dA h ad x) H := by rw [hH]; exact hP
  have hS : va_S A s.heap H [] := by rw [hH]; exact hS
  rw [← hH]
  refine lv_aload_n hx hb d_V_ask_0 rfl (lv_at hl 0 rfl) ?_
  refine jkV (wr := []) (rnV (As := []) (rest := []) hx hb hml hown hE hK (hN _ _ hS) hP hD (v_checkPower l D dA H.size h ad x ho) (q0 := 0) rfl rfl w278 w276 w279 w280 w277 rfl rfl ⟨⟨by decide, by decide⟩, rfl⟩ ⟨(Nat.le_of_ble_eq_true rfl), (Nat.le_of_ble_eq_true rfl)⟩ rfl hl.1 rfl (Nat.le_of_ble_eq_true rfl) d_V_ask_1 ⟨(show 0 + 0 ≤ 8 * x.tapeLength + cC k by omega), (show 0 + 0 ≤ 64 * x.tapeLength + 4 * (cpR g.eN 0 (pQ x.tape x.tapeLength (x.t0 x.tapeLength)).2.2.length - g.eN) + cS k by omega)⟩) hP hD hS hA (fun u2 H locs hp9 hP hD hS => ?_)
  have hP : va_P D vwCl (VW dA h ad x) H := hP
  have hD : va_D A (VW dA h ad x) := hD
  refine lv_lload_n hx hb d_V_ask_4 rfl (lv_at hl 1 rfl) ?_
  have hPc := hP.sub (ws' := []) [] rfl
  have hDc := hD.sub (ws' := []) [] (by decide) rfl
  refine jpI (rnS (As := [.long fr]) (rest := []) hx hb hml hown hE hK (hN _ _ hS) hPc hDc (v_isTime l D dA H.size fr) w693 w692 w694 w277 rfl rfl ⟨⟨by decide, by decide⟩, rfl⟩ ⟨(Nat.le_of_ble_eq_true rfl), (Nat.le_of_ble_eq_true rfl)⟩ rfl hl.1 rfl (Nat.le_of_ble_eq_true rfl) d_V_ask_5 ⟨(show 0 + 0 + 0 ≤ 8 * x.tapeLength + cC k by omega), (show 0 + 0 + 0 ≤ 64 * x.tapeLength + 4 * (cpR g.eN 0 (pQ x.tape x.tapeLength (x.t0 x.tapeLength)).2.2.length - g.eN) + cS k by omega)⟩) hP hD hS hA (fun r3 u9 H locs hp9 hP hD hS => ?_)
  have hP : va_P D vwCl (VW dA h ad x) H := hP
  have hD : va_D A (VW dA h ad x) := hD
  replace hp9 : bI (isTm fr) = r3 := Eq.symm hp9
  subst hp9
  refine lv_if_eq hx hb d_V_ask_8 (tgt := 38) rfl (fun h9 => absurd h9 (by rw [t1]; decide)) (fun _ => ?_)
  refine lv_lload_n hx hb d_V_ask_11 rfl (lv_at hl 2 rfl) ?_
  refine lv_lconst (v := 1) hx hb d_V_ask_12 (by decide) ?_
  refine W.lcmp hx hb d_V_ask_13 ?_
  refine lv_if_lt hx hb d_V_ask_14 (tgt := 38) rfl (fun h9 => absurd h9 (mt (lg_cmp_lt _ _).mp (Int64.not_lt.mpr t2))) (fun _ => ?_)
  refine lv_lload_n hx hb d_V_ask_17 rfl (lv_at hl 2 rfl) ?_
  refine lv_ldc2 (v := 1099511627775) hx hb hown (hE.t w653 rfl) d_V_ask_18 ?_
  refine W.lcmp hx hb d_V_ask_21 ?_
  refine lv_if_gt hx hb d_V_ask_22 (tgt := 38) rfl (fun h9 => absurd h9 (mt (lg_cmp_gt _ _).mp (Int64.not_lt.mpr t3))) (fun _ => ?_)
  refine lv_iload hx hb d_V_ask_25 (lv_at hl 3 rfl) ?_
  refine lv_iconst (v := 1) hx hb d_V_ask_27 (by decide) ?_
  refine lv_icmp_lt hx hb d_V_ask_28 (tgt := 38) rfl (fun h9 => absurd h9 (mt (nI_ltI (a := nw) (b := 1) (by omega) (by omega)).mp (Nat.not_lt.mpr t4))) (fun _ => ?_)
  refine lv_iload hx hb d_V_ask_31 (lv_at hl 3 rfl) ?_
  refine lv_bipush (v := 64) hx hb d_V_ask_33 (by decide) ?_
  refine lv_icmp_le hx hb d_V_ask_35 (tgt := 46) rfl (fun _ => ?_) (fun h9 => absurd ((nI_leI (a := nw) (b := 64) (by omega) (by omega)).mpr t5) h9)
  refine lv_aload_n hx hb d_V_ask_46 rfl (lv_at hl 0 rfl) ?_
  refine gF (v := .ref (ad 22)) hx hb hown hE hK hP 0 rfl rfl layV 15 (by decide) w695 rfl d_V_ask_47 ?_
  refine lv_aload_n hx hb d_V_ask_50 rfl (lv_at hl 0 rfl) ?_
  refine gF (v := .ref x.tpA) hx hb hown hE hK hP 0 rfl rfl layV 0 (by decide) w539 rfl d_V_ask_51 ?_
  refine lv_aload_n hx hb d_V_ask_54 rfl (lv_at hl 0 rfl) ?_
  refine gF (v := .int (nI x.tapeLength)) hx hb hown hE hK hP 0 rfl rfl layV 1 (by decide) w259 rfl d_V_ask_55 ?_
  refine jkI (wr := []) (rnVs (As := [.ref x.tpA, .int (nI x.tapeLength)]) (rest := []) hx hb hml hown hE hK hZ hT hM hQ hS (hN _ _ hS) hP hD (v_Qread l D dA H.size e0 mi kA vA fm h ad sa g r x x.tapeLength hsa hll hst hn h2 h3 hby) (q0 := 36) rfl rfl w697 w696 w698 w699 w665 rfl rfl ⟨⟨by decide, by decide⟩, rfl⟩ ⟨(Nat.le_of_ble_eq_true rfl), (Nat.le_of_ble_eq_true rfl)⟩ rfl hl.1 rfl (Nat.le_of_ble_eq_true rfl) d_V_ask_58 ⟨(show 0 + 0 + 0 + (8 * x.tapeLength) ≤ 8 * x.tapeLength + cC k by omega), (show 0 + 0 + 0 + (64 * x.tapeLength + 4 * (cpR g.eN 0 (pQ x.tape x.tapeLength (x.t0 x.tapeLength)).2.2.length - g.eN)) ≤ 64 * x.tapeLength + 4 * (cpR g.eN 0 (pQ x.tape x.tapeLength (x.t0 x.tapeLength)).2.2.length - g.eN) + cS k by omega)⟩) hP hD hS hA (fun r5 u6 H locs hp9 hP hD hS => ?_)
  obtain ⟨y0, gq, y1⟩ := u6
  have hP : va_P D vwCl (VW dA h ad y0) H := hP
  have hD : va_D A (VW dA h ad y0) := hD
  obtain ⟨hp9, f_q_7, f_p_8⟩ := hp9
  replace hp9 : bI (qRd (pQ x.tape x.tapeLength (x.t0 x.tapeLength))).1 = r5 := Eq.symm hp9
  subst hp9
  refine tpi (y := 1) (by rw [hR]; rfl) ?_
  refine lv_istore hx hb d_V_ask_61 hl (by decide) rfl (fun ls hl => ?_)
  have hl : lv_has ls 8 [(6, .int 1), (0, .ref h), (1, .long fr), (3, .long wd), (5, .int (nI nw))] := hl
  refine lv_aload_n hx hb d_V_ask_63 rfl (lv_at hl 1 rfl) ?_
  refine lv_iconst (v := 0) hx hb d_V_ask_64 (by decide) ?_
  refine pF (v := .int (nI 0)) hx hb hown hE hK hP hD hS 0 rfl rfl layV tyV tokV nmV 1 (by decide) w259 rfl rfl rfl (Nat.le_of_ble_eq_true rfl) d_V_ask_65 (fun H locs hP hD hS => ?_)
  have hP : va_P D vwCl (VW dA h ad (VS.s_tapeLength y0 0)) H := hP
  have hD : va_D A (VW dA h ad (VS.s_tapeLength y0 0)) := hD
  refine lv_aload_n hx hb d_V_ask_68 rfl (lv_at hl 1 rfl) ?_
  refine lv_iconst (v := 0) hx hb d_V_ask_69 (by decide) ?_
  refine pF (v := .int (bI false)) hx hb hown hE hK hP hD hS 0 rfl rfl layV tyV tokV nmV 17 (by decide) w210 rfl (bI_nar false) (bI_fit false) (Nat.le_of_ble_eq_true rfl) d_V_ask_70 (fun H locs hP hD hS => ?_)
  have hP : va_P D vwCl (VW dA h ad (VS.s_hasTable (VS.s_tapeLength y0 0) false)) H := hP
  have hD : va_D A (VW dA h ad (VS.s_hasTable (VS.s_tapeLength y0 0) false)) := hD
  refine lv_iload hx hb d_V_ask_73 (lv_at hl 0 rfl) ?_
  refine lv_if_ne hx hb d_V_ask_75 (tgt := 98) rfl (fun _ => ?_) (fun h9 => absurd h9 (by decide))
  have hpp := f_p_8
  obtain ⟨pa1, pa2, pa3, pa4, pa5, pa6, pa7⟩ := hpp
  rw [hR] at pa4 pa7
  have gz : gq.sz = S.length := pa4.trans (Nat.zero_add _)
  have gst : stps dA y0.pl gq 0 S := pa7 rfl
  have hl0 : y0.ll = LqW dA sa gq ++ r := pa3.2.1
  have lq := pa3.2.2.1.1
  have lq1 : gq.sz ≤ gq.eN := lq.2.1
  have gne : ¬ gq.eN = 0 := by omega
  have hP := pmP (show List.Perm (α := Nat × va_E) (VW dA h ad (VS.s_hasTable (VS.s_tapeLength y0 0) false)) (LqW dA sa gq ++ (VW dA h ad (VS.s_ll (VS.s_hasTable (VS.s_tapeLength y0 0) false) r))) from llP (dA := dA) (h := h) (ad := ad) (x := (VS.s_hasTable (VS.s_tapeLength y0 0) false)) (L := LqW dA sa gq) (r := r) hl0) hP
  have hD := pmD (show List.Perm (α := Nat × va_E) (VW dA h ad (VS.s_hasTable (VS.s_tapeLength y0 0) false)) (LqW dA sa gq ++ (VW dA h ad (VS.s_ll (VS.s_hasTable (VS.s_tapeLength y0 0) false) r))) from llP (dA := dA) (h := h) (ad := ad) (x := (VS.s_hasTable (VS.s_tapeLength y0 0) false)) (L := LqW dA sa gq) (r := r) hl0) hD
  have hP : va_P D vwCl (LqW dA sa gq ++ (VW dA h ad (VS.s_ll (VS.s_hasTable (VS.s_tapeLength y0 0) false) r))) H := hP
  have hD : va_D A (LqW dA sa gq ++ (VW dA h ad (VS.s_ll (VS.s_hasTable (VS.s_tapeLength y0 0) false) r))) := hD
  obtain ⟨w0, e_w0⟩ : ∃ w9, w9 = VS.s_ll (VS.s_hasTable (VS.s_tapeLength y0 0) false) r := ⟨_, rfl⟩
  rw [← e_w0] at hP hD
  have hP : va_P D vwCl (LqW dA sa gq ++ (VW dA h ad w0)) H := hP
  have hD : va_D A (LqW dA sa gq ++ (VW dA h ad w0)) := hD
  have haq : x.aq x.tapeLength r w0 := ⟨y0, f_q_7, by rw [e_w0]; rfl⟩
  rw [LqW_1 gne] at hP hD
  obtain ⟨lb, elb⟩ : ∃ f9 : Nat → Nat, f9 = (fun _ => sa) := ⟨_, rfl⟩
  rw [← elb] at hP hD
  have hlb : lb 0 = ad 23 := by rw [elb]; exact hsa
  have hP : va_P D vwCl (LiW dA lb gq ++ (VW dA h ad w0)) H := hP
  have hD : va_D A (LiW dA lb gq ++ (VW dA h ad w0)) := hD
  obtain ⟨kn_w0, nser_w0, nP_w0, npc_w0, nsc_w0, nsO_w0, hsize_w0, hN_w0, hO_w0, hT_w0, ll_w0, sub_w0⟩ := aq_f haq
  have hpf : plF w0.pl := plF_s (fun c hc => List.mem_append_right _ (plm hc)) (plF_of hD)
  have hkw : skP dA ad ([] : va_W) w0 la gk AT T := skP_x (x := VS.s_ll x r) ll_w0 hk
  refine lv_aload_n hx hb d_V_ask_98 rfl (lv_at hl 1 rfl) ?_
  refine gF (v := .ref (ad 24)) hx hb hown hE hK hP 2 rfl rfl layV 16 (by decide) w850 rfl d_V_ask_99 ?_
  refine lv_aload_n hx hb d_V_ask_102 rfl (lv_at hl 1 rfl) ?_
  refine gF (v := .ref (ad 22)) hx hb hown hE hK hP 2 rfl rfl layV 15 (by decide) w695 rfl d_V_ask_103 ?_
  refine lv_aload_n hx hb d_V_ask_106 rfl (lv_at hl 1 rfl) ?_
  refine gF (v := .ref (ad 17)) hx hb hown hE hK hP 2 rfl rfl layV 13 (by decide) w833 rfl d_V_ask_107 ?_
  refine lv_aload_n hx hb d_V_ask_110 rfl (lv_at hl 1 rfl) ?_
  refine gF (v := .ref (ad 3)) hx hb hown hE hK hP 2 rfl rfl layV 11 (by decide) w297 rfl d_V_ask_111 ?_
  refine lv_aload_n hx hb d_V_ask_114 rfl (lv_at hl 1 rfl) ?_
  refine gF (v := .ref (ad 1)) hx hb hown hE hK hP 2 rfl rfl layV 9 (by decide) w576 rfl d_V_ask_115 ?_
  refine lv_lload_n hx hb d_V_ask_118 rfl (lv_at hl 2 rfl) ?_
  refine lv_lload_n hx hb d_V_ask_119 rfl (lv_at hl 3 rfl) ?_
  refine lv_iload hx hb d_V_ask_120 (lv_at hl 4 rfl) ?_
  refine jkI (wr := []) (rnVy (As := [.ref (ad 22), .ref (ad 17), .ref (ad 3), .ref (ad 1), .long fr, .long wd, .int (nI nw)]) (rest := []) hx hb hml hown hE hK hZ hT hM hS (hN _ _ hS) hP hD (v_work l D dA H.size e0 mi h ad lb gq w0 fr wd nw la gk AT T ([] : va_W) S SS PS cC cS k hlb lq.2.1 lq.2.2 gz (by rw [e_w0]; exact gst) hkw t5 (by rw [kn_w0, nser_w0]; exact knOk_m sub_w0 hkn) (by rw [nP_w0, npc_w0]; exact psOk_m sub_w0 hps) (by rw [npc_w0]; exact hpn) (by rw [nsc_w0]; exact hs1) (by rw [nsc_w0, nsO_w0]; exact hs7) (by rw [nser_w0]; exact hns) (by rw [npc_w0, nser_w0]; exact hpo) (by rw [hsize_w0, hO_w0, nser_w0, hT_w0]; exact hho) (by rw [hsize_w0, hN_w0]; exact hhz) (by rw [hN_w0]; exact hhN) hkS hcC (fun i a => hgo w0 i a haq hpf) (fun a => hxx w0 a haq hpf)) (q0 := 39) rfl rfl w1788 w1787 w1789 w1790 w846 rfl rfl ⟨⟨by decide, by decide⟩, rfl⟩ ⟨(Nat.le_of_ble_eq_true rfl), (Nat.le_of_ble_eq_true rfl)⟩ rfl hl.1 rfl (Nat.le_of_ble_eq_true rfl) d_V_ask_122 ⟨(show 0 + 0 + 0 + (8 * x.tapeLength) + (cC k) ≤ 8 * x.tapeLength + cC k by omega), (show 0 + 0 + 0 + (64 * x.tapeLength + 4 * (cpR g.eN 0 (pQ x.tape x.tapeLength (x.t0 x.tapeLength)).2.2.length - g.eN)) + (cS k) ≤ 64 * x.tapeLength + 4 * (cpR g.eN 0 (pQ x.tape x.tapeLength (x.t0 x.tapeLength)).2.2.length - g.eN) + cS k by omega)⟩) hP hD hS hA (fun rv9 u9 H locs hp9 hP hD hS => ?_)
  obtain ⟨w1, gq2, Aq, Tq⟩ := u9
  have hP : va_P D vwCl (LiW dA lb gq ++ (VW dA h ad w1)) H := hP
  have hD : va_D A (LiW dA lb gq ++ (VW dA h ad w1)) := hD
  have f_w_10 := hp9
  obtain ⟨e9, hwr⟩ : rv9 = (-1) ∧ wkR dA ad ([] : va_W) la PS SS nw S (w0.wk0 fr wd nw, gk, AT, T) S.length (w1, gq2, Aq, Tq) := by rcases f_w_10 with ⟨a1, a2, a3⟩ | ⟨a1, -⟩; (rw [a1] at a3; exact ⟨a2, a3⟩); omega
  subst e9
  have hk2 : skP dA ad ([] : va_W) w1 la gq2 Aq Tq := (wk_k (show skQ dA ad ([] : va_W) la (w0.wk0 fr wd nw, gk, AT, T) from hkw) hwr).2
  have hz2 : 0 < gq2.sz := hfin w0 (w1, gq2, Aq, Tq) haq hpf hwr
  have mt9 := sk_t hk2 hz2
  refine lv_istore hx hb d_V_ask_125 hl (by decide) rfl (fun ls hl => ?_)
  have hl : lv_has ls 8 [(7, .int (-1)), (6, .int 1), (0, .ref h), (1, .long fr), (3, .long wd), (5, .int (nI nw))] := hl
  refine lv_iload hx hb d_V_ask_127 (lv_at hl 0 rfl) ?_
  refine lv_iconst (v := (-1)) hx hb d_V_ask_129 (by decide) ?_
  refine lv_icmp_eq hx hb d_V_ask_130 (tgt := 142) rfl (fun _ => ?_) (fun h9 => absurd rfl h9)
  refine lv_aload_n hx hb d_V_ask_142 rfl (lv_at hl 2 rfl) ?_
  refine lv_iconst (v := 0) hx hb d_V_ask_143 (by decide) ?_
  refine lv_iconst (v := 0) hx hb d_V_ask_144 (by decide) ?_
  have hPc : va_P D vwCl (VW dA h ad w1) H := spP (wr := LiW dA lb gq) hP
  have hDc : va_D A (VW dA h ad w1) := spD (wr := LiW dA lb gq) hD
  refine jkV (wr := LiW dA lb gq) (rnV (As := [.int 0, .int 0]) (rest := []) hx hb hml hown hE hK (hN _ _ hS) hPc hDc (v_setFault l D dA H.size h ad w1 0 0) (q0 := 0) rfl rfl w616 w615 w617 w618 w277 rfl rfl ⟨⟨by decide, by decide⟩, rfl⟩ ⟨(Nat.le_of_ble_eq_true rfl), (Nat.le_of_ble_eq_true rfl)⟩ rfl hl.1 rfl (Nat.le_of_ble_eq_true rfl) d_V_ask_145 ⟨(show 0 + 0 + 0 + (8 * x.tapeLength) + (cC k) + 0 ≤ 8 * x.tapeLength + cC k by omega), (show 0 + 0 + 0 + (64 * x.tapeLength + 4 * (cpR g.eN 0 (pQ x.tape x.tapeLength (x.t0 x.tapeLength)).2.2.length - g.eN)) + (cS k) + 0 ≤ 64 * x.tapeLength + 4 * (cpR g.eN 0 (pQ x.tape x.tapeLength (x.t0 x.tapeLength)).2.2.length - g.eN) + cS k by omega)⟩) hP hD hS hA (fun u12 H locs hp9 hP hD hS => ?_)
  have hP : va_P D vwCl (LiW dA lb gq ++ (VW dA h ad (VS.s_faultPlace (VS.s_faultCode w1 0) 0))) H := hP
  have hD : va_D A (LiW dA lb gq ++ (VW dA h ad (VS.s_faultPlace (VS.s_faultCode w1 0) 0))) := hD
  refine lv_aload_n hx hb d_V_ask_148 rfl (lv_at hl 2 rfl) ?_
  refine lv_iconst (v := 1) hx hb d_V_ask_149 (by decide) ?_
  refine pF (v := .int (bI true)) hx hb hown hE hK hP hD hS 2 rfl rfl layV tyV tokV nmV 17 (by decide) w210 rfl (bI_nar true) (bI_fit true) (Nat.le_of_ble_eq_true rfl) d_V_ask_150 (fun H locs hP hD hS => ?_)
  have hP : va_P D vwCl (LiW dA lb gq ++ (VW dA h ad (VS.s_hasTable (VS.s_faultPlace (VS.s_faultCode w1 0) 0) true))) H := hP
  have hD : va_D A (LiW dA lb gq ++ (VW dA h ad (VS.s_hasTable (VS.s_faultPlace (VS.s_faultCode w1 0) 0) true))) := hD
  refine lv_aload_n hx hb d_V_ask_153 rfl (lv_at hl 2 rfl) ?_
  refine gF (v := .ref (ad 24)) hx hb hown hE hK hP 2 rfl rfl layV 16 (by decide) w850 rfl d_V_ask_154 ?_
  have hPc : va_P D vwCl (VW dA h ad (VS.s_hasTable (VS.s_faultPlace (VS.s_faultCode w1 0) 0) true)) H := spP (wr := LiW dA lb gq) hP
  have hDc : va_D A (VW dA h ad (VS.s_hasTable (VS.s_faultPlace (VS.s_faultCode w1 0) 0) true)) := spD (wr := LiW dA lb gq) hD
  refine jkR (wr := LiW dA lb gq) (rnV (As := []) (rest := []) hx hb hml hown hE hK (hN _ _ hS) hPc hDc (v_tableW l D dA H.size h ad (VS.s_hasTable (VS.s_faultPlace (VS.s_faultCode w1 0) 0) true) la gq2 Aq Tq ([] : va_W) (skP_x (x := w1) rfl hk2) hz2) (q0 := 37) rfl rfl w1722 w1721 w1723 w1724 w846 rfl rfl ⟨⟨by decide, by decide⟩, rfl⟩ ⟨(Nat.le_of_ble_eq_true rfl), (Nat.le_of_ble_eq_true rfl)⟩ rfl hl.1 rfl (Nat.le_of_ble_eq_true rfl) d_V_ask_157 ⟨(show 0 + 0 + 0 + (8 * x.tapeLength) + (cC k) + 0 + 0 ≤ 8 * x.tapeLength + cC k by omega), (show 0 + 0 + 0 + (64 * x.tapeLength + 4 * (cpR g.eN 0 (pQ x.tape x.tapeLength (x.t0 x.tapeLength)).2.2.length - g.eN)) + (cS k) + 0 + 0 ≤ 64 * x.tapeLength + 4 * (cpR g.eN 0 (pQ x.tape x.tapeLength (x.t0 x.tapeLength)).2.2.length - g.eN) + cS k by omega)⟩) hP hD hS hA (fun u14 r13 H locs hp9 hP hD hS => ?_)
  have hP : va_P D vwCl (LiW dA lb gq ++ (VW dA h ad (VS.s_hasTable (VS.s_faultPlace (VS.s_faultCode w1 0) 0) true))) H := hP
  have hD : va_D A (LiW dA lb gq ++ (VW dA h ad (VS.s_hasTable (VS.s_faultPlace (VS.s_faultCode w1 0) 0) true))) := hD
  have f_e_15 := hp9
  have e9 := f_e_15
  subst e9
  obtain ⟨qp16, ep17⟩ := List.getElem?_of_mem (show ((Aq 0 0, .inr (8, [.ref (Aq 0 1), .int (nI (Tq 0).nc), .int (nI (Tq 0).wi), .int (nI (Tq 0).rc), .ref (Aq 0 2), .ref (Aq 0 3), .ref ((Tq 0).cA)])) : Nat × va_E) ∈ LiW dA lb gq ++ (VW dA h ad (VS.s_hasTable (VS.s_faultPlace (VS.s_faultCode w1 0) 0) true)) from (List.mem_append_right _ (llm mt9)))
  refine gFN (v := .int (nI (Tq 0).rc)) hx hb hown hE hK hP qp16 ep17 rfl layT 3 (by decide) w1726 rfl d_V_ask_160 ?_
  rw [elb, ← LqW_1 (dA := dA) (a := sa) gne] at hP hD
  have hP : va_P D vwCl (LqW dA sa gq ++ (VW dA h ad (VS.s_hasTable (VS.s_faultPlace (VS.s_faultCode w1 0) 0) true))) H := hP
  have hD : va_D A (LqW dA sa gq ++ (VW dA h ad (VS.s_hasTable (VS.s_faultPlace (VS.s_faultCode w1 0) 0) true))) := hD
  have hP := pmP (show List.Perm (α := Nat × va_E) (LqW dA sa gq ++ (VW dA h ad (VS.s_hasTable (VS.s_faultPlace (VS.s_faultCode w1 0) 0) true))) (VW dA h ad (VS.s_ll (VS.s_hasTable (VS.s_faultPlace (VS.s_faultCode w1 0) 0) true) (LqW dA sa gq ++ w1.ll))) from ((llT (dA := dA) (h := h) (ad := ad) (VS.s_hasTable (VS.s_faultPlace (VS.s_faultCode w1 0) 0) true) (LqW dA sa gq)).symm).symm) hP
  have hD := pmD (show List.Perm (α := Nat × va_E) (LqW dA sa gq ++ (VW dA h ad (VS.s_hasTable (VS.s_faultPlace (VS.s_faultCode w1 0) 0) true))) (VW dA h ad (VS.s_ll (VS.s_hasTable (VS.s_faultPlace (VS.s_faultCode w1 0) 0) true) (LqW dA sa gq ++ w1.ll))) from ((llT (dA := dA) (h := h) (ad := ad) (VS.s_hasTable (VS.s_faultPlace (VS.s_faultCode w1 0) 0) true) (LqW dA sa gq)).symm).symm) hD
  have hP : va_P D vwCl (VW dA h ad (VS.s_ll (VS.s_hasTable (VS.s_faultPlace (VS.s_faultCode w1 0) 0) true) (LqW dA sa gq ++ w1.ll))) H := hP
  have hD : va_D A (VW dA h ad (VS.s_ll (VS.s_hasTable (VS.s_faultPlace (VS.s_faultCode w1 0) 0) true) (LqW dA sa gq ++ w1.ll))) := hD
  exact rfI hx hb hr hlk hS (⟨VS.s_ll (VS.s_hasTable (VS.s_faultPlace (VS.s_faultCode w1 0) 0) true) (LqW dA sa gq ++ w1.ll), gq, y1, y0, w0, w1, gq2, Aq, Tq⟩) ⟨rfl, f_q_7, f_p_8, by rw [e_w0]; rfl, hpf, hwr, rfl⟩ hP hD (show 0 + 0 + 0 + (8 * x.tapeLength) + (cC k) + 0 + 0 ≤ 8 * x.tapeLength + cC k by omega) (show 0 + 0 + 0 + (64 * x.tapeLength + 4 * (cpR g.eN 0 (pQ x.tape x.tapeLength (x.t0 x.tapeLength)).2.2.length - g.eN)) + (cS k) + 0 + 0 ≤ 64 * x.tapeLength + 4 * (cpR g.eN 0 (pQ x.tape x.tapeLength (x.t0 x.tapeLength)).2.2.length - g.eN) + cS k by omega) d_V_ask_163
theorem d_V_ask_133 : decode prog_1_method_45_code 133 = .ok (.aload_n 0, 1) := by decide +kernel
theorem d_V_ask_134 : decode prog_1_method_45_code 134 = .ok (.iconst 5, 1) := by decide +kernel
theorem d_V_ask_135 : decode prog_1_method_45_code 135 = .ok (.iload 7, 2) := by decide +kernel
theorem d_V_ask_137 : decode prog_1_method_45_code 137 = .ok (.invokevirtual 210, 3) := by decide +kernel
theorem d_V_ask_140 : decode prog_1_method_45_code 140 = .ok (.iconst (-1), 1) := by decide +kernel
theorem d_V_ask_141 : decode prog_1_method_45_code 141 = .ok (.ireturn, 1) := by decide +kernel
set_option maxHeartbeats 4000000 in
set_option maxRecDepth 100000 in
theorem v_ask_g (l : Launch) (D : va_G) (dA : Nat → ClassId) (sz : Nat) (e0 mi : Nat) (kA vA : Nat → Nat) (fm : Nat) (h : Nat) (ad : Nat → Nat) (sa : Nat) (g : LI) (r : va_W) (x : VS) (fr : Int64) (wd : Int64) (nw : Nat) (la : Nat → Nat) (gk : LI) (AT : Nat → Nat → Nat) (T : Nat → TB) (S : List SP1) (tk9 : TKQ) (SS : Nat → List LB) (PS : Nat → PT) (cC : Nat → Nat) (cS : Nat → Nat) (k : Nat) (ho : x.powered = true) (t1 : isTm fr = true) (t2 : 1 ≤ wd) (t3 : wd ≤ 1099511627775) (t4 : 1 ≤ nw) (t5 : nw ≤ 64) (hsa : sa = ad 23) (hll : x.ll = LqW dA sa g ++ r) (hst : stL e0 x.pl g) (hn : x.tapeLength ≤ 16384) (h2 : x.tapeLength ≤ x.tpN) (h3 : x.tpN ≤ 131072) (hby : byteF x.tape) (hR : qRd (pQ x.tape x.tapeLength (x.t0 x.tapeLength)) = (true, tk9, S)) (hS0 : 0 < S.length) (hk : skP dA ad ([] : va_W) (VS.s_ll x r) la gk AT T) (hkn : knOk dA x.kn x.nser x.pl SS) (hps : psOk dA x.nP x.npc x.pl PS) (hpn : x.npc ≤ 32) (hs1 : x.nsc ≤ 64) (hs7 : ∀ q : Nat, q < x.nsc → x.nsO q < 2 ^ 31) (hns : x.nser ≤ 256) (hpo : ∀ k : Nat, k < x.npc → ∀ i : Nat, i < (PS k).n → (PS k).o i < x.nser ∧ wOk fr wd nw ((PS k).t i)) (hho : ∀ i : Nat, i < x.hsize → x.hO i < x.nser ∧ wOk fr wd nw (x.hT i)) (hhz : x.hsize ≤ x.hN) (hhN : x.hN ≤ 65536) (hkS : k ≤ S.length) (hcC : ∀ i : Nat, i ≤ k → cC i ≤ cC k ∧ cS i ≤ cS k) (hgo : ∀ (w : VS) (i : Nat) (a : SKT), x.aq x.tapeLength r w → plF w.pl → i < k → wkR dA ad ([] : va_W) la PS SS nw S (w.wk0 fr wd nw, gk, AT, T) i a → wkO dA ad ([] : va_W) la SS (S.getD i (spO 0 0 0)) (cC i) (cC (i + 1)) (cS i) (cS (i + 1)) a) (hxx : ∀ (w : VS) (a : SKT), x.aq x.tapeLength r w → plF w.pl → k < S.length → wkR dA ad ([] : va_W) la PS SS nw S (w.wk0 fr wd nw, gk, AT, T) k a → wkX dA (S.getD k (spO 0 0 0)) a) (hkl : k < S.length) (hpl : (S.getD k (spO 0 0 0)).2.1 < 2 ^ 31) : Met l ⟨"SeriesVault", "ask", "(JJI)I"⟩ [Cond.code ⟨"SeriesVault", "ask", "(JJI)I"⟩ prog_1_method_45_code 8 (some FieldType.int)] { frames := 274, cells := 8 * x.tapeLength + cC k, slots := 64 * x.tapeLength + 4 * (cpR g.eN 0 (pQ x.tape x.tapeLength (x.t0 x.tapeLength)).2.2.length - g.eN) + cS k, locals := 6670 } (pCs D dA e0 mi kA vA fm [.ref h, .long fr, .long wd, .int (nI nw)] (VW dA h ad x) sz) (va_Qi (fun (r9 : Int32) (u9 : VS × LI × VS × VS × VS × VS × LI × (Nat → Nat → Nat) × (Nat → TB)) => r9 = (-1) ∧ (x.r0 x.tapeLength).qr u9.2.2.2.1 ∧ VS.pq dA e0 sa r u9.2.2.1 (LI.s_el (LI.s_mc (LI.s_sz g 0) (g.mc + 1)) (clF g.el g.sz)) (qRd (pQ x.tape x.tapeLength (x.t0 x.tapeLength))) u9.2.2.2.1 u9.2.1 ∧ u9.2.2.2.2.1 = VS.s_ll u9.2.2.2.1.aq0 r ∧ plF u9.2.2.2.2.1.pl ∧ (∃ (a : SKT) (NL NR : Nat → List Int32) (RS RU : Nat → List LB) (wi : Nat), wkR dA ad ([] : va_W) la PS SS nw S (u9.2.2.2.2.1.wk0 fr wd nw, gk, AT, T) k a ∧ tbK dA a.1.pl wi (a.2.2.2 (a.1.adep - 2)) NL RS ∧ tbK dA a.1.pl wi (a.2.2.2 (a.1.adep - 1)) NR RU ∧ jnC NL NR (a.2.2.2 (a.1.adep - 2)) (a.2.2.2 (a.1.adep - 1)) = 3 ∧ jnZ dA ad ([] : va_W) la (S.getD k (spO 0 0 0)).1 NL NR RS RU a.1 a.2.1 a.2.2.1 a.2.2.2 u9.2.2.2.2.2.1 u9.2.2.2.2.2.2.1 u9.2.2.2.2.2.2.2.1 u9.2.2.2.2.2.2.2.2) ∧ u9.1 = VS.s_ll (u9.2.2.2.2.2.1.at5 (nI (S.getD k (spO 0 0 0)).2.1)) (LqW dA sa u9.2.1 ++ u9.2.2.2.2.2.1.ll)) (fun (u9 : VS × LI × VS × VS × VS × VS × LI × (Nat → Nat → Nat) × (Nat → TB)) t9 => bW D (va_A (VW dA h ad x) sz) (VW dA h ad u9.1) t9) (va_A (VW dA h ad x) sz)) (8 * x.tapeLength + cC k) (64 * x.tapeLength + 4 * (cpR g.eN 0 (pQ x.tape x.tapeLength (x.t0 x.tapeLength)).2.2.length - g.eN) + cS k) (va_A (VW dA h ad x) sz) := by
  refine mkS (y := ⟨"SeriesVault", "ask", "(JJI)I"⟩) (cc := prog_1_method_45_code) (maxL := 8) (av := [.ref h, .long fr, .long wd, .int (nI nw)]) (ws := VW dA h ad x) (sz := sz) (Qc := fun A => va_Qi (fun (r9 : Int32) (u9 : VS × LI × VS × VS × VS × VS × LI × (Nat → Nat → Nat) × (Nat → TB)) => r9 = (-1) ∧ (x.r0 x.tapeLength).qr u9.2.2.2.1 ∧ VS.pq dA e0 sa r u9.2.2.1 (LI.s_el (LI.s_mc (LI.s_sz g 0) (g.mc + 1)) (clF g.el g.sz)) (qRd (pQ x.tape x.tapeLength (x.t0 x.tapeLength))) u9.2.2.2.1 u9.2.1 ∧ u9.2.2.2.2.1 = VS.s_ll u9.2.2.2.1.aq0 r ∧ plF u9.2.2.2.2.1.pl ∧ (∃ (a : SKT) (NL NR : Nat → List Int32) (RS RU : Nat → List LB) (wi : Nat), wkR dA ad ([] : va_W) la PS SS nw S (u9.2.2.2.2.1.wk0 fr wd nw, gk, AT, T) k a ∧ tbK dA a.1.pl wi (a.2.2.2 (a.1.adep - 2)) NL RS ∧ tbK dA a.1.pl wi (a.2.2.2 (a.1.adep - 1)) NR RU ∧ jnC NL NR (a.2.2.2 (a.1.adep - 2)) (a.2.2.2 (a.1.adep - 1)) = 3 ∧ jnZ dA ad ([] : va_W) la (S.getD k (spO 0 0 0)).1 NL NR RS RU a.1 a.2.1 a.2.2.1 a.2.2.2 u9.2.2.2.2.2.1 u9.2.2.2.2.2.2.1 u9.2.2.2.2.2.2.2.1 u9.2.2.2.2.2.2.2.2) ∧ u9.1 = VS.s_ll (u9.2.2.2.2.2.1.at5 (nI (S.getD k (spO 0 0 0)).2.1)) (LqW dA sa u9.2.1 ++ u9.2.2.2.2.2.1.ll)) (fun (u9 : VS × LI × VS × VS × VS × VS × LI × (Nat → Nat → Nat) × (Nat → TB)) t9 => bW D A (VW dA h ad u9.1) t9) A) (by decide) (Nat.le_of_ble_eq_true rfl) ?_
  intro A p e s m below meth c ls hsz hZ hT hM hQ hB
  obtain ⟨hx, hb, hr, hml, hown, hin, hlk, hE, hK, hP, hD, hS, hA, hN, hl⟩ := hB
  have hown : s.vm.findClass "SeriesVault" = some m.cls := hown
  have hl : lv_has ls 8 [(0, .ref h), (1, .long fr), (3, .long wd), (5, .int (nI nw))] := hl
  obtain ⟨H, hH⟩ : ∃ z, z = s.heap := ⟨_, rfl⟩
  have hP : va_P D vwCl (VW dA h ad x) H := by rw [hH]; exact hP
  have hS : va_S A s.heap H [] := by rw [hH]; exact hS
  rw [← hH]
  refine lv_aload_n hx hb d_V_ask_0 rfl (lv_at hl 0 rfl) ?_
  refine jkV (wr := []) (rnV (As := []) (rest := []) hx hb hml hown hE hK (hN _ _ hS) hP hD (v_checkPower l D dA H.size h ad x ho) (q0 := 0) rfl rfl w278 w276 w279 w280 w277 rfl rfl ⟨⟨by decide, by decide⟩, rfl⟩ ⟨(Nat.le_of_ble_eq_true rfl), (Nat.le_of_ble_eq_true rfl)⟩ rfl hl.1 rfl (Nat.le_of_ble_eq_true rfl) d_V_ask_1 ⟨(show 0 + 0 ≤ 8 * x.tapeLength + cC k by omega), (show 0 + 0 ≤ 64 * x.tapeLength + 4 * (cpR g.eN 0 (pQ x.tape x.tapeLength (x.t0 x.tapeLength)).2.2.length - g.eN) + cS k by omega)⟩) hP hD hS hA (fun u2 H locs hp9 hP hD hS => ?_)
  have hP : va_P D vwCl (VW dA h ad x) H := hP
  have hD : va_D A (VW dA h ad x) := hD
  refine lv_lload_n hx hb d_V_ask_4 rfl (lv_at hl 1 rfl) ?_
  have hPc := hP.sub (ws' := []) [] rfl
  have hDc := hD.sub (ws' := []) [] (by decide) rfl
  refine jpI (rnS (As := [.long fr]) (rest := []) hx hb hml hown hE hK (hN _ _ hS) hPc hDc (v_isTime l D dA H.size fr) w693 w692 w694 w277 rfl rfl ⟨⟨by decide, by decide⟩, rfl⟩ ⟨(Nat.le_of_ble_eq_true rfl), (Nat.le_of_ble_eq_true rfl)⟩ rfl hl.1 rfl (Nat.le_of_ble_eq_true rfl) d_V_ask_5 ⟨(show 0 + 0 + 0 ≤ 8 * x.tapeLength + cC k by omega), (show 0 + 0 + 0 ≤ 64 * x.tapeLength + 4 * (cpR g.eN 0 (pQ x.tape x.tapeLength (x.t0 x.tapeLength)).2.2.length - g.eN) + cS k by omega)⟩) hP hD hS hA (fun r3 u9 H locs hp9 hP hD hS => ?_)
  have hP : va_P D vwCl (VW dA h ad x) H := hP
  have hD : va_D A (VW dA h ad x) := hD
  replace hp9 : bI (isTm fr) = r3 := Eq.symm hp9
  subst hp9
  refine lv_if_eq hx hb d_V_ask_8 (tgt := 38) rfl (fun h9 => absurd h9 (by rw [t1]; decide)) (fun _ => ?_)
  refine lv_lload_n hx hb d_V_ask_11 rfl (lv_at hl 2 rfl) ?_
  refine lv_lconst (v := 1) hx hb d_V_ask_12 (by decide) ?_
  refine W.lcmp hx hb d_V_ask_13 ?_
  refine lv_if_lt hx hb d_V_ask_14 (tgt := 38) rfl (fun h9 => absurd h9 (mt (lg_cmp_lt _ _).mp (Int64.not_lt.mpr t2))) (fun _ => ?_)
  refine lv_lload_n hx hb d_V_ask_17 rfl (lv_at hl 2 rfl) ?_
  refine lv_ldc2 (v := 1099511627775) hx hb hown (hE.t w653 rfl) d_V_ask_18 ?_
  refine W.lcmp hx hb d_V_ask_21 ?_
  refine lv_if_gt hx hb d_V_ask_22 (tgt := 38) rfl (fun h9 => absurd h9 (mt (lg_cmp_gt _ _).mp (Int64.not_lt.mpr t3))) (fun _ => ?_)
  refine lv_iload hx hb d_V_ask_25 (lv_at hl 3 rfl) ?_
  refine lv_iconst (v := 1) hx hb d_V_ask_27 (by decide) ?_
  refine lv_icmp_lt hx hb d_V_ask_28 (tgt := 38) rfl (fun h9 => absurd h9 (mt (nI_ltI (a := nw) (b := 1) (by omega) (by omega)).mp (Nat.not_lt.mpr t4))) (fun _ => ?_)
  refine lv_iload hx hb d_V_ask_31 (lv_at hl 3 rfl) ?_
  refine lv_bipush (v := 64) hx hb d_V_ask_33 (by decide) ?_
  refine lv_icmp_le hx hb d_V_ask_35 (tgt := 46) rfl (fun _ => ?_) (fun h9 => absurd ((nI_leI (a := nw) (b := 64) (by omega) (by omega)).mpr t5) h9)
  refine lv_aload_n hx hb d_V_ask_46 rfl (lv_at hl 0 rfl) ?_
  refine gF (v := .ref (ad 22)) hx hb hown hE hK hP 0 rfl rfl layV 15 (by decide) w695 rfl d_V_ask_47 ?_
  refine lv_aload_n hx hb d_V_ask_50 rfl (lv_at hl 0 rfl) ?_
  refine gF (v := .ref x.tpA) hx hb hown hE hK hP 0 rfl rfl layV 0 (by decide) w539 rfl d_V_ask_51 ?_
  refine lv_aload_n hx hb d_V_ask_54 rfl (lv_at hl 0 rfl) ?_
  refine gF (v := .int (nI x.tapeLength)) hx hb hown hE hK hP 0 rfl rfl layV 1 (by decide) w259 rfl d_V_ask_55 ?_
  refine jkI (wr := []) (rnVs (As := [.ref x.tpA, .int (nI x.tapeLength)]) (rest := []) hx hb hml hown hE hK hZ hT hM hQ hS (hN _ _ hS) hP hD (v_Qread l D dA H.size e0 mi kA vA fm h ad sa g r x x.tapeLength hsa hll hst hn h2 h3 hby) (q0 := 36) rfl rfl w697 w696 w698 w699 w665 rfl rfl ⟨⟨by decide, by decide⟩, rfl⟩ ⟨(Nat.le_of_ble_eq_true rfl), (Nat.le_of_ble_eq_true rfl)⟩ rfl hl.1 rfl (Nat.le_of_ble_eq_true rfl) d_V_ask_58 ⟨(show 0 + 0 + 0 + (8 * x.tapeLength) ≤ 8 * x.tapeLength + cC k by omega), (show 0 + 0 + 0 + (64 * x.tapeLength + 4 * (cpR g.eN 0 (pQ x.tape x.tapeLength (x.t0 x.tapeLength)).2.2.length - g.eN)) ≤ 64 * x.tapeLength + 4 * (cpR g.eN 0 (pQ x.tape x.tapeLength (x.t0 x.tapeLength)).2.2.length - g.eN) + cS k by omega)⟩) hP hD hS hA (fun r5 u6 H locs hp9 hP hD hS => ?_)
  obtain ⟨y0, gq, y1⟩ := u6
  have hP : va_P D vwCl (VW dA h ad y0) H := hP
  have hD : va_D A (VW dA h ad y0) := hD
  obtain ⟨hp9, f_q_7, f_p_8⟩ := hp9
  replace hp9 : bI (qRd (pQ x.tape x.tapeLength (x.t0 x.tapeLength))).1 = r5 := Eq.symm hp9
  subst hp9
  refine tpi (y := 1) (by rw [hR]; rfl) ?_
  refine lv_istore hx hb d_V_ask_61 hl (by decide) rfl (fun ls hl => ?_)
  have hl : lv_has ls 8 [(6, .int 1), (0, .ref h), (1, .long fr), (3, .long wd), (5, .int (nI nw))] := hl
  refine lv_aload_n hx hb d_V_ask_63 rfl (lv_at hl 1 rfl) ?_
  refine lv_iconst (v := 0) hx hb d_V_ask_64 (by decide) ?_
  refine pF (v := .int (nI 0)) hx hb hown hE hK hP hD hS 0 rfl rfl layV tyV tokV nmV 1 (by decide) w259 rfl rfl rfl (Nat.le_of_ble_eq_true rfl) d_V_ask_65 (fun H locs hP hD hS => ?_)
  have hP : va_P D vwCl (VW dA h ad (VS.s_tapeLength y0 0)) H := hP
  have hD : va_D A (VW dA h ad (VS.s_tapeLength y0 0)) := hD
  refine lv_aload_n hx hb d_V_ask_68 rfl (lv_at hl 1 rfl) ?_
  refine lv_iconst (v := 0) hx hb d_V_ask_69 (by decide) ?_
  refine pF (v := .int (bI false)) hx hb hown hE hK hP hD hS 0 rfl rfl layV tyV tokV nmV 17 (by decide) w210 rfl (bI_nar false) (bI_fit false) (Nat.le_of_ble_eq_true rfl) d_V_ask_70 (fun H locs hP hD hS => ?_)
  have hP : va_P D vwCl (VW dA h ad (VS.s_hasTable (VS.s_tapeLength y0 0) false)) H := hP
  have hD : va_D A (VW dA h ad (VS.s_hasTable (VS.s_tapeLength y0 0) false)) := hD
  refine lv_iload hx hb d_V_ask_73 (lv_at hl 0 rfl) ?_
  refine lv_if_ne hx hb d_V_ask_75 (tgt := 98) rfl (fun _ => ?_) (fun h9 => absurd h9 (by decide))
  have hpp := f_p_8
  obtain ⟨pa1, pa2, pa3, pa4, pa5, pa6, pa7⟩ := hpp
  rw [hR] at pa4 pa7
  have gz : gq.sz = S.length := pa4.trans (Nat.zero_add _)
  have gst : stps dA y0.pl gq 0 S := pa7 rfl
  have hl0 : y0.ll = LqW dA sa gq ++ r := pa3.2.1
  have lq := pa3.2.2.1.1
  have lq1 : gq.sz ≤ gq.eN := lq.2.1
  have gne : ¬ gq.eN = 0 := by omega
  have hP := pmP (show List.Perm (α := Nat × va_E) (VW dA h ad (VS.s_hasTable (VS.s_tapeLength y0 0) false)) (LqW dA sa gq ++ (VW dA h ad (VS.s_ll (VS.s_hasTable (VS.s_tapeLength y0 0) false) r))) from llP (dA := dA) (h := h) (ad := ad) (x := (VS.s_hasTable (VS.s_tapeLength y0 0) false)) (L := LqW dA sa gq) (r := r) hl0) hP
  have hD := pmD (show List.Perm (α := Nat × va_E) (VW dA h ad (VS.s_hasTable (VS.s_tapeLength y0 0) false)) (LqW dA sa gq ++ (VW dA h ad (VS.s_ll (VS.s_hasTable (VS.s_tapeLength y0 0) false) r))) from llP (dA := dA) (h := h) (ad := ad) (x := (VS.s_hasTable (VS.s_tapeLength y0 0) false)) (L := LqW dA sa gq) (r := r) hl0) hD
  have hP : va_P D vwCl (LqW dA sa gq ++ (VW dA h ad (VS.s_ll (VS.s_hasTable (VS.s_tapeLength y0 0) false) r))) H := hP
  have hD : va_D A (LqW dA sa gq ++ (VW dA h ad (VS.s_ll (VS.s_hasTable (VS.s_tapeLength y0 0) false) r))) := hD
  obtain ⟨w0, e_w0⟩ : ∃ w9, w9 = VS.s_ll (VS.s_hasTable (VS.s_tapeLength y0 0) false) r := ⟨_, rfl⟩
  rw [← e_w0] at hP hD
  have hP : va_P D vwCl (LqW dA sa gq ++ (VW dA h ad w0)) H := hP
  have hD : va_D A (LqW dA sa gq ++ (VW dA h ad w0)) := hD
  have haq : x.aq x.tapeLength r w0 := ⟨y0, f_q_7, by rw [e_w0]; rfl⟩
  rw [LqW_1 gne] at hP hD
  obtain ⟨lb, elb⟩ : ∃ f9 : Nat → Nat, f9 = (fun _ => sa) := ⟨_, rfl⟩
  rw [← elb] at hP hD
  have hlb : lb 0 = ad 23 := by rw [elb]; exact hsa
  have hP : va_P D vwCl (LiW dA lb gq ++ (VW dA h ad w0)) H := hP
  have hD : va_D A (LiW dA lb gq ++ (VW dA h ad w0)) := hD
  obtain ⟨kn_w0, nser_w0, nP_w0, npc_w0, nsc_w0, nsO_w0, hsize_w0, hN_w0, hO_w0, hT_w0, ll_w0, sub_w0⟩ := aq_f haq
  have hpf : plF w0.pl := plF_s (fun c hc => List.mem_append_right _ (plm hc)) (plF_of hD)
  have hkw : skP dA ad ([] : va_W) w0 la gk AT T := skP_x (x := VS.s_ll x r) ll_w0 hk
  refine lv_aload_n hx hb d_V_ask_98 rfl (lv_at hl 1 rfl) ?_
  refine gF (v := .ref (ad 24)) hx hb hown hE hK hP 2 rfl rfl layV 16 (by decide) w850 rfl d_V_ask_99 ?_
  refine lv_aload_n hx hb d_V_ask_102 rfl (lv_at hl 1 rfl) ?_
  refine gF (v := .ref (ad 22)) hx hb hown hE hK hP 2 rfl rfl layV 15 (by decide) w695 rfl d_V_ask_103 ?_
  refine lv_aload_n hx hb d_V_ask_106 rfl (lv_at hl 1 rfl) ?_
  refine gF (v := .ref (ad 17)) hx hb hown hE hK hP 2 rfl rfl layV 13 (by decide) w833 rfl d_V_ask_107 ?_
  refine lv_aload_n hx hb d_V_ask_110 rfl (lv_at hl 1 rfl) ?_
  refine gF (v := .ref (ad 3)) hx hb hown hE hK hP 2 rfl rfl layV 11 (by decide) w297 rfl d_V_ask_111 ?_
  refine lv_aload_n hx hb d_V_ask_114 rfl (lv_at hl 1 rfl) ?_
  refine gF (v := .ref (ad 1)) hx hb hown hE hK hP 2 rfl rfl layV 9 (by decide) w576 rfl d_V_ask_115 ?_
  refine lv_lload_n hx hb d_V_ask_118 rfl (lv_at hl 2 rfl) ?_
  refine lv_lload_n hx hb d_V_ask_119 rfl (lv_at hl 3 rfl) ?_
  refine lv_iload hx hb d_V_ask_120 (lv_at hl 4 rfl) ?_
  refine jkI (wr := []) (rnVy (As := [.ref (ad 22), .ref (ad 17), .ref (ad 3), .ref (ad 1), .long fr, .long wd, .int (nI nw)]) (rest := []) hx hb hml hown hE hK hZ hT hM hS (hN _ _ hS) hP hD (v_work l D dA H.size e0 mi h ad lb gq w0 fr wd nw la gk AT T ([] : va_W) S SS PS cC cS k hlb lq.2.1 lq.2.2 gz (by rw [e_w0]; exact gst) hkw t5 (by rw [kn_w0, nser_w0]; exact knOk_m sub_w0 hkn) (by rw [nP_w0, npc_w0]; exact psOk_m sub_w0 hps) (by rw [npc_w0]; exact hpn) (by rw [nsc_w0]; exact hs1) (by rw [nsc_w0, nsO_w0]; exact hs7) (by rw [nser_w0]; exact hns) (by rw [npc_w0, nser_w0]; exact hpo) (by rw [hsize_w0, hO_w0, nser_w0, hT_w0]; exact hho) (by rw [hsize_w0, hN_w0]; exact hhz) (by rw [hN_w0]; exact hhN) hkS hcC (fun i a => hgo w0 i a haq hpf) (fun a => hxx w0 a haq hpf)) (q0 := 39) rfl rfl w1788 w1787 w1789 w1790 w846 rfl rfl ⟨⟨by decide, by decide⟩, rfl⟩ ⟨(Nat.le_of_ble_eq_true rfl), (Nat.le_of_ble_eq_true rfl)⟩ rfl hl.1 rfl (Nat.le_of_ble_eq_true rfl) d_V_ask_122 ⟨(show 0 + 0 + 0 + (8 * x.tapeLength) + (cC k) ≤ 8 * x.tapeLength + cC k by omega), (show 0 + 0 + 0 + (64 * x.tapeLength + 4 * (cpR g.eN 0 (pQ x.tape x.tapeLength (x.t0 x.tapeLength)).2.2.length - g.eN)) + (cS k) ≤ 64 * x.tapeLength + 4 * (cpR g.eN 0 (pQ x.tape x.tapeLength (x.t0 x.tapeLength)).2.2.length - g.eN) + cS k by omega)⟩) hP hD hS hA (fun rv9 u9 H locs hp9 hP hD hS => ?_)
  obtain ⟨w1, gq2, Aq, Tq⟩ := u9
  have hP : va_P D vwCl (LiW dA lb gq ++ (VW dA h ad w1)) H := hP
  have hD : va_D A (LiW dA lb gq ++ (VW dA h ad w1)) := hD
  have f_w_10 := hp9
  obtain ⟨e9, hwr⟩ : rv9 = nI (S.getD k (spO 0 0 0)).2.1 ∧ ∃ (a : SKT) (NL NR : Nat → List Int32) (RS RU : Nat → List LB) (wi : Nat), wkR dA ad ([] : va_W) la PS SS nw S (w0.wk0 fr wd nw, gk, AT, T) k a ∧ tbK dA a.1.pl wi (a.2.2.2 (a.1.adep - 2)) NL RS ∧ tbK dA a.1.pl wi (a.2.2.2 (a.1.adep - 1)) NR RU ∧ jnC NL NR (a.2.2.2 (a.1.adep - 2)) (a.2.2.2 (a.1.adep - 1)) = 3 ∧ jnZ dA ad ([] : va_W) la (S.getD k (spO 0 0 0)).1 NL NR RS RU a.1 a.2.1 a.2.2.1 a.2.2.2 w1 gq2 Aq Tq := by rcases f_w_10 with ⟨a1, -⟩ | ⟨-, a2, a3⟩; omega; exact ⟨a2, a3⟩
  subst e9
  refine lv_istore hx hb d_V_ask_125 hl (by decide) rfl (fun ls hl => ?_)
  have hl : lv_has ls 8 [(7, .int (nI (S.getD k (spO 0 0 0)).2.1)), (6, .int 1), (0, .ref h), (1, .long fr), (3, .long wd), (5, .int (nI nw))] := hl
  refine lv_iload hx hb d_V_ask_127 (lv_at hl 0 rfl) ?_
  refine lv_iconst (v := (-1)) hx hb d_V_ask_129 (by decide) ?_
  refine lv_icmp_eq hx hb d_V_ask_130 (tgt := 142) rfl (fun h9 => absurd h9 (nI_nm hpl)) (fun _ => ?_)
  refine lv_aload_n hx hb d_V_ask_133 rfl (lv_at hl 2 rfl) ?_
  refine lv_iconst (v := 5) hx hb d_V_ask_134 (by decide) ?_
  refine lv_iload hx hb d_V_ask_135 (lv_at hl 0 rfl) ?_
  have hPc : va_P D vwCl (VW dA h ad w1) H := spP (wr := LiW dA lb gq) hP
  have hDc : va_D A (VW dA h ad w1) := spD (wr := LiW dA lb gq) hD
  refine jkV (wr := LiW dA lb gq) (rnV (As := [.int 5, .int (nI (S.getD k (spO 0 0 0)).2.1)]) (rest := []) hx hb hml hown hE hK (hN _ _ hS) hPc hDc (v_setFault l D dA H.size h ad w1 5 (nI (S.getD k (spO 0 0 0)).2.1)) (q0 := 0) rfl rfl w616 w615 w617 w618 w277 rfl rfl ⟨⟨by decide, by decide⟩, rfl⟩ ⟨(Nat.le_of_ble_eq_true rfl), (Nat.le_of_ble_eq_true rfl)⟩ rfl hl.1 rfl (Nat.le_of_ble_eq_true rfl) d_V_ask_137 ⟨(show 0 + 0 + 0 + (8 * x.tapeLength) + (cC k) + 0 ≤ 8 * x.tapeLength + cC k by omega), (show 0 + 0 + 0 + (64 * x.tapeLength + 4 * (cpR g.eN 0 (pQ x.tape x.tapeLength (x.t0 x.tapeLength)).2.2.length - g.eN)) + (cS k) + 0 ≤ 64 * x.tapeLength + 4 * (cpR g.eN 0 (pQ x.tape x.tapeLength (x.t0 x.tapeLength)).2.2.length - g.eN) + cS k by omega)⟩) hP hD hS hA (fun u12 H locs hp9 hP hD hS => ?_)
  have hP : va_P D vwCl (LiW dA lb gq ++ (VW dA h ad (VS.s_faultPlace (VS.s_faultCode w1 5) (nI (S.getD k (spO 0 0 0)).2.1)))) H := hP
  have hD : va_D A (LiW dA lb gq ++ (VW dA h ad (VS.s_faultPlace (VS.s_faultCode w1 5) (nI (S.getD k (spO 0 0 0)).2.1)))) := hD
  refine lv_iconst (v := (-1)) hx hb d_V_ask_140 (by decide) ?_
  rw [elb, ← LqW_1 (dA := dA) (a := sa) gne] at hP hD
  have hP : va_P D vwCl (LqW dA sa gq ++ (VW dA h ad (VS.s_faultPlace (VS.s_faultCode w1 5) (nI (S.getD k (spO 0 0 0)).2.1)))) H := hP
  have hD : va_D A (LqW dA sa gq ++ (VW dA h ad (VS.s_faultPlace (VS.s_faultCode w1 5) (nI (S.getD k (spO 0 0 0)).2.1)))) := hD
  have hP := pmP (show List.Perm (α := Nat × va_E) (LqW dA sa gq ++ (VW dA h ad (VS.s_faultPlace (VS.s_faultCode w1 5) (nI (S.getD k (spO 0 0 0)).2.1)))) (VW dA h ad (VS.s_ll (VS.s_faultPlace (VS.s_faultCode w1 5) (nI (S.getD k (spO 0 0 0)).2.1)) (LqW dA sa gq ++ w1.ll))) from ((llT (dA := dA) (h := h) (ad := ad) (VS.s_faultPlace (VS.s_faultCode w1 5) (nI (S.getD k (spO 0 0 0)).2.1)) (LqW dA sa gq)).symm).symm) hP
  have hD := pmD (show List.Perm (α := Nat × va_E) (LqW dA sa gq ++ (VW dA h ad (VS.s_faultPlace (VS.s_faultCode w1 5) (nI (S.getD k (spO 0 0 0)).2.1)))) (VW dA h ad (VS.s_ll (VS.s_faultPlace (VS.s_faultCode w1 5) (nI (S.getD k (spO 0 0 0)).2.1)) (LqW dA sa gq ++ w1.ll))) from ((llT (dA := dA) (h := h) (ad := ad) (VS.s_faultPlace (VS.s_faultCode w1 5) (nI (S.getD k (spO 0 0 0)).2.1)) (LqW dA sa gq)).symm).symm) hD
  have hP : va_P D vwCl (VW dA h ad (VS.s_ll (VS.s_faultPlace (VS.s_faultCode w1 5) (nI (S.getD k (spO 0 0 0)).2.1)) (LqW dA sa gq ++ w1.ll))) H := hP
  have hD : va_D A (VW dA h ad (VS.s_ll (VS.s_faultPlace (VS.s_faultCode w1 5) (nI (S.getD k (spO 0 0 0)).2.1)) (LqW dA sa gq ++ w1.ll))) := hD
  exact rfI hx hb hr hlk hS (⟨VS.s_ll (VS.s_faultPlace (VS.s_faultCode w1 5) (nI (S.getD k (spO 0 0 0)).2.1)) (LqW dA sa gq ++ w1.ll), gq, y1, y0, w0, w1, gq2, Aq, Tq⟩) ⟨rfl, f_q_7, f_p_8, by rw [e_w0]; rfl, hpf, hwr, rfl⟩ hP hD (show 0 + 0 + 0 + (8 * x.tapeLength) + (cC k) + 0 ≤ 8 * x.tapeLength + cC k by omega) (show 0 + 0 + 0 + (64 * x.tapeLength + 4 * (cpR g.eN 0 (pQ x.tape x.tapeLength (x.t0 x.tapeLength)).2.2.length - g.eN)) + (cS k) + 0 ≤ 64 * x.tapeLength + 4 * (cpR g.eN 0 (pQ x.tape x.tapeLength (x.t0 x.tapeLength)).2.2.length - g.eN) + cS k by omega) d_V_ask_141
end
section
theorem v_names_1W (l : Launch) (D : va_G) (dA : Nat → ClassId) (sz : Nat) (h : Nat) (ad : Nat → Nat) (x : VS) (la : Nat → Nat) (g : LI) (AT : Nat → Nat → Nat) (T : Nat → TB) (rr : va_W) (hk9 : skP dA ad rr x la g AT T) (hz9 : 0 < g.sz) (ht : x.hasTable = true) : Met l ⟨"SeriesVault", "names", "()I"⟩ [Cond.code ⟨"SeriesVault", "names", "()I"⟩ prog_1_method_46_code 1 (some FieldType.int)] { frames := 5, cells := 0, slots := 0, locals := 84 } (pC D dA [.ref h] (VW dA h ad x) sz) (va_Qi (fun (r9 : Int32) (u9 : Unit) => r9 = nI (T 0).nc) (fun (u9 : Unit) t9 => bW D (va_A (VW dA h ad x) sz) (VW dA h ad x) t9) (va_A (VW dA h ad x) sz)) 0 0 (va_A (VW dA h ad x) sz) := by
  obtain ⟨k1, k2, k3, k4, k5, k6⟩ := hk9
  obtain ⟨R, hR⟩ := tbs_x (dA := dA) AT T hz9
  have a := sk_pm (L := LiW dA la g) (r := rr) (hR AT T (fun _ _ _ => ⟨rfl, rfl⟩))
  have p := llQ2 (dA := dA) (h := h) (ad := ad) (k1.trans a)
  rw [vaA_pm p]
  refine Met_mono (v_names_1 l D dA sz h ad (AT 0) (T 0) la g (VS.s_ll x (R ++ rr))  k2 k3 (by omega) hz9 (k6 _ hz9) ht) (Nat.le_refl _) (Nat.le_refl _) (Nat.le_refl _) (Nat.le_refl _) (Nat.le_refl _) (Nat.le_refl _) (fun _ _ q => pC_pm p q) ?_ (fun _ q => q)
  rintro b9 st o9 t9 ⟨⟨v9, u, c1, c2, c4⟩, c5⟩
  exact ⟨⟨v9, u, c1, c2, bW_pm p.symm c4⟩, c5⟩
theorem v_checkRow_1W (l : Launch) (D : va_G) (dA : Nat → ClassId) (sz : Nat) (h : Nat) (ad : Nat → Nat) (x : VS) (la : Nat → Nat) (g : LI) (AT : Nat → Nat → Nat) (T : Nat → TB) (rr : va_W) (r : Nat) (hk9 : skP dA ad rr x la g AT T) (hz9 : 0 < g.sz) (ht : x.hasTable = true) (hr1 : r < (T 0).rc) (hr2 : (T 0).rc ≤ 256) : Met l ⟨"SeriesVault", "checkRow", "(I)V"⟩ [Cond.code ⟨"SeriesVault", "checkRow", "(I)V"⟩ prog_1_method_50_code 2 none] { frames := 5, cells := 0, slots := 0, locals := 84 } (pC D dA [.ref h, .int (nI r)] (VW dA h ad x) sz) (va_Qv (fun (u9 : Unit) => True) (fun (u9 : Unit) t9 => bW D (va_A (VW dA h ad x) sz) (VW dA h ad x) t9) (va_A (VW dA h ad x) sz)) 0 0 (va_A (VW dA h ad x) sz) := by
  obtain ⟨k1, k2, k3, k4, k5, k6⟩ := hk9
  obtain ⟨R, hR⟩ := tbs_x (dA := dA) AT T hz9
  have a := sk_pm (L := LiW dA la g) (r := rr) (hR AT T (fun _ _ _ => ⟨rfl, rfl⟩))
  have p := llQ2 (dA := dA) (h := h) (ad := ad) (k1.trans a)
  rw [vaA_pm p]
  refine Met_mono (v_checkRow_1 l D dA sz h ad (AT 0) (T 0) la g (VS.s_ll x (R ++ rr)) r k2 k3 (by omega) hz9 (k6 _ hz9) ht hr1 hr2) (Nat.le_refl _) (Nat.le_refl _) (Nat.le_refl _) (Nat.le_refl _) (Nat.le_refl _) (Nat.le_refl _) (fun _ _ q => pC_pm p q) ?_ (fun _ q => q)
  rintro b9 st o9 t9 ⟨⟨u, c1, c2, c4⟩, c5⟩
  exact ⟨⟨u, c1, c2, bW_pm p.symm c4⟩, c5⟩
theorem v_isThere_1W (l : Launch) (D : va_G) (dA : Nat → ClassId) (sz : Nat) (h : Nat) (ad : Nat → Nat) (x : VS) (la : Nat → Nat) (g : LI) (AT : Nat → Nat → Nat) (T : Nat → TB) (rr : va_W) (r : Nat) (w : Nat) (hk9 : skP dA ad rr x la g AT T) (hz9 : 0 < g.sz) (ht : x.hasTable = true) (hr1 : r < (T 0).rc) (hr2 : (T 0).rc ≤ 256) (hw1 : w < (T 0).wi) (hw2 : (T 0).wi ≤ 64) : Met l ⟨"SeriesVault", "isThere", "(II)Z"⟩ [Cond.code ⟨"SeriesVault", "isThere", "(II)Z"⟩ prog_1_method_48_code 3 (some FieldType.boolean)] { frames := 7, cells := 0, slots := 0, locals := 127 } (pC D dA [.ref h, .int (nI r), .int (nI w)] (VW dA h ad x) sz) (va_Qi (fun (r9 : Int32) (u9 : Unit) => r9 = bI (hasB ((T 0).th r) w)) (fun (u9 : Unit) t9 => bW D (va_A (VW dA h ad x) sz) (VW dA h ad x) t9) (va_A (VW dA h ad x) sz)) 0 0 (va_A (VW dA h ad x) sz) := by
  obtain ⟨k1, k2, k3, k4, k5, k6⟩ := hk9
  obtain ⟨R, hR⟩ := tbs_x (dA := dA) AT T hz9
  have a := sk_pm (L := LiW dA la g) (r := rr) (hR AT T (fun _ _ _ => ⟨rfl, rfl⟩))
  have p := llQ2 (dA := dA) (h := h) (ad := ad) (k1.trans a)
  rw [vaA_pm p]
  refine Met_mono (v_isThere_1 l D dA sz h ad (AT 0) (T 0) la g (VS.s_ll x (R ++ rr)) r w k2 k3 (by omega) hz9 (k6 _ hz9) ht hr1 hr2 hw1 hw2) (Nat.le_refl _) (Nat.le_refl _) (Nat.le_refl _) (Nat.le_refl _) (Nat.le_refl _) (Nat.le_refl _) (fun _ _ q => pC_pm p q) ?_ (fun _ q => q)
  rintro b9 st o9 t9 ⟨⟨v9, u, c1, c2, c4⟩, c5⟩
  exact ⟨⟨v9, u, c1, c2, bW_pm p.symm c4⟩, c5⟩
theorem v_cell_1W (l : Launch) (D : va_G) (dA : Nat → ClassId) (sz : Nat) (h : Nat) (ad : Nat → Nat) (x : VS) (la : Nat → Nat) (g : LI) (AT : Nat → Nat → Nat) (T : Nat → TB) (rr : va_W) (r : Nat) (w : Nat) (hk9 : skP dA ad rr x la g AT T) (hz9 : 0 < g.sz) (ht : x.hasTable = true) (hr1 : r < (T 0).rc) (hr2 : (T 0).rc ≤ 256) (hw1 : w < (T 0).wi) (hw2 : (T 0).wi ≤ 64) (hcN : (T 0).cN ≤ 65536) (hrc : (T 0).rc * (T 0).wi ≤ (T 0).cN) : Met l ⟨"SeriesVault", "cell", "(II)J"⟩ [Cond.code ⟨"SeriesVault", "cell", "(II)J"⟩ prog_1_method_49_code 4 (some FieldType.long)] { frames := 7, cells := 0, slots := 0, locals := 127 } (pC D dA [.ref h, .int (nI r), .int (nI w)] (VW dA h ad x) sz) (va_Ql (fun (r9 : Int64) (u9 : Unit) => r9 = if hasB ((T 0).th r) w = true then (T 0).ce (r * (T 0).wi + w) else 0) (fun (u9 : Unit) t9 => bW D (va_A (VW dA h ad x) sz) (VW dA h ad x) t9) (va_A (VW dA h ad x) sz)) 0 0 (va_A (VW dA h ad x) sz) := by
  obtain ⟨k1, k2, k3, k4, k5, k6⟩ := hk9
  obtain ⟨R, hR⟩ := tbs_x (dA := dA) AT T hz9
  have a := sk_pm (L := LiW dA la g) (r := rr) (hR AT T (fun _ _ _ => ⟨rfl, rfl⟩))
  have p := llQ2 (dA := dA) (h := h) (ad := ad) (k1.trans a)
  rw [vaA_pm p]
  refine Met_mono (v_cell_1 l D dA sz h ad (AT 0) (T 0) la g (VS.s_ll x (R ++ rr)) r w k2 k3 (by omega) hz9 (k6 _ hz9) ht hr1 hr2 hw1 hw2 hcN hrc) (Nat.le_refl _) (Nat.le_refl _) (Nat.le_refl _) (Nat.le_refl _) (Nat.le_refl _) (Nat.le_refl _) (fun _ _ q => pC_pm p q) ?_ (fun _ q => q)
  rintro b9 st o9 t9 ⟨⟨v9, u, c1, c2, c4⟩, c5⟩
  exact ⟨⟨v9, u, c1, c2, bW_pm p.symm c4⟩, c5⟩
theorem v_text_nW (l : Launch) (D : va_G) (dA : Nat → ClassId) (sz : Nat) (h : Nat) (ad : Nat → Nat) (x : VS) (la : Nat → Nat) (g : LI) (AT : Nat → Nat → Nat) (T : Nat → TB) (rr : va_W) (r : Nat) (k : Int32) (i : Int32) (hk9 : skP dA ad rr x la g AT T) (hz9 : 0 < g.sz) (ht : x.hasTable = true) (hr1 : r < (T 0).rc) (hr2 : (T 0).rc ≤ 256) (hnc : (T 0).nc ≤ 6) (h0 : k < 0 ∨ nI (T 0).nc ≤ k) : Met l ⟨"SeriesVault", "text", "(III)I"⟩ [Cond.code ⟨"SeriesVault", "text", "(III)I"⟩ prog_1_method_47_code 5 (some FieldType.int)] { frames := 6, cells := 0, slots := 0, locals := 105 } (pC D dA [.ref h, .int (nI r), .int k, .int i] (VW dA h ad x) sz) (va_Qi (fun (r9 : Int32) (u9 : Unit) => r9 = (-1)) (fun (u9 : Unit) t9 => bW D (va_A (VW dA h ad x) sz) (VW dA h ad x) t9) (va_A (VW dA h ad x) sz)) 0 0 (va_A (VW dA h ad x) sz) := by
  obtain ⟨k1, k2, k3, k4, k5, k6⟩ := hk9
  obtain ⟨R, hR⟩ := tbs_x (dA := dA) AT T hz9
  have a := sk_pm (L := LiW dA la g) (r := rr) (hR AT T (fun _ _ _ => ⟨rfl, rfl⟩))
  have p := llQ2 (dA := dA) (h := h) (ad := ad) (k1.trans a)
  rw [vaA_pm p]
  refine Met_mono (v_text_n l D dA sz h ad (AT 0) (T 0) la g (VS.s_ll x (R ++ rr)) r k i k2 k3 (by omega) hz9 (k6 _ hz9) ht hr1 hr2 hnc h0) (Nat.le_refl _) (Nat.le_refl _) (Nat.le_refl _) (Nat.le_refl _) (Nat.le_refl _) (Nat.le_refl _) (fun _ _ q => pC_pm p q) ?_ (fun _ q => q)
  rintro b9 st o9 t9 ⟨⟨v9, u, c1, c2, c4⟩, c5⟩
  exact ⟨⟨v9, u, c1, c2, bW_pm p.symm c4⟩, c5⟩
theorem v_text_1W (l : Launch) (D : va_G) (dA : Nat → ClassId) (sz : Nat) (h : Nat) (ad : Nat → Nat) (x : VS) (la : Nat → Nat) (g : LI) (AT : Nat → Nat → Nat) (T : Nat → TB) (rr : va_W) (r : Nat) (NL : Nat → List Int32) (RS : Nat → List LB) (k : Nat) (i : Nat) (hk9 : skP dA ad rr x la g AT T) (hz9 : 0 < g.sz) (ht : x.hasTable = true) (hr1 : r < (T 0).rc) (hr2 : (T 0).rc ≤ 256) (hnc : (T 0).nc ≤ 6) (hnm : nmOk dA x.pl (T 0).nm (T 0).nc NL) (hrs : rsOk dA x.pl (T 0).rs (T 0).rc RS) (hk : k < (T 0).nc) (hi : i < (valS (RS r) (NL k)).length) : Met l ⟨"SeriesVault", "text", "(III)I"⟩ [Cond.code ⟨"SeriesVault", "text", "(III)I"⟩ prog_1_method_47_code 5 (some FieldType.int)] { frames := 6, cells := 0, slots := 0, locals := 105 } (pC D dA [.ref h, .int (nI r), .int (nI k), .int (nI i)] (VW dA h ad x) sz) (va_Qi (fun (r9 : Int32) (u9 : Unit) => r9 = (valS (RS r) (NL k)).getD i 0 &&& 255) (fun (u9 : Unit) t9 => bW D (va_A (VW dA h ad x) sz) (VW dA h ad x) t9) (va_A (VW dA h ad x) sz)) 0 0 (va_A (VW dA h ad x) sz) := by
  obtain ⟨k1, k2, k3, k4, k5, k6⟩ := hk9
  obtain ⟨R, hR⟩ := tbs_x (dA := dA) AT T hz9
  have a := sk_pm (L := LiW dA la g) (r := rr) (hR AT T (fun _ _ _ => ⟨rfl, rfl⟩))
  have p := llQ2 (dA := dA) (h := h) (ad := ad) (k1.trans a)
  rw [vaA_pm p]
  refine Met_mono (v_text_1 l D dA sz h ad (AT 0) (T 0) la g (VS.s_ll x (R ++ rr)) r NL RS k i k2 k3 (by omega) hz9 (k6 _ hz9) ht hr1 hr2 hnc hnm hrs hk hi) (Nat.le_refl _) (Nat.le_refl _) (Nat.le_refl _) (Nat.le_refl _) (Nat.le_refl _) (Nat.le_refl _) (fun _ _ q => pC_pm p q) ?_ (fun _ q => q)
  rintro b9 st o9 t9 ⟨⟨v9, u, c1, c2, c4⟩, c5⟩
  exact ⟨⟨v9, u, c1, c2, bW_pm p.symm c4⟩, c5⟩
theorem v_text_0W (l : Launch) (D : va_G) (dA : Nat → ClassId) (sz : Nat) (h : Nat) (ad : Nat → Nat) (x : VS) (la : Nat → Nat) (g : LI) (AT : Nat → Nat → Nat) (T : Nat → TB) (rr : va_W) (r : Nat) (NL : Nat → List Int32) (RS : Nat → List LB) (k : Nat) (i : Int32) (hk9 : skP dA ad rr x la g AT T) (hz9 : 0 < g.sz) (ht : x.hasTable = true) (hr1 : r < (T 0).rc) (hr2 : (T 0).rc ≤ 256) (hnc : (T 0).nc ≤ 6) (hnm : nmOk dA x.pl (T 0).nm (T 0).nc NL) (hrs : rsOk dA x.pl (T 0).rs (T 0).rc RS) (hk : k < (T 0).nc) (hi : i < 0 ∨ nI (valS (RS r) (NL k)).length ≤ i) : Met l ⟨"SeriesVault", "text", "(III)I"⟩ [Cond.code ⟨"SeriesVault", "text", "(III)I"⟩ prog_1_method_47_code 5 (some FieldType.int)] { frames := 6, cells := 0, slots := 0, locals := 105 } (pC D dA [.ref h, .int (nI r), .int (nI k), .int i] (VW dA h ad x) sz) (va_Qi (fun (r9 : Int32) (u9 : Unit) => r9 = (-1)) (fun (u9 : Unit) t9 => bW D (va_A (VW dA h ad x) sz) (VW dA h ad x) t9) (va_A (VW dA h ad x) sz)) 0 0 (va_A (VW dA h ad x) sz) := by
  obtain ⟨k1, k2, k3, k4, k5, k6⟩ := hk9
  obtain ⟨R, hR⟩ := tbs_x (dA := dA) AT T hz9
  have a := sk_pm (L := LiW dA la g) (r := rr) (hR AT T (fun _ _ _ => ⟨rfl, rfl⟩))
  have p := llQ2 (dA := dA) (h := h) (ad := ad) (k1.trans a)
  rw [vaA_pm p]
  refine Met_mono (v_text_0 l D dA sz h ad (AT 0) (T 0) la g (VS.s_ll x (R ++ rr)) r NL RS k i k2 k3 (by omega) hz9 (k6 _ hz9) ht hr1 hr2 hnc hnm hrs hk hi) (Nat.le_refl _) (Nat.le_refl _) (Nat.le_refl _) (Nat.le_refl _) (Nat.le_refl _) (Nat.le_refl _) (fun _ _ q => pC_pm p q) ?_ (fun _ q => q)
  rintro b9 st o9 t9 ⟨⟨v9, u, c1, c2, c4⟩, c5⟩
  exact ⟨⟨v9, u, c1, c2, bW_pm p.symm c4⟩, c5⟩
end
section
set_option maxHeartbeats 4000000 in
set_option maxRecDepth 100000 in
theorem v_checkRow_xc (l : Launch) (htr : l.stackTraces = false) (D : va_G) (dA : Nat → ClassId) (sz : Nat) (h : Nat) (ad : Nat → Nat) (x : VS) (la : Nat → Nat) (g : LI) (AT : Nat → Nat → Nat) (T : Nat → TB) (rr : va_W) (r : Nat) (hk9 : skP dA ad rr x la g AT T) (hz9 : 0 < g.sz) (ht : x.hasTable = true) (hr1 : (T 0).rc ≤ r) (hr2 : (T 0).rc ≤ 256) (hr3 : r < 2 ^ 31) : mX l ⟨"SeriesVault", "checkRow", "(I)V"⟩ [Cond.code ⟨"SeriesVault", "checkRow", "(I)V"⟩ prog_1_method_50_code 2 none] { frames := 6, cells := 1, slots := 6, locals := 84 } (pC D dA [.ref h, .int (nI r)] (VW dA h ad x) sz) "java/lang/IndexOutOfBoundsException" (fun st9 t9 => va_F (va_A (VW dA h ad x) sz) st9 t9 ∧ ∃ u9 : Unit, (True) ∧ bW D (va_A (VW dA h ad x) sz) (VW dA h ad x) t9) 1 6 (va_A (VW dA h ad x) sz) := by
  refine mkX (y := ⟨"SeriesVault", "checkRow", "(I)V"⟩) (cc := prog_1_method_50_code) (maxL := 2) (av := [.ref h, .int (nI r)]) (ws := VW dA h ad x) (sz := sz) (B := fun A => (fun st9 t9 => va_F A st9 t9 ∧ ∃ u9 : Unit, (True) ∧ bW D A (VW dA h ad x) t9)) (by decide) (Nat.le_of_ble_eq_true rfl) ?_
  intro A p e s m below meth c ls hsz hno hB
  obtain ⟨hx, hb, hr, hml, hown, hin, hlk, hE, hK, hP, hD, hS, hA, hN, hl⟩ := hB
  have hown : s.vm.findClass "SeriesVault" = some m.cls := hown
  have hl : lv_has ls 2 [(0, .ref h), (1, .int (nI r))] := hl
  obtain ⟨H, hH⟩ : ∃ z, z = s.heap := ⟨_, rfl⟩
  have hP : va_P D vwCl (VW dA h ad x) H := by rw [hH]; exact hP
  have hS : va_S A s.heap H [] := by rw [hH]; exact hS
  rw [← hH]
  have mt9 := sk_t hk9 hz9
  refine lv_aload_n hx hb d_V_checkRow_0 rfl (lv_at hl 0 rfl) ?_
  refine gF (v := .int (bI x.hasTable)) hx hb hown hE hK hP 0 rfl rfl layV 17 (by decide) w210 rfl d_V_checkRow_1 ?_
  refine lv_if_eq hx hb d_V_checkRow_4 (tgt := 25) rfl (fun h9 => absurd h9 (by rw [ht]; decide)) (fun _ => ?_)
  refine lv_iload_n hx hb d_V_checkRow_7 rfl (lv_at hl 1 rfl) ?_
  refine lv_if_lt hx hb d_V_checkRow_8 (tgt := 25) rfl (fun h9 => absurd h9 (nI_pos (n := r) (by omega))) (fun _ => ?_)
  refine lv_iload_n hx hb d_V_checkRow_11 rfl (lv_at hl 1 rfl) ?_
  refine lv_aload_n hx hb d_V_checkRow_12 rfl (lv_at hl 0 rfl) ?_
  refine gF (v := .ref (ad 24)) hx hb hown hE hK hP 0 rfl rfl layV 16 (by decide) w850 rfl d_V_checkRow_13 ?_
  refine jkR (wr := []) (rnV (As := []) (rest := [.int (nI r)]) hx hb hml hown hE hK (hN _ _ hS) hP hD (v_tableW l D dA H.size h ad x la g AT T rr hk9 hz9) (q0 := 37) rfl rfl w1722 w1721 w1723 w1724 w846 rfl rfl ⟨⟨by decide, by decide⟩, rfl⟩ ⟨(Nat.le_of_ble_eq_true rfl), (Nat.le_of_ble_eq_true rfl)⟩ rfl hl.1 rfl (Nat.le_of_ble_eq_true rfl) d_V_checkRow_16 ⟨(show 0 + 0 ≤ 1 by omega), (show 0 + 0 ≤ 6 by omega)⟩) hP hD hS hA (fun u2 r1 H locs hp9 hP hD hS => ?_)
  have hP : va_P D vwCl (VW dA h ad x) H := hP
  have hD : va_D A (VW dA h ad x) := hD
  have f_e_3 := hp9
  have e9 := f_e_3
  subst e9
  obtain ⟨qp4, ep5⟩ := List.getElem?_of_mem (show ((AT 0 0, .inr (8, [.ref (AT 0 1), .int (nI (T 0).nc), .int (nI (T 0).wi), .int (nI (T 0).rc), .ref (AT 0 2), .ref (AT 0 3), .ref ((T 0).cA)])) : Nat × va_E) ∈ VW dA h ad x from (llm mt9))
  refine gFN (v := .int (nI (T 0).rc)) hx hb hown hE hK hP qp4 ep5 rfl layT 3 (by decide) w1726 rfl d_V_checkRow_19 ?_
  refine lv_icmp_lt hx hb d_V_checkRow_22 (tgt := 33) rfl (fun h9 => absurd h9 (mt (nI_ltI (a := r) (b := (T 0).rc) (by omega) (by omega)).mp (Nat.not_lt.mpr hr1))) (fun _ => ?_)
  exact xNew (E := "java/lang/IndexOutOfBoundsException") (names := ["java/lang/RuntimeException", "java/lang/Exception"]) hx hb htr hown (by decide) (by decide) hE w257 w258 (fun U hU => at_V_IOOBE hU) (hN _ _ hS) (hl.1.trans hml.symm) d_V_checkRow_25 d_V_checkRow_28 d_V_checkRow_29 d_V_checkRow_32 hno (by decide) (Nat.le_of_ble_eq_true rfl) (show 0 + 0 + 1 ≤ 1 by omega) (show 0 + 0 + 6 ≤ 6 by omega) hlk (fun t h1 h2 => xkE () trivial hP hD hS t h1 h2) hS.2.2 (show 0 + 0 + 1 ≤ 1 by omega) (show 0 + 0 + 6 ≤ 6 by omega)
set_option maxHeartbeats 4000000 in
set_option maxRecDepth 100000 in
theorem v_checkCell_xc (l : Launch) (htr : l.stackTraces = false) (D : va_G) (dA : Nat → ClassId) (sz : Nat) (h : Nat) (ad : Nat → Nat) (x : VS) (la : Nat → Nat) (g : LI) (AT : Nat → Nat → Nat) (T : Nat → TB) (rr : va_W) (r : Nat) (w : Int32) (hk9 : skP dA ad rr x la g AT T) (hz9 : 0 < g.sz) (ht : x.hasTable = true) (hr1 : (T 0).rc ≤ r) (hr2 : (T 0).rc ≤ 256) (hr3 : r < 2 ^ 31) : mX l ⟨"SeriesVault", "checkCell", "(II)V"⟩ [Cond.code ⟨"SeriesVault", "checkCell", "(II)V"⟩ prog_1_method_51_code 3 none] { frames := 7, cells := 1, slots := 6, locals := 105 } (pC D dA [.ref h, .int (nI r), .int w] (VW dA h ad x) sz) "java/lang/IndexOutOfBoundsException" (fun st9 t9 => va_F (va_A (VW dA h ad x) sz) st9 t9 ∧ ∃ u9 : Unit, (True) ∧ bW D (va_A (VW dA h ad x) sz) (VW dA h ad x) t9) 1 6 (va_A (VW dA h ad x) sz) := by
  refine mkX (y := ⟨"SeriesVault", "checkCell", "(II)V"⟩) (cc := prog_1_method_51_code) (maxL := 3) (av := [.ref h, .int (nI r), .int w]) (ws := VW dA h ad x) (sz := sz) (B := fun A => (fun st9 t9 => va_F A st9 t9 ∧ ∃ u9 : Unit, (True) ∧ bW D A (VW dA h ad x) t9)) (by decide) (Nat.le_of_ble_eq_true rfl) ?_
  intro A p e s m below meth c ls hsz hno hB
  obtain ⟨hx, hb, hr, hml, hown, hin, hlk, hE, hK, hP, hD, hS, hA, hN, hl⟩ := hB
  have hown : s.vm.findClass "SeriesVault" = some m.cls := hown
  have hl : lv_has ls 3 [(0, .ref h), (1, .int (nI r)), (2, .int w)] := hl
  obtain ⟨H, hH⟩ : ∃ z, z = s.heap := ⟨_, rfl⟩
  have hP : va_P D vwCl (VW dA h ad x) H := by rw [hH]; exact hP
  have hS : va_S A s.heap H [] := by rw [hH]; exact hS
  rw [← hH]
  refine lv_aload_n hx hb d_V_checkCell_0 rfl (lv_at hl 0 rfl) ?_
  refine lv_iload_n hx hb d_V_checkCell_1 rfl (lv_at hl 1 rfl) ?_
  refine xkV (wr := []) (As := [.int (nI r)]) (rest := []) hx hb hml hown hE hK (hN _ _ hS) (v_checkRow_xc l htr D dA H.size h ad x la g AT T rr r hk9 hz9 ht hr1 hr2 hr3) (q0 := 0) rfl rfl w305 w304 w306 w307 w277 rfl rfl ⟨⟨by decide, by decide⟩, rfl⟩ ⟨(Nat.le_of_ble_eq_true rfl), (Nat.le_of_ble_eq_true rfl)⟩ rfl hl.1 rfl (Nat.le_of_ble_eq_true rfl) d_V_checkCell_2 ⟨(show 0 + 1 ≤ 1 by omega), (show 0 + 6 ≤ 6 by omega)⟩ hP hD hS hA (fun u2 xa1 ce H locs hp9 hP hD hS hce hcv hcl => ?_)
  have hP : va_P D vwCl (VW dA h ad x) H := hP
  have hD : va_D A (VW dA h ad x) := hD
  exact xOut hno hlk hce hcv hcl (fun t ht => xkE () trivial hP hD hS t (by rw [ht]; exact Nat.le_refl _) (fun q _ => by rw [ht])) hS.2.2 (show 0 + 1 ≤ 1 by omega) (show 0 + 6 ≤ 6 by omega)
set_option maxHeartbeats 4000000 in
set_option maxRecDepth 100000 in
theorem v_text_xc (l : Launch) (htr : l.stackTraces = false) (D : va_G) (dA : Nat → ClassId) (sz : Nat) (h : Nat) (ad : Nat → Nat) (x : VS) (la : Nat → Nat) (g : LI) (AT : Nat → Nat → Nat) (T : Nat → TB) (rr : va_W) (r : Nat) (k : Int32) (i : Int32) (hk9 : skP dA ad rr x la g AT T) (hz9 : 0 < g.sz) (ht : x.hasTable = true) (hr1 : (T 0).rc ≤ r) (hr2 : (T 0).rc ≤ 256) (hr3 : r < 2 ^ 31) : mX l ⟨"SeriesVault", "text", "(III)I"⟩ [Cond.code ⟨"SeriesVault", "text", "(III)I"⟩ prog_1_method_47_code 5 (some FieldType.int)] { frames := 7, cells := 1, slots := 6, locals := 105 } (pC D dA [.ref h, .int (nI r), .int k, .int i] (VW dA h ad x) sz) "java/lang/IndexOutOfBoundsException" (fun st9 t9 => va_F (va_A (VW dA h ad x) sz) st9 t9 ∧ ∃ u9 : Unit, (True) ∧ bW D (va_A (VW dA h ad x) sz) (VW dA h ad x) t9) 1 6 (va_A (VW dA h ad x) sz) := by
  refine mkX (y := ⟨"SeriesVault", "text", "(III)I"⟩) (cc := prog_1_method_47_code) (maxL := 5) (av := [.ref h, .int (nI r), .int k, .int i]) (ws := VW dA h ad x) (sz := sz) (B := fun A => (fun st9 t9 => va_F A st9 t9 ∧ ∃ u9 : Unit, (True) ∧ bW D A (VW dA h ad x) t9)) (by decide) (Nat.le_of_ble_eq_true rfl) ?_
  intro A p e s m below meth c ls hsz hno hB
  obtain ⟨hx, hb, hr, hml, hown, hin, hlk, hE, hK, hP, hD, hS, hA, hN, hl⟩ := hB
  have hown : s.vm.findClass "SeriesVault" = some m.cls := hown
  have hl : lv_has ls 5 [(0, .ref h), (1, .int (nI r)), (2, .int k), (3, .int i)] := hl
  obtain ⟨H, hH⟩ : ∃ z, z = s.heap := ⟨_, rfl⟩
  have hP : va_P D vwCl (VW dA h ad x) H := by rw [hH]; exact hP
  have hS : va_S A s.heap H [] := by rw [hH]; exact hS
  rw [← hH]
  refine lv_aload_n hx hb d_V_text_0 rfl (lv_at hl 0 rfl) ?_
  refine lv_iload_n hx hb d_V_text_1 rfl (lv_at hl 1 rfl) ?_
  refine xkV (wr := []) (As := [.int (nI r)]) (rest := []) hx hb hml hown hE hK (hN _ _ hS) (v_checkRow_xc l htr D dA H.size h ad x la g AT T rr r hk9 hz9 ht hr1 hr2 hr3) (q0 := 0) rfl rfl w305 w304 w306 w307 w277 rfl rfl ⟨⟨by decide, by decide⟩, rfl⟩ ⟨(Nat.le_of_ble_eq_true rfl), (Nat.le_of_ble_eq_true rfl)⟩ rfl hl.1 rfl (Nat.le_of_ble_eq_true rfl) d_V_text_2 ⟨(show 0 + 1 ≤ 1 by omega), (show 0 + 6 ≤ 6 by omega)⟩ hP hD hS hA (fun u2 xa1 ce H locs hp9 hP hD hS hce hcv hcl => ?_)
  have hP : va_P D vwCl (VW dA h ad x) H := hP
  have hD : va_D A (VW dA h ad x) := hD
  exact xOut hno hlk hce hcv hcl (fun t ht => xkE () trivial hP hD hS t (by rw [ht]; exact Nat.le_refl _) (fun q _ => by rw [ht])) hS.2.2 (show 0 + 1 ≤ 1 by omega) (show 0 + 6 ≤ 6 by omega)
theorem d_V_checkCell_23 : decode prog_1_method_51_code 23 = .ok (.new 92, 3) := by decide +kernel
theorem d_V_checkCell_26 : decode prog_1_method_51_code 26 = .ok (.dup, 1) := by decide +kernel
theorem d_V_checkCell_27 : decode prog_1_method_51_code 27 = .ok (.invokespecial 94, 3) := by decide +kernel
theorem d_V_checkCell_30 : decode prog_1_method_51_code 30 = .ok (.athrow, 1) := by decide +kernel
set_option maxHeartbeats 4000000 in
set_option maxRecDepth 100000 in
theorem v_checkCell_xd (l : Launch) (htr : l.stackTraces = false) (D : va_G) (dA : Nat → ClassId) (sz : Nat) (h : Nat) (ad : Nat → Nat) (x : VS) (la : Nat → Nat) (g : LI) (AT : Nat → Nat → Nat) (T : Nat → TB) (rr : va_W) (r : Nat) (w : Int32) (hk9 : skP dA ad rr x la g AT T) (hz9 : 0 < g.sz) (ht : x.hasTable = true) (hr1 : r < (T 0).rc) (hr2 : (T 0).rc ≤ 256) (hw1 : w < 0) : mX l ⟨"SeriesVault", "checkCell", "(II)V"⟩ [Cond.code ⟨"SeriesVault", "checkCell", "(II)V"⟩ prog_1_method_51_code 3 none] { frames := 6, cells := 1, slots := 6, locals := 105 } (pC D dA [.ref h, .int (nI r), .int w] (VW dA h ad x) sz) "java/lang/IndexOutOfBoundsException" (fun st9 t9 => va_F (va_A (VW dA h ad x) sz) st9 t9 ∧ ∃ u9 : Unit, (True) ∧ bW D (va_A (VW dA h ad x) sz) (VW dA h ad x) t9) 1 6 (va_A (VW dA h ad x) sz) := by
  refine mkX (y := ⟨"SeriesVault", "checkCell", "(II)V"⟩) (cc := prog_1_method_51_code) (maxL := 3) (av := [.ref h, .int (nI r), .int w]) (ws := VW dA h ad x) (sz := sz) (B := fun A => (fun st9 t9 => va_F A st9 t9 ∧ ∃ u9 : Unit, (True) ∧ bW D A (VW dA h ad x) t9)) (by decide) (Nat.le_of_ble_eq_true rfl) ?_
  intro A p e s m below meth c ls hsz hno hB
  obtain ⟨hx, hb, hr, hml, hown, hin, hlk, hE, hK, hP, hD, hS, hA, hN, hl⟩ := hB
  have hown : s.vm.findClass "SeriesVault" = some m.cls := hown
  have hl : lv_has ls 3 [(0, .ref h), (1, .int (nI r)), (2, .int w)] := hl
  obtain ⟨H, hH⟩ : ∃ z, z = s.heap := ⟨_, rfl⟩
  have hP : va_P D vwCl (VW dA h ad x) H := by rw [hH]; exact hP
  have hS : va_S A s.heap H [] := by rw [hH]; exact hS
  rw [← hH]
  refine lv_aload_n hx hb d_V_checkCell_0 rfl (lv_at hl 0 rfl) ?_
  refine lv_iload_n hx hb d_V_checkCell_1 rfl (lv_at hl 1 rfl) ?_
  refine jkV (wr := []) (rnV (As := [.int (nI r)]) (rest := []) hx hb hml hown hE hK (hN _ _ hS) hP hD (v_checkRow_1W l D dA H.size h ad x la g AT T rr r hk9 hz9 ht hr1 hr2) (q0 := 0) rfl rfl w305 w304 w306 w307 w277 rfl rfl ⟨⟨by decide, by decide⟩, rfl⟩ ⟨(Nat.le_of_ble_eq_true rfl), (Nat.le_of_ble_eq_true rfl)⟩ rfl hl.1 rfl (Nat.le_of_ble_eq_true rfl) d_V_checkCell_2 ⟨(show 0 + 0 ≤ 1 by omega), (show 0 + 0 ≤ 6 by omega)⟩) hP hD hS hA (fun u2 H locs hp9 hP hD hS => ?_)
  have hP : va_P D vwCl (VW dA h ad x) H := hP
  have hD : va_D A (VW dA h ad x) := hD
  refine lv_iload_n hx hb d_V_checkCell_5 rfl (lv_at hl 2 rfl) ?_
  refine lv_if_lt hx hb d_V_checkCell_6 (tgt := 23) rfl (fun _ => ?_) (fun h9 => absurd hw1 h9)
  exact xNew (E := "java/lang/IndexOutOfBoundsException") (names := ["java/lang/RuntimeException", "java/lang/Exception"]) hx hb htr hown (by decide) (by decide) hE w257 w258 (fun U hU => at_V_IOOBE hU) (hN _ _ hS) (hl.1.trans hml.symm) d_V_checkCell_23 d_V_checkCell_26 d_V_checkCell_27 d_V_checkCell_30 hno (by decide) (Nat.le_of_ble_eq_true rfl) (show 0 + 0 + 1 ≤ 1 by omega) (show 0 + 0 + 6 ≤ 6 by omega) hlk (fun t h1 h2 => xkE () trivial hP hD hS t h1 h2) hS.2.2 (show 0 + 0 + 1 ≤ 1 by omega) (show 0 + 0 + 6 ≤ 6 by omega)
set_option maxHeartbeats 4000000 in
set_option maxRecDepth 100000 in
theorem v_checkCell_xe (l : Launch) (htr : l.stackTraces = false) (D : va_G) (dA : Nat → ClassId) (sz : Nat) (h : Nat) (ad : Nat → Nat) (x : VS) (la : Nat → Nat) (g : LI) (AT : Nat → Nat → Nat) (T : Nat → TB) (rr : va_W) (r : Nat) (w : Nat) (hk9 : skP dA ad rr x la g AT T) (hz9 : 0 < g.sz) (ht : x.hasTable = true) (hr1 : r < (T 0).rc) (hr2 : (T 0).rc ≤ 256) (hw1 : (T 0).wi ≤ w) (hw2 : (T 0).wi ≤ 64) (hw3 : w < 2 ^ 31) : mX l ⟨"SeriesVault", "checkCell", "(II)V"⟩ [Cond.code ⟨"SeriesVault", "checkCell", "(II)V"⟩ prog_1_method_51_code 3 none] { frames := 6, cells := 1, slots := 6, locals := 105 } (pC D dA [.ref h, .int (nI r), .int (nI w)] (VW dA h ad x) sz) "java/lang/IndexOutOfBoundsException" (fun st9 t9 => va_F (va_A (VW dA h ad x) sz) st9 t9 ∧ ∃ u9 : Unit, (True) ∧ bW D (va_A (VW dA h ad x) sz) (VW dA h ad x) t9) 1 6 (va_A (VW dA h ad x) sz) := by
  refine mkX (y := ⟨"SeriesVault", "checkCell", "(II)V"⟩) (cc := prog_1_method_51_code) (maxL := 3) (av := [.ref h, .int (nI r), .int (nI w)]) (ws := VW dA h ad x) (sz := sz) (B := fun A => (fun st9 t9 => va_F A st9 t9 ∧ ∃ u9 : Unit, (True) ∧ bW D A (VW dA h ad x) t9)) (by decide) (Nat.le_of_ble_eq_true rfl) ?_
  intro A p e s m below meth c ls hsz hno hB
  obtain ⟨hx, hb, hr, hml, hown, hin, hlk, hE, hK, hP, hD, hS, hA, hN, hl⟩ := hB
  have hown : s.vm.findClass "SeriesVault" = some m.cls := hown
  have hl : lv_has ls 3 [(0, .ref h), (1, .int (nI r)), (2, .int (nI w))] := hl
  obtain ⟨H, hH⟩ : ∃ z, z = s.heap := ⟨_, rfl⟩
  have hP : va_P D vwCl (VW dA h ad x) H := by rw [hH]; exact hP
  have hS : va_S A s.heap H [] := by rw [hH]; exact hS
  rw [← hH]
  have mt9 := sk_t hk9 hz9
  refine lv_aload_n hx hb d_V_checkCell_0 rfl (lv_at hl 0 rfl) ?_
  refine lv_iload_n hx hb d_V_checkCell_1 rfl (lv_at hl 1 rfl) ?_
  refine jkV (wr := []) (rnV (As := [.int (nI r)]) (rest := []) hx hb hml hown hE hK (hN _ _ hS) hP hD (v_checkRow_1W l D dA H.size h ad x la g AT T rr r hk9 hz9 ht hr1 hr2) (q0 := 0) rfl rfl w305 w304 w306 w307 w277 rfl rfl ⟨⟨by decide, by decide⟩, rfl⟩ ⟨(Nat.le_of_ble_eq_true rfl), (Nat.le_of_ble_eq_true rfl)⟩ rfl hl.1 rfl (Nat.le_of_ble_eq_true rfl) d_V_checkCell_2 ⟨(show 0 + 0 ≤ 1 by omega), (show 0 + 0 ≤ 6 by omega)⟩) hP hD hS hA (fun u2 H locs hp9 hP hD hS => ?_)
  have hP : va_P D vwCl (VW dA h ad x) H := hP
  have hD : va_D A (VW dA h ad x) := hD
  refine lv_iload_n hx hb d_V_checkCell_5 rfl (lv_at hl 2 rfl) ?_
  refine lv_if_lt hx hb d_V_checkCell_6 (tgt := 23) rfl (fun h9 => absurd h9 (nI_pos (n := w) (by omega))) (fun _ => ?_)
  refine lv_iload_n hx hb d_V_checkCell_9 rfl (lv_at hl 2 rfl) ?_
  refine lv_aload_n hx hb d_V_checkCell_10 rfl (lv_at hl 0 rfl) ?_
  refine gF (v := .ref (ad 24)) hx hb hown hE hK hP 0 rfl rfl layV 16 (by decide) w850 rfl d_V_checkCell_11 ?_
  refine jkR (wr := []) (rnV (As := []) (rest := [.int (nI w)]) hx hb hml hown hE hK (hN _ _ hS) hP hD (v_tableW l D dA H.size h ad x la g AT T rr hk9 hz9) (q0 := 37) rfl rfl w1722 w1721 w1723 w1724 w846 rfl rfl ⟨⟨by decide, by decide⟩, rfl⟩ ⟨(Nat.le_of_ble_eq_true rfl), (Nat.le_of_ble_eq_true rfl)⟩ rfl hl.1 rfl (Nat.le_of_ble_eq_true rfl) d_V_checkCell_14 ⟨(show 0 + 0 + 0 ≤ 1 by omega), (show 0 + 0 + 0 ≤ 6 by omega)⟩) hP hD hS hA (fun u4 r3 H locs hp9 hP hD hS => ?_)
  have hP : va_P D vwCl (VW dA h ad x) H := hP
  have hD : va_D A (VW dA h ad x) := hD
  have f_e_5 := hp9
  have e9 := f_e_5
  subst e9
  obtain ⟨qp6, ep7⟩ := List.getElem?_of_mem (show ((AT 0 0, .inr (8, [.ref (AT 0 1), .int (nI (T 0).nc), .int (nI (T 0).wi), .int (nI (T 0).rc), .ref (AT 0 2), .ref (AT 0 3), .ref ((T 0).cA)])) : Nat × va_E) ∈ VW dA h ad x from (llm mt9))
  refine gFN (v := .int (nI (T 0).wi)) hx hb hown hE hK hP qp6 ep7 rfl layT 2 (by decide) w1727 rfl d_V_checkCell_17 ?_
  refine lv_icmp_lt hx hb d_V_checkCell_20 (tgt := 31) rfl (fun h9 => absurd h9 (mt (nI_ltI (a := w) (b := (T 0).wi) (by omega) (by omega)).mp (Nat.not_lt.mpr hw1))) (fun _ => ?_)
  exact xNew (E := "java/lang/IndexOutOfBoundsException") (names := ["java/lang/RuntimeException", "java/lang/Exception"]) hx hb htr hown (by decide) (by decide) hE w257 w258 (fun U hU => at_V_IOOBE hU) (hN _ _ hS) (hl.1.trans hml.symm) d_V_checkCell_23 d_V_checkCell_26 d_V_checkCell_27 d_V_checkCell_30 hno (by decide) (Nat.le_of_ble_eq_true rfl) (show 0 + 0 + 0 + 1 ≤ 1 by omega) (show 0 + 0 + 0 + 6 ≤ 6 by omega) hlk (fun t h1 h2 => xkE () trivial hP hD hS t h1 h2) hS.2.2 (show 0 + 0 + 0 + 1 ≤ 1 by omega) (show 0 + 0 + 0 + 6 ≤ 6 by omega)
set_option maxHeartbeats 4000000 in
set_option maxRecDepth 100000 in
theorem v_isThere_xc (l : Launch) (htr : l.stackTraces = false) (D : va_G) (dA : Nat → ClassId) (sz : Nat) (h : Nat) (ad : Nat → Nat) (x : VS) (la : Nat → Nat) (g : LI) (AT : Nat → Nat → Nat) (T : Nat → TB) (rr : va_W) (r : Nat) (w : Int32) (hk9 : skP dA ad rr x la g AT T) (hz9 : 0 < g.sz) (ht : x.hasTable = true) (hr1 : (T 0).rc ≤ r) (hr2 : (T 0).rc ≤ 256) (hr3 : r < 2 ^ 31) : mX l ⟨"SeriesVault", "isThere", "(II)Z"⟩ [Cond.code ⟨"SeriesVault", "isThere", "(II)Z"⟩ prog_1_method_48_code 3 (some FieldType.boolean)] { frames := 8, cells := 1, slots := 6, locals := 127 } (pC D dA [.ref h, .int (nI r), .int w] (VW dA h ad x) sz) "java/lang/IndexOutOfBoundsException" (fun st9 t9 => va_F (va_A (VW dA h ad x) sz) st9 t9 ∧ ∃ u9 : Unit, (True) ∧ bW D (va_A (VW dA h ad x) sz) (VW dA h ad x) t9) 1 6 (va_A (VW dA h ad x) sz) := by
  refine mkX (y := ⟨"SeriesVault", "isThere", "(II)Z"⟩) (cc := prog_1_method_48_code) (maxL := 3) (av := [.ref h, .int (nI r), .int w]) (ws := VW dA h ad x) (sz := sz) (B := fun A => (fun st9 t9 => va_F A st9 t9 ∧ ∃ u9 : Unit, (True) ∧ bW D A (VW dA h ad x) t9)) (by decide) (Nat.le_of_ble_eq_true rfl) ?_
  intro A p e s m below meth c ls hsz hno hB
  obtain ⟨hx, hb, hr, hml, hown, hin, hlk, hE, hK, hP, hD, hS, hA, hN, hl⟩ := hB
  have hown : s.vm.findClass "SeriesVault" = some m.cls := hown
  have hl : lv_has ls 3 [(0, .ref h), (1, .int (nI r)), (2, .int w)] := hl
  obtain ⟨H, hH⟩ : ∃ z, z = s.heap := ⟨_, rfl⟩
  have hP : va_P D vwCl (VW dA h ad x) H := by rw [hH]; exact hP
  have hS : va_S A s.heap H [] := by rw [hH]; exact hS
  rw [← hH]
  refine lv_aload_n hx hb d_V_isThere_0 rfl (lv_at hl 0 rfl) ?_
  refine lv_iload_n hx hb d_V_isThere_1 rfl (lv_at hl 1 rfl) ?_
  refine lv_iload_n hx hb d_V_isThere_2 rfl (lv_at hl 2 rfl) ?_
  refine xkV (wr := []) (As := [.int (nI r), .int w]) (rest := []) hx hb hml hown hE hK (hN _ _ hS) (v_checkCell_xc l htr D dA H.size h ad x la g AT T rr r w hk9 hz9 ht hr1 hr2 hr3) (q0 := 0) rfl rfl w309 w308 w310 w311 w277 rfl rfl ⟨⟨by decide, by decide⟩, rfl⟩ ⟨(Nat.le_of_ble_eq_true rfl), (Nat.le_of_ble_eq_true rfl)⟩ rfl hl.1 rfl (Nat.le_of_ble_eq_true rfl) d_V_isThere_3 ⟨(show 0 + 1 ≤ 1 by omega), (show 0 + 6 ≤ 6 by omega)⟩ hP hD hS hA (fun u2 xa1 ce H locs hp9 hP hD hS hce hcv hcl => ?_)
  have hP : va_P D vwCl (VW dA h ad x) H := hP
  have hD : va_D A (VW dA h ad x) := hD
  exact xOut hno hlk hce hcv hcl (fun t ht => xkE () trivial hP hD hS t (by rw [ht]; exact Nat.le_refl _) (fun q _ => by rw [ht])) hS.2.2 (show 0 + 1 ≤ 1 by omega) (show 0 + 6 ≤ 6 by omega)
set_option maxHeartbeats 4000000 in
set_option maxRecDepth 100000 in
theorem v_cell_xc (l : Launch) (htr : l.stackTraces = false) (D : va_G) (dA : Nat → ClassId) (sz : Nat) (h : Nat) (ad : Nat → Nat) (x : VS) (la : Nat → Nat) (g : LI) (AT : Nat → Nat → Nat) (T : Nat → TB) (rr : va_W) (r : Nat) (w : Int32) (hk9 : skP dA ad rr x la g AT T) (hz9 : 0 < g.sz) (ht : x.hasTable = true) (hr1 : (T 0).rc ≤ r) (hr2 : (T 0).rc ≤ 256) (hr3 : r < 2 ^ 31) : mX l ⟨"SeriesVault", "cell", "(II)J"⟩ [Cond.code ⟨"SeriesVault", "cell", "(II)J"⟩ prog_1_method_49_code 4 (some FieldType.long)] { frames := 8, cells := 1, slots := 6, locals := 127 } (pC D dA [.ref h, .int (nI r), .int w] (VW dA h ad x) sz) "java/lang/IndexOutOfBoundsException" (fun st9 t9 => va_F (va_A (VW dA h ad x) sz) st9 t9 ∧ ∃ u9 : Unit, (True) ∧ bW D (va_A (VW dA h ad x) sz) (VW dA h ad x) t9) 1 6 (va_A (VW dA h ad x) sz) := by
  refine mkX (y := ⟨"SeriesVault", "cell", "(II)J"⟩) (cc := prog_1_method_49_code) (maxL := 4) (av := [.ref h, .int (nI r), .int w]) (ws := VW dA h ad x) (sz := sz) (B := fun A => (fun st9 t9 => va_F A st9 t9 ∧ ∃ u9 : Unit, (True) ∧ bW D A (VW dA h ad x) t9)) (by decide) (Nat.le_of_ble_eq_true rfl) ?_
  intro A p e s m below meth c ls hsz hno hB
  obtain ⟨hx, hb, hr, hml, hown, hin, hlk, hE, hK, hP, hD, hS, hA, hN, hl⟩ := hB
  have hown : s.vm.findClass "SeriesVault" = some m.cls := hown
  have hl : lv_has ls 4 [(0, .ref h), (1, .int (nI r)), (2, .int w)] := hl
  obtain ⟨H, hH⟩ : ∃ z, z = s.heap := ⟨_, rfl⟩
  have hP : va_P D vwCl (VW dA h ad x) H := by rw [hH]; exact hP
  have hS : va_S A s.heap H [] := by rw [hH]; exact hS
  rw [← hH]
  refine lv_aload_n hx hb d_V_cell_0 rfl (lv_at hl 0 rfl) ?_
  refine lv_iload_n hx hb d_V_cell_1 rfl (lv_at hl 1 rfl) ?_
  refine lv_iload_n hx hb d_V_cell_2 rfl (lv_at hl 2 rfl) ?_
  refine xkV (wr := []) (As := [.int (nI r), .int w]) (rest := []) hx hb hml hown hE hK (hN _ _ hS) (v_checkCell_xc l htr D dA H.size h ad x la g AT T rr r w hk9 hz9 ht hr1 hr2 hr3) (q0 := 0) rfl rfl w309 w308 w310 w311 w277 rfl rfl ⟨⟨by decide, by decide⟩, rfl⟩ ⟨(Nat.le_of_ble_eq_true rfl), (Nat.le_of_ble_eq_true rfl)⟩ rfl hl.1 rfl (Nat.le_of_ble_eq_true rfl) d_V_cell_3 ⟨(show 0 + 1 ≤ 1 by omega), (show 0 + 6 ≤ 6 by omega)⟩ hP hD hS hA (fun u2 xa1 ce H locs hp9 hP hD hS hce hcv hcl => ?_)
  have hP : va_P D vwCl (VW dA h ad x) H := hP
  have hD : va_D A (VW dA h ad x) := hD
  exact xOut hno hlk hce hcv hcl (fun t ht => xkE () trivial hP hD hS t (by rw [ht]; exact Nat.le_refl _) (fun q _ => by rw [ht])) hS.2.2 (show 0 + 1 ≤ 1 by omega) (show 0 + 6 ≤ 6 by omega)
set_option maxHeartbeats 4000000 in
set_option maxRecDepth 100000 in
theorem v_isThere_xd (l : Launch) (htr : l.stackTraces = false) (D : va_G) (dA : Nat → ClassId) (sz : Nat) (h : Nat) (ad : Nat → Nat) (x : VS) (la : Nat → Nat) (g : LI) (AT : Nat → Nat → Nat) (T : Nat → TB) (rr : va_W) (r : Nat) (w : Int32) (hk9 : skP dA ad rr x la g AT T) (hz9 : 0 < g.sz) (ht : x.hasTable = true) (hr1 : r < (T 0).rc) (hr2 : (T 0).rc ≤ 256) (hw1 : w < 0) : mX l ⟨"SeriesVault", "isThere", "(II)Z"⟩ [Cond.code ⟨"SeriesVault", "isThere", "(II)Z"⟩ prog_1_method_48_code 3 (some FieldType.boolean)] { frames := 7, cells := 1, slots := 6, locals := 127 } (pC D dA [.ref h, .int (nI r), .int w] (VW dA h ad x) sz) "java/lang/IndexOutOfBoundsException" (fun st9 t9 => va_F (va_A (VW dA h ad x) sz) st9 t9 ∧ ∃ u9 : Unit, (True) ∧ bW D (va_A (VW dA h ad x) sz) (VW dA h ad x) t9) 1 6 (va_A (VW dA h ad x) sz) := by
  refine mkX (y := ⟨"SeriesVault", "isThere", "(II)Z"⟩) (cc := prog_1_method_48_code) (maxL := 3) (av := [.ref h, .int (nI r), .int w]) (ws := VW dA h ad x) (sz := sz) (B := fun A => (fun st9 t9 => va_F A st9 t9 ∧ ∃ u9 : Unit, (True) ∧ bW D A (VW dA h ad x) t9)) (by decide) (Nat.le_of_ble_eq_true rfl) ?_
  intro A p e s m below meth c ls hsz hno hB
  obtain ⟨hx, hb, hr, hml, hown, hin, hlk, hE, hK, hP, hD, hS, hA, hN, hl⟩ := hB
  have hown : s.vm.findClass "SeriesVault" = some m.cls := hown
  have hl : lv_has ls 3 [(0, .ref h), (1, .int (nI r)), (2, .int w)] := hl
  obtain ⟨H, hH⟩ : ∃ z, z = s.heap := ⟨_, rfl⟩
  have hP : va_P D vwCl (VW dA h ad x) H := by rw [hH]; exact hP
  have hS : va_S A s.heap H [] := by rw [hH]; exact hS
  rw [← hH]
  refine lv_aload_n hx hb d_V_isThere_0 rfl (lv_at hl 0 rfl) ?_
  refine lv_iload_n hx hb d_V_isThere_1 rfl (lv_at hl 1 rfl) ?_
  refine lv_iload_n hx hb d_V_isThere_2 rfl (lv_at hl 2 rfl) ?_
  refine xkV (wr := []) (As := [.int (nI r), .int w]) (rest := []) hx hb hml hown hE hK (hN _ _ hS) (v_checkCell_xd l htr D dA H.size h ad x la g AT T rr r w hk9 hz9 ht hr1 hr2 hw1) (q0 := 0) rfl rfl w309 w308 w310 w311 w277 rfl rfl ⟨⟨by decide, by decide⟩, rfl⟩ ⟨(Nat.le_of_ble_eq_true rfl), (Nat.le_of_ble_eq_true rfl)⟩ rfl hl.1 rfl (Nat.le_of_ble_eq_true rfl) d_V_isThere_3 ⟨(show 0 + 1 ≤ 1 by omega), (show 0 + 6 ≤ 6 by omega)⟩ hP hD hS hA (fun u2 xa1 ce H locs hp9 hP hD hS hce hcv hcl => ?_)
  have hP : va_P D vwCl (VW dA h ad x) H := hP
  have hD : va_D A (VW dA h ad x) := hD
  exact xOut hno hlk hce hcv hcl (fun t ht => xkE () trivial hP hD hS t (by rw [ht]; exact Nat.le_refl _) (fun q _ => by rw [ht])) hS.2.2 (show 0 + 1 ≤ 1 by omega) (show 0 + 6 ≤ 6 by omega)
set_option maxHeartbeats 4000000 in
set_option maxRecDepth 100000 in
theorem v_cell_xd (l : Launch) (htr : l.stackTraces = false) (D : va_G) (dA : Nat → ClassId) (sz : Nat) (h : Nat) (ad : Nat → Nat) (x : VS) (la : Nat → Nat) (g : LI) (AT : Nat → Nat → Nat) (T : Nat → TB) (rr : va_W) (r : Nat) (w : Int32) (hk9 : skP dA ad rr x la g AT T) (hz9 : 0 < g.sz) (ht : x.hasTable = true) (hr1 : r < (T 0).rc) (hr2 : (T 0).rc ≤ 256) (hw1 : w < 0) : mX l ⟨"SeriesVault", "cell", "(II)J"⟩ [Cond.code ⟨"SeriesVault", "cell", "(II)J"⟩ prog_1_method_49_code 4 (some FieldType.long)] { frames := 7, cells := 1, slots := 6, locals := 127 } (pC D dA [.ref h, .int (nI r), .int w] (VW dA h ad x) sz) "java/lang/IndexOutOfBoundsException" (fun st9 t9 => va_F (va_A (VW dA h ad x) sz) st9 t9 ∧ ∃ u9 : Unit, (True) ∧ bW D (va_A (VW dA h ad x) sz) (VW dA h ad x) t9) 1 6 (va_A (VW dA h ad x) sz) := by
  refine mkX (y := ⟨"SeriesVault", "cell", "(II)J"⟩) (cc := prog_1_method_49_code) (maxL := 4) (av := [.ref h, .int (nI r), .int w]) (ws := VW dA h ad x) (sz := sz) (B := fun A => (fun st9 t9 => va_F A st9 t9 ∧ ∃ u9 : Unit, (True) ∧ bW D A (VW dA h ad x) t9)) (by decide) (Nat.le_of_ble_eq_true rfl) ?_
  intro A p e s m below meth c ls hsz hno hB
  obtain ⟨hx, hb, hr, hml, hown, hin, hlk, hE, hK, hP, hD, hS, hA, hN, hl⟩ := hB
  have hown : s.vm.findClass "SeriesVault" = some m.cls := hown
  have hl : lv_has ls 4 [(0, .ref h), (1, .int (nI r)), (2, .int w)] := hl
  obtain ⟨H, hH⟩ : ∃ z, z = s.heap := ⟨_, rfl⟩
  have hP : va_P D vwCl (VW dA h ad x) H := by rw [hH]; exact hP
  have hS : va_S A s.heap H [] := by rw [hH]; exact hS
  rw [← hH]
  refine lv_aload_n hx hb d_V_cell_0 rfl (lv_at hl 0 rfl) ?_
  refine lv_iload_n hx hb d_V_cell_1 rfl (lv_at hl 1 rfl) ?_
  refine lv_iload_n hx hb d_V_cell_2 rfl (lv_at hl 2 rfl) ?_
  refine xkV (wr := []) (As := [.int (nI r), .int w]) (rest := []) hx hb hml hown hE hK (hN _ _ hS) (v_checkCell_xd l htr D dA H.size h ad x la g AT T rr r w hk9 hz9 ht hr1 hr2 hw1) (q0 := 0) rfl rfl w309 w308 w310 w311 w277 rfl rfl ⟨⟨by decide, by decide⟩, rfl⟩ ⟨(Nat.le_of_ble_eq_true rfl), (Nat.le_of_ble_eq_true rfl)⟩ rfl hl.1 rfl (Nat.le_of_ble_eq_true rfl) d_V_cell_3 ⟨(show 0 + 1 ≤ 1 by omega), (show 0 + 6 ≤ 6 by omega)⟩ hP hD hS hA (fun u2 xa1 ce H locs hp9 hP hD hS hce hcv hcl => ?_)
  have hP : va_P D vwCl (VW dA h ad x) H := hP
  have hD : va_D A (VW dA h ad x) := hD
  exact xOut hno hlk hce hcv hcl (fun t ht => xkE () trivial hP hD hS t (by rw [ht]; exact Nat.le_refl _) (fun q _ => by rw [ht])) hS.2.2 (show 0 + 1 ≤ 1 by omega) (show 0 + 6 ≤ 6 by omega)
set_option maxHeartbeats 4000000 in
set_option maxRecDepth 100000 in
theorem v_isThere_xe (l : Launch) (htr : l.stackTraces = false) (D : va_G) (dA : Nat → ClassId) (sz : Nat) (h : Nat) (ad : Nat → Nat) (x : VS) (la : Nat → Nat) (g : LI) (AT : Nat → Nat → Nat) (T : Nat → TB) (rr : va_W) (r : Nat) (w : Nat) (hk9 : skP dA ad rr x la g AT T) (hz9 : 0 < g.sz) (ht : x.hasTable = true) (hr1 : r < (T 0).rc) (hr2 : (T 0).rc ≤ 256) (hw1 : (T 0).wi ≤ w) (hw2 : (T 0).wi ≤ 64) (hw3 : w < 2 ^ 31) : mX l ⟨"SeriesVault", "isThere", "(II)Z"⟩ [Cond.code ⟨"SeriesVault", "isThere", "(II)Z"⟩ prog_1_method_48_code 3 (some FieldType.boolean)] { frames := 7, cells := 1, slots := 6, locals := 127 } (pC D dA [.ref h, .int (nI r), .int (nI w)] (VW dA h ad x) sz) "java/lang/IndexOutOfBoundsException" (fun st9 t9 => va_F (va_A (VW dA h ad x) sz) st9 t9 ∧ ∃ u9 : Unit, (True) ∧ bW D (va_A (VW dA h ad x) sz) (VW dA h ad x) t9) 1 6 (va_A (VW dA h ad x) sz) := by
  refine mkX (y := ⟨"SeriesVault", "isThere", "(II)Z"⟩) (cc := prog_1_method_48_code) (maxL := 3) (av := [.ref h, .int (nI r), .int (nI w)]) (ws := VW dA h ad x) (sz := sz) (B := fun A => (fun st9 t9 => va_F A st9 t9 ∧ ∃ u9 : Unit, (True) ∧ bW D A (VW dA h ad x) t9)) (by decide) (Nat.le_of_ble_eq_true rfl) ?_
  intro A p e s m below meth c ls hsz hno hB
  obtain ⟨hx, hb, hr, hml, hown, hin, hlk, hE, hK, hP, hD, hS, hA, hN, hl⟩ := hB
  have hown : s.vm.findClass "SeriesVault" = some m.cls := hown
  have hl : lv_has ls 3 [(0, .ref h), (1, .int (nI r)), (2, .int (nI w))] := hl
  obtain ⟨H, hH⟩ : ∃ z, z = s.heap := ⟨_, rfl⟩
  have hP : va_P D vwCl (VW dA h ad x) H := by rw [hH]; exact hP
  have hS : va_S A s.heap H [] := by rw [hH]; exact hS
  rw [← hH]
  refine lv_aload_n hx hb d_V_isThere_0 rfl (lv_at hl 0 rfl) ?_
  refine lv_iload_n hx hb d_V_isThere_1 rfl (lv_at hl 1 rfl) ?_
  refine lv_iload_n hx hb d_V_isThere_2 rfl (lv_at hl 2 rfl) ?_
  refine xkV (wr := []) (As := [.int (nI r), .int (nI w)]) (rest := []) hx hb hml hown hE hK (hN _ _ hS) (v_checkCell_xe l htr D dA H.size h ad x la g AT T rr r w hk9 hz9 ht hr1 hr2 hw1 hw2 hw3) (q0 := 0) rfl rfl w309 w308 w310 w311 w277 rfl rfl ⟨⟨by decide, by decide⟩, rfl⟩ ⟨(Nat.le_of_ble_eq_true rfl), (Nat.le_of_ble_eq_true rfl)⟩ rfl hl.1 rfl (Nat.le_of_ble_eq_true rfl) d_V_isThere_3 ⟨(show 0 + 1 ≤ 1 by omega), (show 0 + 6 ≤ 6 by omega)⟩ hP hD hS hA (fun u2 xa1 ce H locs hp9 hP hD hS hce hcv hcl => ?_)
  have hP : va_P D vwCl (VW dA h ad x) H := hP
  have hD : va_D A (VW dA h ad x) := hD
  exact xOut hno hlk hce hcv hcl (fun t ht => xkE () trivial hP hD hS t (by rw [ht]; exact Nat.le_refl _) (fun q _ => by rw [ht])) hS.2.2 (show 0 + 1 ≤ 1 by omega) (show 0 + 6 ≤ 6 by omega)
set_option maxHeartbeats 4000000 in
set_option maxRecDepth 100000 in
theorem v_cell_xe (l : Launch) (htr : l.stackTraces = false) (D : va_G) (dA : Nat → ClassId) (sz : Nat) (h : Nat) (ad : Nat → Nat) (x : VS) (la : Nat → Nat) (g : LI) (AT : Nat → Nat → Nat) (T : Nat → TB) (rr : va_W) (r : Nat) (w : Nat) (hk9 : skP dA ad rr x la g AT T) (hz9 : 0 < g.sz) (ht : x.hasTable = true) (hr1 : r < (T 0).rc) (hr2 : (T 0).rc ≤ 256) (hw1 : (T 0).wi ≤ w) (hw2 : (T 0).wi ≤ 64) (hw3 : w < 2 ^ 31) : mX l ⟨"SeriesVault", "cell", "(II)J"⟩ [Cond.code ⟨"SeriesVault", "cell", "(II)J"⟩ prog_1_method_49_code 4 (some FieldType.long)] { frames := 7, cells := 1, slots := 6, locals := 127 } (pC D dA [.ref h, .int (nI r), .int (nI w)] (VW dA h ad x) sz) "java/lang/IndexOutOfBoundsException" (fun st9 t9 => va_F (va_A (VW dA h ad x) sz) st9 t9 ∧ ∃ u9 : Unit, (True) ∧ bW D (va_A (VW dA h ad x) sz) (VW dA h ad x) t9) 1 6 (va_A (VW dA h ad x) sz) := by
  refine mkX (y := ⟨"SeriesVault", "cell", "(II)J"⟩) (cc := prog_1_method_49_code) (maxL := 4) (av := [.ref h, .int (nI r), .int (nI w)]) (ws := VW dA h ad x) (sz := sz) (B := fun A => (fun st9 t9 => va_F A st9 t9 ∧ ∃ u9 : Unit, (True) ∧ bW D A (VW dA h ad x) t9)) (by decide) (Nat.le_of_ble_eq_true rfl) ?_
  intro A p e s m below meth c ls hsz hno hB
  obtain ⟨hx, hb, hr, hml, hown, hin, hlk, hE, hK, hP, hD, hS, hA, hN, hl⟩ := hB
  have hown : s.vm.findClass "SeriesVault" = some m.cls := hown
  have hl : lv_has ls 4 [(0, .ref h), (1, .int (nI r)), (2, .int (nI w))] := hl
  obtain ⟨H, hH⟩ : ∃ z, z = s.heap := ⟨_, rfl⟩
  have hP : va_P D vwCl (VW dA h ad x) H := by rw [hH]; exact hP
  have hS : va_S A s.heap H [] := by rw [hH]; exact hS
  rw [← hH]
  refine lv_aload_n hx hb d_V_cell_0 rfl (lv_at hl 0 rfl) ?_
  refine lv_iload_n hx hb d_V_cell_1 rfl (lv_at hl 1 rfl) ?_
  refine lv_iload_n hx hb d_V_cell_2 rfl (lv_at hl 2 rfl) ?_
  refine xkV (wr := []) (As := [.int (nI r), .int (nI w)]) (rest := []) hx hb hml hown hE hK (hN _ _ hS) (v_checkCell_xe l htr D dA H.size h ad x la g AT T rr r w hk9 hz9 ht hr1 hr2 hw1 hw2 hw3) (q0 := 0) rfl rfl w309 w308 w310 w311 w277 rfl rfl ⟨⟨by decide, by decide⟩, rfl⟩ ⟨(Nat.le_of_ble_eq_true rfl), (Nat.le_of_ble_eq_true rfl)⟩ rfl hl.1 rfl (Nat.le_of_ble_eq_true rfl) d_V_cell_3 ⟨(show 0 + 1 ≤ 1 by omega), (show 0 + 6 ≤ 6 by omega)⟩ hP hD hS hA (fun u2 xa1 ce H locs hp9 hP hD hS hce hcv hcl => ?_)
  have hP : va_P D vwCl (VW dA h ad x) H := hP
  have hD : va_D A (VW dA h ad x) := hD
  exact xOut hno hlk hce hcv hcl (fun t ht => xkE () trivial hP hD hS t (by rw [ht]; exact Nat.le_refl _) (fun q _ => by rw [ht])) hS.2.2 (show 0 + 1 ≤ 1 by omega) (show 0 + 6 ≤ 6 by omega)
end
section
set_option maxHeartbeats 4000000 in
set_option maxRecDepth 100000 in
theorem v_ask_2a (l : Launch) (htr : l.stackTraces = false) (D : va_G) (dA : Nat → ClassId) (sz : Nat) (h : Nat) (ad : Nat → Nat) (x : VS) (a : Int64) (b : Int64) (n : Int32) (ho : x.powered = true) (t1 : isTm a = false) : mX l ⟨"SeriesVault", "ask", "(JJI)I"⟩ [Cond.code ⟨"SeriesVault", "ask", "(JJI)I"⟩ prog_1_method_45_code 8 (some FieldType.int)] { frames := 6, cells := 1, slots := 6, locals := 81 } (pC D dA [.ref h, .long a, .long b, .int n] (VW dA h ad x) sz) "java/lang/IllegalArgumentException" (fun st9 t9 => va_F (va_A (VW dA h ad x) sz) st9 t9 ∧ bW D (va_A (VW dA h ad x) sz) (VW dA h ad x) t9) 1 6 (va_A (VW dA h ad x) sz) := by
  refine mkX (y := ⟨"SeriesVault", "ask", "(JJI)I"⟩) (cc := prog_1_method_45_code) (maxL := 8) (av := [.ref h, .long a, .long b, .int n]) (ws := VW dA h ad x) (sz := sz) (B := fun A => (fun st9 t9 => va_F A st9 t9 ∧ bW D A (VW dA h ad x) t9)) (by decide) (Nat.le_of_ble_eq_true rfl) ?_
  intro A p e s m below meth c ls hsz hno hB
  obtain ⟨hx, hb, hr, hml, hown, hin, hlk, hE, hK, hP, hD, hS, hA, hN, hl⟩ := hB
  have hown : s.vm.findClass "SeriesVault" = some m.cls := hown
  have hl : lv_has ls 8 [(0, .ref h), (1, .long a), (3, .long b), (5, .int n)] := hl
  obtain ⟨H, hH⟩ : ∃ z, z = s.heap := ⟨_, rfl⟩
  have hP : va_P D vwCl (VW dA h ad x) H := by rw [hH]; exact hP
  have hS : va_S A s.heap H [] := by rw [hH]; exact hS
  rw [← hH]
  refine lv_aload_n hx hb d_V_ask_0 rfl (lv_at hl 0 rfl) ?_
  refine jfV (rnV (As := []) (rest := []) hx hb hml hown hE hK (hN _ _ hS) hP hD (v_checkPower l D dA H.size h ad x ho) (q0 := 0) rfl rfl w278 w276 w279 w280 w277 rfl rfl ⟨⟨by decide, by decide⟩, rfl⟩ ⟨(Nat.le_of_ble_eq_true rfl), (Nat.le_of_ble_eq_true rfl)⟩ rfl hl.1 rfl (Nat.le_of_ble_eq_true rfl) d_V_ask_1 ⟨(Nat.le_of_ble_eq_true rfl), (Nat.le_of_ble_eq_true rfl)⟩) hP hD hS hA (fun u2 H locs hp9 hP hD hS => ?_)
  have hP : va_P D vwCl (VW dA h ad x) H := hP
  have hD : va_D A (VW dA h ad x) := hD
  refine lv_lload_n hx hb d_V_ask_4 rfl (lv_at hl 1 rfl) ?_
  have hPc := hP.sub (ws' := []) [] rfl
  have hDc := hD.sub (ws' := []) [] (by decide) rfl
  refine jpI (rnS (As := [.long a]) (rest := []) hx hb hml hown hE hK (hN _ _ hS) hPc hDc (v_isTime l D dA H.size a) w693 w692 w694 w277 rfl rfl ⟨⟨by decide, by decide⟩, rfl⟩ ⟨(Nat.le_of_ble_eq_true rfl), (Nat.le_of_ble_eq_true rfl)⟩ rfl hl.1 rfl (Nat.le_of_ble_eq_true rfl) d_V_ask_5 ⟨(Nat.le_of_ble_eq_true rfl), (Nat.le_of_ble_eq_true rfl)⟩) hP hD hS hA (fun r3 u9 H locs hp9 hP hD hS => ?_)
  have hP : va_P D vwCl (VW dA h ad x) H := hP
  have hD : va_D A (VW dA h ad x) := hD
  replace hp9 : bI (isTm a) = r3 := Eq.symm hp9
  subst hp9
  refine lv_if_eq hx hb d_V_ask_8 (tgt := 38) rfl (fun _ => ?_) (fun h9 => absurd (by rw [t1]; rfl) h9)
  exact xNew (E := "java/lang/IllegalArgumentException") (names := ["java/lang/RuntimeException", "java/lang/Exception"]) hx hb htr hown (by decide) (by decide) hE w273 w274 (fun U hU => at_V_IAE hU) (hN _ _ hS) (hl.1.trans hml.symm) d_V_ask_38 d_V_ask_41 d_V_ask_42 d_V_ask_45 hno (by decide) (Nat.le_of_ble_eq_true rfl) (Nat.le_of_ble_eq_true rfl) (Nat.le_of_ble_eq_true rfl) hlk (fun t h1 h2 => xEndV hP hD hS t h1 h2) hS.2.2 (Nat.le_of_ble_eq_true rfl) (Nat.le_of_ble_eq_true rfl)
set_option maxHeartbeats 4000000 in
set_option maxRecDepth 100000 in
theorem v_ask_2b (l : Launch) (htr : l.stackTraces = false) (D : va_G) (dA : Nat → ClassId) (sz : Nat) (h : Nat) (ad : Nat → Nat) (x : VS) (a : Int64) (b : Int64) (n : Int32) (ho : x.powered = true) (t1 : isTm a = true) (t0 : b < 1) : mX l ⟨"SeriesVault", "ask", "(JJI)I"⟩ [Cond.code ⟨"SeriesVault", "ask", "(JJI)I"⟩ prog_1_method_45_code 8 (some FieldType.int)] { frames := 6, cells := 1, slots := 6, locals := 81 } (pC D dA [.ref h, .long a, .long b, .int n] (VW dA h ad x) sz) "java/lang/IllegalArgumentException" (fun st9 t9 => va_F (va_A (VW dA h ad x) sz) st9 t9 ∧ bW D (va_A (VW dA h ad x) sz) (VW dA h ad x) t9) 1 6 (va_A (VW dA h ad x) sz) := by
  refine mkX (y := ⟨"SeriesVault", "ask", "(JJI)I"⟩) (cc := prog_1_method_45_code) (maxL := 8) (av := [.ref h, .long a, .long b, .int n]) (ws := VW dA h ad x) (sz := sz) (B := fun A => (fun st9 t9 => va_F A st9 t9 ∧ bW D A (VW dA h ad x) t9)) (by decide) (Nat.le_of_ble_eq_true rfl) ?_
  intro A p e s m below meth c ls hsz hno hB
  obtain ⟨hx, hb, hr, hml, hown, hin, hlk, hE, hK, hP, hD, hS, hA, hN, hl⟩ := hB
  have hown : s.vm.findClass "SeriesVault" = some m.cls := hown
  have hl : lv_has ls 8 [(0, .ref h), (1, .long a), (3, .long b), (5, .int n)] := hl
  obtain ⟨H, hH⟩ : ∃ z, z = s.heap := ⟨_, rfl⟩
  have hP : va_P D vwCl (VW dA h ad x) H := by rw [hH]; exact hP
  have hS : va_S A s.heap H [] := by rw [hH]; exact hS
  rw [← hH]
  refine lv_aload_n hx hb d_V_ask_0 rfl (lv_at hl 0 rfl) ?_
  refine jfV (rnV (As := []) (rest := []) hx hb hml hown hE hK (hN _ _ hS) hP hD (v_checkPower l D dA H.size h ad x ho) (q0 := 0) rfl rfl w278 w276 w279 w280 w277 rfl rfl ⟨⟨by decide, by decide⟩, rfl⟩ ⟨(Nat.le_of_ble_eq_true rfl), (Nat.le_of_ble_eq_true rfl)⟩ rfl hl.1 rfl (Nat.le_of_ble_eq_true rfl) d_V_ask_1 ⟨(Nat.le_of_ble_eq_true rfl), (Nat.le_of_ble_eq_true rfl)⟩) hP hD hS hA (fun u2 H locs hp9 hP hD hS => ?_)
  have hP : va_P D vwCl (VW dA h ad x) H := hP
  have hD : va_D A (VW dA h ad x) := hD
  refine lv_lload_n hx hb d_V_ask_4 rfl (lv_at hl 1 rfl) ?_
  have hPc := hP.sub (ws' := []) [] rfl
  have hDc := hD.sub (ws' := []) [] (by decide) rfl
  refine jpI (rnS (As := [.long a]) (rest := []) hx hb hml hown hE hK (hN _ _ hS) hPc hDc (v_isTime l D dA H.size a) w693 w692 w694 w277 rfl rfl ⟨⟨by decide, by decide⟩, rfl⟩ ⟨(Nat.le_of_ble_eq_true rfl), (Nat.le_of_ble_eq_true rfl)⟩ rfl hl.1 rfl (Nat.le_of_ble_eq_true rfl) d_V_ask_5 ⟨(Nat.le_of_ble_eq_true rfl), (Nat.le_of_ble_eq_true rfl)⟩) hP hD hS hA (fun r3 u9 H locs hp9 hP hD hS => ?_)
  have hP : va_P D vwCl (VW dA h ad x) H := hP
  have hD : va_D A (VW dA h ad x) := hD
  replace hp9 : bI (isTm a) = r3 := Eq.symm hp9
  subst hp9
  refine lv_if_eq hx hb d_V_ask_8 (tgt := 38) rfl (fun h9 => absurd h9 (by rw [t1]; decide)) (fun _ => ?_)
  refine lv_lload_n hx hb d_V_ask_11 rfl (lv_at hl 2 rfl) ?_
  refine lv_lconst (v := 1) hx hb d_V_ask_12 (by decide) ?_
  refine W.lcmp hx hb d_V_ask_13 ?_
  refine lv_if_lt hx hb d_V_ask_14 (tgt := 38) rfl (fun _ => ?_) (fun h9 => absurd ((lg_cmp_lt _ _).mpr t0) h9)
  exact xNew (E := "java/lang/IllegalArgumentException") (names := ["java/lang/RuntimeException", "java/lang/Exception"]) hx hb htr hown (by decide) (by decide) hE w273 w274 (fun U hU => at_V_IAE hU) (hN _ _ hS) (hl.1.trans hml.symm) d_V_ask_38 d_V_ask_41 d_V_ask_42 d_V_ask_45 hno (by decide) (Nat.le_of_ble_eq_true rfl) (Nat.le_of_ble_eq_true rfl) (Nat.le_of_ble_eq_true rfl) hlk (fun t h1 h2 => xEndV hP hD hS t h1 h2) hS.2.2 (Nat.le_of_ble_eq_true rfl) (Nat.le_of_ble_eq_true rfl)
set_option maxHeartbeats 4000000 in
set_option maxRecDepth 100000 in
theorem v_ask_2c (l : Launch) (htr : l.stackTraces = false) (D : va_G) (dA : Nat → ClassId) (sz : Nat) (h : Nat) (ad : Nat → Nat) (x : VS) (a : Int64) (b : Int64) (n : Int32) (ho : x.powered = true) (t1 : isTm a = true) (t2 : 1 ≤ b) (t0 : 1099511627775 < b) : mX l ⟨"SeriesVault", "ask", "(JJI)I"⟩ [Cond.code ⟨"SeriesVault", "ask", "(JJI)I"⟩ prog_1_method_45_code 8 (some FieldType.int)] { frames := 6, cells := 1, slots := 6, locals := 81 } (pC D dA [.ref h, .long a, .long b, .int n] (VW dA h ad x) sz) "java/lang/IllegalArgumentException" (fun st9 t9 => va_F (va_A (VW dA h ad x) sz) st9 t9 ∧ bW D (va_A (VW dA h ad x) sz) (VW dA h ad x) t9) 1 6 (va_A (VW dA h ad x) sz) := by
  refine mkX (y := ⟨"SeriesVault", "ask", "(JJI)I"⟩) (cc := prog_1_method_45_code) (maxL := 8) (av := [.ref h, .long a, .long b, .int n]) (ws := VW dA h ad x) (sz := sz) (B := fun A => (fun st9 t9 => va_F A st9 t9 ∧ bW D A (VW dA h ad x) t9)) (by decide) (Nat.le_of_ble_eq_true rfl) ?_
  intro A p e s m below meth c ls hsz hno hB
  obtain ⟨hx, hb, hr, hml, hown, hin, hlk, hE, hK, hP, hD, hS, hA, hN, hl⟩ := hB
  have hown : s.vm.findClass "SeriesVault" = some m.cls := hown
  have hl : lv_has ls 8 [(0, .ref h), (1, .long a), (3, .long b), (5, .int n)] := hl
  obtain ⟨H, hH⟩ : ∃ z, z = s.heap := ⟨_, rfl⟩
  have hP : va_P D vwCl (VW dA h ad x) H := by rw [hH]; exact hP
  have hS : va_S A s.heap H [] := by rw [hH]; exact hS
  rw [← hH]
  refine lv_aload_n hx hb d_V_ask_0 rfl (lv_at hl 0 rfl) ?_
  refine jfV (rnV (As := []) (rest := []) hx hb hml hown hE hK (hN _ _ hS) hP hD (v_checkPower l D dA H.size h ad x ho) (q0 := 0) rfl rfl w278 w276 w279 w280 w277 rfl rfl ⟨⟨by decide, by decide⟩, rfl⟩ ⟨(Nat.le_of_ble_eq_true rfl), (Nat.le_of_ble_eq_true rfl)⟩ rfl hl.1 rfl (Nat.le_of_ble_eq_true rfl) d_V_ask_1 ⟨(Nat.le_of_ble_eq_true rfl), (Nat.le_of_ble_eq_true rfl)⟩) hP hD hS hA (fun u2 H locs hp9 hP hD hS => ?_)
  have hP : va_P D vwCl (VW dA h ad x) H := hP
  have hD : va_D A (VW dA h ad x) := hD
  refine lv_lload_n hx hb d_V_ask_4 rfl (lv_at hl 1 rfl) ?_
  have hPc := hP.sub (ws' := []) [] rfl
  have hDc := hD.sub (ws' := []) [] (by decide) rfl
  refine jpI (rnS (As := [.long a]) (rest := []) hx hb hml hown hE hK (hN _ _ hS) hPc hDc (v_isTime l D dA H.size a) w693 w692 w694 w277 rfl rfl ⟨⟨by decide, by decide⟩, rfl⟩ ⟨(Nat.le_of_ble_eq_true rfl), (Nat.le_of_ble_eq_true rfl)⟩ rfl hl.1 rfl (Nat.le_of_ble_eq_true rfl) d_V_ask_5 ⟨(Nat.le_of_ble_eq_true rfl), (Nat.le_of_ble_eq_true rfl)⟩) hP hD hS hA (fun r3 u9 H locs hp9 hP hD hS => ?_)
  have hP : va_P D vwCl (VW dA h ad x) H := hP
  have hD : va_D A (VW dA h ad x) := hD
  replace hp9 : bI (isTm a) = r3 := Eq.symm hp9
  subst hp9
  refine lv_if_eq hx hb d_V_ask_8 (tgt := 38) rfl (fun h9 => absurd h9 (by rw [t1]; decide)) (fun _ => ?_)
  refine lv_lload_n hx hb d_V_ask_11 rfl (lv_at hl 2 rfl) ?_
  refine lv_lconst (v := 1) hx hb d_V_ask_12 (by decide) ?_
  refine W.lcmp hx hb d_V_ask_13 ?_
  refine lv_if_lt hx hb d_V_ask_14 (tgt := 38) rfl (fun h9 => absurd h9 (mt (lg_cmp_lt _ _).mp (Int64.not_lt.mpr t2))) (fun _ => ?_)
  refine lv_lload_n hx hb d_V_ask_17 rfl (lv_at hl 2 rfl) ?_
  refine lv_ldc2 (v := 1099511627775) hx hb hown (hE.t w653 rfl) d_V_ask_18 ?_
  refine W.lcmp hx hb d_V_ask_21 ?_
  refine lv_if_gt hx hb d_V_ask_22 (tgt := 38) rfl (fun _ => ?_) (fun h9 => absurd ((lg_cmp_gt _ _).mpr t0) h9)
  exact xNew (E := "java/lang/IllegalArgumentException") (names := ["java/lang/RuntimeException", "java/lang/Exception"]) hx hb htr hown (by decide) (by decide) hE w273 w274 (fun U hU => at_V_IAE hU) (hN _ _ hS) (hl.1.trans hml.symm) d_V_ask_38 d_V_ask_41 d_V_ask_42 d_V_ask_45 hno (by decide) (Nat.le_of_ble_eq_true rfl) (Nat.le_of_ble_eq_true rfl) (Nat.le_of_ble_eq_true rfl) hlk (fun t h1 h2 => xEndV hP hD hS t h1 h2) hS.2.2 (Nat.le_of_ble_eq_true rfl) (Nat.le_of_ble_eq_true rfl)
set_option maxHeartbeats 4000000 in
set_option maxRecDepth 100000 in
theorem v_ask_2d (l : Launch) (htr : l.stackTraces = false) (D : va_G) (dA : Nat → ClassId) (sz : Nat) (h : Nat) (ad : Nat → Nat) (x : VS) (a : Int64) (b : Int64) (n : Int32) (ho : x.powered = true) (t1 : isTm a = true) (t2 : 1 ≤ b) (t3 : b ≤ 1099511627775) (t0 : n < 1) : mX l ⟨"SeriesVault", "ask", "(JJI)I"⟩ [Cond.code ⟨"SeriesVault", "ask", "(JJI)I"⟩ prog_1_method_45_code 8 (some FieldType.int)] { frames := 6, cells := 1, slots := 6, locals := 81 } (pC D dA [.ref h, .long a, .long b, .int n] (VW dA h ad x) sz) "java/lang/IllegalArgumentException" (fun st9 t9 => va_F (va_A (VW dA h ad x) sz) st9 t9 ∧ bW D (va_A (VW dA h ad x) sz) (VW dA h ad x) t9) 1 6 (va_A (VW dA h ad x) sz) := by
  refine mkX (y := ⟨"SeriesVault", "ask", "(JJI)I"⟩) (cc := prog_1_method_45_code) (maxL := 8) (av := [.ref h, .long a, .long b, .int n]) (ws := VW dA h ad x) (sz := sz) (B := fun A => (fun st9 t9 => va_F A st9 t9 ∧ bW D A (VW dA h ad x) t9)) (by decide) (Nat.le_of_ble_eq_true rfl) ?_
  intro A p e s m below meth c ls hsz hno hB
  obtain ⟨hx, hb, hr, hml, hown, hin, hlk, hE, hK, hP, hD, hS, hA, hN, hl⟩ := hB
  have hown : s.vm.findClass "SeriesVault" = some m.cls := hown
  have hl : lv_has ls 8 [(0, .ref h), (1, .long a), (3, .long b), (5, .int n)] := hl
  obtain ⟨H, hH⟩ : ∃ z, z = s.heap := ⟨_, rfl⟩
  have hP : va_P D vwCl (VW dA h ad x) H := by rw [hH]; exact hP
  have hS : va_S A s.heap H [] := by rw [hH]; exact hS
  rw [← hH]
  refine lv_aload_n hx hb d_V_ask_0 rfl (lv_at hl 0 rfl) ?_
  refine jfV (rnV (As := []) (rest := []) hx hb hml hown hE hK (hN _ _ hS) hP hD (v_checkPower l D dA H.size h ad x ho) (q0 := 0) rfl rfl w278 w276 w279 w280 w277 rfl rfl ⟨⟨by decide, by decide⟩, rfl⟩ ⟨(Nat.le_of_ble_eq_true rfl), (Nat.le_of_ble_eq_true rfl)⟩ rfl hl.1 rfl (Nat.le_of_ble_eq_true rfl) d_V_ask_1 ⟨(Nat.le_of_ble_eq_true rfl), (Nat.le_of_ble_eq_true rfl)⟩) hP hD hS hA (fun u2 H locs hp9 hP hD hS => ?_)
  have hP : va_P D vwCl (VW dA h ad x) H := hP
  have hD : va_D A (VW dA h ad x) := hD
  refine lv_lload_n hx hb d_V_ask_4 rfl (lv_at hl 1 rfl) ?_
  have hPc := hP.sub (ws' := []) [] rfl
  have hDc := hD.sub (ws' := []) [] (by decide) rfl
  refine jpI (rnS (As := [.long a]) (rest := []) hx hb hml hown hE hK (hN _ _ hS) hPc hDc (v_isTime l D dA H.size a) w693 w692 w694 w277 rfl rfl ⟨⟨by decide, by decide⟩, rfl⟩ ⟨(Nat.le_of_ble_eq_true rfl), (Nat.le_of_ble_eq_true rfl)⟩ rfl hl.1 rfl (Nat.le_of_ble_eq_true rfl) d_V_ask_5 ⟨(Nat.le_of_ble_eq_true rfl), (Nat.le_of_ble_eq_true rfl)⟩) hP hD hS hA (fun r3 u9 H locs hp9 hP hD hS => ?_)
  have hP : va_P D vwCl (VW dA h ad x) H := hP
  have hD : va_D A (VW dA h ad x) := hD
  replace hp9 : bI (isTm a) = r3 := Eq.symm hp9
  subst hp9
  refine lv_if_eq hx hb d_V_ask_8 (tgt := 38) rfl (fun h9 => absurd h9 (by rw [t1]; decide)) (fun _ => ?_)
  refine lv_lload_n hx hb d_V_ask_11 rfl (lv_at hl 2 rfl) ?_
  refine lv_lconst (v := 1) hx hb d_V_ask_12 (by decide) ?_
  refine W.lcmp hx hb d_V_ask_13 ?_
  refine lv_if_lt hx hb d_V_ask_14 (tgt := 38) rfl (fun h9 => absurd h9 (mt (lg_cmp_lt _ _).mp (Int64.not_lt.mpr t2))) (fun _ => ?_)
  refine lv_lload_n hx hb d_V_ask_17 rfl (lv_at hl 2 rfl) ?_
  refine lv_ldc2 (v := 1099511627775) hx hb hown (hE.t w653 rfl) d_V_ask_18 ?_
  refine W.lcmp hx hb d_V_ask_21 ?_
  refine lv_if_gt hx hb d_V_ask_22 (tgt := 38) rfl (fun h9 => absurd h9 (mt (lg_cmp_gt _ _).mp (Int64.not_lt.mpr t3))) (fun _ => ?_)
  refine lv_iload hx hb d_V_ask_25 (lv_at hl 3 rfl) ?_
  refine lv_iconst (v := 1) hx hb d_V_ask_27 (by decide) ?_
  refine lv_icmp_lt hx hb d_V_ask_28 (tgt := 38) rfl (fun _ => ?_) (fun h9 => absurd t0 h9)
  exact xNew (E := "java/lang/IllegalArgumentException") (names := ["java/lang/RuntimeException", "java/lang/Exception"]) hx hb htr hown (by decide) (by decide) hE w273 w274 (fun U hU => at_V_IAE hU) (hN _ _ hS) (hl.1.trans hml.symm) d_V_ask_38 d_V_ask_41 d_V_ask_42 d_V_ask_45 hno (by decide) (Nat.le_of_ble_eq_true rfl) (Nat.le_of_ble_eq_true rfl) (Nat.le_of_ble_eq_true rfl) hlk (fun t h1 h2 => xEndV hP hD hS t h1 h2) hS.2.2 (Nat.le_of_ble_eq_true rfl) (Nat.le_of_ble_eq_true rfl)
set_option maxHeartbeats 4000000 in
set_option maxRecDepth 100000 in
theorem v_ask_2e (l : Launch) (htr : l.stackTraces = false) (D : va_G) (dA : Nat → ClassId) (sz : Nat) (h : Nat) (ad : Nat → Nat) (x : VS) (a : Int64) (b : Int64) (n : Int32) (ho : x.powered = true) (t1 : isTm a = true) (t2 : 1 ≤ b) (t3 : b ≤ 1099511627775) (t4 : 1 ≤ n) (t0 : 64 < n) : mX l ⟨"SeriesVault", "ask", "(JJI)I"⟩ [Cond.code ⟨"SeriesVault", "ask", "(JJI)I"⟩ prog_1_method_45_code 8 (some FieldType.int)] { frames := 6, cells := 1, slots := 6, locals := 81 } (pC D dA [.ref h, .long a, .long b, .int n] (VW dA h ad x) sz) "java/lang/IllegalArgumentException" (fun st9 t9 => va_F (va_A (VW dA h ad x) sz) st9 t9 ∧ bW D (va_A (VW dA h ad x) sz) (VW dA h ad x) t9) 1 6 (va_A (VW dA h ad x) sz) := by
  refine mkX (y := ⟨"SeriesVault", "ask", "(JJI)I"⟩) (cc := prog_1_method_45_code) (maxL := 8) (av := [.ref h, .long a, .long b, .int n]) (ws := VW dA h ad x) (sz := sz) (B := fun A => (fun st9 t9 => va_F A st9 t9 ∧ bW D A (VW dA h ad x) t9)) (by decide) (Nat.le_of_ble_eq_true rfl) ?_
  intro A p e s m below meth c ls hsz hno hB
  obtain ⟨hx, hb, hr, hml, hown, hin, hlk, hE, hK, hP, hD, hS, hA, hN, hl⟩ := hB
  have hown : s.vm.findClass "SeriesVault" = some m.cls := hown
  have hl : lv_has ls 8 [(0, .ref h), (1, .long a), (3, .long b), (5, .int n)] := hl
  obtain ⟨H, hH⟩ : ∃ z, z = s.heap := ⟨_, rfl⟩
  have hP : va_P D vwCl (VW dA h ad x) H := by rw [hH]; exact hP
  have hS : va_S A s.heap H [] := by rw [hH]; exact hS
  rw [← hH]
  refine lv_aload_n hx hb d_V_ask_0 rfl (lv_at hl 0 rfl) ?_
  refine jfV (rnV (As := []) (rest := []) hx hb hml hown hE hK (hN _ _ hS) hP hD (v_checkPower l D dA H.size h ad x ho) (q0 := 0) rfl rfl w278 w276 w279 w280 w277 rfl rfl ⟨⟨by decide, by decide⟩, rfl⟩ ⟨(Nat.le_of_ble_eq_true rfl), (Nat.le_of_ble_eq_true rfl)⟩ rfl hl.1 rfl (Nat.le_of_ble_eq_true rfl) d_V_ask_1 ⟨(Nat.le_of_ble_eq_true rfl), (Nat.le_of_ble_eq_true rfl)⟩) hP hD hS hA (fun u2 H locs hp9 hP hD hS => ?_)
  have hP : va_P D vwCl (VW dA h ad x) H := hP
  have hD : va_D A (VW dA h ad x) := hD
  refine lv_lload_n hx hb d_V_ask_4 rfl (lv_at hl 1 rfl) ?_
  have hPc := hP.sub (ws' := []) [] rfl
  have hDc := hD.sub (ws' := []) [] (by decide) rfl
  refine jpI (rnS (As := [.long a]) (rest := []) hx hb hml hown hE hK (hN _ _ hS) hPc hDc (v_isTime l D dA H.size a) w693 w692 w694 w277 rfl rfl ⟨⟨by decide, by decide⟩, rfl⟩ ⟨(Nat.le_of_ble_eq_true rfl), (Nat.le_of_ble_eq_true rfl)⟩ rfl hl.1 rfl (Nat.le_of_ble_eq_true rfl) d_V_ask_5 ⟨(Nat.le_of_ble_eq_true rfl), (Nat.le_of_ble_eq_true rfl)⟩) hP hD hS hA (fun r3 u9 H locs hp9 hP hD hS => ?_)
  have hP : va_P D vwCl (VW dA h ad x) H := hP
  have hD : va_D A (VW dA h ad x) := hD
  replace hp9 : bI (isTm a) = r3 := Eq.symm hp9
  subst hp9
  refine lv_if_eq hx hb d_V_ask_8 (tgt := 38) rfl (fun h9 => absurd h9 (by rw [t1]; decide)) (fun _ => ?_)
  refine lv_lload_n hx hb d_V_ask_11 rfl (lv_at hl 2 rfl) ?_
  refine lv_lconst (v := 1) hx hb d_V_ask_12 (by decide) ?_
  refine W.lcmp hx hb d_V_ask_13 ?_
  refine lv_if_lt hx hb d_V_ask_14 (tgt := 38) rfl (fun h9 => absurd h9 (mt (lg_cmp_lt _ _).mp (Int64.not_lt.mpr t2))) (fun _ => ?_)
  refine lv_lload_n hx hb d_V_ask_17 rfl (lv_at hl 2 rfl) ?_
  refine lv_ldc2 (v := 1099511627775) hx hb hown (hE.t w653 rfl) d_V_ask_18 ?_
  refine W.lcmp hx hb d_V_ask_21 ?_
  refine lv_if_gt hx hb d_V_ask_22 (tgt := 38) rfl (fun h9 => absurd h9 (mt (lg_cmp_gt _ _).mp (Int64.not_lt.mpr t3))) (fun _ => ?_)
  refine lv_iload hx hb d_V_ask_25 (lv_at hl 3 rfl) ?_
  refine lv_iconst (v := 1) hx hb d_V_ask_27 (by decide) ?_
  refine lv_icmp_lt hx hb d_V_ask_28 (tgt := 38) rfl (fun h9 => absurd h9 (Int32.not_lt.mpr t4)) (fun _ => ?_)
  refine lv_iload hx hb d_V_ask_31 (lv_at hl 3 rfl) ?_
  refine lv_bipush (v := 64) hx hb d_V_ask_33 (by decide) ?_
  refine lv_icmp_le hx hb d_V_ask_35 (tgt := 46) rfl (fun h9 => absurd h9 (Int32.not_le.mpr t0)) (fun _ => ?_)
  exact xNew (E := "java/lang/IllegalArgumentException") (names := ["java/lang/RuntimeException", "java/lang/Exception"]) hx hb htr hown (by decide) (by decide) hE w273 w274 (fun U hU => at_V_IAE hU) (hN _ _ hS) (hl.1.trans hml.symm) d_V_ask_38 d_V_ask_41 d_V_ask_42 d_V_ask_45 hno (by decide) (Nat.le_of_ble_eq_true rfl) (Nat.le_of_ble_eq_true rfl) (Nat.le_of_ble_eq_true rfl) hlk (fun t h1 h2 => xEndV hP hD hS t h1 h2) hS.2.2 (Nat.le_of_ble_eq_true rfl) (Nat.le_of_ble_eq_true rfl)
theorem d_V_parcel_101 : decode prog_1_method_44_code 101 = .ok (.new 89, 3) := by decide +kernel
theorem d_V_parcel_104 : decode prog_1_method_44_code 104 = .ok (.dup, 1) := by decide +kernel
theorem d_V_parcel_105 : decode prog_1_method_44_code 105 = .ok (.invokespecial 91, 3) := by decide +kernel
theorem d_V_parcel_108 : decode prog_1_method_44_code 108 = .ok (.athrow, 1) := by decide +kernel
set_option maxHeartbeats 4000000 in
set_option maxRecDepth 100000 in
theorem v_parcel_z (l : Launch) (htr : l.stackTraces = false) (D : va_G) (dA : Nat → ClassId) (sz : Nat) (h : Nat) (ad : Nat → Nat) (x : VS) (PS : Nat → PT) (k : Nat) (j : Int32) (ho : x.powered = true) (hk : k < x.npc) (hps : psOk dA x.nP x.npc x.pl PS) (hpn : x.npc ≤ 32) (h0 : j < 0 ∨ 4 < j) : mX l ⟨"SeriesVault", "parcel", "(II)I"⟩ [Cond.code ⟨"SeriesVault", "parcel", "(II)I"⟩ prog_1_method_44_code 4 (some FieldType.int)] { frames := 6, cells := 1, slots := 6, locals := 81 } (pC D dA [.ref h, .int (nI k), .int j] (VW dA h ad x) sz) "java/lang/IllegalArgumentException" (fun st9 t9 => va_F (va_A (VW dA h ad x) sz) st9 t9 ∧ ∃ u9 : Unit, (True) ∧ bW D (va_A (VW dA h ad x) sz) (VW dA h ad x) t9) 1 6 (va_A (VW dA h ad x) sz) := by
  refine mkX (y := ⟨"SeriesVault", "parcel", "(II)I"⟩) (cc := prog_1_method_44_code) (maxL := 4) (av := [.ref h, .int (nI k), .int j]) (ws := VW dA h ad x) (sz := sz) (B := fun A => (fun st9 t9 => va_F A st9 t9 ∧ ∃ u9 : Unit, (True) ∧ bW D A (VW dA h ad x) t9)) (by decide) (Nat.le_of_ble_eq_true rfl) ?_
  intro A p e s m below meth c ls hsz hno hB
  obtain ⟨hx, hb, hr, hml, hown, hin, hlk, hE, hK, hP, hD, hS, hA, hN, hl⟩ := hB
  have hown : s.vm.findClass "SeriesVault" = some m.cls := hown
  have hl : lv_has ls 4 [(0, .ref h), (1, .int (nI k)), (2, .int j)] := hl
  obtain ⟨H, hH⟩ : ∃ z, z = s.heap := ⟨_, rfl⟩
  have hP : va_P D vwCl (VW dA h ad x) H := by rw [hH]; exact hP
  have hS : va_S A s.heap H [] := by rw [hH]; exact hS
  rw [← hH]
  refine lv_aload_n hx hb d_V_parcel_0 rfl (lv_at hl 0 rfl) ?_
  refine jkV (wr := []) (rnV (As := []) (rest := []) hx hb hml hown hE hK (hN _ _ hS) hP hD (v_checkPower l D dA H.size h ad x ho) (q0 := 0) rfl rfl w278 w276 w279 w280 w277 rfl rfl ⟨⟨by decide, by decide⟩, rfl⟩ ⟨(Nat.le_of_ble_eq_true rfl), (Nat.le_of_ble_eq_true rfl)⟩ rfl hl.1 rfl (Nat.le_of_ble_eq_true rfl) d_V_parcel_1 ⟨(show 0 + 0 ≤ 1 by omega), (show 0 + 0 ≤ 6 by omega)⟩) hP hD hS hA (fun u2 H locs hp9 hP hD hS => ?_)
  have hP : va_P D vwCl (VW dA h ad x) H := hP
  have hD : va_D A (VW dA h ad x) := hD
  refine lv_iload_n hx hb d_V_parcel_4 rfl (lv_at hl 1 rfl) ?_
  refine lv_if_lt hx hb d_V_parcel_5 (tgt := 19) rfl (fun h9 => absurd h9 (nI_pos (n := k) (by omega))) (fun _ => ?_)
  refine lv_iload_n hx hb d_V_parcel_8 rfl (lv_at hl 1 rfl) ?_
  refine lv_aload_n hx hb d_V_parcel_9 rfl (lv_at hl 0 rfl) ?_
  refine gF (v := .ref (ad 3)) hx hb hown hE hK hP 0 rfl rfl layV 11 (by decide) w297 rfl d_V_parcel_10 ?_
  refine gFN (v := .int (nI x.npc)) hx hb hown hE hK hP 17 rfl rfl layH 1 (by decide) w303 rfl d_V_parcel_13 ?_
  refine lv_icmp_lt hx hb d_V_parcel_16 (tgt := 27) rfl (fun _ => ?_) (fun h9 => absurd ((nI_ltI (a := k) (b := x.npc) (by omega) (by omega)).mpr hk) h9)
  obtain ⟨pp, ke, hpp, hpk⟩ := hps k (by omega)
  have hpp0 := hpp
  obtain ⟨po, pt, pv, m1, m2, m3, m4⟩ := hpp
  have pk1 := hpk.1
  refine lv_aload_n hx hb d_V_parcel_27 rfl (lv_at hl 0 rfl) ?_
  refine gF (v := .ref (ad 3)) hx hb hown hE hK hP 0 rfl rfl layV 11 (by decide) w297 rfl d_V_parcel_28 ?_
  refine gFN (v := .ref (ad 4)) hx hb hown hE hK hP 17 rfl rfl layH 0 (by decide) w1347 rfl d_V_parcel_31 ?_
  refine lv_iload_n hx hb d_V_parcel_34 rfl (lv_at hl 1 rfl) ?_
  refine nqld (f := x.nP) (n := 32) hx hb hK hP (18) 4 rfl rfl (k) (by omega) (by decide) ke d_V_parcel_35 ?_
  refine lv_astore_n hx hb d_V_parcel_36 rfl hl (by decide) rfl (fun ls hl => ?_)
  have hl : lv_has ls 4 [(3, .ref pp), (0, .ref h), (1, .int (nI k)), (2, .int j)] := hl
  refine lv_iload_n hx hb d_V_parcel_37 rfl (lv_at hl 3 rfl) ?_
  refine lv_tableOut (tgt := 101) hx hb d_V_parcel_38 (tsw (k := 4) (by decide) h0) rfl ?_
  exact xNew (E := "java/lang/IllegalArgumentException") (names := ["java/lang/RuntimeException", "java/lang/Exception"]) hx hb htr hown (by decide) (by decide) hE w273 w274 (fun U hU => at_V_IAE hU) (hN _ _ hS) (hl.1.trans hml.symm) d_V_parcel_101 d_V_parcel_104 d_V_parcel_105 d_V_parcel_108 hno (by decide) (Nat.le_of_ble_eq_true rfl) (show 0 + 0 + 1 ≤ 1 by omega) (show 0 + 0 + 6 ≤ 6 by omega) hlk (fun t h1 h2 => xkE () trivial hP hD hS t h1 h2) hS.2.2 (show 0 + 0 + 1 ≤ 1 by omega) (show 0 + 0 + 6 ≤ 6 by omega)
end
section
/-! Zero bits above and below: the two ways to count them. -/
theorem shr0 {v : Int64} {j : Nat} (hj : j < 64) : v >>> ((nI j).toInt64 &&& 63) = 0 ↔ v.toBitVec.toNat < 2 ^ j := by
  have hl := v.toBitVec.isLt
  have hc := BitVec.toInt_eq_toNat_cond v.toBitVec
  have hp : (0 : Int) < ((2 ^ j : Nat) : Int) := by exact_mod_cast Nat.two_pow_pos j
  have key : v >>> ((nI j).toInt64 &&& 63) = 0 ↔ v.toBitVec.toInt / ((2 ^ j : Nat) : Int) = 0 := by
    have e0 : (v.toBitVec.sshiftRight j).toInt = v.toBitVec.toInt / ((2 ^ j : Nat) : Int) := by rw [BitVec.toInt_sshiftRight, Int.shiftRight_eq_div_pow]
    constructor
    · intro h
      have := congrArg (fun q : Int64 => q.toBitVec.toInt) h
      rw [← e0, ← shr_bv v hj]
      exact this
    · intro h
      apply Int64.toBitVec_inj.mp
      rw [shr_bv v hj]
      apply BitVec.eq_of_toInt_eq
      rw [e0, h]
      rfl
  rw [key]
  constructor
  · intro h
    have h2 := Int.emod_add_mul_ediv v.toBitVec.toInt ((2 ^ j : Nat) : Int)
    have h3 := Int.emod_nonneg v.toBitVec.toInt (Int.ne_of_gt hp)
    have h4 := Int.emod_lt_of_pos v.toBitVec.toInt hp
    rw [h, Int.mul_zero, Int.add_zero] at h2
    have q1 : 0 ≤ v.toBitVec.toInt := by omega
    have q3 : (v.toBitVec.toNat : Int) = v.toBitVec.toInt := by
      rw [hc] at q1 ⊢
      split
      · rfl
      · rename_i g
        rw [if_neg g] at q1
        omega
    have : (v.toBitVec.toNat : Int) < ((2 ^ j : Nat) : Int) := by rw [q3]; omega
    exact_mod_cast this
  · intro h
    have h63 : 2 ^ j ≤ 2 ^ 63 := Nat.pow_le_pow_right (by decide) (by omega)
    have e : v.toBitVec.toInt = (v.toBitVec.toNat : Int) := by
      rw [hc, if_pos (by omega)]
    rw [e]
    exact Int.ediv_eq_zero_of_lt (by omega) (by exact_mod_cast h)
theorem shl0 {v : Int64} {j : Nat} (hj : j < 64) : v <<< ((nI j).toInt64 &&& 63) = 0 ↔ 2 ^ (64 - j) ∣ v.toBitVec.toNat := by
  have key : v <<< ((nI j).toInt64 &&& 63) = 0 ↔ v.toBitVec.toNat * 2 ^ j % 2 ^ 64 = 0 := by
    have e0 : (v.toBitVec <<< j).toNat = v.toBitVec.toNat * 2 ^ j % 2 ^ 64 := by rw [BitVec.toNat_shiftLeft, Nat.shiftLeft_eq]
    constructor
    · intro h
      have := congrArg (fun q : Int64 => q.toBitVec.toNat) h
      rw [← e0, ← shl_bv v hj]
      exact this
    · intro h
      apply Int64.toBitVec_inj.mp
      rw [shl_bv v hj]
      apply BitVec.eq_of_toNat_eq
      rw [e0, h]
      rfl
  rw [key]
  have e : (2 : Nat) ^ 64 = 2 ^ (64 - j) * 2 ^ j := by rw [← Nat.pow_add]; congr 1; omega
  constructor
  · intro h
    have := Nat.dvd_of_mod_eq_zero h
    rw [e] at this
    exact Nat.dvd_of_mul_dvd_mul_right (Nat.two_pow_pos j) this
  · intro h
    apply Nat.mod_eq_zero_of_dvd
    rw [e]
    exact Nat.mul_dvd_mul_right h _
theorem hiG_c {v : Int64} (hv : v.toBitVec.toNat ≠ 0) : ∀ (w k : Nat), w + k ≤ 63 → k ≤ clzN v.toBitVec.toNat → hiG v w k = min (k + w) (clzN v.toBitVec.toNat)
  | 0, k, _, h => by show k = _; omega
  | w + 1, k, h1, h => by
    have hl := v.toBitVec.isLt
    have ec : clzN v.toBitVec.toNat = 63 - v.toBitVec.toNat.log2 := if_neg hv
    have hg : v.toBitVec.toNat.log2 < 64 := (Nat.log2_lt hv).mpr hl
    by_cases g : k < clzN v.toBitVec.toNat
    · have hz : v >>> ((nI (63 - k)).toInt64 &&& 63) = 0 := (shr0 (by omega)).mpr ((Nat.log2_lt hv).mp (by omega))
      rw [hiG_s (Nat.succ_pos w) hz]
      show hiG v w (k + 1) = _
      rw [hiG_c hv w (k + 1) (by omega) (by omega)]
      omega
    · have hz : ¬ v >>> ((nI (63 - k)).toInt64 &&& 63) = 0 := fun z => by
        have := (Nat.log2_lt hv).mpr ((shr0 (by omega)).mp z)
        omega
      rw [hiG_n hz]
      omega
theorem loG_c {v : Int64} {t q : Nat} (hq : v.toBitVec.toNat = 2 ^ t * (2 * q + 1)) : ∀ (w k : Nat), w + k ≤ 64 → k ≤ t → loG v w k = min (k + w) t
  | 0, k, _, h => by show k = _; omega
  | w + 1, k, h1, h => by
    have hd : ∀ m : Nat, m ≤ t → 2 ^ m ∣ v.toBitVec.toNat := fun m hm => by rw [hq]; exact Nat.dvd_mul_right_of_dvd (Nat.pow_dvd_pow 2 hm) _
    by_cases g : k < t
    · have hz : v <<< ((nI (63 - k)).toInt64 &&& 63) = 0 := (shl0 (by omega)).mpr (hd _ (by omega))
      rw [loG_s (Nat.succ_pos w) hz]
      show loG v w (k + 1) = _
      rw [loG_c hq w (k + 1) (by omega) (by omega)]
      omega
    · have e : k = t := by omega
      subst e
      have hz : ¬ v <<< ((nI (63 - k)).toInt64 &&& 63) = 0 := fun z => by
        have z2 := (shl0 (show 63 - k < 64 by omega)).mp z
        rw [hq, show 64 - (63 - k) = k + 1 by omega, Nat.pow_succ] at z2
        have := Nat.dvd_of_mul_dvd_mul_left (Nat.two_pow_pos k) z2
        omega
      rw [loG_n hz]
      omega
theorem hi_ab {v : Int64} (h : ¬ v = 0) : hiN v = abL v := by
  have hv : v.toBitVec.toNat ≠ 0 := fun z => h (Int64.toBitVec_inj.mp (BitVec.eq_of_toNat_eq (by rw [z]; rfl)))
  show hiG v 31 0 = min 31 (clzN v.toBitVec.toNat)
  rw [hiG_c hv 31 0 (by decide) (Nat.zero_le _), Nat.zero_add]
theorem lo_ct {v : Int64} (h : ¬ v = 0) : loN v = ctzL v := by
  have hv : v.toBitVec.toNat ≠ 0 := fun z => h (Int64.toBitVec_inj.mp (BitVec.eq_of_toNat_eq (by rw [z]; rfl)))
  have hl := v.toBitVec.isLt
  obtain ⟨a, q, hq⟩ := ctG_p 64 v.toBitVec.toNat (by omega) hl
  show loG v 64 0 = ctzN v.toBitVec.toNat
  rw [loG_c hq 64 0 (by decide) (Nat.zero_le _), show ctzN v.toBitVec.toNat = ctG 64 v.toBitVec.toNat from if_neg hv]
  omega
end
section
/-! The text of a series read: the two ways. -/
theorem wlen_25 (f : Nat → Int32) (len : Nat) : ∀ (w q : Nat), wlen f len w q = min w (wlen f len (w + 1) q)
  | 0, q => by show 0 = _; omega
  | w + 1, q => by
    have ih := wlen_25 f len w (q + 1)
    show (if len ≤ q then 0 else if isWd (f q) = true then wlen f len w (q + 1) + 1 else 0) = min (w + 1) (if len ≤ q then 0 else if isWd (f q) = true then wlen f len (w + 1) (q + 1) + 1 else 0)
    split
    · omega
    · split <;> omega
/-- the byte behind a word of w that goes on -/
theorem wlen_go {f : Nat → Int32} {len : Nat} : ∀ {w q : Nat}, wlen f len (w + 1) q = w + 1 → q + w < len ∧ isWd (f (q + w)) = true
  | 0, q, h => by
    by_cases h1 : len ≤ q
    · rw [wlen_0 h1] at h; omega
    · cases h2 : isWd (f q) with
      | false => rw [wlen_f h2] at h; omega
      | true => exact ⟨by omega, rfl⟩
  | w + 1, q, h => by
    by_cases h1 : len ≤ q
    · rw [wlen_0 h1] at h; omega
    · cases h2 : isWd (f q) with
      | false => rw [wlen_f h2] at h; omega
      | true =>
        rw [wlen_t (by omega) h1 h2] at h
        have h : wlen f len (w + 1) (q + 1) + 1 = w + 1 + 1 := h
        have ih := wlen_go (f := f) (len := len) (w := w) (q := q + 1) (by omega)
        rw [show q + 1 + w = q + (w + 1) by omega] at ih
        exact ih
theorem isWd_61 : isWd 61 = false := by decide
theorem isWd_44 : isWd 44 = false := by decide
theorem sub_z {a b : Int32} (h : a - b = 0) : a = b := by
  have := congrArg (fun z => z + b) h
  simp at this
  exact this
theorem nI_sub0 {n m : Nat} (hn : n < 2 ^ 31) (hm : m < 2 ^ 31) (h : nI n - nI m = 0) : n = m := by
  have h1 := sub_z h
  have h2 := congrArg Int32.toInt h1
  rw [nI_toInt hn, nI_toInt hm] at h2
  exact_mod_cast h2
theorem cmpG_0 {f : Nat → Int32} {a n b m : Nat} (hn : n < 2 ^ 31) (hm : m < 2 ^ 31) : ∀ {w k : Nat}, n < k + w → cmpG f a n b m w k = 0 → (k ≤ n → k ≤ m → n = m) ∧ ∀ i, k ≤ i → i < n → i < m → f (a + i) = f (b + i)
  | 0, k, hw, h => ⟨fun h1 _ => by omega, fun i h1 h2 _ => by omega⟩
  | w + 1, k, hw, h => by
    by_cases h1 : n ≤ k
    · rw [cmpG_n (Or.inl h1)] at h
      have e := nI_sub0 hn hm h
      exact ⟨fun _ _ => e, fun i g1 g2 _ => by omega⟩
    · by_cases h2 : m ≤ k
      · rw [cmpG_n (Or.inr h2)] at h
        have e := nI_sub0 hn hm h
        exact ⟨fun _ _ => e, fun i g1 g2 g3 => by omega⟩
      · by_cases h3 : f (a + k) = f (b + k)
        · rw [cmpG_s (by omega) h1 h2 h3] at h
          obtain ⟨c1, c2⟩ := cmpG_0 hn hm (w := w) (k := k + 1) (by omega) h
          refine ⟨fun _ _ => c1 (by omega) (by omega), fun i g1 g2 g3 => ?_⟩
          by_cases e : i = k
          · subst e; exact h3
          · exact c2 i (by omega) g2 g3
        · rw [cmpG_d (by omega) h1 h2 h3] at h
          exact absurd (sub_z h) h3
theorem cmpG_e {f : Nat → Int32} {a n b : Nat} : ∀ {w k : Nat}, (∀ i, k ≤ i → i < n → f (a + i) = f (b + i)) → cmpG f a n b n w k = 0
  | 0, k, _ => by show nI n - nI n = 0; simp
  | w + 1, k, h => by
    by_cases h1 : n ≤ k
    · rw [cmpG_n (Or.inl h1)]; simp
    · rw [cmpG_s (by omega) h1 h1 (h k (Nat.le_refl _) (by omega))]
      exact cmpG_e (fun i g1 g2 => h i (by omega) g2)
theorem allB_iff {f : Nat → Bool} : ∀ {n : Nat}, allB n f = true ↔ ∀ i, i < n → f i = true
  | 0 => ⟨fun _ i hi => absurd hi (Nat.not_lt_zero i), fun _ => rfl⟩
  | n + 1 => by
    rw [allB_s, Bool.and_eq_true, allB_iff (n := n)]
    constructor
    · rintro ⟨h1, h2⟩ i hi
      by_cases e : i = n
      · subst e; exact h2
      · exact h1 i (by omega)
    · intro h
      exact ⟨fun i hi => h i (by omega), h n (by omega)⟩
theorem anyB_ext {f g : Nat → Bool} : ∀ {n : Nat}, (∀ i, i < n → f i = g i) → anyB n f = anyB n g
  | 0, _ => rfl
  | n + 1, h => by
    rw [anyB_s, anyB_s, anyB_ext (fun i hi => h i (by omega)), h n (by omega)]
/-- the same bytes: the two ways -/
theorem sb_cmpT {f : Nat → Int32} {a n b m : Nat} (hn : n < 2 ^ 31) (hm : m < 2 ^ 31) : sbB f a (a + n) b (b + m) = decide (cmpT f a n b m = 0) := by
  apply Bool.eq_iff_iff.mpr
  rw [decide_eq_true_eq]
  unfold sbB
  rw [Bool.and_eq_true, decide_eq_true_eq, allB_iff, show a + n - a = n by omega, show b + m - b = m by omega]
  constructor
  · rintro ⟨h1, h2⟩
    subst h1
    exact cmpG_e (fun i _ hi => of_decide_eq_true (h2 i hi))
  · intro h
    obtain ⟨c1, c2⟩ := cmpG_0 hn hm (w := n + 1) (k := 0) (by omega) h
    have e := c1 (Nat.zero_le _) (Nat.zero_le _)
    exact ⟨e, fun i hi => decide_eq_true (c2 i (Nat.zero_le _) hi (by omega))⟩
/-- the labels: the two ways -/
def labR (c : Nat) (g S E V : Nat → Nat) : Prop := ∀ k, k < c → S k = g (4 * k) ∧ E k = g (4 * k) + g (4 * k + 1) ∧ g (4 * k + 2) = g (4 * k) + g (4 * k + 1) + 1 ∧ V k = g (4 * k + 2) + g (4 * k + 3) ∧ g (4 * k + 1) ≤ 24 ∧ g (4 * k + 3) ≤ 24 ∧ 0 < g (4 * k + 1) ∧ 0 < g (4 * k + 3)
theorem labR_s {c q n v : Nat} {g S E V : Nat → Nat} (h : labR c g S E V) (hn : n ≤ 24) (hv : v ≤ 24) (hn0 : 0 < n) (hv0 : 0 < v) : labR (c + 1) (va_up (va_up (va_up (va_up g (4 * c) q) (4 * c + 1) n) (4 * c + 2) (q + n + 1)) (4 * c + 3) v) (va_up S c q) (va_up E c (q + n)) (va_up V c (q + n + 1 + v)) := by
  intro k hk
  by_cases e : k = c
  · subst e
    have a0 : (va_up (va_up (va_up (va_up g (4 * k) q) (4 * k + 1) n) (4 * k + 2) (q + n + 1)) (4 * k + 3) v) (4 * k) = q := by
      rw [va_up_ne _ _ (by omega), va_up_ne _ _ (by omega), va_up_ne _ _ (by omega), va_up_self]
    have a1 : (va_up (va_up (va_up (va_up g (4 * k) q) (4 * k + 1) n) (4 * k + 2) (q + n + 1)) (4 * k + 3) v) (4 * k + 1) = n := by
      rw [va_up_ne _ _ (by omega), va_up_ne _ _ (by omega), va_up_self]
    have a2 : (va_up (va_up (va_up (va_up g (4 * k) q) (4 * k + 1) n) (4 * k + 2) (q + n + 1)) (4 * k + 3) v) (4 * k + 2) = q + n + 1 := by
      rw [va_up_ne _ _ (by omega), va_up_self]
    have a3 : (va_up (va_up (va_up (va_up g (4 * k) q) (4 * k + 1) n) (4 * k + 2) (q + n + 1)) (4 * k + 3) v) (4 * k + 3) = v := va_up_self _ _ _
    rw [a0, a1, a2, a3, va_up_self, va_up_self, va_up_self]
    exact ⟨rfl, rfl, rfl, rfl, hn, hv, hn0, hv0⟩
  · have b : ∀ j, j < 4 * c → (va_up (va_up (va_up (va_up g (4 * c) q) (4 * c + 1) n) (4 * c + 2) (q + n + 1)) (4 * c + 3) v) j = g j := fun j hj => by
      rw [va_up_ne _ _ (by omega), va_up_ne _ _ (by omega), va_up_ne _ _ (by omega), va_up_ne _ _ (by omega)]
    rw [b _ (by omega), b _ (by omega), b _ (by omega), b _ (by omega), va_up_ne _ _ e, va_up_ne _ _ e, va_up_ne _ _ e]
    exact h k (by omega)
theorem rd_eq {f : Nat → Int32} {len : Nat} : ∀ {w q c : Nat} {g S E V : Nat → Nat}, q ≤ len → labR c g S E V → (∃ (kf : Int32) (pf : Nat), rdM f len w q c g = .inl (kf, pf) ∧ rdC f len w q c S E V = .inl (kf, pf)) ∨ (∃ (c' : Nat) (g' S' E' V' : Nat → Nat), rdM f len w q c g = .inr (c', g') ∧ rdC f len w q c S E V = .inr (c', S', E', V') ∧ labR c' g' S' E' V')
  | 0, q, c, g, S, E, V, _, _ => Or.inl ⟨8, q, rfl, rfl⟩
  | w + 1, q, c, g, S, E, V, hq, h => by
    obtain ⟨n, hn⟩ : ∃ n, wlen f len 25 q = n := ⟨_, rfl⟩
    obtain ⟨v, hv⟩ : ∃ v, wlen f len 25 (q + n + 1) = v := ⟨_, rfl⟩
    have n25 := wlen_le f len 25 q
    have v25 := wlen_le f len 25 (q + n + 1)
    have n24 : wlen f len 24 q = min 24 n := by rw [wlen_25, hn]
    have nin := wlen_in (f := f) (len := len) (w := 25) hq
    rw [hn] at n25 nin
    rw [hv] at v25
    rw [rdM_s hn hv]
    by_cases h1 : n = 0
    · rw [if_pos h1]
      have e : wlen f len 24 q = 0 := by omega
      exact Or.inl ⟨7, q, rfl, rd_x (by rw [rl_a (Or.inl (by omega)), e, Nat.add_zero])⟩
    rw [if_neg h1]
    by_cases h2 : 24 < n
    · rw [if_pos h2]
      have e : wlen f len 24 q = 24 := by omega
      obtain ⟨g1, g2⟩ := wlen_go (f := f) (len := len) (w := 24) (q := q) (show wlen f len 25 q = 25 by omega)
      refine Or.inl ⟨7, q + 24, rfl, rd_x ?_⟩
      rw [rl_a (Or.inr (Or.inr (by rw [e]; intro z; rw [z, isWd_61] at g2; cases g2))), e]
    rw [if_neg h2]
    have e : wlen f len 24 q = n := by omega
    by_cases h3 : len ≤ q + n
    · rw [if_pos h3]
      exact Or.inl ⟨7, q + n, rfl, rd_x (by rw [rl_a (Or.inr (Or.inl (by omega))), e])⟩
    rw [if_neg h3]
    by_cases h4 : f (q + n) = 61
    · rw [if_neg (fun z => z h4)]
      have ta : anyB c (fun k => decide (cmpT f (g (4 * k)) (g (4 * k + 1)) q n = 0)) = anyB c (taC f S E q (q + n)) := anyB_ext (fun k hk => by
        obtain ⟨s1, s2, -, -, s5, -⟩ := h k hk
        unfold taC
        rw [s1, s2, sb_cmpT (by omega) (by omega)])
      by_cases h5 : c = 6 ∨ anyB c (taC f S E q (q + n)) = true
      · rw [if_pos (by rw [ta]; rcases h5 with z | z; (rw [decide_eq_true z]; rfl); rw [z, Bool.or_true])]
        exact Or.inl ⟨8, q, rfl, rd_x (rl_b (by omega) (by omega) (by rw [e]; exact h4) (by rw [e]; exact h5))⟩
      · have h6 : ¬ c = 6 := fun z => h5 (Or.inl z)
        have h7 : anyB c (taC f S E q (q + n)) = false := by
          cases z : anyB c (taC f S E q (q + n)) with
          | false => rfl
          | true => exact absurd (Or.inr z) h5
        rw [if_neg (by rw [ta, h7, decide_eq_false h6]; decide)]
        have v24 : wlen f len 24 (q + n + 1) = min 24 v := by rw [wlen_25, hv]
        have vin := wlen_in (f := f) (len := len) (w := 25) (show q + n + 1 ≤ len by omega)
        rw [hv] at vin
        by_cases h8 : v = 0
        · rw [if_pos h8]
          refine Or.inl ⟨7, q + n + 1, rfl, rd_x ?_⟩
          rw [rl_c (by omega) (by omega) (by rw [e]; exact h4) h6 (by rw [e]; exact h7) (by rw [e]; omega), e, v24, h8]
          rfl
        rw [if_neg h8]
        by_cases h9 : 24 < v
        · rw [if_pos h9]
          obtain ⟨g1, g2⟩ := wlen_go (f := f) (len := len) (w := 24) (q := q + n + 1) (show wlen f len 25 (q + n + 1) = 25 by omega)
          have rr : rlC f len q c S E = .inr (q + n, q + n + 1 + 24) := by
            rw [rl_d (by omega) (by omega) (by rw [e]; exact h4) h6 (by rw [e]; exact h7) (by rw [e]; omega), e, v24, show min 24 v = 24 by omega]
          refine Or.inl ⟨7, q + n + 1 + 24, rfl, ?_⟩
          rw [rd_s rr, if_neg (by omega), if_neg (fun z => by rw [z, isWd_44] at g2; cases g2)]
        rw [if_neg h9]
        have rr : rlC f len q c S E = .inr (q + n, q + n + 1 + v) := by
          rw [rl_d (by omega) (by omega) (by rw [e]; exact h4) h6 (by rw [e]; exact h7) (by rw [e]; omega), e, v24, show min 24 v = v by omega]
        have hl := labR_s (q := q) h (show n ≤ 24 by omega) (show v ≤ 24 by omega) (by omega) (by omega)
        by_cases h10 : q + n + 1 + v = len
        · rw [if_pos h10]
          exact Or.inr ⟨_, _, _, _, _, rfl, by rw [rd_s rr, if_pos h10], hl⟩
        rw [if_neg h10]
        by_cases h11 : f (q + n + 1 + v) = 44
        · rw [if_neg (fun z => z h11)]
          rcases rd_eq (f := f) (len := len) (w := w) (show q + n + 1 + v + 1 ≤ len by omega) hl with ⟨kf, pf, a1, a2⟩ | ⟨c', g', S', E', V', a1, a2, a3⟩
          · exact Or.inl ⟨kf, pf, a1, by rw [rd_s rr, if_neg h10, if_pos h11]; exact a2⟩
          · exact Or.inr ⟨c', g', S', E', V', a1, by rw [rd_s rr, if_neg h10, if_pos h11]; exact a2, a3⟩
        · rw [if_pos h11]
          exact Or.inl ⟨7, q + n + 1 + v, rfl, by rw [rd_s rr, if_neg h10, if_neg h11]⟩
    · rw [if_pos h4]
      exact Or.inl ⟨7, q + n, rfl, rd_x (by rw [rl_a (Or.inr (Or.inr (by rw [e]; exact h4))), e])⟩
end
