theorem d_A_join_83 : decode prog_2_method_5_code 83 = .ok (.aload_n 3, 1) := by decide +kernel
theorem d_A_join_84 : decode prog_2_method_5_code 84 = .ok (.iload_n 1, 1) := by decide +kernel
theorem d_A_join_85 : decode prog_2_method_5_code 85 = .ok (.aload_n 2, 1) := by decide +kernel
theorem d_A_join_86 : decode prog_2_method_5_code 86 = .ok (.iconst 1, 1) := by decide +kernel
theorem d_A_join_87 : decode prog_2_method_5_code 87 = .ok (.invokevirtual 111, 3) := by decide +kernel
theorem d_A_join_90 : decode prog_2_method_5_code 90 = .ok (.aload_n 0, 1) := by decide +kernel
theorem d_A_join_91 : decode prog_2_method_5_code 91 = .ok (.getfield 12, 3) := by decide +kernel
theorem d_A_join_94 : decode prog_2_method_5_code 94 = .ok (.aload_n 0, 1) := by decide +kernel
theorem d_A_join_95 : decode prog_2_method_5_code 95 = .ok (.getfield 58, 3) := by decide +kernel
theorem d_A_join_98 : decode prog_2_method_5_code 98 = .ok (.iconst 1, 1) := by decide +kernel
theorem d_A_join_99 : decode prog_2_method_5_code 99 = .ok (.isub, 1) := by decide +kernel
theorem d_A_join_100 : decode prog_2_method_5_code 100 = .ok (.aload_n 3, 1) := by decide +kernel
theorem d_A_join_101 : decode prog_2_method_5_code 101 = .ok (.invokevirtual 115, 3) := by decide +kernel
theorem d_A_join_104 : decode prog_2_method_5_code 104 = .ok (.pop, 1) := by decide +kernel
theorem d_A_join_105 : decode prog_2_method_5_code 105 = .ok (.aload_n 0, 1) := by decide +kernel
theorem d_A_join_106 : decode prog_2_method_5_code 106 = .ok (.getfield 12, 3) := by decide +kernel
theorem d_A_join_109 : decode prog_2_method_5_code 109 = .ok (.aload_n 0, 1) := by decide +kernel
theorem d_A_join_110 : decode prog_2_method_5_code 110 = .ok (.getfield 58, 3) := by decide +kernel
theorem d_A_join_113 : decode prog_2_method_5_code 113 = .ok (.aload_n 2, 1) := by decide +kernel
theorem d_A_join_114 : decode prog_2_method_5_code 114 = .ok (.invokevirtual 115, 3) := by decide +kernel
theorem d_A_join_117 : decode prog_2_method_5_code 117 = .ok (.pop, 1) := by decide +kernel
theorem d_A_join_118 : decode prog_2_method_5_code 118 = .ok (.iconst 1, 1) := by decide +kernel
theorem d_A_join_119 : decode prog_2_method_5_code 119 = .ok (.ireturn, 1) := by decide +kernel
theorem w1553 : Cond.methodLink "SeriesVault$Answers" 115 ⟨"java/util/ArrayList", "set", "(ILjava/lang/Object;)Ljava/lang/Object;"⟩ ∈ aW := aw_of (tb_8 (List.mem_of_getElem? (i := 67) rfl)) rfl
theorem w1554 : Cond.code ⟨"java/util/ArrayList", "set", "(ILjava/lang/Object;)Ljava/lang/Object;"⟩ prog_37_method_23_code 4 (some (FieldType.object "java/lang/Object")) ∈ aW := aw_of (tb_8 (List.mem_of_getElem? (i := 70) rfl)) rfl
theorem w1555 : Cond.instanceMethod ⟨"java/util/ArrayList", "set", "(ILjava/lang/Object;)Ljava/lang/Object;"⟩ ∈ aW := aw_of (tb_8 (List.mem_of_getElem? (i := 68) rfl)) rfl
theorem w1556 : Cond.selects "java/util/ArrayList" ⟨"java/util/ArrayList", "set", "(ILjava/lang/Object;)Ljava/lang/Object;"⟩ ⟨"java/util/ArrayList", "set", "(ILjava/lang/Object;)Ljava/lang/Object;"⟩ ∈ aW := aw_of (tb_8 (List.mem_of_getElem? (i := 69) rfl)) rfl
set_option maxHeartbeats 4000000 in
set_option maxRecDepth 100000 in
theorem v_Ajoin_r0 (l : Launch) (D : va_G) (dA : Nat → ClassId) (sz : Nat) (h : Nat) (ad : Nat → Nat) (ta : Nat → Nat) (t : TB) (tb : Nat → Nat) (u : TB) (la : Nat → Nat) (g : LI) (x : VS) (sg : Int32) (NL : Nat → List Int32) (NR : Nat → List Int32) (hla : la 0 = ad 25) (hs : g.sz ≤ g.eN) (hn : g.eN ≤ 65536) (hd : 2 ≤ x.adep) (hd2 : x.adep ≤ g.sz) (he1 : g.el (x.adep - 2) = some (ta 0)) (he2 : g.el (x.adep - 1) = some (tb 0)) (hna : nmOk dA x.pl t.nm t.nc NL) (hnb : nmOk dA x.pl u.nm u.nc NR) (hc1 : t.nc ≤ 6) (hc2 : u.nc ≤ 6) (hnn : namB NL NR t.nc u.nc = false) (hu1 : ¬ u.nc = 0) (ht0 : t.nc = 0) (hcM : u.cN ≤ 65536) (hrb : rsAll dA x.pl u.rs) (ht : t.rc = 0) : Met l ⟨"SeriesVault$Answers", "join", "(I)Z"⟩ [Cond.code ⟨"SeriesVault$Answers", "join", "(I)Z"⟩ prog_2_method_5_code 4 (some FieldType.boolean)] { frames := 4, cells := 0, slots := 0, locals := 108 } (pC D dA [.ref (ad 24), .int sg] (TbW dA ta t ++ (TbW dA tb u ++ (LiW dA la g ++ (VW dA h ad x)))) sz) (va_Qi (fun (r9 : Int32) (u9 : TB) => r9 = 1 ∧ u9 = TB.de (TB.s_rc u 0)) (fun (u9 : TB) t9 => bW D (va_A (TbW dA ta t ++ (TbW dA tb u ++ (LiW dA la g ++ (VW dA h ad x)))) sz) (TbW dA ta t ++ (TbW dA tb u9 ++ (LiW dA la (LI.s_el g (va_up (va_up g.el (x.adep - 1 - 1) (some (tb 0))) (x.adep - 1) (some (ta 0)))) ++ (VW dA h ad (VS.s_adep x (x.adep - 1)))))) t9) (va_A (TbW dA ta t ++ (TbW dA tb u ++ (LiW dA la g ++ (VW dA h ad x)))) sz)) 0 0 (va_A (TbW dA ta t ++ (TbW dA tb u ++ (LiW dA la g ++ (VW dA h ad x)))) sz) := by
  refine mkC (y := ⟨"SeriesVault$Answers", "join", "(I)Z"⟩) (cc := prog_2_method_5_code) (maxL := 4) (av := [.ref (ad 24), .int sg]) (ws := TbW dA ta t ++ (TbW dA tb u ++ (LiW dA la g ++ (VW dA h ad x)))) (sz := sz) (Qc := fun A => va_Qi (fun (r9 : Int32) (u9 : TB) => r9 = 1 ∧ u9 = TB.de (TB.s_rc u 0)) (fun (u9 : TB) t9 => bW D A (TbW dA ta t ++ (TbW dA tb u9 ++ (LiW dA la (LI.s_el g (va_up (va_up g.el (x.adep - 1 - 1) (some (tb 0))) (x.adep - 1) (some (ta 0)))) ++ (VW dA h ad (VS.s_adep x (x.adep - 1)))))) t9) A) (by decide) (Nat.le_of_ble_eq_true rfl) ?_
  intro A p e s m below meth c ls hsz hB
  obtain ⟨hx, hb, hr, hml, hown, hin, hlk, hE, hK, hP, hD, hS, hA, hN, hl⟩ := hB
  have hown : s.vm.findClass "SeriesVault$Answers" = some m.cls := hown
  have hl : lv_has ls 4 [(0, .ref (ad 24)), (1, .int sg)] := hl
  obtain ⟨H, hH⟩ : ∃ z, z = s.heap := ⟨_, rfl⟩
  have hP : va_P D vwCl (TbW dA ta t ++ (TbW dA tb u ++ (LiW dA la g ++ (VW dA h ad x)))) H := by rw [hH]; exact hP
  have hS : va_S A s.heap H [] := by rw [hH]; exact hS
  rw [← hH]
  refine lv_aload_n hx hb d_A_join_0 rfl (lv_at hl 0 rfl) ?_
  refine gF (v := .ref (ad 25)) hx hb hown hE hK hP 49 rfl rfl layA 0 (by decide) w799 rfl d_A_join_1 ?_
  rw [← hla]
  refine lv_aload_n hx hb d_A_join_4 rfl (lv_at hl 0 rfl) ?_
  refine gF (v := .int (nI x.adep)) hx hb hown hE hK hP 49 rfl rfl layA 1 (by decide) w1538 rfl d_A_join_5 ?_
  refine lv_iconst (v := 2) hx hb d_A_join_8 (by decide) ?_
  refine lv_isub hx hb d_A_join_9 (tpi (y := nI (x.adep - 2)) (pk_sub (a := x.adep) (b := 2) (by omega)) ?_)
  have hP := pmP (show List.Perm (α := Nat × va_E) (TbW dA ta t ++ (TbW dA tb u ++ (LiW dA la g ++ (VW dA h ad x)))) (LiW dA la g ++ (TbW dA ta t ++ (TbW dA tb u ++ (VW dA h ad x)))) from (List.Perm.append_left (TbW dA ta t) (List.perm_append_comm_assoc (TbW dA tb u) (LiW dA la g) (VW dA h ad x))).trans (List.perm_append_comm_assoc (TbW dA ta t) (LiW dA la g) (TbW dA tb u ++ (VW dA h ad x)))) hP
  have hD := pmD (show List.Perm (α := Nat × va_E) (TbW dA ta t ++ (TbW dA tb u ++ (LiW dA la g ++ (VW dA h ad x)))) (LiW dA la g ++ (TbW dA ta t ++ (TbW dA tb u ++ (VW dA h ad x)))) from (List.Perm.append_left (TbW dA ta t) (List.perm_append_comm_assoc (TbW dA tb u) (LiW dA la g) (VW dA h ad x))).trans (List.perm_append_comm_assoc (TbW dA ta t) (LiW dA la g) (TbW dA tb u ++ (VW dA h ad x)))) hD
  refine jkR (wr := []) (rnV (As := [.int (nI (x.adep - 2))]) (rest := []) hx hb hml hown hE hK (hN _ _ hS) hP hD (v_Lget l D dA H.size (TbW dA ta t ++ (TbW dA tb u ++ (VW dA h ad x))) la g (x.adep - 2) (ta 0) hs hn (show (x.adep - 2) < g.sz from by omega) he1) (q0 := 0) rfl rfl w1489 w1537 w1490 w1491 w680 rfl rfl ⟨⟨by decide, by decide⟩, rfl⟩ ⟨(Nat.le_of_ble_eq_true rfl), (Nat.le_of_ble_eq_true rfl)⟩ rfl hl.1 rfl (Nat.le_of_ble_eq_true rfl) d_A_join_10 ⟨(Nat.le_of_ble_eq_true rfl), (Nat.le_of_ble_eq_true rfl)⟩) hP hD hS hA (fun u2 r1 H locs hp9 hP hD hS => ?_)
  have hP : va_P D vwCl (LiW dA la g ++ (TbW dA ta t ++ (TbW dA tb u ++ (VW dA h ad x)))) H := hP
  have hD : va_D A (LiW dA la g ++ (TbW dA ta t ++ (TbW dA tb u ++ (VW dA h ad x)))) := hD
  have f_e_3 := hp9
  have e9 := f_e_3
  subst e9
  refine va_castE hx hb hown (hE.t w805 rfl) (va_recv hK hP (ci := 8) (q0 := 2) (q := ("SeriesVault$Table", TT, 7)) rfl rfl) d_A_join_13 ?_
  refine lv_astore_n hx hb d_A_join_16 rfl hl (by decide) rfl (fun ls hl => ?_)
  have hl : lv_has ls 4 [(2, .ref (ta 0)), (0, .ref (ad 24)), (1, .int sg)] := hl
  refine lv_aload_n hx hb d_A_join_17 rfl (lv_at hl 1 rfl) ?_
  refine gF (v := .ref (ad 25)) hx hb hown hE hK hP 49 rfl rfl layA 0 (by decide) w799 rfl d_A_join_18 ?_
  rw [← hla]
  refine lv_aload_n hx hb d_A_join_21 rfl (lv_at hl 1 rfl) ?_
  refine gF (v := .int (nI x.adep)) hx hb hown hE hK hP 49 rfl rfl layA 1 (by decide) w1538 rfl d_A_join_22 ?_
  refine lv_iconst (v := 1) hx hb d_A_join_25 (by decide) ?_
  refine lv_isub hx hb d_A_join_26 (tpi (y := nI (x.adep - 1)) (pk_sub (a := x.adep) (b := 1) (by omega)) ?_)
  refine jkR (wr := []) (rnV (As := [.int (nI (x.adep - 1))]) (rest := []) hx hb hml hown hE hK (hN _ _ hS) hP hD (v_Lget l D dA H.size (TbW dA ta t ++ (TbW dA tb u ++ (VW dA h ad x))) la g (x.adep - 1) (tb 0) hs hn (show (x.adep - 1) < g.sz from by omega) he2) (q0 := 0) rfl rfl w1489 w1537 w1490 w1491 w680 rfl rfl ⟨⟨by decide, by decide⟩, rfl⟩ ⟨(Nat.le_of_ble_eq_true rfl), (Nat.le_of_ble_eq_true rfl)⟩ rfl hl.1 rfl (Nat.le_of_ble_eq_true rfl) d_A_join_27 ⟨(Nat.le_of_ble_eq_true rfl), (Nat.le_of_ble_eq_true rfl)⟩) hP hD hS hA (fun u5 r4 H locs hp9 hP hD hS => ?_)
  have hP : va_P D vwCl (LiW dA la g ++ (TbW dA ta t ++ (TbW dA tb u ++ (VW dA h ad x)))) H := hP
  have hD : va_D A (LiW dA la g ++ (TbW dA ta t ++ (TbW dA tb u ++ (VW dA h ad x)))) := hD
  have f_e_6 := hp9
  have e9 := f_e_6
  subst e9
  refine va_castE hx hb hown (hE.t w805 rfl) (va_recv hK hP (ci := 8) (q0 := 7) (q := ("SeriesVault$Table", TT, 7)) rfl rfl) d_A_join_30 ?_
  refine lv_astore_n hx hb d_A_join_33 rfl hl (by decide) rfl (fun ls hl => ?_)
  have hl : lv_has ls 4 [(3, .ref (tb 0)), (2, .ref (ta 0)), (0, .ref (ad 24)), (1, .int sg)] := hl
  refine lv_aload_n hx hb d_A_join_34 rfl (lv_at hl 2 rfl) ?_
  refine lv_dup hx hb d_A_join_35 rfl ?_
  refine gF (v := .int (nI x.adep)) hx hb hown hE hK hP 49 rfl rfl layA 1 (by decide) w1538 rfl d_A_join_36 ?_
  refine lv_iconst (v := 1) hx hb d_A_join_39 (by decide) ?_
  refine lv_isub hx hb d_A_join_40 (tpi (y := nI (x.adep - 1)) (pk_sub (a := x.adep) (b := 1) (by omega)) ?_)
  refine pF (v := .int (nI (x.adep - 1))) hx hb hown hE hK hP hD hS 49 rfl rfl layA tyA tokA nmA 1 (by decide) w1538 rfl rfl rfl (Nat.le_of_ble_eq_true rfl) d_A_join_41 (fun H locs hP hD hS => ?_)
  have hP : va_P D vwCl (LiW dA la g ++ (TbW dA ta t ++ (TbW dA tb u ++ (VW dA h ad (VS.s_adep x (x.adep - 1)))))) H := hP
  have hD : va_D A (LiW dA la g ++ (TbW dA ta t ++ (TbW dA tb u ++ (VW dA h ad (VS.s_adep x (x.adep - 1)))))) := hD
  refine lv_aload_n hx hb d_A_join_44 rfl (lv_at hl 1 rfl) ?_
  refine lv_aload_n hx hb d_A_join_45 rfl (lv_at hl 0 rfl) ?_
  have hP := pmP (show List.Perm (α := Nat × va_E) (LiW dA la g ++ (TbW dA ta t ++ (TbW dA tb u ++ (VW dA h ad (VS.s_adep x (x.adep - 1)))))) (TbW dA ta t ++ (LiW dA la g ++ (TbW dA tb u ++ (VW dA h ad (VS.s_adep x (x.adep - 1)))))) from List.perm_append_comm_assoc (LiW dA la g) (TbW dA ta t) (TbW dA tb u ++ (VW dA h ad (VS.s_adep x (x.adep - 1))))) hP
  have hD := pmD (show List.Perm (α := Nat × va_E) (LiW dA la g ++ (TbW dA ta t ++ (TbW dA tb u ++ (VW dA h ad (VS.s_adep x (x.adep - 1)))))) (TbW dA ta t ++ (LiW dA la g ++ (TbW dA tb u ++ (VW dA h ad (VS.s_adep x (x.adep - 1)))))) from List.perm_append_comm_assoc (LiW dA la g) (TbW dA ta t) (TbW dA tb u ++ (VW dA h ad (VS.s_adep x (x.adep - 1))))) hD
  have hP := pmP (show List.Perm (α := Nat × va_E) (TbW dA ta t ++ (LiW dA la g ++ (TbW dA tb u ++ (VW dA h ad (VS.s_adep x (x.adep - 1)))))) (TbW dA ta t ++ (TbW dA tb u ++ (LiW dA la g ++ (VW dA h ad (VS.s_adep x (x.adep - 1)))))) from List.Perm.append_left (TbW dA ta t) (List.perm_append_comm_assoc (LiW dA la g) (TbW dA tb u) (VW dA h ad (VS.s_adep x (x.adep - 1))))) hP
  have hD := pmD (show List.Perm (α := Nat × va_E) (TbW dA ta t ++ (LiW dA la g ++ (TbW dA tb u ++ (VW dA h ad (VS.s_adep x (x.adep - 1)))))) (TbW dA ta t ++ (TbW dA tb u ++ (LiW dA la g ++ (VW dA h ad (VS.s_adep x (x.adep - 1)))))) from List.Perm.append_left (TbW dA ta t) (List.perm_append_comm_assoc (LiW dA la g) (TbW dA tb u) (VW dA h ad (VS.s_adep x (x.adep - 1))))) hD
  refine jkI (wr := []) (rnV (As := [.ref (tb 0)]) (rest := []) hx hb hml hown hE hK (hN _ _ hS) hP hD (v_ThasNamesOf l D dA H.size (LiW dA la g ++ (VW dA h ad (VS.s_adep x (x.adep - 1)))) ta t tb u NL NR (nmOk_m (fun _ hm => (List.mem_append_right _ (plm hm))) hna) (nmOk_m (fun _ hm => (List.mem_append_right _ (plm hm))) hnb) hc1 hc2) (q0 := 0) rfl rfl w1541 w1540 w1542 w1543 w807 rfl rfl ⟨⟨by decide, by decide⟩, rfl⟩ ⟨(Nat.le_of_ble_eq_true rfl), (Nat.le_of_ble_eq_true rfl)⟩ rfl hl.1 rfl (Nat.le_of_ble_eq_true rfl) d_A_join_46 ⟨(Nat.le_of_ble_eq_true rfl), (Nat.le_of_ble_eq_true rfl)⟩) hP hD hS hA (fun r7 u8 H locs hp9 hP hD hS => ?_)
  have hP : va_P D vwCl (TbW dA ta t ++ (TbW dA tb u ++ (LiW dA la g ++ (VW dA h ad (VS.s_adep x (x.adep - 1)))))) H := hP
  have hD : va_D A (TbW dA ta t ++ (TbW dA tb u ++ (LiW dA la g ++ (VW dA h ad (VS.s_adep x (x.adep - 1)))))) := hD
  replace hp9 : bI (namB NL NR t.nc u.nc) = r7 := Eq.symm hp9
  subst hp9
  refine lv_if_eq hx hb d_A_join_49 (tgt := 60) rfl (fun _ => ?_) (fun h9 => absurd (by rw [hnn]; decide) h9)
  refine lv_aload_n hx hb d_A_join_60 rfl (lv_at hl 0 rfl) ?_
  refine gFN (v := .int (nI u.nc)) hx hb hown hE hK hP 5 rfl rfl layT 1 (by decide) w1544 rfl d_A_join_61 ?_
  refine lv_if_ne hx hb d_A_join_64 (tgt := 76) rfl (fun _ => ?_) (fun h9 => absurd h9 (mt (nI_eq (a := u.nc) (b := 0) (by omega) (by omega)).mp hu1))
  refine lv_aload_n hx hb d_A_join_76 rfl (lv_at hl 1 rfl) ?_
  refine gFN (v := .int (nI t.nc)) hx hb hown hE hK hP 0 rfl rfl layT 1 (by decide) w1544 rfl d_A_join_77 ?_
  refine lv_if_ne hx hb d_A_join_80 (tgt := 120) rfl (fun h9 => absurd ((nI_eq (a := t.nc) (b := 0) (by omega) (by omega)).mpr ht0) h9) (fun _ => ?_)
  refine lv_aload_n hx hb d_A_join_83 rfl (lv_at hl 0 rfl) ?_
  refine lv_iload_n hx hb d_A_join_84 rfl (lv_at hl 3 rfl) ?_
  refine lv_aload_n hx hb d_A_join_85 rfl (lv_at hl 1 rfl) ?_
  refine lv_iconst (v := 1) hx hb d_A_join_86 (by decide) ?_
  have hP := pmP (show List.Perm (α := Nat × va_E) (TbW dA ta t ++ (TbW dA tb u ++ (LiW dA la g ++ (VW dA h ad (VS.s_adep x (x.adep - 1)))))) (TbW dA tb u ++ (TbW dA ta t ++ (LiW dA la g ++ (VW dA h ad (VS.s_adep x (x.adep - 1)))))) from List.perm_append_comm_assoc (TbW dA ta t) (TbW dA tb u) (LiW dA la g ++ (VW dA h ad (VS.s_adep x (x.adep - 1))))) hP
  have hD := pmD (show List.Perm (α := Nat × va_E) (TbW dA ta t ++ (TbW dA tb u ++ (LiW dA la g ++ (VW dA h ad (VS.s_adep x (x.adep - 1)))))) (TbW dA tb u ++ (TbW dA ta t ++ (LiW dA la g ++ (VW dA h ad (VS.s_adep x (x.adep - 1)))))) from List.perm_append_comm_assoc (TbW dA ta t) (TbW dA tb u) (LiW dA la g ++ (VW dA h ad (VS.s_adep x (x.adep - 1))))) hD
  refine jkV (wr := []) (rnV (As := [.int sg, .ref (ta 0), .int 1]) (rest := []) hx hb hml hown hE hK (hN _ _ hS) hP hD (v_TjoinWithSingle_0 l D dA H.size (LiW dA la g ++ (VW dA h ad (VS.s_adep x (x.adep - 1)))) tb u ta t sg true hcM ht (rsAll_m (fun _ hm => (List.mem_append_right _ (plm hm))) hrb)) (q0 := 0) rfl rfl w1550 w1549 w1551 w1552 w807 rfl rfl ⟨⟨by decide, by decide⟩, rfl⟩ ⟨(Nat.le_of_ble_eq_true rfl), (Nat.le_of_ble_eq_true rfl)⟩ rfl hl.1 rfl (Nat.le_of_ble_eq_true rfl) d_A_join_87 ⟨(Nat.le_of_ble_eq_true rfl), (Nat.le_of_ble_eq_true rfl)⟩) hP hD hS hA (fun u10 H locs hp9 hP hD hS => ?_)
  obtain ⟨y11, h9u⟩ : ∃ z9, z9 = u10 := ⟨_, rfl⟩
  subst h9u
  have hP : va_P D vwCl (TbW dA tb y11 ++ (TbW dA ta t ++ (LiW dA la g ++ (VW dA h ad (VS.s_adep x (x.adep - 1)))))) H := hP
  have hD : va_D A (TbW dA tb y11 ++ (TbW dA ta t ++ (LiW dA la g ++ (VW dA h ad (VS.s_adep x (x.adep - 1)))))) := hD
  have f_e_12 := hp9
  refine lv_aload_n hx hb d_A_join_90 rfl (lv_at hl 2 rfl) ?_
  refine gF (v := .ref (ad 25)) hx hb hown hE hK hP 49 rfl rfl layA 0 (by decide) w799 rfl d_A_join_91 ?_
  rw [← hla]
  refine lv_aload_n hx hb d_A_join_94 rfl (lv_at hl 2 rfl) ?_
  refine gF (v := .int (nI (x.adep - 1))) hx hb hown hE hK hP 49 rfl rfl layA 1 (by decide) w1538 rfl d_A_join_95 ?_
  refine lv_iconst (v := 1) hx hb d_A_join_98 (by decide) ?_
  refine lv_isub hx hb d_A_join_99 (tpi (y := nI ((x.adep - 1) - 1)) (pk_sub (a := x.adep - 1) (b := 1) (by omega)) ?_)
  refine lv_aload_n hx hb d_A_join_100 rfl (lv_at hl 0 rfl) ?_
  have hP := pmP (show List.Perm (α := Nat × va_E) (TbW dA tb y11 ++ (TbW dA ta t ++ (LiW dA la g ++ (VW dA h ad (VS.s_adep x (x.adep - 1)))))) (LiW dA la g ++ (TbW dA tb y11 ++ (TbW dA ta t ++ (VW dA h ad (VS.s_adep x (x.adep - 1)))))) from (List.Perm.append_left (TbW dA tb y11) (List.perm_append_comm_assoc (TbW dA ta t) (LiW dA la g) (VW dA h ad (VS.s_adep x (x.adep - 1))))).trans (List.perm_append_comm_assoc (TbW dA tb y11) (LiW dA la g) (TbW dA ta t ++ (VW dA h ad (VS.s_adep x (x.adep - 1)))))) hP
  have hD := pmD (show List.Perm (α := Nat × va_E) (TbW dA tb y11 ++ (TbW dA ta t ++ (LiW dA la g ++ (VW dA h ad (VS.s_adep x (x.adep - 1)))))) (LiW dA la g ++ (TbW dA tb y11 ++ (TbW dA ta t ++ (VW dA h ad (VS.s_adep x (x.adep - 1)))))) from (List.Perm.append_left (TbW dA tb y11) (List.perm_append_comm_assoc (TbW dA ta t) (LiW dA la g) (VW dA h ad (VS.s_adep x (x.adep - 1))))).trans (List.perm_append_comm_assoc (TbW dA tb y11) (LiW dA la g) (TbW dA ta t ++ (VW dA h ad (VS.s_adep x (x.adep - 1)))))) hD
  refine jkR (wr := []) (rnV (As := [.int (nI ((x.adep - 1) - 1)), .ref (tb 0)]) (rest := []) hx hb hml hown hE hK (hN _ _ hS) hP hD (v_Lset l D dA H.size (TbW dA tb y11 ++ (TbW dA ta t ++ (VW dA h ad (VS.s_adep x (x.adep - 1))))) la g ((x.adep - 1) - 1) (ta 0) (tb 0) ([.ref (tb 1), .int (nI y11.nc), .int (nI y11.wi), .int (nI y11.rc), .ref (tb 2), .ref (tb 3), .ref y11.cA]) hs hn (show ((x.adep - 1) - 1) < g.sz from by omega) (show g.el (x.adep - 1 - 1) = some (ta 0) by rw [show x.adep - 1 - 1 = x.adep - 2 by omega]; exact he1) (List.mem_of_getElem? (i := 0) rfl)) (q0 := 0) rfl rfl w1554 w1553 w1555 w1556 w680 rfl rfl ⟨⟨by decide, by decide⟩, rfl⟩ ⟨(Nat.le_of_ble_eq_true rfl), (Nat.le_of_ble_eq_true rfl)⟩ rfl hl.1 rfl (Nat.le_of_ble_eq_true rfl) d_A_join_101 ⟨(Nat.le_of_ble_eq_true rfl), (Nat.le_of_ble_eq_true rfl)⟩) hP hD hS hA (fun u14 r13 H locs hp9 hP hD hS => ?_)
  have hP : va_P D vwCl (LiW dA la (LI.s_el g (va_up g.el ((x.adep - 1) - 1) (some (tb 0)))) ++ (TbW dA tb y11 ++ (TbW dA ta t ++ (VW dA h ad (VS.s_adep x (x.adep - 1)))))) H := hP
  have hD : va_D A (LiW dA la (LI.s_el g (va_up g.el ((x.adep - 1) - 1) (some (tb 0)))) ++ (TbW dA tb y11 ++ (TbW dA ta t ++ (VW dA h ad (VS.s_adep x (x.adep - 1)))))) := hD
  have f_e_15 := hp9
  refine lv_pop hx hb d_A_join_104 rfl ?_
  refine lv_aload_n hx hb d_A_join_105 rfl (lv_at hl 2 rfl) ?_
  refine gF (v := .ref (ad 25)) hx hb hown hE hK hP 49 rfl rfl layA 0 (by decide) w799 rfl d_A_join_106 ?_
  rw [← hla]
  refine lv_aload_n hx hb d_A_join_109 rfl (lv_at hl 2 rfl) ?_
  refine gF (v := .int (nI (x.adep - 1))) hx hb hown hE hK hP 49 rfl rfl layA 1 (by decide) w1538 rfl d_A_join_110 ?_
  refine lv_aload_n hx hb d_A_join_113 rfl (lv_at hl 1 rfl) ?_
  refine jkR (wr := []) (rnV (As := [.int (nI (x.adep - 1)), .ref (ta 0)]) (rest := []) hx hb hml hown hE hK (hN _ _ hS) hP hD (v_Lset l D dA H.size (TbW dA tb y11 ++ (TbW dA ta t ++ (VW dA h ad (VS.s_adep x (x.adep - 1))))) la (LI.s_el g (va_up g.el ((x.adep - 1) - 1) (some (tb 0)))) (x.adep - 1) (tb 0) (ta 0) ([.ref (ta 1), .int (nI t.nc), .int (nI t.wi), .int (nI t.rc), .ref (ta 2), .ref (ta 3), .ref t.cA]) hs hn (show (x.adep - 1) < g.sz from by omega) (show va_up g.el (x.adep - 1 - 1) (some (tb 0)) (x.adep - 1) = some (tb 0) by rw [va_up_ne _ _ (by omega)]; exact he2) (List.mem_of_getElem? (i := 5) rfl)) (q0 := 0) rfl rfl w1554 w1553 w1555 w1556 w680 rfl rfl ⟨⟨by decide, by decide⟩, rfl⟩ ⟨(Nat.le_of_ble_eq_true rfl), (Nat.le_of_ble_eq_true rfl)⟩ rfl hl.1 rfl (Nat.le_of_ble_eq_true rfl) d_A_join_114 ⟨(Nat.le_of_ble_eq_true rfl), (Nat.le_of_ble_eq_true rfl)⟩) hP hD hS hA (fun u17 r16 H locs hp9 hP hD hS => ?_)
  have hP : va_P D vwCl (LiW dA la (LI.s_el g (va_up (va_up g.el ((x.adep - 1) - 1) (some (tb 0))) (x.adep - 1) (some (ta 0)))) ++ (TbW dA tb y11 ++ (TbW dA ta t ++ (VW dA h ad (VS.s_adep x (x.adep - 1)))))) H := hP
  have hD : va_D A (LiW dA la (LI.s_el g (va_up (va_up g.el ((x.adep - 1) - 1) (some (tb 0))) (x.adep - 1) (some (ta 0)))) ++ (TbW dA tb y11 ++ (TbW dA ta t ++ (VW dA h ad (VS.s_adep x (x.adep - 1)))))) := hD
  have f_e_18 := hp9
  refine lv_pop hx hb d_A_join_117 rfl ?_
  refine lv_iconst (v := 1) hx hb d_A_join_118 (by decide) ?_
  have hP := pmP (show List.Perm (α := Nat × va_E) (LiW dA la (LI.s_el g (va_up (va_up g.el ((x.adep - 1) - 1) (some (tb 0))) (x.adep - 1) (some (ta 0)))) ++ (TbW dA tb y11 ++ (TbW dA ta t ++ (VW dA h ad (VS.s_adep x (x.adep - 1)))))) (TbW dA ta t ++ (LiW dA la (LI.s_el g (va_up (va_up g.el ((x.adep - 1) - 1) (some (tb 0))) (x.adep - 1) (some (ta 0)))) ++ (TbW dA tb y11 ++ (VW dA h ad (VS.s_adep x (x.adep - 1)))))) from (List.Perm.append_left (LiW dA la (LI.s_el g (va_up (va_up g.el ((x.adep - 1) - 1) (some (tb 0))) (x.adep - 1) (some (ta 0))))) (List.perm_append_comm_assoc (TbW dA tb y11) (TbW dA ta t) (VW dA h ad (VS.s_adep x (x.adep - 1))))).trans (List.perm_append_comm_assoc (LiW dA la (LI.s_el g (va_up (va_up g.el ((x.adep - 1) - 1) (some (tb 0))) (x.adep - 1) (some (ta 0))))) (TbW dA ta t) (TbW dA tb y11 ++ (VW dA h ad (VS.s_adep x (x.adep - 1)))))) hP
  have hD := pmD (show List.Perm (α := Nat × va_E) (LiW dA la (LI.s_el g (va_up (va_up g.el ((x.adep - 1) - 1) (some (tb 0))) (x.adep - 1) (some (ta 0)))) ++ (TbW dA tb y11 ++ (TbW dA ta t ++ (VW dA h ad (VS.s_adep x (x.adep - 1)))))) (TbW dA ta t ++ (LiW dA la (LI.s_el g (va_up (va_up g.el ((x.adep - 1) - 1) (some (tb 0))) (x.adep - 1) (some (ta 0)))) ++ (TbW dA tb y11 ++ (VW dA h ad (VS.s_adep x (x.adep - 1)))))) from (List.Perm.append_left (LiW dA la (LI.s_el g (va_up (va_up g.el ((x.adep - 1) - 1) (some (tb 0))) (x.adep - 1) (some (ta 0))))) (List.perm_append_comm_assoc (TbW dA tb y11) (TbW dA ta t) (VW dA h ad (VS.s_adep x (x.adep - 1))))).trans (List.perm_append_comm_assoc (LiW dA la (LI.s_el g (va_up (va_up g.el ((x.adep - 1) - 1) (some (tb 0))) (x.adep - 1) (some (ta 0))))) (TbW dA ta t) (TbW dA tb y11 ++ (VW dA h ad (VS.s_adep x (x.adep - 1)))))) hD
  have hP := pmP (show List.Perm (α := Nat × va_E) (TbW dA ta t ++ (LiW dA la (LI.s_el g (va_up (va_up g.el ((x.adep - 1) - 1) (some (tb 0))) (x.adep - 1) (some (ta 0)))) ++ (TbW dA tb y11 ++ (VW dA h ad (VS.s_adep x (x.adep - 1)))))) (TbW dA ta t ++ (TbW dA tb y11 ++ (LiW dA la (LI.s_el g (va_up (va_up g.el ((x.adep - 1) - 1) (some (tb 0))) (x.adep - 1) (some (ta 0)))) ++ (VW dA h ad (VS.s_adep x (x.adep - 1)))))) from List.Perm.append_left (TbW dA ta t) (List.perm_append_comm_assoc (LiW dA la (LI.s_el g (va_up (va_up g.el ((x.adep - 1) - 1) (some (tb 0))) (x.adep - 1) (some (ta 0))))) (TbW dA tb y11) (VW dA h ad (VS.s_adep x (x.adep - 1))))) hP
  have hD := pmD (show List.Perm (α := Nat × va_E) (TbW dA ta t ++ (LiW dA la (LI.s_el g (va_up (va_up g.el ((x.adep - 1) - 1) (some (tb 0))) (x.adep - 1) (some (ta 0)))) ++ (TbW dA tb y11 ++ (VW dA h ad (VS.s_adep x (x.adep - 1)))))) (TbW dA ta t ++ (TbW dA tb y11 ++ (LiW dA la (LI.s_el g (va_up (va_up g.el ((x.adep - 1) - 1) (some (tb 0))) (x.adep - 1) (some (ta 0)))) ++ (VW dA h ad (VS.s_adep x (x.adep - 1)))))) from List.Perm.append_left (TbW dA ta t) (List.perm_append_comm_assoc (LiW dA la (LI.s_el g (va_up (va_up g.el ((x.adep - 1) - 1) (some (tb 0))) (x.adep - 1) (some (ta 0))))) (TbW dA tb y11) (VW dA h ad (VS.s_adep x (x.adep - 1))))) hD
  have e9 : (LI.s_el g (va_up (va_up g.el ((x.adep - 1) - 1) (some (tb 0))) (x.adep - 1) (some (ta 0))) : LI) = LI.s_el g (va_up (va_up g.el (x.adep - 1 - 1) (some (tb 0))) (x.adep - 1) (some (ta 0))) := by rw [show (va_up (va_up g.el (x.adep - 1 - 1) (some (tb 0))) (x.adep - 1) (some (ta 0))) = (va_up (va_up g.el ((x.adep - 1) - 1) (some (tb 0))) (x.adep - 1) (some (ta 0))) from by rfl] <;> rfl
  rw [e9] at hP hD
  exact rfZ hx hb hr (bI_nar true) hlk hS y11 ⟨rfl, f_e_12⟩ hP hD (Nat.le_of_ble_eq_true rfl) (Nat.le_of_ble_eq_true rfl) d_A_join_119
set_option maxHeartbeats 4000000 in
set_option maxRecDepth 100000 in
theorem v_Ajoin_r (l : Launch) (D : va_G) (dA : Nat → ClassId) (sz : Nat) (h : Nat) (ad : Nat → Nat) (ta : Nat → Nat) (t : TB) (tb : Nat → Nat) (u : TB) (la : Nat → Nat) (g : LI) (x : VS) (sg : Int32) (NL : Nat → List Int32) (NR : Nat → List Int32) (hla : la 0 = ad 25) (hs : g.sz ≤ g.eN) (hn : g.eN ≤ 65536) (hd : 2 ≤ x.adep) (hd2 : x.adep ≤ g.sz) (he1 : g.el (x.adep - 2) = some (ta 0)) (he2 : g.el (x.adep - 1) = some (tb 0)) (hna : nmOk dA x.pl t.nm t.nc NL) (hnb : nmOk dA x.pl u.nm u.nc NR) (hc1 : t.nc ≤ 6) (hc2 : u.nc ≤ 6) (hnn : namB NL NR t.nc u.nc = false) (hu1 : ¬ u.nc = 0) (ht0 : t.nc = 0) (hop : isOp sg) (hcN : t.cN ≤ 65536) (hcM : u.cN ≤ 65536) (hw : u.wi = t.wi) (k1 : t.rc * t.wi ≤ t.cN) (k2 : t.rc ≤ 256) (k3 : u.rc * u.wi ≤ u.cN) (k4 : u.rc ≤ 256) (hrb : rsAll dA x.pl u.rs) (ht : ¬ t.rc = 0) : Met l ⟨"SeriesVault$Answers", "join", "(I)Z"⟩ [Cond.code ⟨"SeriesVault$Answers", "join", "(I)Z"⟩ prog_2_method_5_code 4 (some FieldType.boolean)] { frames := 4, cells := 0, slots := 0, locals := 108 } (pC D dA [.ref (ad 24), .int sg] (TbW dA ta t ++ (TbW dA tb u ++ (LiW dA la g ++ (VW dA h ad x)))) sz) (va_Qi (fun (r9 : Int32) (u9 : TB) => r9 = 1 ∧ u9 = (jsR sg u t u.rc).de) (fun (u9 : TB) t9 => bW D (va_A (TbW dA ta t ++ (TbW dA tb u ++ (LiW dA la g ++ (VW dA h ad x)))) sz) (TbW dA ta t ++ (TbW dA tb u9 ++ (LiW dA la (LI.s_el g (va_up (va_up g.el (x.adep - 1 - 1) (some (tb 0))) (x.adep - 1) (some (ta 0)))) ++ (VW dA h ad (VS.s_adep x (x.adep - 1)))))) t9) (va_A (TbW dA ta t ++ (TbW dA tb u ++ (LiW dA la g ++ (VW dA h ad x)))) sz)) 0 0 (va_A (TbW dA ta t ++ (TbW dA tb u ++ (LiW dA la g ++ (VW dA h ad x)))) sz) := by
  refine mkC (y := ⟨"SeriesVault$Answers", "join", "(I)Z"⟩) (cc := prog_2_method_5_code) (maxL := 4) (av := [.ref (ad 24), .int sg]) (ws := TbW dA ta t ++ (TbW dA tb u ++ (LiW dA la g ++ (VW dA h ad x)))) (sz := sz) (Qc := fun A => va_Qi (fun (r9 : Int32) (u9 : TB) => r9 = 1 ∧ u9 = (jsR sg u t u.rc).de) (fun (u9 : TB) t9 => bW D A (TbW dA ta t ++ (TbW dA tb u9 ++ (LiW dA la (LI.s_el g (va_up (va_up g.el (x.adep - 1 - 1) (some (tb 0))) (x.adep - 1) (some (ta 0)))) ++ (VW dA h ad (VS.s_adep x (x.adep - 1)))))) t9) A) (by decide) (Nat.le_of_ble_eq_true rfl) ?_
  intro A p e s m below meth c ls hsz hB
  obtain ⟨hx, hb, hr, hml, hown, hin, hlk, hE, hK, hP, hD, hS, hA, hN, hl⟩ := hB
  have hown : s.vm.findClass "SeriesVault$Answers" = some m.cls := hown
  have hl : lv_has ls 4 [(0, .ref (ad 24)), (1, .int sg)] := hl
  obtain ⟨H, hH⟩ : ∃ z, z = s.heap := ⟨_, rfl⟩
  have hP : va_P D vwCl (TbW dA ta t ++ (TbW dA tb u ++ (LiW dA la g ++ (VW dA h ad x)))) H := by rw [hH]; exact hP
  have hS : va_S A s.heap H [] := by rw [hH]; exact hS
  rw [← hH]
  refine lv_aload_n hx hb d_A_join_0 rfl (lv_at hl 0 rfl) ?_
  refine gF (v := .ref (ad 25)) hx hb hown hE hK hP 49 rfl rfl layA 0 (by decide) w799 rfl d_A_join_1 ?_
  rw [← hla]
  refine lv_aload_n hx hb d_A_join_4 rfl (lv_at hl 0 rfl) ?_
  refine gF (v := .int (nI x.adep)) hx hb hown hE hK hP 49 rfl rfl layA 1 (by decide) w1538 rfl d_A_join_5 ?_
  refine lv_iconst (v := 2) hx hb d_A_join_8 (by decide) ?_
  refine lv_isub hx hb d_A_join_9 (tpi (y := nI (x.adep - 2)) (pk_sub (a := x.adep) (b := 2) (by omega)) ?_)
  have hP := pmP (show List.Perm (α := Nat × va_E) (TbW dA ta t ++ (TbW dA tb u ++ (LiW dA la g ++ (VW dA h ad x)))) (LiW dA la g ++ (TbW dA ta t ++ (TbW dA tb u ++ (VW dA h ad x)))) from (List.Perm.append_left (TbW dA ta t) (List.perm_append_comm_assoc (TbW dA tb u) (LiW dA la g) (VW dA h ad x))).trans (List.perm_append_comm_assoc (TbW dA ta t) (LiW dA la g) (TbW dA tb u ++ (VW dA h ad x)))) hP
  have hD := pmD (show List.Perm (α := Nat × va_E) (TbW dA ta t ++ (TbW dA tb u ++ (LiW dA la g ++ (VW dA h ad x)))) (LiW dA la g ++ (TbW dA ta t ++ (TbW dA tb u ++ (VW dA h ad x)))) from (List.Perm.append_left (TbW dA ta t) (List.perm_append_comm_assoc (TbW dA tb u) (LiW dA la g) (VW dA h ad x))).trans (List.perm_append_comm_assoc (TbW dA ta t) (LiW dA la g) (TbW dA tb u ++ (VW dA h ad x)))) hD
  refine jkR (wr := []) (rnV (As := [.int (nI (x.adep - 2))]) (rest := []) hx hb hml hown hE hK (hN _ _ hS) hP hD (v_Lget l D dA H.size (TbW dA ta t ++ (TbW dA tb u ++ (VW dA h ad x))) la g (x.adep - 2) (ta 0) hs hn (show (x.adep - 2) < g.sz from by omega) he1) (q0 := 0) rfl rfl w1489 w1537 w1490 w1491 w680 rfl rfl ⟨⟨by decide, by decide⟩, rfl⟩ ⟨(Nat.le_of_ble_eq_true rfl), (Nat.le_of_ble_eq_true rfl)⟩ rfl hl.1 rfl (Nat.le_of_ble_eq_true rfl) d_A_join_10 ⟨(Nat.le_of_ble_eq_true rfl), (Nat.le_of_ble_eq_true rfl)⟩) hP hD hS hA (fun u2 r1 H locs hp9 hP hD hS => ?_)
  have hP : va_P D vwCl (LiW dA la g ++ (TbW dA ta t ++ (TbW dA tb u ++ (VW dA h ad x)))) H := hP
  have hD : va_D A (LiW dA la g ++ (TbW dA ta t ++ (TbW dA tb u ++ (VW dA h ad x)))) := hD
  have f_e_3 := hp9
  have e9 := f_e_3
  subst e9
  refine va_castE hx hb hown (hE.t w805 rfl) (va_recv hK hP (ci := 8) (q0 := 2) (q := ("SeriesVault$Table", TT, 7)) rfl rfl) d_A_join_13 ?_
  refine lv_astore_n hx hb d_A_join_16 rfl hl (by decide) rfl (fun ls hl => ?_)
  have hl : lv_has ls 4 [(2, .ref (ta 0)), (0, .ref (ad 24)), (1, .int sg)] := hl
  refine lv_aload_n hx hb d_A_join_17 rfl (lv_at hl 1 rfl) ?_
  refine gF (v := .ref (ad 25)) hx hb hown hE hK hP 49 rfl rfl layA 0 (by decide) w799 rfl d_A_join_18 ?_
  rw [← hla]
  refine lv_aload_n hx hb d_A_join_21 rfl (lv_at hl 1 rfl) ?_
  refine gF (v := .int (nI x.adep)) hx hb hown hE hK hP 49 rfl rfl layA 1 (by decide) w1538 rfl d_A_join_22 ?_
  refine lv_iconst (v := 1) hx hb d_A_join_25 (by decide) ?_
  refine lv_isub hx hb d_A_join_26 (tpi (y := nI (x.adep - 1)) (pk_sub (a := x.adep) (b := 1) (by omega)) ?_)
  refine jkR (wr := []) (rnV (As := [.int (nI (x.adep - 1))]) (rest := []) hx hb hml hown hE hK (hN _ _ hS) hP hD (v_Lget l D dA H.size (TbW dA ta t ++ (TbW dA tb u ++ (VW dA h ad x))) la g (x.adep - 1) (tb 0) hs hn (show (x.adep - 1) < g.sz from by omega) he2) (q0 := 0) rfl rfl w1489 w1537 w1490 w1491 w680 rfl rfl ⟨⟨by decide, by decide⟩, rfl⟩ ⟨(Nat.le_of_ble_eq_true rfl), (Nat.le_of_ble_eq_true rfl)⟩ rfl hl.1 rfl (Nat.le_of_ble_eq_true rfl) d_A_join_27 ⟨(Nat.le_of_ble_eq_true rfl), (Nat.le_of_ble_eq_true rfl)⟩) hP hD hS hA (fun u5 r4 H locs hp9 hP hD hS => ?_)
  have hP : va_P D vwCl (LiW dA la g ++ (TbW dA ta t ++ (TbW dA tb u ++ (VW dA h ad x)))) H := hP
  have hD : va_D A (LiW dA la g ++ (TbW dA ta t ++ (TbW dA tb u ++ (VW dA h ad x)))) := hD
  have f_e_6 := hp9
  have e9 := f_e_6
  subst e9
  refine va_castE hx hb hown (hE.t w805 rfl) (va_recv hK hP (ci := 8) (q0 := 7) (q := ("SeriesVault$Table", TT, 7)) rfl rfl) d_A_join_30 ?_
  refine lv_astore_n hx hb d_A_join_33 rfl hl (by decide) rfl (fun ls hl => ?_)
  have hl : lv_has ls 4 [(3, .ref (tb 0)), (2, .ref (ta 0)), (0, .ref (ad 24)), (1, .int sg)] := hl
  refine lv_aload_n hx hb d_A_join_34 rfl (lv_at hl 2 rfl) ?_
  refine lv_dup hx hb d_A_join_35 rfl ?_
  refine gF (v := .int (nI x.adep)) hx hb hown hE hK hP 49 rfl rfl layA 1 (by decide) w1538 rfl d_A_join_36 ?_
  refine lv_iconst (v := 1) hx hb d_A_join_39 (by decide) ?_
  refine lv_isub hx hb d_A_join_40 (tpi (y := nI (x.adep - 1)) (pk_sub (a := x.adep) (b := 1) (by omega)) ?_)
  refine pF (v := .int (nI (x.adep - 1))) hx hb hown hE hK hP hD hS 49 rfl rfl layA tyA tokA nmA 1 (by decide) w1538 rfl rfl rfl (Nat.le_of_ble_eq_true rfl) d_A_join_41 (fun H locs hP hD hS => ?_)
  have hP : va_P D vwCl (LiW dA la g ++ (TbW dA ta t ++ (TbW dA tb u ++ (VW dA h ad (VS.s_adep x (x.adep - 1)))))) H := hP
  have hD : va_D A (LiW dA la g ++ (TbW dA ta t ++ (TbW dA tb u ++ (VW dA h ad (VS.s_adep x (x.adep - 1)))))) := hD
  refine lv_aload_n hx hb d_A_join_44 rfl (lv_at hl 1 rfl) ?_
  refine lv_aload_n hx hb d_A_join_45 rfl (lv_at hl 0 rfl) ?_
  have hP := pmP (show List.Perm (α := Nat × va_E) (LiW dA la g ++ (TbW dA ta t ++ (TbW dA tb u ++ (VW dA h ad (VS.s_adep x (x.adep - 1)))))) (TbW dA ta t ++ (LiW dA la g ++ (TbW dA tb u ++ (VW dA h ad (VS.s_adep x (x.adep - 1)))))) from List.perm_append_comm_assoc (LiW dA la g) (TbW dA ta t) (TbW dA tb u ++ (VW dA h ad (VS.s_adep x (x.adep - 1))))) hP
  have hD := pmD (show List.Perm (α := Nat × va_E) (LiW dA la g ++ (TbW dA ta t ++ (TbW dA tb u ++ (VW dA h ad (VS.s_adep x (x.adep - 1)))))) (TbW dA ta t ++ (LiW dA la g ++ (TbW dA tb u ++ (VW dA h ad (VS.s_adep x (x.adep - 1)))))) from List.perm_append_comm_assoc (LiW dA la g) (TbW dA ta t) (TbW dA tb u ++ (VW dA h ad (VS.s_adep x (x.adep - 1))))) hD
  have hP := pmP (show List.Perm (α := Nat × va_E) (TbW dA ta t ++ (LiW dA la g ++ (TbW dA tb u ++ (VW dA h ad (VS.s_adep x (x.adep - 1)))))) (TbW dA ta t ++ (TbW dA tb u ++ (LiW dA la g ++ (VW dA h ad (VS.s_adep x (x.adep - 1)))))) from List.Perm.append_left (TbW dA ta t) (List.perm_append_comm_assoc (LiW dA la g) (TbW dA tb u) (VW dA h ad (VS.s_adep x (x.adep - 1))))) hP
  have hD := pmD (show List.Perm (α := Nat × va_E) (TbW dA ta t ++ (LiW dA la g ++ (TbW dA tb u ++ (VW dA h ad (VS.s_adep x (x.adep - 1)))))) (TbW dA ta t ++ (TbW dA tb u ++ (LiW dA la g ++ (VW dA h ad (VS.s_adep x (x.adep - 1)))))) from List.Perm.append_left (TbW dA ta t) (List.perm_append_comm_assoc (LiW dA la g) (TbW dA tb u) (VW dA h ad (VS.s_adep x (x.adep - 1))))) hD
  refine jkI (wr := []) (rnV (As := [.ref (tb 0)]) (rest := []) hx hb hml hown hE hK (hN _ _ hS) hP hD (v_ThasNamesOf l D dA H.size (LiW dA la g ++ (VW dA h ad (VS.s_adep x (x.adep - 1)))) ta t tb u NL NR (nmOk_m (fun _ hm => (List.mem_append_right _ (plm hm))) hna) (nmOk_m (fun _ hm => (List.mem_append_right _ (plm hm))) hnb) hc1 hc2) (q0 := 0) rfl rfl w1541 w1540 w1542 w1543 w807 rfl rfl ⟨⟨by decide, by decide⟩, rfl⟩ ⟨(Nat.le_of_ble_eq_true rfl), (Nat.le_of_ble_eq_true rfl)⟩ rfl hl.1 rfl (Nat.le_of_ble_eq_true rfl) d_A_join_46 ⟨(Nat.le_of_ble_eq_true rfl), (Nat.le_of_ble_eq_true rfl)⟩) hP hD hS hA (fun r7 u8 H locs hp9 hP hD hS => ?_)
  have hP : va_P D vwCl (TbW dA ta t ++ (TbW dA tb u ++ (LiW dA la g ++ (VW dA h ad (VS.s_adep x (x.adep - 1)))))) H := hP
  have hD : va_D A (TbW dA ta t ++ (TbW dA tb u ++ (LiW dA la g ++ (VW dA h ad (VS.s_adep x (x.adep - 1)))))) := hD
  replace hp9 : bI (namB NL NR t.nc u.nc) = r7 := Eq.symm hp9
  subst hp9
  refine lv_if_eq hx hb d_A_join_49 (tgt := 60) rfl (fun _ => ?_) (fun h9 => absurd (by rw [hnn]; decide) h9)
  refine lv_aload_n hx hb d_A_join_60 rfl (lv_at hl 0 rfl) ?_
  refine gFN (v := .int (nI u.nc)) hx hb hown hE hK hP 5 rfl rfl layT 1 (by decide) w1544 rfl d_A_join_61 ?_
  refine lv_if_ne hx hb d_A_join_64 (tgt := 76) rfl (fun _ => ?_) (fun h9 => absurd h9 (mt (nI_eq (a := u.nc) (b := 0) (by omega) (by omega)).mp hu1))
  refine lv_aload_n hx hb d_A_join_76 rfl (lv_at hl 1 rfl) ?_
  refine gFN (v := .int (nI t.nc)) hx hb hown hE hK hP 0 rfl rfl layT 1 (by decide) w1544 rfl d_A_join_77 ?_
  refine lv_if_ne hx hb d_A_join_80 (tgt := 120) rfl (fun h9 => absurd ((nI_eq (a := t.nc) (b := 0) (by omega) (by omega)).mpr ht0) h9) (fun _ => ?_)
  refine lv_aload_n hx hb d_A_join_83 rfl (lv_at hl 0 rfl) ?_
  refine lv_iload_n hx hb d_A_join_84 rfl (lv_at hl 3 rfl) ?_
  refine lv_aload_n hx hb d_A_join_85 rfl (lv_at hl 1 rfl) ?_
  refine lv_iconst (v := 1) hx hb d_A_join_86 (by decide) ?_
  have hP := pmP (show List.Perm (α := Nat × va_E) (TbW dA ta t ++ (TbW dA tb u ++ (LiW dA la g ++ (VW dA h ad (VS.s_adep x (x.adep - 1)))))) (TbW dA tb u ++ (TbW dA ta t ++ (LiW dA la g ++ (VW dA h ad (VS.s_adep x (x.adep - 1)))))) from List.perm_append_comm_assoc (TbW dA ta t) (TbW dA tb u) (LiW dA la g ++ (VW dA h ad (VS.s_adep x (x.adep - 1))))) hP
  have hD := pmD (show List.Perm (α := Nat × va_E) (TbW dA ta t ++ (TbW dA tb u ++ (LiW dA la g ++ (VW dA h ad (VS.s_adep x (x.adep - 1)))))) (TbW dA tb u ++ (TbW dA ta t ++ (LiW dA la g ++ (VW dA h ad (VS.s_adep x (x.adep - 1)))))) from List.perm_append_comm_assoc (TbW dA ta t) (TbW dA tb u) (LiW dA la g ++ (VW dA h ad (VS.s_adep x (x.adep - 1))))) hD
  refine jkV (wr := []) (rnV (As := [.int sg, .ref (ta 0), .int 1]) (rest := []) hx hb hml hown hE hK (hN _ _ hS) hP hD (v_TjoinWithSingle_r l D dA H.size (LiW dA la g ++ (VW dA h ad (VS.s_adep x (x.adep - 1)))) tb u ta t sg hop hcM hcN k3 k4 hw.symm k1 k2 (rsAll_m (fun _ hm => (List.mem_append_right _ (plm hm))) hrb) ht) (q0 := 0) rfl rfl w1550 w1549 w1551 w1552 w807 rfl rfl ⟨⟨by decide, by decide⟩, rfl⟩ ⟨(Nat.le_of_ble_eq_true rfl), (Nat.le_of_ble_eq_true rfl)⟩ rfl hl.1 rfl (Nat.le_of_ble_eq_true rfl) d_A_join_87 ⟨(Nat.le_of_ble_eq_true rfl), (Nat.le_of_ble_eq_true rfl)⟩) hP hD hS hA (fun u10 H locs hp9 hP hD hS => ?_)
  obtain ⟨y11, h9u⟩ : ∃ z9, z9 = u10 := ⟨_, rfl⟩
  subst h9u
  have hP : va_P D vwCl (TbW dA tb y11 ++ (TbW dA ta t ++ (LiW dA la g ++ (VW dA h ad (VS.s_adep x (x.adep - 1)))))) H := hP
  have hD : va_D A (TbW dA tb y11 ++ (TbW dA ta t ++ (LiW dA la g ++ (VW dA h ad (VS.s_adep x (x.adep - 1)))))) := hD
  have f_e_12 := hp9
  refine lv_aload_n hx hb d_A_join_90 rfl (lv_at hl 2 rfl) ?_
  refine gF (v := .ref (ad 25)) hx hb hown hE hK hP 49 rfl rfl layA 0 (by decide) w799 rfl d_A_join_91 ?_
  rw [← hla]
  refine lv_aload_n hx hb d_A_join_94 rfl (lv_at hl 2 rfl) ?_
  refine gF (v := .int (nI (x.adep - 1))) hx hb hown hE hK hP 49 rfl rfl layA 1 (by decide) w1538 rfl d_A_join_95 ?_
  refine lv_iconst (v := 1) hx hb d_A_join_98 (by decide) ?_
  refine lv_isub hx hb d_A_join_99 (tpi (y := nI ((x.adep - 1) - 1)) (pk_sub (a := x.adep - 1) (b := 1) (by omega)) ?_)
  refine lv_aload_n hx hb d_A_join_100 rfl (lv_at hl 0 rfl) ?_
  have hP := pmP (show List.Perm (α := Nat × va_E) (TbW dA tb y11 ++ (TbW dA ta t ++ (LiW dA la g ++ (VW dA h ad (VS.s_adep x (x.adep - 1)))))) (LiW dA la g ++ (TbW dA tb y11 ++ (TbW dA ta t ++ (VW dA h ad (VS.s_adep x (x.adep - 1)))))) from (List.Perm.append_left (TbW dA tb y11) (List.perm_append_comm_assoc (TbW dA ta t) (LiW dA la g) (VW dA h ad (VS.s_adep x (x.adep - 1))))).trans (List.perm_append_comm_assoc (TbW dA tb y11) (LiW dA la g) (TbW dA ta t ++ (VW dA h ad (VS.s_adep x (x.adep - 1)))))) hP
  have hD := pmD (show List.Perm (α := Nat × va_E) (TbW dA tb y11 ++ (TbW dA ta t ++ (LiW dA la g ++ (VW dA h ad (VS.s_adep x (x.adep - 1)))))) (LiW dA la g ++ (TbW dA tb y11 ++ (TbW dA ta t ++ (VW dA h ad (VS.s_adep x (x.adep - 1)))))) from (List.Perm.append_left (TbW dA tb y11) (List.perm_append_comm_assoc (TbW dA ta t) (LiW dA la g) (VW dA h ad (VS.s_adep x (x.adep - 1))))).trans (List.perm_append_comm_assoc (TbW dA tb y11) (LiW dA la g) (TbW dA ta t ++ (VW dA h ad (VS.s_adep x (x.adep - 1)))))) hD
  refine jkR (wr := []) (rnV (As := [.int (nI ((x.adep - 1) - 1)), .ref (tb 0)]) (rest := []) hx hb hml hown hE hK (hN _ _ hS) hP hD (v_Lset l D dA H.size (TbW dA tb y11 ++ (TbW dA ta t ++ (VW dA h ad (VS.s_adep x (x.adep - 1))))) la g ((x.adep - 1) - 1) (ta 0) (tb 0) ([.ref (tb 1), .int (nI y11.nc), .int (nI y11.wi), .int (nI y11.rc), .ref (tb 2), .ref (tb 3), .ref y11.cA]) hs hn (show ((x.adep - 1) - 1) < g.sz from by omega) (show g.el (x.adep - 1 - 1) = some (ta 0) by rw [show x.adep - 1 - 1 = x.adep - 2 by omega]; exact he1) (List.mem_of_getElem? (i := 0) rfl)) (q0 := 0) rfl rfl w1554 w1553 w1555 w1556 w680 rfl rfl ⟨⟨by decide, by decide⟩, rfl⟩ ⟨(Nat.le_of_ble_eq_true rfl), (Nat.le_of_ble_eq_true rfl)⟩ rfl hl.1 rfl (Nat.le_of_ble_eq_true rfl) d_A_join_101 ⟨(Nat.le_of_ble_eq_true rfl), (Nat.le_of_ble_eq_true rfl)⟩) hP hD hS hA (fun u14 r13 H locs hp9 hP hD hS => ?_)
  have hP : va_P D vwCl (LiW dA la (LI.s_el g (va_up g.el ((x.adep - 1) - 1) (some (tb 0)))) ++ (TbW dA tb y11 ++ (TbW dA ta t ++ (VW dA h ad (VS.s_adep x (x.adep - 1)))))) H := hP
  have hD : va_D A (LiW dA la (LI.s_el g (va_up g.el ((x.adep - 1) - 1) (some (tb 0)))) ++ (TbW dA tb y11 ++ (TbW dA ta t ++ (VW dA h ad (VS.s_adep x (x.adep - 1)))))) := hD
  have f_e_15 := hp9
  refine lv_pop hx hb d_A_join_104 rfl ?_
  refine lv_aload_n hx hb d_A_join_105 rfl (lv_at hl 2 rfl) ?_
  refine gF (v := .ref (ad 25)) hx hb hown hE hK hP 49 rfl rfl layA 0 (by decide) w799 rfl d_A_join_106 ?_
  rw [← hla]
  refine lv_aload_n hx hb d_A_join_109 rfl (lv_at hl 2 rfl) ?_
  refine gF (v := .int (nI (x.adep - 1))) hx hb hown hE hK hP 49 rfl rfl layA 1 (by decide) w1538 rfl d_A_join_110 ?_
  refine lv_aload_n hx hb d_A_join_113 rfl (lv_at hl 1 rfl) ?_
  refine jkR (wr := []) (rnV (As := [.int (nI (x.adep - 1)), .ref (ta 0)]) (rest := []) hx hb hml hown hE hK (hN _ _ hS) hP hD (v_Lset l D dA H.size (TbW dA tb y11 ++ (TbW dA ta t ++ (VW dA h ad (VS.s_adep x (x.adep - 1))))) la (LI.s_el g (va_up g.el ((x.adep - 1) - 1) (some (tb 0)))) (x.adep - 1) (tb 0) (ta 0) ([.ref (ta 1), .int (nI t.nc), .int (nI t.wi), .int (nI t.rc), .ref (ta 2), .ref (ta 3), .ref t.cA]) hs hn (show (x.adep - 1) < g.sz from by omega) (show va_up g.el (x.adep - 1 - 1) (some (tb 0)) (x.adep - 1) = some (tb 0) by rw [va_up_ne _ _ (by omega)]; exact he2) (List.mem_of_getElem? (i := 5) rfl)) (q0 := 0) rfl rfl w1554 w1553 w1555 w1556 w680 rfl rfl ⟨⟨by decide, by decide⟩, rfl⟩ ⟨(Nat.le_of_ble_eq_true rfl), (Nat.le_of_ble_eq_true rfl)⟩ rfl hl.1 rfl (Nat.le_of_ble_eq_true rfl) d_A_join_114 ⟨(Nat.le_of_ble_eq_true rfl), (Nat.le_of_ble_eq_true rfl)⟩) hP hD hS hA (fun u17 r16 H locs hp9 hP hD hS => ?_)
  have hP : va_P D vwCl (LiW dA la (LI.s_el g (va_up (va_up g.el ((x.adep - 1) - 1) (some (tb 0))) (x.adep - 1) (some (ta 0)))) ++ (TbW dA tb y11 ++ (TbW dA ta t ++ (VW dA h ad (VS.s_adep x (x.adep - 1)))))) H := hP
  have hD : va_D A (LiW dA la (LI.s_el g (va_up (va_up g.el ((x.adep - 1) - 1) (some (tb 0))) (x.adep - 1) (some (ta 0)))) ++ (TbW dA tb y11 ++ (TbW dA ta t ++ (VW dA h ad (VS.s_adep x (x.adep - 1)))))) := hD
  have f_e_18 := hp9
  refine lv_pop hx hb d_A_join_117 rfl ?_
  refine lv_iconst (v := 1) hx hb d_A_join_118 (by decide) ?_
  have hP := pmP (show List.Perm (α := Nat × va_E) (LiW dA la (LI.s_el g (va_up (va_up g.el ((x.adep - 1) - 1) (some (tb 0))) (x.adep - 1) (some (ta 0)))) ++ (TbW dA tb y11 ++ (TbW dA ta t ++ (VW dA h ad (VS.s_adep x (x.adep - 1)))))) (TbW dA ta t ++ (LiW dA la (LI.s_el g (va_up (va_up g.el ((x.adep - 1) - 1) (some (tb 0))) (x.adep - 1) (some (ta 0)))) ++ (TbW dA tb y11 ++ (VW dA h ad (VS.s_adep x (x.adep - 1)))))) from (List.Perm.append_left (LiW dA la (LI.s_el g (va_up (va_up g.el ((x.adep - 1) - 1) (some (tb 0))) (x.adep - 1) (some (ta 0))))) (List.perm_append_comm_assoc (TbW dA tb y11) (TbW dA ta t) (VW dA h ad (VS.s_adep x (x.adep - 1))))).trans (List.perm_append_comm_assoc (LiW dA la (LI.s_el g (va_up (va_up g.el ((x.adep - 1) - 1) (some (tb 0))) (x.adep - 1) (some (ta 0))))) (TbW dA ta t) (TbW dA tb y11 ++ (VW dA h ad (VS.s_adep x (x.adep - 1)))))) hP
  have hD := pmD (show List.Perm (α := Nat × va_E) (LiW dA la (LI.s_el g (va_up (va_up g.el ((x.adep - 1) - 1) (some (tb 0))) (x.adep - 1) (some (ta 0)))) ++ (TbW dA tb y11 ++ (TbW dA ta t ++ (VW dA h ad (VS.s_adep x (x.adep - 1)))))) (TbW dA ta t ++ (LiW dA la (LI.s_el g (va_up (va_up g.el ((x.adep - 1) - 1) (some (tb 0))) (x.adep - 1) (some (ta 0)))) ++ (TbW dA tb y11 ++ (VW dA h ad (VS.s_adep x (x.adep - 1)))))) from (List.Perm.append_left (LiW dA la (LI.s_el g (va_up (va_up g.el ((x.adep - 1) - 1) (some (tb 0))) (x.adep - 1) (some (ta 0))))) (List.perm_append_comm_assoc (TbW dA tb y11) (TbW dA ta t) (VW dA h ad (VS.s_adep x (x.adep - 1))))).trans (List.perm_append_comm_assoc (LiW dA la (LI.s_el g (va_up (va_up g.el ((x.adep - 1) - 1) (some (tb 0))) (x.adep - 1) (some (ta 0))))) (TbW dA ta t) (TbW dA tb y11 ++ (VW dA h ad (VS.s_adep x (x.adep - 1)))))) hD
  have hP := pmP (show List.Perm (α := Nat × va_E) (TbW dA ta t ++ (LiW dA la (LI.s_el g (va_up (va_up g.el ((x.adep - 1) - 1) (some (tb 0))) (x.adep - 1) (some (ta 0)))) ++ (TbW dA tb y11 ++ (VW dA h ad (VS.s_adep x (x.adep - 1)))))) (TbW dA ta t ++ (TbW dA tb y11 ++ (LiW dA la (LI.s_el g (va_up (va_up g.el ((x.adep - 1) - 1) (some (tb 0))) (x.adep - 1) (some (ta 0)))) ++ (VW dA h ad (VS.s_adep x (x.adep - 1)))))) from List.Perm.append_left (TbW dA ta t) (List.perm_append_comm_assoc (LiW dA la (LI.s_el g (va_up (va_up g.el ((x.adep - 1) - 1) (some (tb 0))) (x.adep - 1) (some (ta 0))))) (TbW dA tb y11) (VW dA h ad (VS.s_adep x (x.adep - 1))))) hP
  have hD := pmD (show List.Perm (α := Nat × va_E) (TbW dA ta t ++ (LiW dA la (LI.s_el g (va_up (va_up g.el ((x.adep - 1) - 1) (some (tb 0))) (x.adep - 1) (some (ta 0)))) ++ (TbW dA tb y11 ++ (VW dA h ad (VS.s_adep x (x.adep - 1)))))) (TbW dA ta t ++ (TbW dA tb y11 ++ (LiW dA la (LI.s_el g (va_up (va_up g.el ((x.adep - 1) - 1) (some (tb 0))) (x.adep - 1) (some (ta 0)))) ++ (VW dA h ad (VS.s_adep x (x.adep - 1)))))) from List.Perm.append_left (TbW dA ta t) (List.perm_append_comm_assoc (LiW dA la (LI.s_el g (va_up (va_up g.el ((x.adep - 1) - 1) (some (tb 0))) (x.adep - 1) (some (ta 0))))) (TbW dA tb y11) (VW dA h ad (VS.s_adep x (x.adep - 1))))) hD
  have e9 : (LI.s_el g (va_up (va_up g.el ((x.adep - 1) - 1) (some (tb 0))) (x.adep - 1) (some (ta 0))) : LI) = LI.s_el g (va_up (va_up g.el (x.adep - 1 - 1) (some (tb 0))) (x.adep - 1) (some (ta 0))) := by rw [show (va_up (va_up g.el (x.adep - 1 - 1) (some (tb 0))) (x.adep - 1) (some (ta 0))) = (va_up (va_up g.el ((x.adep - 1) - 1) (some (tb 0))) (x.adep - 1) (some (ta 0))) from by rfl] <;> rfl
  rw [e9] at hP hD
  exact rfZ hx hb hr (bI_nar true) hlk hS y11 ⟨rfl, f_e_12⟩ hP hD (Nat.le_of_ble_eq_true rfl) (Nat.le_of_ble_eq_true rfl) d_A_join_119
