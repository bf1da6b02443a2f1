theorem d_A_table_0 : decode prog_2_method_2_code 0 = .ok (.aload_n 0, 1) := by decide +kernel
theorem d_A_table_1 : decode prog_2_method_2_code 1 = .ok (.getfield 12, 3) := by decide +kernel
theorem d_A_table_4 : decode prog_2_method_2_code 4 = .ok (.iconst 0, 1) := by decide +kernel
theorem d_A_table_5 : decode prog_2_method_2_code 5 = .ok (.invokevirtual 43, 3) := by decide +kernel
theorem d_A_table_8 : decode prog_2_method_2_code 8 = .ok (.checkcast 36, 3) := by decide +kernel
theorem d_A_table_11 : decode prog_2_method_2_code 11 = .ok (.areturn, 1) := by decide +kernel
theorem w1537 : Cond.methodLink "SeriesVault$Answers" 43 ⟨"java/util/ArrayList", "get", "(I)Ljava/lang/Object;"⟩ ∈ aW := aw_of (tb_3 (List.mem_of_getElem? (i := 32) rfl)) rfl
set_option maxHeartbeats 4000000 in
set_option maxRecDepth 100000 in
theorem v_Atable (l : Launch) (D : va_G) (dA : Nat → ClassId) (sz : Nat) (h : Nat) (ad : Nat → Nat) (ta : Nat → Nat) (t : TB) (la : Nat → Nat) (g : LI) (x : VS) (hla : la 0 = ad 25) (hs : g.sz ≤ g.eN) (hn : g.eN ≤ 65536) (h1 : 0 < g.sz) (hel : g.el 0 = some (ta 0)) : Met l ⟨"SeriesVault$Answers", "table", "()LSeriesVault$Table;"⟩ [Cond.code ⟨"SeriesVault$Answers", "table", "()LSeriesVault$Table;"⟩ prog_2_method_2_code 1 (some (FieldType.object "SeriesVault$Table"))] { frames := 4, cells := 0, slots := 0, locals := 64 } (pC D dA [.ref (ad 24)] (TbW dA ta t ++ (LiW dA la g ++ (VW dA h ad x))) sz) (va_Qr (fun (_ : Unit) => True) (fun (u9 : Unit) (r9 : Nat) t9 => (ta 0 = r9) ∧ bW D (va_A (TbW dA ta t ++ (LiW dA la g ++ (VW dA h ad x))) sz) (TbW dA ta t ++ (LiW dA la g ++ (VW dA h ad x))) t9) (va_A (TbW dA ta t ++ (LiW dA la g ++ (VW dA h ad x))) sz)) 0 0 (va_A (TbW dA ta t ++ (LiW dA la g ++ (VW dA h ad x))) sz) := by
  refine mkC (y := ⟨"SeriesVault$Answers", "table", "()LSeriesVault$Table;"⟩) (cc := prog_2_method_2_code) (maxL := 1) (av := [.ref (ad 24)]) (ws := TbW dA ta t ++ (LiW dA la g ++ (VW dA h ad x))) (sz := sz) (Qc := fun A => va_Qr (fun (_ : Unit) => True) (fun (u9 : Unit) (r9 : Nat) t9 => (ta 0 = r9) ∧ bW D A (TbW dA ta t ++ (LiW dA la g ++ (VW dA h ad x))) t9) A) (by decide) (Nat.le_of_ble_eq_true rfl) ?_
  intro A p e s m below meth c ls hsz hB
  obtain ⟨hx, hb, hr, hml, hown, hin, hlk, hE, hK, hP, hD, hS, hA, hN, hl⟩ := hB
  have hown : s.vm.findClass "SeriesVault$Answers" = some m.cls := hown
  have hl : lv_has ls 1 [(0, .ref (ad 24))] := hl
  obtain ⟨H, hH⟩ : ∃ z, z = s.heap := ⟨_, rfl⟩
  have hP : va_P D vwCl (TbW dA ta t ++ (LiW dA la g ++ (VW dA h ad x))) H := by rw [hH]; exact hP
  have hS : va_S A s.heap H [] := by rw [hH]; exact hS
  rw [← hH]
  refine lv_aload_n hx hb d_A_table_0 rfl (lv_at hl 0 rfl) ?_
  refine gF (v := .ref (ad 25)) hx hb hown hE hK hP 44 rfl rfl layA 0 (by decide) w799 rfl d_A_table_1 ?_
  rw [← hla]
  refine lv_iconst (v := 0) hx hb d_A_table_4 (by decide) ?_
  have hP := pmP (show List.Perm (α := Nat × va_E) (TbW dA ta t ++ (LiW dA la g ++ (VW dA h ad x))) (LiW dA la g ++ (TbW dA ta t ++ (VW dA h ad x))) from List.perm_append_comm_assoc (TbW dA ta t) (LiW dA la g) (VW dA h ad x)) hP
  have hD := pmD (show List.Perm (α := Nat × va_E) (TbW dA ta t ++ (LiW dA la g ++ (VW dA h ad x))) (LiW dA la g ++ (TbW dA ta t ++ (VW dA h ad x))) from List.perm_append_comm_assoc (TbW dA ta t) (LiW dA la g) (VW dA h ad x)) hD
  refine jkR (wr := []) (rnV (As := [.int 0]) (rest := []) hx hb hml hown hE hK (hN _ _ hS) hP hD (v_Lget l D dA H.size (TbW dA ta t ++ (VW dA h ad x)) la g 0 (ta 0) hs hn (show 0 < g.sz from by omega) hel) (q0 := 0) rfl rfl w1489 w1537 w1490 w1491 w680 rfl rfl ⟨⟨by decide, by decide⟩, rfl⟩ ⟨(Nat.le_of_ble_eq_true rfl), (Nat.le_of_ble_eq_true rfl)⟩ rfl hl.1 rfl (Nat.le_of_ble_eq_true rfl) d_A_table_5 ⟨(Nat.le_of_ble_eq_true rfl), (Nat.le_of_ble_eq_true rfl)⟩) hP hD hS hA (fun u2 r1 H locs hp9 hP hD hS => ?_)
  have hP : va_P D vwCl (LiW dA la g ++ (TbW dA ta t ++ (VW dA h ad x))) H := hP
  have hD : va_D A (LiW dA la g ++ (TbW dA ta t ++ (VW dA h ad x))) := hD
  have f_e_3 := hp9
  have e9 := f_e_3
  subst e9
  refine va_castE hx hb hown (hE.t w805 rfl) (va_recv hK hP (ci := 8) (q0 := 2) (q := ("SeriesVault$Table", TT, 7)) rfl rfl) d_A_table_8 ?_
  have hP := pmP (show List.Perm (α := Nat × va_E) (LiW dA la g ++ (TbW dA ta t ++ (VW dA h ad x))) (TbW dA ta t ++ (LiW dA la g ++ (VW dA h ad x))) from List.perm_append_comm_assoc (LiW dA la g) (TbW dA ta t) (VW dA h ad x)) hP
  have hD := pmD (show List.Perm (α := Nat × va_E) (LiW dA la g ++ (TbW dA ta t ++ (VW dA h ad x))) (TbW dA ta t ++ (LiW dA la g ++ (VW dA h ad x))) from List.perm_append_comm_assoc (LiW dA la g) (TbW dA ta t) (VW dA h ad x)) hD
  exact rkR hx hb hr (Or.inl ⟨_, rfl⟩) hlk hS () rfl hP hD (Nat.le_of_ble_eq_true rfl) (Nat.le_of_ble_eq_true rfl) d_A_table_11
theorem d_A_push_0 : decode prog_2_method_4_code 0 = .ok (.aload_n 0, 1) := by decide +kernel
theorem d_A_push_1 : decode prog_2_method_4_code 1 = .ok (.getfield 58, 3) := by decide +kernel
theorem d_A_push_4 : decode prog_2_method_4_code 4 = .ok (.aload_n 0, 1) := by decide +kernel
theorem d_A_push_5 : decode prog_2_method_4_code 5 = .ok (.getfield 12, 3) := by decide +kernel
theorem d_A_push_8 : decode prog_2_method_4_code 8 = .ok (.invokevirtual 66, 3) := by decide +kernel
theorem d_A_push_11 : decode prog_2_method_4_code 11 = .ok (.if_icmp .ne 18, 3) := by decide +kernel
theorem d_A_push_29 : decode prog_2_method_4_code 29 = .ok (.aload_n 0, 1) := by decide +kernel
theorem d_A_push_30 : decode prog_2_method_4_code 30 = .ok (.dup, 1) := by decide +kernel
theorem d_A_push_31 : decode prog_2_method_4_code 31 = .ok (.getfield 58, 3) := by decide +kernel
theorem d_A_push_34 : decode prog_2_method_4_code 34 = .ok (.iconst 1, 1) := by decide +kernel
theorem d_A_push_35 : decode prog_2_method_4_code 35 = .ok (.iadd, 1) := by decide +kernel
theorem d_A_push_36 : decode prog_2_method_4_code 36 = .ok (.putfield 58, 3) := by decide +kernel
theorem d_A_push_39 : decode prog_2_method_4_code 39 = .ok (.aload_n 0, 1) := by decide +kernel
theorem d_A_push_40 : decode prog_2_method_4_code 40 = .ok (.getfield 12, 3) := by decide +kernel
theorem d_A_push_43 : decode prog_2_method_4_code 43 = .ok (.aload_n 0, 1) := by decide +kernel
theorem d_A_push_44 : decode prog_2_method_4_code 44 = .ok (.getfield 58, 3) := by decide +kernel
theorem d_A_push_47 : decode prog_2_method_4_code 47 = .ok (.iconst 1, 1) := by decide +kernel
theorem d_A_push_48 : decode prog_2_method_4_code 48 = .ok (.isub, 1) := by decide +kernel
theorem d_A_push_49 : decode prog_2_method_4_code 49 = .ok (.invokevirtual 43, 3) := by decide +kernel
theorem d_A_push_52 : decode prog_2_method_4_code 52 = .ok (.checkcast 36, 3) := by decide +kernel
theorem d_A_push_55 : decode prog_2_method_4_code 55 = .ok (.areturn, 1) := by decide +kernel
theorem w1538 : Cond.fieldLink "SeriesVault$Answers" 58 "SeriesVault$Answers" "depth" "I" ∈ aW := aw_of (tb_2 (List.mem_of_getElem? (i := 150) rfl)) rfl
theorem w1539 : Cond.methodLink "SeriesVault$Answers" 66 ⟨"java/util/ArrayList", "size", "()I"⟩ ∈ aW := aw_of (tb_7 (List.mem_of_getElem? (i := 134) rfl)) rfl
set_option maxHeartbeats 4000000 in
set_option maxRecDepth 100000 in
theorem v_push_0 (l : Launch) (D : va_G) (dA : Nat → ClassId) (sz : Nat) (h : Nat) (ad : Nat → Nat) (ta : Nat → Nat) (t : TB) (la : Nat → Nat) (g : LI) (x : VS) (hla : la 0 = ad 25) (hs : g.sz ≤ g.eN) (hn : g.eN ≤ 65536) (h1 : x.adep < g.sz) (hel : g.el x.adep = some (ta 0)) : Met l ⟨"SeriesVault$Answers", "push", "()LSeriesVault$Table;"⟩ [Cond.code ⟨"SeriesVault$Answers", "push", "()LSeriesVault$Table;"⟩ prog_2_method_4_code 1 (some (FieldType.object "SeriesVault$Table"))] { frames := 4, cells := 0, slots := 0, locals := 64 } (pC D dA [.ref (ad 24)] (TbW dA ta t ++ (LiW dA la g ++ (VW dA h ad x))) sz) (va_Qr (fun (_ : Unit) => True) (fun (u9 : Unit) (r9 : Nat) t9 => (ta 0 = r9) ∧ bW D (va_A (TbW dA ta t ++ (LiW dA la g ++ (VW dA h ad x))) sz) (TbW dA ta t ++ (LiW dA la g ++ (VW dA h ad (VS.s_adep x (x.adep + 1))))) t9) (va_A (TbW dA ta t ++ (LiW dA la g ++ (VW dA h ad x))) sz)) 0 0 (va_A (TbW dA ta t ++ (LiW dA la g ++ (VW dA h ad x))) sz) := by
  refine mkC (y := ⟨"SeriesVault$Answers", "push", "()LSeriesVault$Table;"⟩) (cc := prog_2_method_4_code) (maxL := 1) (av := [.ref (ad 24)]) (ws := TbW dA ta t ++ (LiW dA la g ++ (VW dA h ad x))) (sz := sz) (Qc := fun A => va_Qr (fun (_ : Unit) => True) (fun (u9 : Unit) (r9 : Nat) t9 => (ta 0 = r9) ∧ bW D A (TbW dA ta t ++ (LiW dA la g ++ (VW dA h ad (VS.s_adep x (x.adep + 1))))) t9) A) (by decide) (Nat.le_of_ble_eq_true rfl) ?_
  intro A p e s m below meth c ls hsz hB
  obtain ⟨hx, hb, hr, hml, hown, hin, hlk, hE, hK, hP, hD, hS, hA, hN, hl⟩ := hB
  have hown : s.vm.findClass "SeriesVault$Answers" = some m.cls := hown
  have hl : lv_has ls 1 [(0, .ref (ad 24))] := hl
  obtain ⟨H, hH⟩ : ∃ z, z = s.heap := ⟨_, rfl⟩
  have hP : va_P D vwCl (TbW dA ta t ++ (LiW dA la g ++ (VW dA h ad x))) H := by rw [hH]; exact hP
  have hS : va_S A s.heap H [] := by rw [hH]; exact hS
  rw [← hH]
  refine lv_aload_n hx hb d_A_push_0 rfl (lv_at hl 0 rfl) ?_
  refine gF (v := .int (nI x.adep)) hx hb hown hE hK hP 44 rfl rfl layA 1 (by decide) w1538 rfl d_A_push_1 ?_
  refine lv_aload_n hx hb d_A_push_4 rfl (lv_at hl 0 rfl) ?_
  refine gF (v := .ref (ad 25)) hx hb hown hE hK hP 44 rfl rfl layA 0 (by decide) w799 rfl d_A_push_5 ?_
  rw [← hla]
  have hP := pmP (show List.Perm (α := Nat × va_E) (TbW dA ta t ++ (LiW dA la g ++ (VW dA h ad x))) (LiW dA la g ++ (TbW dA ta t ++ (VW dA h ad x))) from List.perm_append_comm_assoc (TbW dA ta t) (LiW dA la g) (VW dA h ad x)) hP
  have hD := pmD (show List.Perm (α := Nat × va_E) (TbW dA ta t ++ (LiW dA la g ++ (VW dA h ad x))) (LiW dA la g ++ (TbW dA ta t ++ (VW dA h ad x))) from List.perm_append_comm_assoc (TbW dA ta t) (LiW dA la g) (VW dA h ad x)) hD
  refine jkI (wr := []) (rnV (As := []) (rest := [.int (nI x.adep)]) hx hb hml hown hE hK (hN _ _ hS) hP hD (v_Lsize l D dA H.size (TbW dA ta t ++ (VW dA h ad x)) la g) (q0 := 0) rfl rfl w1484 w1539 w1485 w1486 w680 rfl rfl ⟨⟨by decide, by decide⟩, rfl⟩ ⟨(Nat.le_of_ble_eq_true rfl), (Nat.le_of_ble_eq_true rfl)⟩ rfl hl.1 rfl (Nat.le_of_ble_eq_true rfl) d_A_push_8 ⟨(Nat.le_of_ble_eq_true rfl), (Nat.le_of_ble_eq_true rfl)⟩) hP hD hS hA (fun r1 u2 H locs hp9 hP hD hS => ?_)
  have hP : va_P D vwCl (LiW dA la g ++ (TbW dA ta t ++ (VW dA h ad x))) H := hP
  have hD : va_D A (LiW dA la g ++ (TbW dA ta t ++ (VW dA h ad x))) := hD
  replace hp9 : nI g.sz = r1 := Eq.symm hp9
  subst hp9
  refine lv_icmp_ne hx hb d_A_push_11 (tgt := 29) rfl (fun g3 => ?_) (fun g3 => ?_)
  rotate_left
  · have g3 := (nI_eq (a := x.adep) (b := g.sz) (by omega) (by omega)).mp g3; exfalso; omega
  have g3 := mt (nI_eq (a := x.adep) (b := g.sz) (by omega) (by omega)).mpr g3
  refine lv_aload_n hx hb d_A_push_29 rfl (lv_at hl 0 rfl) ?_
  refine lv_dup hx hb d_A_push_30 rfl ?_
  refine gF (v := .int (nI x.adep)) hx hb hown hE hK hP 44 rfl rfl layA 1 (by decide) w1538 rfl d_A_push_31 ?_
  refine lv_iconst (v := 1) hx hb d_A_push_34 (by decide) ?_
  refine lv_iadd hx hb d_A_push_35 (tpi (y := nI (x.adep + 1)) (nI_add (x.adep) (1)) ?_)
  refine pF (v := .int (nI (x.adep + 1))) hx hb hown hE hK hP hD hS 44 rfl rfl layA tyA tokA nmA 1 (by decide) w1538 rfl rfl rfl (Nat.le_of_ble_eq_true rfl) d_A_push_36 (fun H locs hP hD hS => ?_)
  have hP : va_P D vwCl (LiW dA la g ++ (TbW dA ta t ++ (VW dA h ad (VS.s_adep x (x.adep + 1))))) H := hP
  have hD : va_D A (LiW dA la g ++ (TbW dA ta t ++ (VW dA h ad (VS.s_adep x (x.adep + 1))))) := hD
  refine lv_aload_n hx hb d_A_push_39 rfl (lv_at hl 0 rfl) ?_
  refine gF (v := .ref (ad 25)) hx hb hown hE hK hP 44 rfl rfl layA 0 (by decide) w799 rfl d_A_push_40 ?_
  rw [← hla]
  refine lv_aload_n hx hb d_A_push_43 rfl (lv_at hl 0 rfl) ?_
  refine gF (v := .int (nI (x.adep + 1))) hx hb hown hE hK hP 44 rfl rfl layA 1 (by decide) w1538 rfl d_A_push_44 ?_
  refine lv_iconst (v := 1) hx hb d_A_push_47 (by decide) ?_
  refine lv_isub hx hb d_A_push_48 (tpi (y := nI ((x.adep + 1) - 1)) (pk_sub (a := x.adep + 1) (b := 1) (by omega)) ?_)
  refine jkR (wr := []) (rnV (As := [.int (nI ((x.adep + 1) - 1))]) (rest := []) hx hb hml hown hE hK (hN _ _ hS) hP hD (v_Lget l D dA H.size (TbW dA ta t ++ (VW dA h ad (VS.s_adep x (x.adep + 1)))) la g ((x.adep + 1) - 1) (ta 0) hs hn (show ((x.adep + 1) - 1) < g.sz from by omega) (show g.el (x.adep + 1 - 1) = some (ta 0) by rw [show x.adep + 1 - 1 = x.adep by omega]; exact hel)) (q0 := 0) rfl rfl w1489 w1537 w1490 w1491 w680 rfl rfl ⟨⟨by decide, by decide⟩, rfl⟩ ⟨(Nat.le_of_ble_eq_true rfl), (Nat.le_of_ble_eq_true rfl)⟩ rfl hl.1 rfl (Nat.le_of_ble_eq_true rfl) d_A_push_49 ⟨(Nat.le_of_ble_eq_true rfl), (Nat.le_of_ble_eq_true rfl)⟩) hP hD hS hA (fun u5 r4 H locs hp9 hP hD hS => ?_)
  have hP : va_P D vwCl (LiW dA la g ++ (TbW dA ta t ++ (VW dA h ad (VS.s_adep x (x.adep + 1))))) H := hP
  have hD : va_D A (LiW dA la g ++ (TbW dA ta t ++ (VW dA h ad (VS.s_adep x (x.adep + 1))))) := hD
  have f_e_6 := hp9
  have e9 := f_e_6
  subst e9
  refine va_castE hx hb hown (hE.t w805 rfl) (va_recv hK hP (ci := 8) (q0 := 2) (q := ("SeriesVault$Table", TT, 7)) rfl rfl) d_A_push_52 ?_
  have hP := pmP (show List.Perm (α := Nat × va_E) (LiW dA la g ++ (TbW dA ta t ++ (VW dA h ad (VS.s_adep x (x.adep + 1))))) (TbW dA ta t ++ (LiW dA la g ++ (VW dA h ad (VS.s_adep x (x.adep + 1))))) from List.perm_append_comm_assoc (LiW dA la g) (TbW dA ta t) (VW dA h ad (VS.s_adep x (x.adep + 1)))) hP
  have hD := pmD (show List.Perm (α := Nat × va_E) (LiW dA la g ++ (TbW dA ta t ++ (VW dA h ad (VS.s_adep x (x.adep + 1))))) (TbW dA ta t ++ (LiW dA la g ++ (VW dA h ad (VS.s_adep x (x.adep + 1))))) from List.perm_append_comm_assoc (LiW dA la g) (TbW dA ta t) (VW dA h ad (VS.s_adep x (x.adep + 1)))) hD
  exact rkR hx hb hr (Or.inl ⟨_, rfl⟩) hlk hS () rfl hP hD (Nat.le_of_ble_eq_true rfl) (Nat.le_of_ble_eq_true rfl) d_A_push_55
