set_option maxHeartbeats 4000000 in
set_option maxRecDepth 100000 in
theorem v_push_g (l : Launch) (D : va_G) (dA : Nat → ClassId) (sz : Nat) (e0 mi : Nat) (h : Nat) (ad : Nat → Nat) (la : Nat → Nat) (g : LI) (x : VS) (hla : la 0 = ad 25) (hn : g.eN ≤ 65536) (h1 : x.adep = g.sz) (hel : ∀ i : Nat, i < g.eN → ∀ y : Nat, g.el i = some y → ∃ vs : List Value, (y, .inr (8, vs)) ∈ VW dA h ad x) (h2 : 0 < g.eN) (h3 : g.sz = g.eN) (h4 : g.eN ≤ 4096) : Met l ⟨"SeriesVault$Answers", "push", "()LSeriesVault$Table;"⟩ [Cond.code ⟨"SeriesVault$Answers", "push", "()LSeriesVault$Table;"⟩ prog_2_method_4_code 1 (some (FieldType.object "SeriesVault$Table"))] { frames := 7, cells := 6, slots := 589 + (g.eN + max 1 (g.eN / 2)), locals := 171 } (pCy D dA e0 mi [.ref (ad 24)] (LiW dA la g ++ (VW dA h ad x)) sz) (va_Qr (fun (_ : (Nat → Nat) × TB × Nat) => True) (fun (u9 : (Nat → Nat) × TB × Nat) (r9 : Nat) t9 => (u9.1 0 = r9 ∧ u9.2.1 = tb0 u9.2.1.cA) ∧ bW D (va_A (LiW dA la g ++ (VW dA h ad x)) sz) (TbW dA u9.1 u9.2.1 ++ (LiW dA la (LI.s_el (LI.s_eN (LI.s_eA (LI.s_mc (LI.s_sz g (g.sz + 1)) (g.mc + 1)) u9.2.2) (g.eN + max 1 (g.eN / 2))) (va_up (cpF g.el g.eN) g.sz (some (u9.1 0)))) ++ (VW dA h ad (VS.s_adep x (x.adep + 1))))) t9) (va_A (LiW dA la g ++ (VW dA h ad x)) sz)) 6 (589 + (g.eN + max 1 (g.eN / 2))) (va_A (LiW dA la g ++ (VW dA h ad x)) sz) := by
  refine mkY (y := ⟨"SeriesVault$Answers", "push", "()LSeriesVault$Table;"⟩) (cc := prog_2_method_4_code) (maxL := 1) (av := [.ref (ad 24)]) (ws := LiW dA la g ++ (VW dA h ad x)) (sz := sz) (Qc := fun A => va_Qr (fun (_ : (Nat → Nat) × TB × Nat) => True) (fun (u9 : (Nat → Nat) × TB × Nat) (r9 : Nat) t9 => (u9.1 0 = r9 ∧ u9.2.1 = tb0 u9.2.1.cA) ∧ bW D A (TbW dA u9.1 u9.2.1 ++ (LiW dA la (LI.s_el (LI.s_eN (LI.s_eA (LI.s_mc (LI.s_sz g (g.sz + 1)) (g.mc + 1)) u9.2.2) (g.eN + max 1 (g.eN / 2))) (va_up (cpF g.el g.eN) g.sz (some (u9.1 0)))) ++ (VW dA h ad (VS.s_adep x (x.adep + 1))))) t9) A) (by decide) (Nat.le_of_ble_eq_true rfl) ?_
  intro A p e s m below meth c ls hsz hZ hT hM hB
  obtain ⟨hx, hb, hr, hml, hown, hin, hlk, hE, hK, hP, hD, hS, hA, hN, hl⟩ := hB
  have hown : s.vm.findClass "SeriesVault$Answers" = some m.cls := hown
  have hl : lv_has ls 1 [(0, .ref (ad 24))] := hl
  obtain ⟨H, hH⟩ : ∃ z, z = s.heap := ⟨_, rfl⟩
  have hP : va_P D vwCl (LiW dA la g ++ (VW dA h ad x)) H := by rw [hH]; exact hP
  have hS : va_S A s.heap H [] := by rw [hH]; exact hS
  rw [← hH]
  refine lv_aload_n hx hb d_A_push_0 rfl (lv_at hl 0 rfl) ?_
  refine gF (v := .int (nI x.adep)) hx hb hown hE hK hP 39 rfl rfl layA 1 (by decide) w1538 rfl d_A_push_1 ?_
  refine lv_aload_n hx hb d_A_push_4 rfl (lv_at hl 0 rfl) ?_
  refine gF (v := .ref (ad 25)) hx hb hown hE hK hP 39 rfl rfl layA 0 (by decide) w799 rfl d_A_push_5 ?_
  rw [← hla]
  refine jkI (wr := []) (rnV (As := []) (rest := [.int (nI x.adep)]) hx hb hml hown hE hK (hN _ _ hS) hP hD (v_Lsize l D dA H.size (VW dA h ad x) la g) (q0 := 0) rfl rfl w1484 w1539 w1485 w1486 w680 rfl rfl ⟨⟨by decide, by decide⟩, rfl⟩ ⟨(Nat.le_of_ble_eq_true rfl), (Nat.le_of_ble_eq_true rfl)⟩ rfl hl.1 rfl (Nat.le_of_ble_eq_true rfl) d_A_push_8 ⟨(show 0 + 0 ≤ 6 by omega), (show 0 + 0 ≤ 589 + (g.eN + max 1 (g.eN / 2)) by omega)⟩) hP hD hS hA (fun r1 u2 H locs hp9 hP hD hS => ?_)
  have hP : va_P D vwCl (LiW dA la g ++ (VW dA h ad x)) H := hP
  have hD : va_D A (LiW dA la g ++ (VW dA h ad x)) := hD
  replace hp9 : nI g.sz = r1 := Eq.symm hp9
  subst hp9
  refine lv_icmp_ne hx hb d_A_push_11 (tgt := 29) rfl (fun h9 => absurd ((nI_eq (a := x.adep) (b := g.sz) (by omega) (by omega)).mpr h1) h9) (fun _ => ?_)
  refine lv_aload_n hx hb d_A_push_14 rfl (lv_at hl 0 rfl) ?_
  refine gF (v := .ref (ad 25)) hx hb hown hE hK hP 39 rfl rfl layA 0 (by decide) w799 rfl d_A_push_15 ?_
  rw [← hla]
  refine nOf hx hb hown hE hK hP hD hS hA (ci := 8) rfl layT tyT tokT w805 w806 w807 (fs := [.null, .int 0, .int 0, .int 0, .null, .null, .null]) dfT (show (0 + 0) + 1 ≤ 6 by omega) (show (0 + 0) + 7 ≤ 589 + (g.eN + max 1 (g.eN / 2)) by omega) d_A_push_18 (fun ob H hP hD hS => ?_)
  have hP : va_P D vwCl ([(ob, .inr (8, [.null, .int 0, .int 0, .int 0, .null, .null, .null]))] ++ (LiW dA la g ++ (VW dA h ad x))) H := hP
  have hD : va_D A ([(ob, .inr (8, [.null, .int 0, .int 0, .int 0, .null, .null, .null]))] ++ (LiW dA la g ++ (VW dA h ad x))) := hD
  refine lv_dup hx hb d_A_push_21 rfl ?_
  refine jkV (wr := []) (rnI (As := []) (rest := [.ref ob, .ref (la 0)]) hx hb hml hown hE hK (hN _ _ hS) hP hD (v_Tinit l D dA H.size (LiW dA la g ++ (VW dA h ad x)) ob) w809 w808 w810 w807 rfl rfl rfl ⟨⟨by decide, by decide⟩, rfl⟩ ⟨(Nat.le_of_ble_eq_true rfl), (Nat.le_of_ble_eq_true rfl)⟩ rfl hl.1 rfl (Nat.le_of_ble_eq_true rfl) d_A_push_22 ⟨(show 0 + 0 + 1 + 4 ≤ 6 by omega), (show 0 + 0 + 7 + 582 ≤ 589 + (g.eN + max 1 (g.eN / 2)) by omega)⟩) hP hD hS hA (fun u4 H locs hp9 hP hD hS => ?_)
  obtain ⟨tq, y⟩ := u4
  have hP : va_P D vwCl (TbW dA tq y ++ (LiW dA la g ++ (VW dA h ad x))) H := hP
  have hD : va_D A (TbW dA tq y ++ (LiW dA la g ++ (VW dA h ad x))) := hD
  obtain ⟨f_ta_5, f_e_6⟩ := hp9
  have e9 : tq 0 = ob := f_ta_5
  rw [← e9]
  have hP := pmP (show List.Perm (α := Nat × va_E) (TbW dA tq y ++ (LiW dA la g ++ (VW dA h ad x))) (LiW dA la g ++ (TbW dA tq y ++ (VW dA h ad x))) from List.perm_append_comm_assoc (TbW dA tq y) (LiW dA la g) (VW dA h ad x)) hP
  have hD := pmD (show List.Perm (α := Nat × va_E) (TbW dA tq y ++ (LiW dA la g ++ (VW dA h ad x))) (LiW dA la g ++ (TbW dA tq y ++ (VW dA h ad x))) from List.perm_append_comm_assoc (TbW dA tq y) (LiW dA la g) (VW dA h ad x)) hD
  refine jkI (wr := []) (rnVy (As := [.ref (tq 0)]) (rest := []) hx hb hml hown hE hK hZ hT hM hS (hN _ _ hS) hP hD (v_Ladd_gT l D dA H.size e0 mi (TbW dA tq y ++ (VW dA h ad x)) la g (tq 0) ([.ref (tq 1), .int (nI y.nc), .int (nI y.wi), .int (nI y.rc), .ref (tq 2), .ref (tq 3), .ref y.cA]) (fun i hi y hy => by obtain ⟨vs, hv⟩ := hel i hi y hy; exact ⟨vs, List.mem_append_right _ hv⟩) (show 0 < g.eN from by omega) (show g.eN ≤ 65536 from by omega) (show g.sz = g.eN from by omega) (List.mem_of_getElem? (i := 0) rfl)) (q0 := 0) rfl rfl w812 w811 w813 w814 w680 rfl rfl ⟨⟨by decide, by decide⟩, rfl⟩ ⟨(Nat.le_of_ble_eq_true rfl), (Nat.le_of_ble_eq_true rfl)⟩ rfl hl.1 rfl (Nat.le_of_ble_eq_true rfl) d_A_push_25 ⟨(show 0 + 0 + 1 + 4 + 1 ≤ 6 by omega), (show 0 + 0 + 7 + 582 + (g.eN + max 1 (g.eN / 2)) ≤ 589 + (g.eN + max 1 (g.eN / 2)) by omega)⟩) hP hD hS hA (fun r7 u8 H locs hp9 hP hD hS => ?_)
  obtain ⟨b, h9u⟩ : ∃ z9, z9 = u8 := ⟨_, rfl⟩
  subst h9u
  have hP : va_P D vwCl (LiW dA la (LI.s_el (LI.s_eN (LI.s_eA (LI.s_mc (LI.s_sz g (g.sz + 1)) (g.mc + 1)) b) (g.eN + max 1 (g.eN / 2))) (va_up (cpF g.el g.eN) g.sz (some (tq 0)))) ++ (TbW dA tq y ++ (VW dA h ad x))) H := hP
  have hD : va_D A (LiW dA la (LI.s_el (LI.s_eN (LI.s_eA (LI.s_mc (LI.s_sz g (g.sz + 1)) (g.mc + 1)) b) (g.eN + max 1 (g.eN / 2))) (va_up (cpF g.el g.eN) g.sz (some (tq 0)))) ++ (TbW dA tq y ++ (VW dA h ad x))) := hD
  replace hp9 : 1 = r7 := Eq.symm hp9
  subst hp9
  refine lv_pop hx hb d_A_push_28 rfl ?_
  refine lv_aload_n hx hb d_A_push_29 rfl (lv_at hl 0 rfl) ?_
  refine lv_dup hx hb d_A_push_30 rfl ?_
  refine gF (v := .int (nI x.adep)) hx hb hown hE hK hP 44 rfl rfl layA 1 (by decide) w1538 rfl d_A_push_31 ?_
  refine lv_iconst (v := 1) hx hb d_A_push_34 (by decide) ?_
  refine lv_iadd hx hb d_A_push_35 (tpi (y := nI (x.adep + 1)) (nI_add (x.adep) (1)) ?_)
  refine pF (v := .int (nI (x.adep + 1))) hx hb hown hE hK hP hD hS 44 rfl rfl layA tyA tokA nmA 1 (by decide) w1538 rfl rfl rfl (Nat.le_of_ble_eq_true rfl) d_A_push_36 (fun H locs hP hD hS => ?_)
  have hP : va_P D vwCl (LiW dA la (LI.s_el (LI.s_eN (LI.s_eA (LI.s_mc (LI.s_sz g (g.sz + 1)) (g.mc + 1)) b) (g.eN + max 1 (g.eN / 2))) (va_up (cpF g.el g.eN) g.sz (some (tq 0)))) ++ (TbW dA tq y ++ (VW dA h ad (VS.s_adep x (x.adep + 1))))) H := hP
  have hD : va_D A (LiW dA la (LI.s_el (LI.s_eN (LI.s_eA (LI.s_mc (LI.s_sz g (g.sz + 1)) (g.mc + 1)) b) (g.eN + max 1 (g.eN / 2))) (va_up (cpF g.el g.eN) g.sz (some (tq 0)))) ++ (TbW dA tq y ++ (VW dA h ad (VS.s_adep x (x.adep + 1))))) := hD
  refine lv_aload_n hx hb d_A_push_39 rfl (lv_at hl 0 rfl) ?_
  refine gF (v := .ref (ad 25)) hx hb hown hE hK hP 44 rfl rfl layA 0 (by decide) w799 rfl d_A_push_40 ?_
  rw [← hla]
  refine lv_aload_n hx hb d_A_push_43 rfl (lv_at hl 0 rfl) ?_
  refine gF (v := .int (nI (x.adep + 1))) hx hb hown hE hK hP 44 rfl rfl layA 1 (by decide) w1538 rfl d_A_push_44 ?_
  refine lv_iconst (v := 1) hx hb d_A_push_47 (by decide) ?_
  refine lv_isub hx hb d_A_push_48 (tpi (y := nI ((x.adep + 1) - 1)) (pk_sub (a := x.adep + 1) (b := 1) (by omega)) ?_)
  refine jkR (wr := []) (rnV (As := [.int (nI ((x.adep + 1) - 1))]) (rest := []) hx hb hml hown hE hK (hN _ _ hS) hP hD (v_Lget l D dA H.size (TbW dA tq y ++ (VW dA h ad (VS.s_adep x (x.adep + 1)))) la (LI.s_el (LI.s_eN (LI.s_eA (LI.s_mc (LI.s_sz g (g.sz + 1)) (g.mc + 1)) b) (g.eN + max 1 (g.eN / 2))) (va_up (cpF g.el g.eN) g.sz (some (tq 0)))) ((x.adep + 1) - 1) (tq 0) (show (g.sz + 1) ≤ (g.eN + max 1 (g.eN / 2)) from by omega) (show (g.eN + max 1 (g.eN / 2)) ≤ 65536 from by omega) (show ((x.adep + 1) - 1) < (g.sz + 1) from by omega) (by rw [show x.adep + 1 - 1 = g.sz by omega]; exact if_pos rfl)) (q0 := 0) rfl rfl w1489 w1537 w1490 w1491 w680 rfl rfl ⟨⟨by decide, by decide⟩, rfl⟩ ⟨(Nat.le_of_ble_eq_true rfl), (Nat.le_of_ble_eq_true rfl)⟩ rfl hl.1 rfl (Nat.le_of_ble_eq_true rfl) d_A_push_49 ⟨(show 0 + 0 + 1 + 4 + 1 + 0 ≤ 6 by omega), (show 0 + 0 + 7 + 582 + (g.eN + max 1 (g.eN / 2)) + 0 ≤ 589 + (g.eN + max 1 (g.eN / 2)) by omega)⟩) hP hD hS hA (fun u10 r9 H locs hp9 hP hD hS => ?_)
  have hP : va_P D vwCl (LiW dA la (LI.s_el (LI.s_eN (LI.s_eA (LI.s_mc (LI.s_sz g (g.sz + 1)) (g.mc + 1)) b) (g.eN + max 1 (g.eN / 2))) (va_up (cpF g.el g.eN) g.sz (some (tq 0)))) ++ (TbW dA tq y ++ (VW dA h ad (VS.s_adep x (x.adep + 1))))) H := hP
  have hD : va_D A (LiW dA la (LI.s_el (LI.s_eN (LI.s_eA (LI.s_mc (LI.s_sz g (g.sz + 1)) (g.mc + 1)) b) (g.eN + max 1 (g.eN / 2))) (va_up (cpF g.el g.eN) g.sz (some (tq 0)))) ++ (TbW dA tq y ++ (VW dA h ad (VS.s_adep x (x.adep + 1))))) := hD
  have f_e_11 := hp9
  have e9 := f_e_11
  subst e9
  refine va_castE hx hb hown (hE.t w805 rfl) (va_recv hK hP (ci := 8) (q0 := 2) (q := ("SeriesVault$Table", TT, 7)) rfl rfl) d_A_push_52 ?_
  have hP := pmP (show List.Perm (α := Nat × va_E) (LiW dA la (LI.s_el (LI.s_eN (LI.s_eA (LI.s_mc (LI.s_sz g (g.sz + 1)) (g.mc + 1)) b) (g.eN + max 1 (g.eN / 2))) (va_up (cpF g.el g.eN) g.sz (some (tq 0)))) ++ (TbW dA tq y ++ (VW dA h ad (VS.s_adep x (x.adep + 1))))) (TbW dA tq y ++ (LiW dA la (LI.s_el (LI.s_eN (LI.s_eA (LI.s_mc (LI.s_sz g (g.sz + 1)) (g.mc + 1)) b) (g.eN + max 1 (g.eN / 2))) (va_up (cpF g.el g.eN) g.sz (some (tq 0)))) ++ (VW dA h ad (VS.s_adep x (x.adep + 1))))) from List.perm_append_comm_assoc (LiW dA la (LI.s_el (LI.s_eN (LI.s_eA (LI.s_mc (LI.s_sz g (g.sz + 1)) (g.mc + 1)) b) (g.eN + max 1 (g.eN / 2))) (va_up (cpF g.el g.eN) g.sz (some (tq 0))))) (TbW dA tq y) (VW dA h ad (VS.s_adep x (x.adep + 1)))) hP
  have hD := pmD (show List.Perm (α := Nat × va_E) (LiW dA la (LI.s_el (LI.s_eN (LI.s_eA (LI.s_mc (LI.s_sz g (g.sz + 1)) (g.mc + 1)) b) (g.eN + max 1 (g.eN / 2))) (va_up (cpF g.el g.eN) g.sz (some (tq 0)))) ++ (TbW dA tq y ++ (VW dA h ad (VS.s_adep x (x.adep + 1))))) (TbW dA tq y ++ (LiW dA la (LI.s_el (LI.s_eN (LI.s_eA (LI.s_mc (LI.s_sz g (g.sz + 1)) (g.mc + 1)) b) (g.eN + max 1 (g.eN / 2))) (va_up (cpF g.el g.eN) g.sz (some (tq 0)))) ++ (VW dA h ad (VS.s_adep x (x.adep + 1))))) from List.perm_append_comm_assoc (LiW dA la (LI.s_el (LI.s_eN (LI.s_eA (LI.s_mc (LI.s_sz g (g.sz + 1)) (g.mc + 1)) b) (g.eN + max 1 (g.eN / 2))) (va_up (cpF g.el g.eN) g.sz (some (tq 0))))) (TbW dA tq y) (VW dA h ad (VS.s_adep x (x.adep + 1)))) hD
  exact rkR hx hb hr (Or.inl ⟨_, rfl⟩) hlk hS (⟨tq, y, b⟩) ⟨rfl, f_e_6⟩ hP hD (show 0 + 0 + 1 + 4 + 1 + 0 ≤ 6 by omega) (show 0 + 0 + 7 + 582 + (g.eN + max 1 (g.eN / 2)) + 0 ≤ 589 + (g.eN + max 1 (g.eN / 2)) by omega) d_A_push_55
