set_option maxHeartbeats 4000000 in
set_option maxRecDepth 100000 in
theorem v_names_0 (l : Launch) (D : va_G) (dA : Nat → ClassId) (sz : Nat) (h : Nat) (ad : Nat → Nat) (x : VS) (ht : x.hasTable = false) : Met l ⟨"SeriesVault", "names", "()I"⟩ [Cond.code ⟨"SeriesVault", "names", "()I"⟩ prog_1_method_46_code 1 (some FieldType.int)] { frames := 1, cells := 0, slots := 0, locals := 0 } (pC D dA [.ref h] (VW dA h ad x) sz) (va_Qi (fun (r9 : Int32) (u9 : Unit) => r9 = (-1)) (fun (u9 : Unit) t9 => bW D (va_A (VW dA h ad x) sz) (VW dA h ad x) t9) (va_A (VW dA h ad x) sz)) 0 0 (va_A (VW dA h ad x) sz) := by
  refine mkC (y := ⟨"SeriesVault", "names", "()I"⟩) (cc := prog_1_method_46_code) (maxL := 1) (av := [.ref h]) (ws := VW dA h ad x) (sz := sz) (Qc := fun A => va_Qi (fun (r9 : Int32) (u9 : Unit) => r9 = (-1)) (fun (u9 : Unit) t9 => bW D A (VW dA h ad x) t9) A) (by decide) (Nat.le_of_ble_eq_true rfl) ?_
  intro A p e s m below meth c ls hsz hB
  obtain ⟨hx, hb, hr, hml, hown, hin, hlk, hE, hK, hP, hD, hS, hA, hN, hl⟩ := hB
  have hown : s.vm.findClass "SeriesVault" = some m.cls := hown
  have hl : lv_has ls 1 [(0, .ref h)] := hl
  obtain ⟨H, hH⟩ : ∃ z, z = s.heap := ⟨_, rfl⟩
  have hP : va_P D vwCl (VW dA h ad x) H := by rw [hH]; exact hP
  have hS : va_S A s.heap H [] := by rw [hH]; exact hS
  rw [← hH]
  refine lv_aload_n hx hb d_V_names_0 rfl (lv_at hl 0 rfl) ?_
  refine gF (v := .int (bI x.hasTable)) hx hb hown hE hK hP 0 rfl rfl layV 17 (by decide) w210 rfl d_V_names_1 ?_
  refine lv_if_eq hx hb d_V_names_4 (tgt := 20) rfl (fun _ => ?_) (fun h9 => absurd (by rw [ht]; decide) h9)
  refine lv_iconst (v := (-1)) hx hb d_V_names_20 (by decide) ?_
  exact rfI hx hb hr hlk hS () rfl hP hD (Nat.le_of_ble_eq_true rfl) (Nat.le_of_ble_eq_true rfl) d_V_names_21
theorem d_V_names_7 : decode prog_1_method_46_code 7 = .ok (.aload_n 0, 1) := by decide +kernel
theorem d_V_names_8 : decode prog_1_method_46_code 8 = .ok (.getfield 63, 3) := by decide +kernel
theorem d_V_names_11 : decode prog_1_method_46_code 11 = .ok (.invokevirtual 386, 3) := by decide +kernel
theorem d_V_names_14 : decode prog_1_method_46_code 14 = .ok (.getfield 395, 3) := by decide +kernel
theorem d_V_names_17 : decode prog_1_method_46_code 17 = .ok (.goto 4, 3) := by decide +kernel
theorem w1721 : Cond.methodLink "SeriesVault" 386 ⟨"SeriesVault$Answers", "table", "()LSeriesVault$Table;"⟩ ∈ aW := aw_of (tb_3 (List.mem_of_getElem? (i := 28) rfl)) rfl
theorem w1722 : Cond.code ⟨"SeriesVault$Answers", "table", "()LSeriesVault$Table;"⟩ prog_2_method_2_code 1 (some (FieldType.object "SeriesVault$Table")) ∈ aW := aw_of (tb_3 (List.mem_of_getElem? (i := 31) rfl)) rfl
theorem w1723 : Cond.instanceMethod ⟨"SeriesVault$Answers", "table", "()LSeriesVault$Table;"⟩ ∈ aW := aw_of (tb_3 (List.mem_of_getElem? (i := 29) rfl)) rfl
theorem w1724 : Cond.selects "SeriesVault$Answers" ⟨"SeriesVault$Answers", "table", "()LSeriesVault$Table;"⟩ ⟨"SeriesVault$Answers", "table", "()LSeriesVault$Table;"⟩ ∈ aW := aw_of (tb_3 (List.mem_of_getElem? (i := 30) rfl)) rfl
theorem w1725 : Cond.fieldLinkNest "SeriesVault" 395 "SeriesVault$Table" "nameCount" "I" "SeriesVault" ∈ aW := aw_of (tb_2 (List.mem_of_getElem? (i := 56) rfl)) rfl
set_option maxHeartbeats 4000000 in
set_option maxRecDepth 100000 in
theorem v_names_1 (l : Launch) (D : va_G) (dA : Nat → ClassId) (sz : Nat) (h : Nat) (ad : Nat → Nat) (ta : Nat → Nat) (t : TB) (la : Nat → Nat) (g : LI) (x : VS) (hla : la 0 = ad 25) (hs : g.sz ≤ g.eN) (hn : g.eN ≤ 65536) (h1 : 0 < g.sz) (hel : g.el 0 = some (ta 0)) (ht : x.hasTable = true) : Met l ⟨"SeriesVault", "names", "()I"⟩ [Cond.code ⟨"SeriesVault", "names", "()I"⟩ prog_1_method_46_code 1 (some FieldType.int)] { frames := 5, cells := 0, slots := 0, locals := 84 } (pC D dA [.ref h] (TbW dA ta t ++ (LiW dA la g ++ (VW dA h ad x))) sz) (va_Qi (fun (r9 : Int32) (u9 : Unit) => r9 = nI t.nc) (fun (u9 : Unit) t9 => bW D (va_A (TbW dA ta t ++ (LiW dA la g ++ (VW dA h ad x))) sz) (TbW dA ta t ++ (LiW dA la g ++ (VW dA h ad x))) t9) (va_A (TbW dA ta t ++ (LiW dA la g ++ (VW dA h ad x))) sz)) 0 0 (va_A (TbW dA ta t ++ (LiW dA la g ++ (VW dA h ad x))) sz) := by
  refine mkC (y := ⟨"SeriesVault", "names", "()I"⟩) (cc := prog_1_method_46_code) (maxL := 1) (av := [.ref h]) (ws := TbW dA ta t ++ (LiW dA la g ++ (VW dA h ad x))) (sz := sz) (Qc := fun A => va_Qi (fun (r9 : Int32) (u9 : Unit) => r9 = nI t.nc) (fun (u9 : Unit) t9 => bW D A (TbW dA ta t ++ (LiW dA la g ++ (VW dA h ad x))) t9) A) (by decide) (Nat.le_of_ble_eq_true rfl) ?_
  intro A p e s m below meth c ls hsz hB
  obtain ⟨hx, hb, hr, hml, hown, hin, hlk, hE, hK, hP, hD, hS, hA, hN, hl⟩ := hB
  have hown : s.vm.findClass "SeriesVault" = some m.cls := hown
  have hl : lv_has ls 1 [(0, .ref h)] := hl
  obtain ⟨H, hH⟩ : ∃ z, z = s.heap := ⟨_, rfl⟩
  have hP : va_P D vwCl (TbW dA ta t ++ (LiW dA la g ++ (VW dA h ad x))) H := by rw [hH]; exact hP
  have hS : va_S A s.heap H [] := by rw [hH]; exact hS
  rw [← hH]
  refine lv_aload_n hx hb d_V_names_0 rfl (lv_at hl 0 rfl) ?_
  refine gF (v := .int (bI x.hasTable)) hx hb hown hE hK hP 7 rfl rfl layV 17 (by decide) w210 rfl d_V_names_1 ?_
  refine lv_if_eq hx hb d_V_names_4 (tgt := 20) rfl (fun h9 => absurd h9 (by rw [ht]; decide)) (fun _ => ?_)
  refine lv_aload_n hx hb d_V_names_7 rfl (lv_at hl 0 rfl) ?_
  refine gF (v := .ref (ad 24)) hx hb hown hE hK hP 7 rfl rfl layV 16 (by decide) w850 rfl d_V_names_8 ?_
  refine jkR (wr := []) (rnV (As := []) (rest := []) hx hb hml hown hE hK (hN _ _ hS) hP hD (v_Atable l D dA H.size h ad ta t la g x hla hs hn h1 hel) (q0 := 44) rfl rfl w1722 w1721 w1723 w1724 w846 rfl rfl ⟨⟨by decide, by decide⟩, rfl⟩ ⟨(Nat.le_of_ble_eq_true rfl), (Nat.le_of_ble_eq_true rfl)⟩ rfl hl.1 rfl (Nat.le_of_ble_eq_true rfl) d_V_names_11 ⟨(Nat.le_of_ble_eq_true rfl), (Nat.le_of_ble_eq_true rfl)⟩) hP hD hS hA (fun u2 r1 H locs hp9 hP hD hS => ?_)
  have hP : va_P D vwCl (TbW dA ta t ++ (LiW dA la g ++ (VW dA h ad x))) H := hP
  have hD : va_D A (TbW dA ta t ++ (LiW dA la g ++ (VW dA h ad x))) := hD
  have f_e_3 := hp9
  have e9 := f_e_3
  subst e9
  refine gFN (v := .int (nI t.nc)) hx hb hown hE hK hP 0 rfl rfl layT 1 (by decide) w1725 rfl d_V_names_14 ?_
  refine lv_goto hx hb d_V_names_17 (tgt := 21) rfl ?_
  exact rfI hx hb hr hlk hS () rfl hP hD (Nat.le_of_ble_eq_true rfl) (Nat.le_of_ble_eq_true rfl) d_V_names_21
theorem d_V_checkRow_7 : decode prog_1_method_50_code 7 = .ok (.iload_n 1, 1) := by decide +kernel
theorem d_V_checkRow_8 : decode prog_1_method_50_code 8 = .ok (.ifCond .lt 17, 3) := by decide +kernel
theorem d_V_checkRow_11 : decode prog_1_method_50_code 11 = .ok (.iload_n 1, 1) := by decide +kernel
theorem d_V_checkRow_12 : decode prog_1_method_50_code 12 = .ok (.aload_n 0, 1) := by decide +kernel
theorem d_V_checkRow_13 : decode prog_1_method_50_code 13 = .ok (.getfield 63, 3) := by decide +kernel
theorem d_V_checkRow_16 : decode prog_1_method_50_code 16 = .ok (.invokevirtual 386, 3) := by decide +kernel
theorem d_V_checkRow_19 : decode prog_1_method_50_code 19 = .ok (.getfield 390, 3) := by decide +kernel
theorem d_V_checkRow_22 : decode prog_1_method_50_code 22 = .ok (.if_icmp .lt 11, 3) := by decide +kernel
theorem d_V_checkRow_33 : decode prog_1_method_50_code 33 = .ok (.return_, 1) := by decide +kernel
theorem w1726 : Cond.fieldLinkNest "SeriesVault" 390 "SeriesVault$Table" "rowCount" "I" "SeriesVault" ∈ aW := aw_of (tb_2 (List.mem_of_getElem? (i := 61) rfl)) rfl
set_option maxHeartbeats 4000000 in
set_option maxRecDepth 100000 in
theorem v_checkRow_1 (l : Launch) (D : va_G) (dA : Nat → ClassId) (sz : Nat) (h : Nat) (ad : Nat → Nat) (ta : Nat → Nat) (t : TB) (la : Nat → Nat) (g : LI) (x : VS) (r : Nat) (hla : la 0 = ad 25) (hs : g.sz ≤ g.eN) (hn : g.eN ≤ 65536) (h1 : 0 < g.sz) (hel : g.el 0 = some (ta 0)) (ht : x.hasTable = true) (hr1 : r < t.rc) (hr2 : t.rc ≤ 256) : Met l ⟨"SeriesVault", "checkRow", "(I)V"⟩ [Cond.code ⟨"SeriesVault", "checkRow", "(I)V"⟩ prog_1_method_50_code 2 none] { frames := 5, cells := 0, slots := 0, locals := 84 } (pC D dA [.ref h, .int (nI r)] (TbW dA ta t ++ (LiW dA la g ++ (VW dA h ad x))) sz) (va_Qv (fun (u9 : Unit) => True) (fun (u9 : Unit) t9 => bW D (va_A (TbW dA ta t ++ (LiW dA la g ++ (VW dA h ad x))) sz) (TbW dA ta t ++ (LiW dA la g ++ (VW dA h ad x))) t9) (va_A (TbW dA ta t ++ (LiW dA la g ++ (VW dA h ad x))) sz)) 0 0 (va_A (TbW dA ta t ++ (LiW dA la g ++ (VW dA h ad x))) sz) := by
  refine mkC (y := ⟨"SeriesVault", "checkRow", "(I)V"⟩) (cc := prog_1_method_50_code) (maxL := 2) (av := [.ref h, .int (nI r)]) (ws := TbW dA ta t ++ (LiW dA la g ++ (VW dA h ad x))) (sz := sz) (Qc := fun A => va_Qv (fun (u9 : Unit) => True) (fun (u9 : Unit) t9 => bW D A (TbW dA ta t ++ (LiW dA la g ++ (VW dA h ad x))) t9) A) (by decide) (Nat.le_of_ble_eq_true rfl) ?_
  intro A p e s m below meth c ls hsz hB
  obtain ⟨hx, hb, hr, hml, hown, hin, hlk, hE, hK, hP, hD, hS, hA, hN, hl⟩ := hB
  have hown : s.vm.findClass "SeriesVault" = some m.cls := hown
  have hl : lv_has ls 2 [(0, .ref h), (1, .int (nI r))] := hl
  obtain ⟨H, hH⟩ : ∃ z, z = s.heap := ⟨_, rfl⟩
  have hP : va_P D vwCl (TbW dA ta t ++ (LiW dA la g ++ (VW dA h ad x))) H := by rw [hH]; exact hP
  have hS : va_S A s.heap H [] := by rw [hH]; exact hS
  rw [← hH]
  refine lv_aload_n hx hb d_V_checkRow_0 rfl (lv_at hl 0 rfl) ?_
  refine gF (v := .int (bI x.hasTable)) hx hb hown hE hK hP 7 rfl rfl layV 17 (by decide) w210 rfl d_V_checkRow_1 ?_
  refine lv_if_eq hx hb d_V_checkRow_4 (tgt := 25) rfl (fun h9 => absurd h9 (by rw [ht]; decide)) (fun _ => ?_)
  refine lv_iload_n hx hb d_V_checkRow_7 rfl (lv_at hl 1 rfl) ?_
  refine lv_if_lt hx hb d_V_checkRow_8 (tgt := 25) rfl (fun h9 => absurd h9 (nI_pos (n := r) (by omega))) (fun _ => ?_)
  refine lv_iload_n hx hb d_V_checkRow_11 rfl (lv_at hl 1 rfl) ?_
  refine lv_aload_n hx hb d_V_checkRow_12 rfl (lv_at hl 0 rfl) ?_
  refine gF (v := .ref (ad 24)) hx hb hown hE hK hP 7 rfl rfl layV 16 (by decide) w850 rfl d_V_checkRow_13 ?_
  refine jkR (wr := []) (rnV (As := []) (rest := [.int (nI r)]) hx hb hml hown hE hK (hN _ _ hS) hP hD (v_Atable l D dA H.size h ad ta t la g x hla hs hn h1 hel) (q0 := 44) rfl rfl w1722 w1721 w1723 w1724 w846 rfl rfl ⟨⟨by decide, by decide⟩, rfl⟩ ⟨(Nat.le_of_ble_eq_true rfl), (Nat.le_of_ble_eq_true rfl)⟩ rfl hl.1 rfl (Nat.le_of_ble_eq_true rfl) d_V_checkRow_16 ⟨(Nat.le_of_ble_eq_true rfl), (Nat.le_of_ble_eq_true rfl)⟩) hP hD hS hA (fun u2 r1 H locs hp9 hP hD hS => ?_)
  have hP : va_P D vwCl (TbW dA ta t ++ (LiW dA la g ++ (VW dA h ad x))) H := hP
  have hD : va_D A (TbW dA ta t ++ (LiW dA la g ++ (VW dA h ad x))) := hD
  have f_e_3 := hp9
  have e9 := f_e_3
  subst e9
  refine gFN (v := .int (nI t.rc)) hx hb hown hE hK hP 0 rfl rfl layT 3 (by decide) w1726 rfl d_V_checkRow_19 ?_
  refine lv_icmp_lt hx hb d_V_checkRow_22 (tgt := 33) rfl (fun _ => ?_) (fun h9 => absurd ((nI_ltI (a := r) (b := t.rc) (by omega) (by omega)).mpr hr1) h9)
  exact rfV hx hb hr hlk hS () trivial hP hD (Nat.le_of_ble_eq_true rfl) (Nat.le_of_ble_eq_true rfl) d_V_checkRow_33
theorem d_V_checkCell_5 : decode prog_1_method_51_code 5 = .ok (.iload_n 2, 1) := by decide +kernel
theorem d_V_checkCell_6 : decode prog_1_method_51_code 6 = .ok (.ifCond .lt 17, 3) := by decide +kernel
theorem d_V_checkCell_9 : decode prog_1_method_51_code 9 = .ok (.iload_n 2, 1) := by decide +kernel
theorem d_V_checkCell_10 : decode prog_1_method_51_code 10 = .ok (.aload_n 0, 1) := by decide +kernel
theorem d_V_checkCell_11 : decode prog_1_method_51_code 11 = .ok (.getfield 63, 3) := by decide +kernel
theorem d_V_checkCell_14 : decode prog_1_method_51_code 14 = .ok (.invokevirtual 386, 3) := by decide +kernel
theorem d_V_checkCell_17 : decode prog_1_method_51_code 17 = .ok (.getfield 416, 3) := by decide +kernel
theorem d_V_checkCell_20 : decode prog_1_method_51_code 20 = .ok (.if_icmp .lt 11, 3) := by decide +kernel
theorem d_V_checkCell_31 : decode prog_1_method_51_code 31 = .ok (.return_, 1) := by decide +kernel
theorem w1727 : Cond.fieldLinkNest "SeriesVault" 416 "SeriesVault$Table" "windows" "I" "SeriesVault" ∈ aW := aw_of (tb_2 (List.mem_of_getElem? (i := 58) rfl)) rfl
set_option maxHeartbeats 4000000 in
set_option maxRecDepth 100000 in
theorem v_checkCell_1 (l : Launch) (D : va_G) (dA : Nat → ClassId) (sz : Nat) (h : Nat) (ad : Nat → Nat) (ta : Nat → Nat) (t : TB) (la : Nat → Nat) (g : LI) (x : VS) (r : Nat) (w : Nat) (hla : la 0 = ad 25) (hs : g.sz ≤ g.eN) (hn : g.eN ≤ 65536) (h1 : 0 < g.sz) (hel : g.el 0 = some (ta 0)) (ht : x.hasTable = true) (hr1 : r < t.rc) (hr2 : t.rc ≤ 256) (hw1 : w < t.wi) (hw2 : t.wi ≤ 64) : Met l ⟨"SeriesVault", "checkCell", "(II)V"⟩ [Cond.code ⟨"SeriesVault", "checkCell", "(II)V"⟩ prog_1_method_51_code 3 none] { frames := 6, cells := 0, slots := 0, locals := 105 } (pC D dA [.ref h, .int (nI r), .int (nI w)] (TbW dA ta t ++ (LiW dA la g ++ (VW dA h ad x))) sz) (va_Qv (fun (u9 : Unit) => True) (fun (u9 : Unit) t9 => bW D (va_A (TbW dA ta t ++ (LiW dA la g ++ (VW dA h ad x))) sz) (TbW dA ta t ++ (LiW dA la g ++ (VW dA h ad x))) t9) (va_A (TbW dA ta t ++ (LiW dA la g ++ (VW dA h ad x))) sz)) 0 0 (va_A (TbW dA ta t ++ (LiW dA la g ++ (VW dA h ad x))) sz) := by
  refine mkC (y := ⟨"SeriesVault", "checkCell", "(II)V"⟩) (cc := prog_1_method_51_code) (maxL := 3) (av := [.ref h, .int (nI r), .int (nI w)]) (ws := TbW dA ta t ++ (LiW dA la g ++ (VW dA h ad x))) (sz := sz) (Qc := fun A => va_Qv (fun (u9 : Unit) => True) (fun (u9 : Unit) t9 => bW D A (TbW dA ta t ++ (LiW dA la g ++ (VW dA h ad x))) t9) A) (by decide) (Nat.le_of_ble_eq_true rfl) ?_
  intro A p e s m below meth c ls hsz hB
  obtain ⟨hx, hb, hr, hml, hown, hin, hlk, hE, hK, hP, hD, hS, hA, hN, hl⟩ := hB
  have hown : s.vm.findClass "SeriesVault" = some m.cls := hown
  have hl : lv_has ls 3 [(0, .ref h), (1, .int (nI r)), (2, .int (nI w))] := hl
  obtain ⟨H, hH⟩ : ∃ z, z = s.heap := ⟨_, rfl⟩
  have hP : va_P D vwCl (TbW dA ta t ++ (LiW dA la g ++ (VW dA h ad x))) H := by rw [hH]; exact hP
  have hS : va_S A s.heap H [] := by rw [hH]; exact hS
  rw [← hH]
  refine lv_aload_n hx hb d_V_checkCell_0 rfl (lv_at hl 0 rfl) ?_
  refine lv_iload_n hx hb d_V_checkCell_1 rfl (lv_at hl 1 rfl) ?_
  refine jkV (wr := []) (rnV (As := [.int (nI r)]) (rest := []) hx hb hml hown hE hK (hN _ _ hS) hP hD (v_checkRow_1 l D dA H.size h ad ta t la g x r hla hs hn h1 hel ht (show r < t.rc from by omega) (show t.rc ≤ 256 from by omega)) (q0 := 7) rfl rfl w305 w304 w306 w307 w277 rfl rfl ⟨⟨by decide, by decide⟩, rfl⟩ ⟨(Nat.le_of_ble_eq_true rfl), (Nat.le_of_ble_eq_true rfl)⟩ rfl hl.1 rfl (Nat.le_of_ble_eq_true rfl) d_V_checkCell_2 ⟨(Nat.le_of_ble_eq_true rfl), (Nat.le_of_ble_eq_true rfl)⟩) hP hD hS hA (fun u2 H locs hp9 hP hD hS => ?_)
  have hP : va_P D vwCl (TbW dA ta t ++ (LiW dA la g ++ (VW dA h ad x))) H := hP
  have hD : va_D A (TbW dA ta t ++ (LiW dA la g ++ (VW dA h ad x))) := hD
  refine lv_iload_n hx hb d_V_checkCell_5 rfl (lv_at hl 2 rfl) ?_
  refine lv_if_lt hx hb d_V_checkCell_6 (tgt := 23) rfl (fun h9 => absurd h9 (nI_pos (n := w) (by omega))) (fun _ => ?_)
  refine lv_iload_n hx hb d_V_checkCell_9 rfl (lv_at hl 2 rfl) ?_
  refine lv_aload_n hx hb d_V_checkCell_10 rfl (lv_at hl 0 rfl) ?_
  refine gF (v := .ref (ad 24)) hx hb hown hE hK hP 7 rfl rfl layV 16 (by decide) w850 rfl d_V_checkCell_11 ?_
  refine jkR (wr := []) (rnV (As := []) (rest := [.int (nI w)]) hx hb hml hown hE hK (hN _ _ hS) hP hD (v_Atable l D dA H.size h ad ta t la g x hla hs hn h1 hel) (q0 := 44) rfl rfl w1722 w1721 w1723 w1724 w846 rfl rfl ⟨⟨by decide, by decide⟩, rfl⟩ ⟨(Nat.le_of_ble_eq_true rfl), (Nat.le_of_ble_eq_true rfl)⟩ rfl hl.1 rfl (Nat.le_of_ble_eq_true rfl) d_V_checkCell_14 ⟨(Nat.le_of_ble_eq_true rfl), (Nat.le_of_ble_eq_true rfl)⟩) hP hD hS hA (fun u4 r3 H locs hp9 hP hD hS => ?_)
  have hP : va_P D vwCl (TbW dA ta t ++ (LiW dA la g ++ (VW dA h ad x))) H := hP
  have hD : va_D A (TbW dA ta t ++ (LiW dA la g ++ (VW dA h ad x))) := hD
  have f_e_5 := hp9
  have e9 := f_e_5
  subst e9
  refine gFN (v := .int (nI t.wi)) hx hb hown hE hK hP 0 rfl rfl layT 2 (by decide) w1727 rfl d_V_checkCell_17 ?_
  refine lv_icmp_lt hx hb d_V_checkCell_20 (tgt := 31) rfl (fun _ => ?_) (fun h9 => absurd ((nI_ltI (a := w) (b := t.wi) (by omega) (by omega)).mpr hw1) h9)
  exact rfV hx hb hr hlk hS () trivial hP hD (Nat.le_of_ble_eq_true rfl) (Nat.le_of_ble_eq_true rfl) d_V_checkCell_31
theorem d_V_isThere_6 : decode prog_1_method_48_code 6 = .ok (.aload_n 0, 1) := by decide +kernel
theorem d_V_isThere_7 : decode prog_1_method_48_code 7 = .ok (.getfield 63, 3) := by decide +kernel
theorem d_V_isThere_10 : decode prog_1_method_48_code 10 = .ok (.invokevirtual 386, 3) := by decide +kernel
theorem d_V_isThere_13 : decode prog_1_method_48_code 13 = .ok (.iload_n 1, 1) := by decide +kernel
theorem d_V_isThere_14 : decode prog_1_method_48_code 14 = .ok (.iload_n 2, 1) := by decide +kernel
theorem d_V_isThere_15 : decode prog_1_method_48_code 15 = .ok (.invokevirtual 408, 3) := by decide +kernel
theorem d_V_isThere_18 : decode prog_1_method_48_code 18 = .ok (.ireturn, 1) := by decide +kernel
theorem w1728 : Cond.methodLink "SeriesVault" 408 ⟨"SeriesVault$Table", "has", "(II)Z"⟩ ∈ aW := aw_of (tb_8 (List.mem_of_getElem? (i := 97) rfl)) rfl
set_option maxHeartbeats 4000000 in
set_option maxRecDepth 100000 in
theorem v_isThere_1 (l : Launch) (D : va_G) (dA : Nat → ClassId) (sz : Nat) (h : Nat) (ad : Nat → Nat) (ta : Nat → Nat) (t : TB) (la : Nat → Nat) (g : LI) (x : VS) (r : Nat) (w : Nat) (hla : la 0 = ad 25) (hs : g.sz ≤ g.eN) (hn : g.eN ≤ 65536) (h1 : 0 < g.sz) (hel : g.el 0 = some (ta 0)) (ht : x.hasTable = true) (hr1 : r < t.rc) (hr2 : t.rc ≤ 256) (hw1 : w < t.wi) (hw2 : t.wi ≤ 64) : Met l ⟨"SeriesVault", "isThere", "(II)Z"⟩ [Cond.code ⟨"SeriesVault", "isThere", "(II)Z"⟩ prog_1_method_48_code 3 (some FieldType.boolean)] { frames := 7, cells := 0, slots := 0, locals := 127 } (pC D dA [.ref h, .int (nI r), .int (nI w)] (TbW dA ta t ++ (LiW dA la g ++ (VW dA h ad x))) sz) (va_Qi (fun (r9 : Int32) (u9 : Unit) => r9 = bI (hasB (t.th r) w)) (fun (u9 : Unit) t9 => bW D (va_A (TbW dA ta t ++ (LiW dA la g ++ (VW dA h ad x))) sz) (TbW dA ta t ++ (LiW dA la g ++ (VW dA h ad x))) t9) (va_A (TbW dA ta t ++ (LiW dA la g ++ (VW dA h ad x))) sz)) 0 0 (va_A (TbW dA ta t ++ (LiW dA la g ++ (VW dA h ad x))) sz) := by
  refine mkC (y := ⟨"SeriesVault", "isThere", "(II)Z"⟩) (cc := prog_1_method_48_code) (maxL := 3) (av := [.ref h, .int (nI r), .int (nI w)]) (ws := TbW dA ta t ++ (LiW dA la g ++ (VW dA h ad x))) (sz := sz) (Qc := fun A => va_Qi (fun (r9 : Int32) (u9 : Unit) => r9 = bI (hasB (t.th r) w)) (fun (u9 : Unit) t9 => bW D A (TbW dA ta t ++ (LiW dA la g ++ (VW dA h ad x))) t9) A) (by decide) (Nat.le_of_ble_eq_true rfl) ?_
  intro A p e s m below meth c ls hsz hB
  obtain ⟨hx, hb, hr, hml, hown, hin, hlk, hE, hK, hP, hD, hS, hA, hN, hl⟩ := hB
  have hown : s.vm.findClass "SeriesVault" = some m.cls := hown
  have hl : lv_has ls 3 [(0, .ref h), (1, .int (nI r)), (2, .int (nI w))] := hl
  obtain ⟨H, hH⟩ : ∃ z, z = s.heap := ⟨_, rfl⟩
  have hP : va_P D vwCl (TbW dA ta t ++ (LiW dA la g ++ (VW dA h ad x))) H := by rw [hH]; exact hP
  have hS : va_S A s.heap H [] := by rw [hH]; exact hS
  rw [← hH]
  refine lv_aload_n hx hb d_V_isThere_0 rfl (lv_at hl 0 rfl) ?_
  refine lv_iload_n hx hb d_V_isThere_1 rfl (lv_at hl 1 rfl) ?_
  refine lv_iload_n hx hb d_V_isThere_2 rfl (lv_at hl 2 rfl) ?_
  refine jkV (wr := []) (rnV (As := [.int (nI r), .int (nI w)]) (rest := []) hx hb hml hown hE hK (hN _ _ hS) hP hD (v_checkCell_1 l D dA H.size h ad ta t la g x r w hla hs hn h1 hel ht (show r < t.rc from by omega) (show t.rc ≤ 256 from by omega) (show w < t.wi from by omega) (show t.wi ≤ 64 from by omega)) (q0 := 7) rfl rfl w309 w308 w310 w311 w277 rfl rfl ⟨⟨by decide, by decide⟩, rfl⟩ ⟨(Nat.le_of_ble_eq_true rfl), (Nat.le_of_ble_eq_true rfl)⟩ rfl hl.1 rfl (Nat.le_of_ble_eq_true rfl) d_V_isThere_3 ⟨(Nat.le_of_ble_eq_true rfl), (Nat.le_of_ble_eq_true rfl)⟩) hP hD hS hA (fun u2 H locs hp9 hP hD hS => ?_)
  have hP : va_P D vwCl (TbW dA ta t ++ (LiW dA la g ++ (VW dA h ad x))) H := hP
  have hD : va_D A (TbW dA ta t ++ (LiW dA la g ++ (VW dA h ad x))) := hD
  refine lv_aload_n hx hb d_V_isThere_6 rfl (lv_at hl 0 rfl) ?_
  refine gF (v := .ref (ad 24)) hx hb hown hE hK hP 7 rfl rfl layV 16 (by decide) w850 rfl d_V_isThere_7 ?_
  refine jkR (wr := []) (rnV (As := []) (rest := []) hx hb hml hown hE hK (hN _ _ hS) hP hD (v_Atable l D dA H.size h ad ta t la g x hla hs hn h1 hel) (q0 := 44) rfl rfl w1722 w1721 w1723 w1724 w846 rfl rfl ⟨⟨by decide, by decide⟩, rfl⟩ ⟨(Nat.le_of_ble_eq_true rfl), (Nat.le_of_ble_eq_true rfl)⟩ rfl hl.1 rfl (Nat.le_of_ble_eq_true rfl) d_V_isThere_10 ⟨(Nat.le_of_ble_eq_true rfl), (Nat.le_of_ble_eq_true rfl)⟩) hP hD hS hA (fun u4 r3 H locs hp9 hP hD hS => ?_)
  have hP : va_P D vwCl (TbW dA ta t ++ (LiW dA la g ++ (VW dA h ad x))) H := hP
  have hD : va_D A (TbW dA ta t ++ (LiW dA la g ++ (VW dA h ad x))) := hD
  have f_e_5 := hp9
  refine lv_iload_n hx hb d_V_isThere_13 rfl (lv_at hl 1 rfl) ?_
  refine lv_iload_n hx hb d_V_isThere_14 rfl (lv_at hl 2 rfl) ?_
  have e9 := f_e_5
  subst e9
  refine jkI (wr := []) (rnV (As := [.int (nI r), .int (nI w)]) (rest := []) hx hb hml hown hE hK (hN _ _ hS) hP hD (v_Thas l D dA H.size (LiW dA la g ++ (VW dA h ad x)) ta t r w (show r < 256 from by omega)) (q0 := 0) rfl rfl w1506 w1728 w1507 w1508 w807 rfl rfl ⟨⟨by decide, by decide⟩, rfl⟩ ⟨(Nat.le_of_ble_eq_true rfl), (Nat.le_of_ble_eq_true rfl)⟩ rfl hl.1 rfl (Nat.le_of_ble_eq_true rfl) d_V_isThere_15 ⟨(Nat.le_of_ble_eq_true rfl), (Nat.le_of_ble_eq_true rfl)⟩) hP hD hS hA (fun r6 u7 H locs hp9 hP hD hS => ?_)
  have hP : va_P D vwCl (TbW dA ta t ++ (LiW dA la g ++ (VW dA h ad x))) H := hP
  have hD : va_D A (TbW dA ta t ++ (LiW dA la g ++ (VW dA h ad x))) := hD
  replace hp9 : bI (hasB (t.th r) w) = r6 := Eq.symm hp9
  subst hp9
  exact rfZ hx hb hr (bI_nar (hasB (t.th r) w)) hlk hS () rfl hP hD (Nat.le_of_ble_eq_true rfl) (Nat.le_of_ble_eq_true rfl) d_V_isThere_18
theorem d_V_cell_6 : decode prog_1_method_49_code 6 = .ok (.aload_n 0, 1) := by decide +kernel
theorem d_V_cell_7 : decode prog_1_method_49_code 7 = .ok (.getfield 63, 3) := by decide +kernel
theorem d_V_cell_10 : decode prog_1_method_49_code 10 = .ok (.invokevirtual 386, 3) := by decide +kernel
theorem d_V_cell_13 : decode prog_1_method_49_code 13 = .ok (.astore_n 3, 1) := by decide +kernel
theorem d_V_cell_14 : decode prog_1_method_49_code 14 = .ok (.aload_n 3, 1) := by decide +kernel
theorem d_V_cell_15 : decode prog_1_method_49_code 15 = .ok (.iload_n 1, 1) := by decide +kernel
theorem d_V_cell_16 : decode prog_1_method_49_code 16 = .ok (.iload_n 2, 1) := by decide +kernel
theorem d_V_cell_17 : decode prog_1_method_49_code 17 = .ok (.invokevirtual 408, 3) := by decide +kernel
theorem d_V_cell_20 : decode prog_1_method_49_code 20 = .ok (.ifCond .eq 12, 3) := by decide +kernel
theorem d_V_cell_32 : decode prog_1_method_49_code 32 = .ok (.lconst 0, 1) := by decide +kernel
theorem d_V_cell_33 : decode prog_1_method_49_code 33 = .ok (.lreturn, 1) := by decide +kernel
theorem d_V_cell_23 : decode prog_1_method_49_code 23 = .ok (.aload_n 3, 1) := by decide +kernel
theorem d_V_cell_24 : decode prog_1_method_49_code 24 = .ok (.iload_n 1, 1) := by decide +kernel
theorem d_V_cell_25 : decode prog_1_method_49_code 25 = .ok (.iload_n 2, 1) := by decide +kernel
theorem d_V_cell_26 : decode prog_1_method_49_code 26 = .ok (.invokevirtual 412, 3) := by decide +kernel
theorem d_V_cell_29 : decode prog_1_method_49_code 29 = .ok (.goto 4, 3) := by decide +kernel
theorem w1729 : Cond.methodLink "SeriesVault" 412 ⟨"SeriesVault$Table", "numberAt", "(II)J"⟩ ∈ aW := aw_of (tb_8 (List.mem_of_getElem? (i := 105) rfl)) rfl
set_option maxHeartbeats 4000000 in
set_option maxRecDepth 100000 in
theorem v_cell_1 (l : Launch) (D : va_G) (dA : Nat → ClassId) (sz : Nat) (h : Nat) (ad : Nat → Nat) (ta : Nat → Nat) (t : TB) (la : Nat → Nat) (g : LI) (x : VS) (r : Nat) (w : Nat) (hla : la 0 = ad 25) (hs : g.sz ≤ g.eN) (hn : g.eN ≤ 65536) (h1 : 0 < g.sz) (hel : g.el 0 = some (ta 0)) (ht : x.hasTable = true) (hr1 : r < t.rc) (hr2 : t.rc ≤ 256) (hw1 : w < t.wi) (hw2 : t.wi ≤ 64) (hcN : t.cN ≤ 65536) (hrc : t.rc * t.wi ≤ t.cN) : Met l ⟨"SeriesVault", "cell", "(II)J"⟩ [Cond.code ⟨"SeriesVault", "cell", "(II)J"⟩ prog_1_method_49_code 4 (some FieldType.long)] { frames := 7, cells := 0, slots := 0, locals := 127 } (pC D dA [.ref h, .int (nI r), .int (nI w)] (TbW dA ta t ++ (LiW dA la g ++ (VW dA h ad x))) sz) (va_Ql (fun (r9 : Int64) (u9 : Unit) => r9 = if hasB (t.th r) w = true then t.ce (r * t.wi + w) else 0) (fun (u9 : Unit) t9 => bW D (va_A (TbW dA ta t ++ (LiW dA la g ++ (VW dA h ad x))) sz) (TbW dA ta t ++ (LiW dA la g ++ (VW dA h ad x))) t9) (va_A (TbW dA ta t ++ (LiW dA la g ++ (VW dA h ad x))) sz)) 0 0 (va_A (TbW dA ta t ++ (LiW dA la g ++ (VW dA h ad x))) sz) := by
  refine mkC (y := ⟨"SeriesVault", "cell", "(II)J"⟩) (cc := prog_1_method_49_code) (maxL := 4) (av := [.ref h, .int (nI r), .int (nI w)]) (ws := TbW dA ta t ++ (LiW dA la g ++ (VW dA h ad x))) (sz := sz) (Qc := fun A => va_Ql (fun (r9 : Int64) (u9 : Unit) => r9 = if hasB (t.th r) w = true then t.ce (r * t.wi + w) else 0) (fun (u9 : Unit) t9 => bW D A (TbW dA ta t ++ (LiW dA la g ++ (VW dA h ad x))) t9) A) (by decide) (Nat.le_of_ble_eq_true rfl) ?_
  intro A p e s m below meth c ls hsz hB
  obtain ⟨hx, hb, hr, hml, hown, hin, hlk, hE, hK, hP, hD, hS, hA, hN, hl⟩ := hB
  have hown : s.vm.findClass "SeriesVault" = some m.cls := hown
  have hl : lv_has ls 4 [(0, .ref h), (1, .int (nI r)), (2, .int (nI w))] := hl
  obtain ⟨H, hH⟩ : ∃ z, z = s.heap := ⟨_, rfl⟩
  have hP : va_P D vwCl (TbW dA ta t ++ (LiW dA la g ++ (VW dA h ad x))) H := by rw [hH]; exact hP
  have hS : va_S A s.heap H [] := by rw [hH]; exact hS
  rw [← hH]
  have hmi := mul_in hr1 hw1 hrc
  refine lv_aload_n hx hb d_V_cell_0 rfl (lv_at hl 0 rfl) ?_
  refine lv_iload_n hx hb d_V_cell_1 rfl (lv_at hl 1 rfl) ?_
  refine lv_iload_n hx hb d_V_cell_2 rfl (lv_at hl 2 rfl) ?_
  refine jkV (wr := []) (rnV (As := [.int (nI r), .int (nI w)]) (rest := []) hx hb hml hown hE hK (hN _ _ hS) hP hD (v_checkCell_1 l D dA H.size h ad ta t la g x r w hla hs hn h1 hel ht (show r < t.rc from by omega) (show t.rc ≤ 256 from by omega) (show w < t.wi from by omega) (show t.wi ≤ 64 from by omega)) (q0 := 7) rfl rfl w309 w308 w310 w311 w277 rfl rfl ⟨⟨by decide, by decide⟩, rfl⟩ ⟨(Nat.le_of_ble_eq_true rfl), (Nat.le_of_ble_eq_true rfl)⟩ rfl hl.1 rfl (Nat.le_of_ble_eq_true rfl) d_V_cell_3 ⟨(Nat.le_of_ble_eq_true rfl), (Nat.le_of_ble_eq_true rfl)⟩) hP hD hS hA (fun u2 H locs hp9 hP hD hS => ?_)
  have hP : va_P D vwCl (TbW dA ta t ++ (LiW dA la g ++ (VW dA h ad x))) H := hP
  have hD : va_D A (TbW dA ta t ++ (LiW dA la g ++ (VW dA h ad x))) := hD
  refine lv_aload_n hx hb d_V_cell_6 rfl (lv_at hl 0 rfl) ?_
  refine gF (v := .ref (ad 24)) hx hb hown hE hK hP 7 rfl rfl layV 16 (by decide) w850 rfl d_V_cell_7 ?_
  refine jkR (wr := []) (rnV (As := []) (rest := []) hx hb hml hown hE hK (hN _ _ hS) hP hD (v_Atable l D dA H.size h ad ta t la g x hla hs hn h1 hel) (q0 := 44) rfl rfl w1722 w1721 w1723 w1724 w846 rfl rfl ⟨⟨by decide, by decide⟩, rfl⟩ ⟨(Nat.le_of_ble_eq_true rfl), (Nat.le_of_ble_eq_true rfl)⟩ rfl hl.1 rfl (Nat.le_of_ble_eq_true rfl) d_V_cell_10 ⟨(Nat.le_of_ble_eq_true rfl), (Nat.le_of_ble_eq_true rfl)⟩) hP hD hS hA (fun u4 r3 H locs hp9 hP hD hS => ?_)
  have hP : va_P D vwCl (TbW dA ta t ++ (LiW dA la g ++ (VW dA h ad x))) H := hP
  have hD : va_D A (TbW dA ta t ++ (LiW dA la g ++ (VW dA h ad x))) := hD
  have f_e_5 := hp9
  refine lv_astore_n hx hb d_V_cell_13 rfl hl (by decide) rfl (fun ls hl => ?_)
  have hl : lv_has ls 4 [(3, .ref r3), (0, .ref h), (1, .int (nI r)), (2, .int (nI w))] := hl
  refine lv_aload_n hx hb d_V_cell_14 rfl (lv_at hl 0 rfl) ?_
  refine lv_iload_n hx hb d_V_cell_15 rfl (lv_at hl 2 rfl) ?_
  refine lv_iload_n hx hb d_V_cell_16 rfl (lv_at hl 3 rfl) ?_
  have e9 := f_e_5
  subst e9
  refine jkI (wr := []) (rnV (As := [.int (nI r), .int (nI w)]) (rest := []) hx hb hml hown hE hK (hN _ _ hS) hP hD (v_Thas l D dA H.size (LiW dA la g ++ (VW dA h ad x)) ta t r w (show r < 256 from by omega)) (q0 := 0) rfl rfl w1506 w1728 w1507 w1508 w807 rfl rfl ⟨⟨by decide, by decide⟩, rfl⟩ ⟨(Nat.le_of_ble_eq_true rfl), (Nat.le_of_ble_eq_true rfl)⟩ rfl hl.1 rfl (Nat.le_of_ble_eq_true rfl) d_V_cell_17 ⟨(Nat.le_of_ble_eq_true rfl), (Nat.le_of_ble_eq_true rfl)⟩) hP hD hS hA (fun r6 u7 H locs hp9 hP hD hS => ?_)
  have hP : va_P D vwCl (TbW dA ta t ++ (LiW dA la g ++ (VW dA h ad x))) H := hP
  have hD : va_D A (TbW dA ta t ++ (LiW dA la g ++ (VW dA h ad x))) := hD
  replace hp9 : bI (hasB (t.th r) w) = r6 := Eq.symm hp9
  subst hp9
  refine lv_if_eq hx hb d_V_cell_20 (tgt := 32) rfl (fun g8 => ?_) (fun g8 => ?_)
  · have g8 := bI_0 g8
    refine lv_lconst (v := 0) hx hb d_V_cell_32 (by decide) ?_
    exact rfL hx hb hr hlk hS () (by rw [if_neg (by rw [g8]; decide)]) hP hD (Nat.le_of_ble_eq_true rfl) (Nat.le_of_ble_eq_true rfl) d_V_cell_33
  · have g8 := bI_n0 g8
    refine lv_aload_n hx hb d_V_cell_23 rfl (lv_at hl 0 rfl) ?_
    refine lv_iload_n hx hb d_V_cell_24 rfl (lv_at hl 2 rfl) ?_
    refine lv_iload_n hx hb d_V_cell_25 rfl (lv_at hl 3 rfl) ?_
    refine jkL (wr := []) (rnV (As := [.int (nI r), .int (nI w)]) (rest := []) hx hb hml hown hE hK (hN _ _ hS) hP hD (v_TnumberAt l D dA H.size (LiW dA la g ++ (VW dA h ad x)) ta t r w (show t.cN ≤ 65536 from by omega) (show r * t.wi + w < t.cN from by omega)) (q0 := 0) rfl rfl w1414 w1729 w1415 w1416 w807 rfl rfl ⟨⟨by decide, by decide⟩, rfl⟩ ⟨(Nat.le_of_ble_eq_true rfl), (Nat.le_of_ble_eq_true rfl)⟩ rfl hl.1 rfl (Nat.le_of_ble_eq_true rfl) d_V_cell_26 ⟨(Nat.le_of_ble_eq_true rfl), (Nat.le_of_ble_eq_true rfl)⟩) hP hD hS hA (fun r9 u10 H locs hp9 hP hD hS => ?_)
    have hP : va_P D vwCl (TbW dA ta t ++ (LiW dA la g ++ (VW dA h ad x))) H := hP
    have hD : va_D A (TbW dA ta t ++ (LiW dA la g ++ (VW dA h ad x))) := hD
    replace hp9 : t.ce (r * t.wi + w) = r9 := Eq.symm hp9
    subst hp9
    refine lv_goto hx hb d_V_cell_29 (tgt := 33) rfl ?_
    exact rfL hx hb hr hlk hS () (by rw [if_pos g8]) hP hD (Nat.le_of_ble_eq_true rfl) (Nat.le_of_ble_eq_true rfl) d_V_cell_33
