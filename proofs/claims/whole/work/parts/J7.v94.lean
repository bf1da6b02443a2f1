set_option maxHeartbeats 4000000 in
set_option maxRecDepth 100000 in
theorem v_checkRow_xc (l : Launch) (htr : l.stackTraces = false) (D : va_G) (dA : Nat → ClassId) (sz : Nat) (h : Nat) (ad : Nat → Nat) (x : VS) (la : Nat → Nat) (g : LI) (AT : Nat → Nat → Nat) (T : Nat → TB) (rr : va_W) (r : Nat) (hk9 : skP dA ad rr x la g AT T) (hz9 : 0 < g.sz) (ht : x.hasTable = true) (hr1 : (T 0).rc ≤ r) (hr2 : (T 0).rc ≤ 256) (hr3 : r < 2 ^ 31) : mX l ⟨"SeriesVault", "checkRow", "(I)V"⟩ [Cond.code ⟨"SeriesVault", "checkRow", "(I)V"⟩ prog_1_method_50_code 2 none] { frames := 6, cells := 1, slots := 6, locals := 84 } (pC D dA [.ref h, .int (nI r)] (VW dA h ad x) sz) "java/lang/IndexOutOfBoundsException" (fun st9 t9 => va_F (va_A (VW dA h ad x) sz) st9 t9 ∧ ∃ u9 : Unit, (True) ∧ bW D (va_A (VW dA h ad x) sz) (VW dA h ad x) t9) 1 6 (va_A (VW dA h ad x) sz) := by
  refine mkX (y := ⟨"SeriesVault", "checkRow", "(I)V"⟩) (cc := prog_1_method_50_code) (maxL := 2) (av := [.ref h, .int (nI r)]) (ws := VW dA h ad x) (sz := sz) (B := fun A => (fun st9 t9 => va_F A st9 t9 ∧ ∃ u9 : Unit, (True) ∧ bW D A (VW dA h ad x) t9)) (by decide) (Nat.le_of_ble_eq_true rfl) ?_
  intro A p e s m below meth c ls hsz hno hB
  obtain ⟨hx, hb, hr, hml, hown, hin, hlk, hE, hK, hP, hD, hS, hA, hN, hl⟩ := hB
  have hown : s.vm.findClass "SeriesVault" = some m.cls := hown
  have hl : lv_has ls 2 [(0, .ref h), (1, .int (nI r))] := hl
  obtain ⟨H, hH⟩ : ∃ z, z = s.heap := ⟨_, rfl⟩
  have hP : va_P D vwCl (VW dA h ad x) H := by rw [hH]; exact hP
  have hS : va_S A s.heap H [] := by rw [hH]; exact hS
  rw [← hH]
  have mt9 := sk_t hk9 hz9
  refine lv_aload_n hx hb d_V_checkRow_0 rfl (lv_at hl 0 rfl) ?_
  refine gF (v := .int (bI x.hasTable)) hx hb hown hE hK hP 0 rfl rfl layV 17 (by decide) w210 rfl d_V_checkRow_1 ?_
  refine lv_if_eq hx hb d_V_checkRow_4 (tgt := 25) rfl (fun h9 => absurd h9 (by rw [ht]; decide)) (fun _ => ?_)
  refine lv_iload_n hx hb d_V_checkRow_7 rfl (lv_at hl 1 rfl) ?_
  refine lv_if_lt hx hb d_V_checkRow_8 (tgt := 25) rfl (fun h9 => absurd h9 (nI_pos (n := r) (by omega))) (fun _ => ?_)
  refine lv_iload_n hx hb d_V_checkRow_11 rfl (lv_at hl 1 rfl) ?_
  refine lv_aload_n hx hb d_V_checkRow_12 rfl (lv_at hl 0 rfl) ?_
  refine gF (v := .ref (ad 24)) hx hb hown hE hK hP 0 rfl rfl layV 16 (by decide) w850 rfl d_V_checkRow_13 ?_
  refine jkR (wr := []) (rnV (As := []) (rest := [.int (nI r)]) hx hb hml hown hE hK (hN _ _ hS) hP hD (v_tableW l D dA H.size h ad x la g AT T rr hk9 hz9) (q0 := 37) rfl rfl w1722 w1721 w1723 w1724 w846 rfl rfl ⟨⟨by decide, by decide⟩, rfl⟩ ⟨(Nat.le_of_ble_eq_true rfl), (Nat.le_of_ble_eq_true rfl)⟩ rfl hl.1 rfl (Nat.le_of_ble_eq_true rfl) d_V_checkRow_16 ⟨(show 0 + 0 ≤ 1 by omega), (show 0 + 0 ≤ 6 by omega)⟩) hP hD hS hA (fun u2 r1 H locs hp9 hP hD hS => ?_)
  have hP : va_P D vwCl (VW dA h ad x) H := hP
  have hD : va_D A (VW dA h ad x) := hD
  have f_e_3 := hp9
  have e9 := f_e_3
  subst e9
  obtain ⟨qp4, ep5⟩ := List.getElem?_of_mem (show ((AT 0 0, .inr (8, [.ref (AT 0 1), .int (nI (T 0).nc), .int (nI (T 0).wi), .int (nI (T 0).rc), .ref (AT 0 2), .ref (AT 0 3), .ref ((T 0).cA)])) : Nat × va_E) ∈ VW dA h ad x from (llm mt9))
  refine gFN (v := .int (nI (T 0).rc)) hx hb hown hE hK hP qp4 ep5 rfl layT 3 (by decide) w1726 rfl d_V_checkRow_19 ?_
  refine lv_icmp_lt hx hb d_V_checkRow_22 (tgt := 33) rfl (fun h9 => absurd h9 (mt (nI_ltI (a := r) (b := (T 0).rc) (by omega) (by omega)).mp (Nat.not_lt.mpr hr1))) (fun _ => ?_)
  exact xNew (E := "java/lang/IndexOutOfBoundsException") (names := ["java/lang/RuntimeException", "java/lang/Exception"]) hx hb htr hown (by decide) (by decide) hE w257 w258 (fun U hU => at_V_IOOBE hU) (hN _ _ hS) (hl.1.trans hml.symm) d_V_checkRow_25 d_V_checkRow_28 d_V_checkRow_29 d_V_checkRow_32 hno (by decide) (Nat.le_of_ble_eq_true rfl) (show 0 + 0 + 1 ≤ 1 by omega) (show 0 + 0 + 6 ≤ 6 by omega) hlk (fun t h1 h2 => xkE () trivial hP hD hS t h1 h2) hS.2.2 (show 0 + 0 + 1 ≤ 1 by omega) (show 0 + 0 + 6 ≤ 6 by omega)
set_option maxHeartbeats 4000000 in
set_option maxRecDepth 100000 in
theorem v_checkCell_xc (l : Launch) (htr : l.stackTraces = false) (D : va_G) (dA : Nat → ClassId) (sz : Nat) (h : Nat) (ad : Nat → Nat) (x : VS) (la : Nat → Nat) (g : LI) (AT : Nat → Nat → Nat) (T : Nat → TB) (rr : va_W) (r : Nat) (w : Int32) (hk9 : skP dA ad rr x la g AT T) (hz9 : 0 < g.sz) (ht : x.hasTable = true) (hr1 : (T 0).rc ≤ r) (hr2 : (T 0).rc ≤ 256) (hr3 : r < 2 ^ 31) : mX l ⟨"SeriesVault", "checkCell", "(II)V"⟩ [Cond.code ⟨"SeriesVault", "checkCell", "(II)V"⟩ prog_1_method_51_code 3 none] { frames := 7, cells := 1, slots := 6, locals := 105 } (pC D dA [.ref h, .int (nI r), .int w] (VW dA h ad x) sz) "java/lang/IndexOutOfBoundsException" (fun st9 t9 => va_F (va_A (VW dA h ad x) sz) st9 t9 ∧ ∃ u9 : Unit, (True) ∧ bW D (va_A (VW dA h ad x) sz) (VW dA h ad x) t9) 1 6 (va_A (VW dA h ad x) sz) := by
  refine mkX (y := ⟨"SeriesVault", "checkCell", "(II)V"⟩) (cc := prog_1_method_51_code) (maxL := 3) (av := [.ref h, .int (nI r), .int w]) (ws := VW dA h ad x) (sz := sz) (B := fun A => (fun st9 t9 => va_F A st9 t9 ∧ ∃ u9 : Unit, (True) ∧ bW D A (VW dA h ad x) t9)) (by decide) (Nat.le_of_ble_eq_true rfl) ?_
  intro A p e s m below meth c ls hsz hno hB
  obtain ⟨hx, hb, hr, hml, hown, hin, hlk, hE, hK, hP, hD, hS, hA, hN, hl⟩ := hB
  have hown : s.vm.findClass "SeriesVault" = some m.cls := hown
  have hl : lv_has ls 3 [(0, .ref h), (1, .int (nI r)), (2, .int w)] := hl
  obtain ⟨H, hH⟩ : ∃ z, z = s.heap := ⟨_, rfl⟩
  have hP : va_P D vwCl (VW dA h ad x) H := by rw [hH]; exact hP
  have hS : va_S A s.heap H [] := by rw [hH]; exact hS
  rw [← hH]
  refine lv_aload_n hx hb d_V_checkCell_0 rfl (lv_at hl 0 rfl) ?_
  refine lv_iload_n hx hb d_V_checkCell_1 rfl (lv_at hl 1 rfl) ?_
  refine xkV (wr := []) (As := [.int (nI r)]) (rest := []) hx hb hml hown hE hK (hN _ _ hS) (v_checkRow_xc l htr D dA H.size h ad x la g AT T rr r hk9 hz9 ht hr1 hr2 hr3) (q0 := 0) rfl rfl w305 w304 w306 w307 w277 rfl rfl ⟨⟨by decide, by decide⟩, rfl⟩ ⟨(Nat.le_of_ble_eq_true rfl), (Nat.le_of_ble_eq_true rfl)⟩ rfl hl.1 rfl (Nat.le_of_ble_eq_true rfl) d_V_checkCell_2 ⟨(show 0 + 1 ≤ 1 by omega), (show 0 + 6 ≤ 6 by omega)⟩ hP hD hS hA (fun u2 xa1 ce H locs hp9 hP hD hS hce hcv hcl => ?_)
  have hP : va_P D vwCl (VW dA h ad x) H := hP
  have hD : va_D A (VW dA h ad x) := hD
  exact xOut hno hlk hce hcv hcl (fun t ht => xkE () trivial hP hD hS t (by rw [ht]; exact Nat.le_refl _) (fun q _ => by rw [ht])) hS.2.2 (show 0 + 1 ≤ 1 by omega) (show 0 + 6 ≤ 6 by omega)
set_option maxHeartbeats 4000000 in
set_option maxRecDepth 100000 in
theorem v_text_xc (l : Launch) (htr : l.stackTraces = false) (D : va_G) (dA : Nat → ClassId) (sz : Nat) (h : Nat) (ad : Nat → Nat) (x : VS) (la : Nat → Nat) (g : LI) (AT : Nat → Nat → Nat) (T : Nat → TB) (rr : va_W) (r : Nat) (k : Int32) (i : Int32) (hk9 : skP dA ad rr x la g AT T) (hz9 : 0 < g.sz) (ht : x.hasTable = true) (hr1 : (T 0).rc ≤ r) (hr2 : (T 0).rc ≤ 256) (hr3 : r < 2 ^ 31) : mX l ⟨"SeriesVault", "text", "(III)I"⟩ [Cond.code ⟨"SeriesVault", "text", "(III)I"⟩ prog_1_method_47_code 5 (some FieldType.int)] { frames := 7, cells := 1, slots := 6, locals := 105 } (pC D dA [.ref h, .int (nI r), .int k, .int i] (VW dA h ad x) sz) "java/lang/IndexOutOfBoundsException" (fun st9 t9 => va_F (va_A (VW dA h ad x) sz) st9 t9 ∧ ∃ u9 : Unit, (True) ∧ bW D (va_A (VW dA h ad x) sz) (VW dA h ad x) t9) 1 6 (va_A (VW dA h ad x) sz) := by
  refine mkX (y := ⟨"SeriesVault", "text", "(III)I"⟩) (cc := prog_1_method_47_code) (maxL := 5) (av := [.ref h, .int (nI r), .int k, .int i]) (ws := VW dA h ad x) (sz := sz) (B := fun A => (fun st9 t9 => va_F A st9 t9 ∧ ∃ u9 : Unit, (True) ∧ bW D A (VW dA h ad x) t9)) (by decide) (Nat.le_of_ble_eq_true rfl) ?_
  intro A p e s m below meth c ls hsz hno hB
  obtain ⟨hx, hb, hr, hml, hown, hin, hlk, hE, hK, hP, hD, hS, hA, hN, hl⟩ := hB
  have hown : s.vm.findClass "SeriesVault" = some m.cls := hown
  have hl : lv_has ls 5 [(0, .ref h), (1, .int (nI r)), (2, .int k), (3, .int i)] := hl
  obtain ⟨H, hH⟩ : ∃ z, z = s.heap := ⟨_, rfl⟩
  have hP : va_P D vwCl (VW dA h ad x) H := by rw [hH]; exact hP
  have hS : va_S A s.heap H [] := by rw [hH]; exact hS
  rw [← hH]
  refine lv_aload_n hx hb d_V_text_0 rfl (lv_at hl 0 rfl) ?_
  refine lv_iload_n hx hb d_V_text_1 rfl (lv_at hl 1 rfl) ?_
  refine xkV (wr := []) (As := [.int (nI r)]) (rest := []) hx hb hml hown hE hK (hN _ _ hS) (v_checkRow_xc l htr D dA H.size h ad x la g AT T rr r hk9 hz9 ht hr1 hr2 hr3) (q0 := 0) rfl rfl w305 w304 w306 w307 w277 rfl rfl ⟨⟨by decide, by decide⟩, rfl⟩ ⟨(Nat.le_of_ble_eq_true rfl), (Nat.le_of_ble_eq_true rfl)⟩ rfl hl.1 rfl (Nat.le_of_ble_eq_true rfl) d_V_text_2 ⟨(show 0 + 1 ≤ 1 by omega), (show 0 + 6 ≤ 6 by omega)⟩ hP hD hS hA (fun u2 xa1 ce H locs hp9 hP hD hS hce hcv hcl => ?_)
  have hP : va_P D vwCl (VW dA h ad x) H := hP
  have hD : va_D A (VW dA h ad x) := hD
  exact xOut hno hlk hce hcv hcl (fun t ht => xkE () trivial hP hD hS t (by rw [ht]; exact Nat.le_refl _) (fun q _ => by rw [ht])) hS.2.2 (show 0 + 1 ≤ 1 by omega) (show 0 + 6 ≤ 6 by omega)
theorem d_V_checkCell_23 : decode prog_1_method_51_code 23 = .ok (.new 92, 3) := by decide +kernel
theorem d_V_checkCell_26 : decode prog_1_method_51_code 26 = .ok (.dup, 1) := by decide +kernel
theorem d_V_checkCell_27 : decode prog_1_method_51_code 27 = .ok (.invokespecial 94, 3) := by decide +kernel
theorem d_V_checkCell_30 : decode prog_1_method_51_code 30 = .ok (.athrow, 1) := by decide +kernel
set_option maxHeartbeats 4000000 in
set_option maxRecDepth 100000 in
theorem v_checkCell_xd (l : Launch) (htr : l.stackTraces = false) (D : va_G) (dA : Nat → ClassId) (sz : Nat) (h : Nat) (ad : Nat → Nat) (x : VS) (la : Nat → Nat) (g : LI) (AT : Nat → Nat → Nat) (T : Nat → TB) (rr : va_W) (r : Nat) (w : Int32) (hk9 : skP dA ad rr x la g AT T) (hz9 : 0 < g.sz) (ht : x.hasTable = true) (hr1 : r < (T 0).rc) (hr2 : (T 0).rc ≤ 256) (hw1 : w < 0) : mX l ⟨"SeriesVault", "checkCell", "(II)V"⟩ [Cond.code ⟨"SeriesVault", "checkCell", "(II)V"⟩ prog_1_method_51_code 3 none] { frames := 6, cells := 1, slots := 6, locals := 105 } (pC D dA [.ref h, .int (nI r), .int w] (VW dA h ad x) sz) "java/lang/IndexOutOfBoundsException" (fun st9 t9 => va_F (va_A (VW dA h ad x) sz) st9 t9 ∧ ∃ u9 : Unit, (True) ∧ bW D (va_A (VW dA h ad x) sz) (VW dA h ad x) t9) 1 6 (va_A (VW dA h ad x) sz) := by
  refine mkX (y := ⟨"SeriesVault", "checkCell", "(II)V"⟩) (cc := prog_1_method_51_code) (maxL := 3) (av := [.ref h, .int (nI r), .int w]) (ws := VW dA h ad x) (sz := sz) (B := fun A => (fun st9 t9 => va_F A st9 t9 ∧ ∃ u9 : Unit, (True) ∧ bW D A (VW dA h ad x) t9)) (by decide) (Nat.le_of_ble_eq_true rfl) ?_
  intro A p e s m below meth c ls hsz hno hB
  obtain ⟨hx, hb, hr, hml, hown, hin, hlk, hE, hK, hP, hD, hS, hA, hN, hl⟩ := hB
  have hown : s.vm.findClass "SeriesVault" = some m.cls := hown
  have hl : lv_has ls 3 [(0, .ref h), (1, .int (nI r)), (2, .int w)] := hl
  obtain ⟨H, hH⟩ : ∃ z, z = s.heap := ⟨_, rfl⟩
  have hP : va_P D vwCl (VW dA h ad x) H := by rw [hH]; exact hP
  have hS : va_S A s.heap H [] := by rw [hH]; exact hS
  rw [← hH]
  refine lv_aload_n hx hb d_V_checkCell_0 rfl (lv_at hl 0 rfl) ?_
  refine lv_iload_n hx hb d_V_checkCell_1 rfl (lv_at hl 1 rfl) ?_
  refine jkV (wr := []) (rnV (As := [.int (nI r)]) (rest := []) hx hb hml hown hE hK (hN _ _ hS) hP hD (v_checkRow_1W l D dA H.size h ad x la g AT T rr r hk9 hz9 ht hr1 hr2) (q0 := 0) rfl rfl w305 w304 w306 w307 w277 rfl rfl ⟨⟨by decide, by decide⟩, rfl⟩ ⟨(Nat.le_of_ble_eq_true rfl), (Nat.le_of_ble_eq_true rfl)⟩ rfl hl.1 rfl (Nat.le_of_ble_eq_true rfl) d_V_checkCell_2 ⟨(show 0 + 0 ≤ 1 by omega), (show 0 + 0 ≤ 6 by omega)⟩) hP hD hS hA (fun u2 H locs hp9 hP hD hS => ?_)
  have hP : va_P D vwCl (VW dA h ad x) H := hP
  have hD : va_D A (VW dA h ad x) := hD
  refine lv_iload_n hx hb d_V_checkCell_5 rfl (lv_at hl 2 rfl) ?_
  refine lv_if_lt hx hb d_V_checkCell_6 (tgt := 23) rfl (fun _ => ?_) (fun h9 => absurd hw1 h9)
  exact xNew (E := "java/lang/IndexOutOfBoundsException") (names := ["java/lang/RuntimeException", "java/lang/Exception"]) hx hb htr hown (by decide) (by decide) hE w257 w258 (fun U hU => at_V_IOOBE hU) (hN _ _ hS) (hl.1.trans hml.symm) d_V_checkCell_23 d_V_checkCell_26 d_V_checkCell_27 d_V_checkCell_30 hno (by decide) (Nat.le_of_ble_eq_true rfl) (show 0 + 0 + 1 ≤ 1 by omega) (show 0 + 0 + 6 ≤ 6 by omega) hlk (fun t h1 h2 => xkE () trivial hP hD hS t h1 h2) hS.2.2 (show 0 + 0 + 1 ≤ 1 by omega) (show 0 + 0 + 6 ≤ 6 by omega)
set_option maxHeartbeats 4000000 in
set_option maxRecDepth 100000 in
theorem v_checkCell_xe (l : Launch) (htr : l.stackTraces = false) (D : va_G) (dA : Nat → ClassId) (sz : Nat) (h : Nat) (ad : Nat → Nat) (x : VS) (la : Nat → Nat) (g : LI) (AT : Nat → Nat → Nat) (T : Nat → TB) (rr : va_W) (r : Nat) (w : Nat) (hk9 : skP dA ad rr x la g AT T) (hz9 : 0 < g.sz) (ht : x.hasTable = true) (hr1 : r < (T 0).rc) (hr2 : (T 0).rc ≤ 256) (hw1 : (T 0).wi ≤ w) (hw2 : (T 0).wi ≤ 64) (hw3 : w < 2 ^ 31) : mX l ⟨"SeriesVault", "checkCell", "(II)V"⟩ [Cond.code ⟨"SeriesVault", "checkCell", "(II)V"⟩ prog_1_method_51_code 3 none] { frames := 6, cells := 1, slots := 6, locals := 105 } (pC D dA [.ref h, .int (nI r), .int (nI w)] (VW dA h ad x) sz) "java/lang/IndexOutOfBoundsException" (fun st9 t9 => va_F (va_A (VW dA h ad x) sz) st9 t9 ∧ ∃ u9 : Unit, (True) ∧ bW D (va_A (VW dA h ad x) sz) (VW dA h ad x) t9) 1 6 (va_A (VW dA h ad x) sz) := by
  refine mkX (y := ⟨"SeriesVault", "checkCell", "(II)V"⟩) (cc := prog_1_method_51_code) (maxL := 3) (av := [.ref h, .int (nI r), .int (nI w)]) (ws := VW dA h ad x) (sz := sz) (B := fun A => (fun st9 t9 => va_F A st9 t9 ∧ ∃ u9 : Unit, (True) ∧ bW D A (VW dA h ad x) t9)) (by decide) (Nat.le_of_ble_eq_true rfl) ?_
  intro A p e s m below meth c ls hsz hno hB
  obtain ⟨hx, hb, hr, hml, hown, hin, hlk, hE, hK, hP, hD, hS, hA, hN, hl⟩ := hB
  have hown : s.vm.findClass "SeriesVault" = some m.cls := hown
  have hl : lv_has ls 3 [(0, .ref h), (1, .int (nI r)), (2, .int (nI w))] := hl
  obtain ⟨H, hH⟩ : ∃ z, z = s.heap := ⟨_, rfl⟩
  have hP : va_P D vwCl (VW dA h ad x) H := by rw [hH]; exact hP
  have hS : va_S A s.heap H [] := by rw [hH]; exact hS
  rw [← hH]
  have mt9 := sk_t hk9 hz9
  refine lv_aload_n hx hb d_V_checkCell_0 rfl (lv_at hl 0 rfl) ?_
  refine lv_iload_n hx hb d_V_checkCell_1 rfl (lv_at hl 1 rfl) ?_
  refine jkV (wr := []) (rnV (As := [.int (nI r)]) (rest := []) hx hb hml hown hE hK (hN _ _ hS) hP hD (v_checkRow_1W l D dA H.size h ad x la g AT T rr r hk9 hz9 ht hr1 hr2) (q0 := 0) rfl rfl w305 w304 w306 w307 w277 rfl rfl ⟨⟨by decide, by decide⟩, rfl⟩ ⟨(Nat.le_of_ble_eq_true rfl), (Nat.le_of_ble_eq_true rfl)⟩ rfl hl.1 rfl (Nat.le_of_ble_eq_true rfl) d_V_checkCell_2 ⟨(show 0 + 0 ≤ 1 by omega), (show 0 + 0 ≤ 6 by omega)⟩) hP hD hS hA (fun u2 H locs hp9 hP hD hS => ?_)
  have hP : va_P D vwCl (VW dA h ad x) H := hP
  have hD : va_D A (VW dA h ad x) := hD
  refine lv_iload_n hx hb d_V_checkCell_5 rfl (lv_at hl 2 rfl) ?_
  refine lv_if_lt hx hb d_V_checkCell_6 (tgt := 23) rfl (fun h9 => absurd h9 (nI_pos (n := w) (by omega))) (fun _ => ?_)
  refine lv_iload_n hx hb d_V_checkCell_9 rfl (lv_at hl 2 rfl) ?_
  refine lv_aload_n hx hb d_V_checkCell_10 rfl (lv_at hl 0 rfl) ?_
  refine gF (v := .ref (ad 24)) hx hb hown hE hK hP 0 rfl rfl layV 16 (by decide) w850 rfl d_V_checkCell_11 ?_
  refine jkR (wr := []) (rnV (As := []) (rest := [.int (nI w)]) hx hb hml hown hE hK (hN _ _ hS) hP hD (v_tableW l D dA H.size h ad x la g AT T rr hk9 hz9) (q0 := 37) rfl rfl w1722 w1721 w1723 w1724 w846 rfl rfl ⟨⟨by decide, by decide⟩, rfl⟩ ⟨(Nat.le_of_ble_eq_true rfl), (Nat.le_of_ble_eq_true rfl)⟩ rfl hl.1 rfl (Nat.le_of_ble_eq_true rfl) d_V_checkCell_14 ⟨(show 0 + 0 + 0 ≤ 1 by omega), (show 0 + 0 + 0 ≤ 6 by omega)⟩) hP hD hS hA (fun u4 r3 H locs hp9 hP hD hS => ?_)
  have hP : va_P D vwCl (VW dA h ad x) H := hP
  have hD : va_D A (VW dA h ad x) := hD
  have f_e_5 := hp9
  have e9 := f_e_5
  subst e9
  obtain ⟨qp6, ep7⟩ := List.getElem?_of_mem (show ((AT 0 0, .inr (8, [.ref (AT 0 1), .int (nI (T 0).nc), .int (nI (T 0).wi), .int (nI (T 0).rc), .ref (AT 0 2), .ref (AT 0 3), .ref ((T 0).cA)])) : Nat × va_E) ∈ VW dA h ad x from (llm mt9))
  refine gFN (v := .int (nI (T 0).wi)) hx hb hown hE hK hP qp6 ep7 rfl layT 2 (by decide) w1727 rfl d_V_checkCell_17 ?_
  refine lv_icmp_lt hx hb d_V_checkCell_20 (tgt := 31) rfl (fun h9 => absurd h9 (mt (nI_ltI (a := w) (b := (T 0).wi) (by omega) (by omega)).mp (Nat.not_lt.mpr hw1))) (fun _ => ?_)
  exact xNew (E := "java/lang/IndexOutOfBoundsException") (names := ["java/lang/RuntimeException", "java/lang/Exception"]) hx hb htr hown (by decide) (by decide) hE w257 w258 (fun U hU => at_V_IOOBE hU) (hN _ _ hS) (hl.1.trans hml.symm) d_V_checkCell_23 d_V_checkCell_26 d_V_checkCell_27 d_V_checkCell_30 hno (by decide) (Nat.le_of_ble_eq_true rfl) (show 0 + 0 + 0 + 1 ≤ 1 by omega) (show 0 + 0 + 0 + 6 ≤ 6 by omega) hlk (fun t h1 h2 => xkE () trivial hP hD hS t h1 h2) hS.2.2 (show 0 + 0 + 0 + 1 ≤ 1 by omega) (show 0 + 0 + 0 + 6 ≤ 6 by omega)
set_option maxHeartbeats 4000000 in
set_option maxRecDepth 100000 in
theorem v_isThere_xc (l : Launch) (htr : l.stackTraces = false) (D : va_G) (dA : Nat → ClassId) (sz : Nat) (h : Nat) (ad : Nat → Nat) (x : VS) (la : Nat → Nat) (g : LI) (AT : Nat → Nat → Nat) (T : Nat → TB) (rr : va_W) (r : Nat) (w : Int32) (hk9 : skP dA ad rr x la g AT T) (hz9 : 0 < g.sz) (ht : x.hasTable = true) (hr1 : (T 0).rc ≤ r) (hr2 : (T 0).rc ≤ 256) (hr3 : r < 2 ^ 31) : mX l ⟨"SeriesVault", "isThere", "(II)Z"⟩ [Cond.code ⟨"SeriesVault", "isThere", "(II)Z"⟩ prog_1_method_48_code 3 (some FieldType.boolean)] { frames := 8, cells := 1, slots := 6, locals := 127 } (pC D dA [.ref h, .int (nI r), .int w] (VW dA h ad x) sz) "java/lang/IndexOutOfBoundsException" (fun st9 t9 => va_F (va_A (VW dA h ad x) sz) st9 t9 ∧ ∃ u9 : Unit, (True) ∧ bW D (va_A (VW dA h ad x) sz) (VW dA h ad x) t9) 1 6 (va_A (VW dA h ad x) sz) := by
  refine mkX (y := ⟨"SeriesVault", "isThere", "(II)Z"⟩) (cc := prog_1_method_48_code) (maxL := 3) (av := [.ref h, .int (nI r), .int w]) (ws := VW dA h ad x) (sz := sz) (B := fun A => (fun st9 t9 => va_F A st9 t9 ∧ ∃ u9 : Unit, (True) ∧ bW D A (VW dA h ad x) t9)) (by decide) (Nat.le_of_ble_eq_true rfl) ?_
  intro A p e s m below meth c ls hsz hno hB
  obtain ⟨hx, hb, hr, hml, hown, hin, hlk, hE, hK, hP, hD, hS, hA, hN, hl⟩ := hB
  have hown : s.vm.findClass "SeriesVault" = some m.cls := hown
  have hl : lv_has ls 3 [(0, .ref h), (1, .int (nI r)), (2, .int w)] := hl
  obtain ⟨H, hH⟩ : ∃ z, z = s.heap := ⟨_, rfl⟩
  have hP : va_P D vwCl (VW dA h ad x) H := by rw [hH]; exact hP
  have hS : va_S A s.heap H [] := by rw [hH]; exact hS
  rw [← hH]
  refine lv_aload_n hx hb d_V_isThere_0 rfl (lv_at hl 0 rfl) ?_
  refine lv_iload_n hx hb d_V_isThere_1 rfl (lv_at hl 1 rfl) ?_
  refine lv_iload_n hx hb d_V_isThere_2 rfl (lv_at hl 2 rfl) ?_
  refine xkV (wr := []) (As := [.int (nI r), .int w]) (rest := []) hx hb hml hown hE hK (hN _ _ hS) (v_checkCell_xc l htr D dA H.size h ad x la g AT T rr r w hk9 hz9 ht hr1 hr2 hr3) (q0 := 0) rfl rfl w309 w308 w310 w311 w277 rfl rfl ⟨⟨by decide, by decide⟩, rfl⟩ ⟨(Nat.le_of_ble_eq_true rfl), (Nat.le_of_ble_eq_true rfl)⟩ rfl hl.1 rfl (Nat.le_of_ble_eq_true rfl) d_V_isThere_3 ⟨(show 0 + 1 ≤ 1 by omega), (show 0 + 6 ≤ 6 by omega)⟩ hP hD hS hA (fun u2 xa1 ce H locs hp9 hP hD hS hce hcv hcl => ?_)
  have hP : va_P D vwCl (VW dA h ad x) H := hP
  have hD : va_D A (VW dA h ad x) := hD
  exact xOut hno hlk hce hcv hcl (fun t ht => xkE () trivial hP hD hS t (by rw [ht]; exact Nat.le_refl _) (fun q _ => by rw [ht])) hS.2.2 (show 0 + 1 ≤ 1 by omega) (show 0 + 6 ≤ 6 by omega)
set_option maxHeartbeats 4000000 in
set_option maxRecDepth 100000 in
theorem v_cell_xc (l : Launch) (htr : l.stackTraces = false) (D : va_G) (dA : Nat → ClassId) (sz : Nat) (h : Nat) (ad : Nat → Nat) (x : VS) (la : Nat → Nat) (g : LI) (AT : Nat → Nat → Nat) (T : Nat → TB) (rr : va_W) (r : Nat) (w : Int32) (hk9 : skP dA ad rr x la g AT T) (hz9 : 0 < g.sz) (ht : x.hasTable = true) (hr1 : (T 0).rc ≤ r) (hr2 : (T 0).rc ≤ 256) (hr3 : r < 2 ^ 31) : mX l ⟨"SeriesVault", "cell", "(II)J"⟩ [Cond.code ⟨"SeriesVault", "cell", "(II)J"⟩ prog_1_method_49_code 4 (some FieldType.long)] { frames := 8, cells := 1, slots := 6, locals := 127 } (pC D dA [.ref h, .int (nI r), .int w] (VW dA h ad x) sz) "java/lang/IndexOutOfBoundsException" (fun st9 t9 => va_F (va_A (VW dA h ad x) sz) st9 t9 ∧ ∃ u9 : Unit, (True) ∧ bW D (va_A (VW dA h ad x) sz) (VW dA h ad x) t9) 1 6 (va_A (VW dA h ad x) sz) := by
  refine mkX (y := ⟨"SeriesVault", "cell", "(II)J"⟩) (cc := prog_1_method_49_code) (maxL := 4) (av := [.ref h, .int (nI r), .int w]) (ws := VW dA h ad x) (sz := sz) (B := fun A => (fun st9 t9 => va_F A st9 t9 ∧ ∃ u9 : Unit, (True) ∧ bW D A (VW dA h ad x) t9)) (by decide) (Nat.le_of_ble_eq_true rfl) ?_
  intro A p e s m below meth c ls hsz hno hB
  obtain ⟨hx, hb, hr, hml, hown, hin, hlk, hE, hK, hP, hD, hS, hA, hN, hl⟩ := hB
  have hown : s.vm.findClass "SeriesVault" = some m.cls := hown
  have hl : lv_has ls 4 [(0, .ref h), (1, .int (nI r)), (2, .int w)] := hl
  obtain ⟨H, hH⟩ : ∃ z, z = s.heap := ⟨_, rfl⟩
  have hP : va_P D vwCl (VW dA h ad x) H := by rw [hH]; exact hP
  have hS : va_S A s.heap H [] := by rw [hH]; exact hS
  rw [← hH]
  refine lv_aload_n hx hb d_V_cell_0 rfl (lv_at hl 0 rfl) ?_
  refine lv_iload_n hx hb d_V_cell_1 rfl (lv_at hl 1 rfl) ?_
  refine lv_iload_n hx hb d_V_cell_2 rfl (lv_at hl 2 rfl) ?_
  refine xkV (wr := []) (As := [.int (nI r), .int w]) (rest := []) hx hb hml hown hE hK (hN _ _ hS) (v_checkCell_xc l htr D dA H.size h ad x la g AT T rr r w hk9 hz9 ht hr1 hr2 hr3) (q0 := 0) rfl rfl w309 w308 w310 w311 w277 rfl rfl ⟨⟨by decide, by decide⟩, rfl⟩ ⟨(Nat.le_of_ble_eq_true rfl), (Nat.le_of_ble_eq_true rfl)⟩ rfl hl.1 rfl (Nat.le_of_ble_eq_true rfl) d_V_cell_3 ⟨(show 0 + 1 ≤ 1 by omega), (show 0 + 6 ≤ 6 by omega)⟩ hP hD hS hA (fun u2 xa1 ce H locs hp9 hP hD hS hce hcv hcl => ?_)
  have hP : va_P D vwCl (VW dA h ad x) H := hP
  have hD : va_D A (VW dA h ad x) := hD
  exact xOut hno hlk hce hcv hcl (fun t ht => xkE () trivial hP hD hS t (by rw [ht]; exact Nat.le_refl _) (fun q _ => by rw [ht])) hS.2.2 (show 0 + 1 ≤ 1 by omega) (show 0 + 6 ≤ 6 by omega)
set_option maxHeartbeats 4000000 in
set_option maxRecDepth 100000 in
theorem v_isThere_xd (l : Launch) (htr : l.stackTraces = false) (D : va_G) (dA : Nat → ClassId) (sz : Nat) (h : Nat) (ad : Nat → Nat) (x : VS) (la : Nat → Nat) (g : LI) (AT : Nat → Nat → Nat) (T : Nat → TB) (rr : va_W) (r : Nat) (w : Int32) (hk9 : skP dA ad rr x la g AT T) (hz9 : 0 < g.sz) (ht : x.hasTable = true) (hr1 : r < (T 0).rc) (hr2 : (T 0).rc ≤ 256) (hw1 : w < 0) : mX l ⟨"SeriesVault", "isThere", "(II)Z"⟩ [Cond.code ⟨"SeriesVault", "isThere", "(II)Z"⟩ prog_1_method_48_code 3 (some FieldType.boolean)] { frames := 7, cells := 1, slots := 6, locals := 127 } (pC D dA [.ref h, .int (nI r), .int w] (VW dA h ad x) sz) "java/lang/IndexOutOfBoundsException" (fun st9 t9 => va_F (va_A (VW dA h ad x) sz) st9 t9 ∧ ∃ u9 : Unit, (True) ∧ bW D (va_A (VW dA h ad x) sz) (VW dA h ad x) t9) 1 6 (va_A (VW dA h ad x) sz) := by
  refine mkX (y := ⟨"SeriesVault", "isThere", "(II)Z"⟩) (cc := prog_1_method_48_code) (maxL := 3) (av := [.ref h, .int (nI r), .int w]) (ws := VW dA h ad x) (sz := sz) (B := fun A => (fun st9 t9 => va_F A st9 t9 ∧ ∃ u9 : Unit, (True) ∧ bW D A (VW dA h ad x) t9)) (by decide) (Nat.le_of_ble_eq_true rfl) ?_
  intro A p e s m below meth c ls hsz hno hB
  obtain ⟨hx, hb, hr, hml, hown, hin, hlk, hE, hK, hP, hD, hS, hA, hN, hl⟩ := hB
  have hown : s.vm.findClass "SeriesVault" = some m.cls := hown
  have hl : lv_has ls 3 [(0, .ref h), (1, .int (nI r)), (2, .int w)] := hl
  obtain ⟨H, hH⟩ : ∃ z, z = s.heap := ⟨_, rfl⟩
  have hP : va_P D vwCl (VW dA h ad x) H := by rw [hH]; exact hP
  have hS : va_S A s.heap H [] := by rw [hH]; exact hS
  rw [← hH]
  refine lv_aload_n hx hb d_V_isThere_0 rfl (lv_at hl 0 rfl) ?_
  refine lv_iload_n hx hb d_V_isThere_1 rfl (lv_at hl 1 rfl) ?_
  refine lv_iload_n hx hb d_V_isThere_2 rfl (lv_at hl 2 rfl) ?_
  refine xkV (wr := []) (As := [.int (nI r), .int w]) (rest := []) hx hb hml hown hE hK (hN _ _ hS) (v_checkCell_xd l htr D dA H.size h ad x la g AT T rr r w hk9 hz9 ht hr1 hr2 hw1) (q0 := 0) rfl rfl w309 w308 w310 w311 w277 rfl rfl ⟨⟨by decide, by decide⟩, rfl⟩ ⟨(Nat.le_of_ble_eq_true rfl), (Nat.le_of_ble_eq_true rfl)⟩ rfl hl.1 rfl (Nat.le_of_ble_eq_true rfl) d_V_isThere_3 ⟨(show 0 + 1 ≤ 1 by omega), (show 0 + 6 ≤ 6 by omega)⟩ hP hD hS hA (fun u2 xa1 ce H locs hp9 hP hD hS hce hcv hcl => ?_)
  have hP : va_P D vwCl (VW dA h ad x) H := hP
  have hD : va_D A (VW dA h ad x) := hD
  exact xOut hno hlk hce hcv hcl (fun t ht => xkE () trivial hP hD hS t (by rw [ht]; exact Nat.le_refl _) (fun q _ => by rw [ht])) hS.2.2 (show 0 + 1 ≤ 1 by omega) (show 0 + 6 ≤ 6 by omega)
set_option maxHeartbeats 4000000 in
set_option maxRecDepth 100000 in
theorem v_cell_xd (l : Launch) (htr : l.stackTraces = false) (D : va_G) (dA : Nat → ClassId) (sz : Nat) (h : Nat) (ad : Nat → Nat) (x : VS) (la : Nat → Nat) (g : LI) (AT : Nat → Nat → Nat) (T : Nat → TB) (rr : va_W) (r : Nat) (w : Int32) (hk9 : skP dA ad rr x la g AT T) (hz9 : 0 < g.sz) (ht : x.hasTable = true) (hr1 : r < (T 0).rc) (hr2 : (T 0).rc ≤ 256) (hw1 : w < 0) : mX l ⟨"SeriesVault", "cell", "(II)J"⟩ [Cond.code ⟨"SeriesVault", "cell", "(II)J"⟩ prog_1_method_49_code 4 (some FieldType.long)] { frames := 7, cells := 1, slots := 6, locals := 127 } (pC D dA [.ref h, .int (nI r), .int w] (VW dA h ad x) sz) "java/lang/IndexOutOfBoundsException" (fun st9 t9 => va_F (va_A (VW dA h ad x) sz) st9 t9 ∧ ∃ u9 : Unit, (True) ∧ bW D (va_A (VW dA h ad x) sz) (VW dA h ad x) t9) 1 6 (va_A (VW dA h ad x) sz) := by
  refine mkX (y := ⟨"SeriesVault", "cell", "(II)J"⟩) (cc := prog_1_method_49_code) (maxL := 4) (av := [.ref h, .int (nI r), .int w]) (ws := VW dA h ad x) (sz := sz) (B := fun A => (fun st9 t9 => va_F A st9 t9 ∧ ∃ u9 : Unit, (True) ∧ bW D A (VW dA h ad x) t9)) (by decide) (Nat.le_of_ble_eq_true rfl) ?_
  intro A p e s m below meth c ls hsz hno hB
  obtain ⟨hx, hb, hr, hml, hown, hin, hlk, hE, hK, hP, hD, hS, hA, hN, hl⟩ := hB
  have hown : s.vm.findClass "SeriesVault" = some m.cls := hown
  have hl : lv_has ls 4 [(0, .ref h), (1, .int (nI r)), (2, .int w)] := hl
  obtain ⟨H, hH⟩ : ∃ z, z = s.heap := ⟨_, rfl⟩
  have hP : va_P D vwCl (VW dA h ad x) H := by rw [hH]; exact hP
  have hS : va_S A s.heap H [] := by rw [hH]; exact hS
  rw [← hH]
  refine lv_aload_n hx hb d_V_cell_0 rfl (lv_at hl 0 rfl) ?_
  refine lv_iload_n hx hb d_V_cell_1 rfl (lv_at hl 1 rfl) ?_
  refine lv_iload_n hx hb d_V_cell_2 rfl (lv_at hl 2 rfl) ?_
  refine xkV (wr := []) (As := [.int (nI r), .int w]) (rest := []) hx hb hml hown hE hK (hN _ _ hS) (v_checkCell_xd l htr D dA H.size h ad x la g AT T rr r w hk9 hz9 ht hr1 hr2 hw1) (q0 := 0) rfl rfl w309 w308 w310 w311 w277 rfl rfl ⟨⟨by decide, by decide⟩, rfl⟩ ⟨(Nat.le_of_ble_eq_true rfl), (Nat.le_of_ble_eq_true rfl)⟩ rfl hl.1 rfl (Nat.le_of_ble_eq_true rfl) d_V_cell_3 ⟨(show 0 + 1 ≤ 1 by omega), (show 0 + 6 ≤ 6 by omega)⟩ hP hD hS hA (fun u2 xa1 ce H locs hp9 hP hD hS hce hcv hcl => ?_)
  have hP : va_P D vwCl (VW dA h ad x) H := hP
  have hD : va_D A (VW dA h ad x) := hD
  exact xOut hno hlk hce hcv hcl (fun t ht => xkE () trivial hP hD hS t (by rw [ht]; exact Nat.le_refl _) (fun q _ => by rw [ht])) hS.2.2 (show 0 + 1 ≤ 1 by omega) (show 0 + 6 ≤ 6 by omega)
set_option maxHeartbeats 4000000 in
set_option maxRecDepth 100000 in
theorem v_isThere_xe (l : Launch) (htr : l.stackTraces = false) (D : va_G) (dA : Nat → ClassId) (sz : Nat) (h : Nat) (ad : Nat → Nat) (x : VS) (la : Nat → Nat) (g : LI) (AT : Nat → Nat → Nat) (T : Nat → TB) (rr : va_W) (r : Nat) (w : Nat) (hk9 : skP dA ad rr x la g AT T) (hz9 : 0 < g.sz) (ht : x.hasTable = true) (hr1 : r < (T 0).rc) (hr2 : (T 0).rc ≤ 256) (hw1 : (T 0).wi ≤ w) (hw2 : (T 0).wi ≤ 64) (hw3 : w < 2 ^ 31) : mX l ⟨"SeriesVault", "isThere", "(II)Z"⟩ [Cond.code ⟨"SeriesVault", "isThere", "(II)Z"⟩ prog_1_method_48_code 3 (some FieldType.boolean)] { frames := 7, cells := 1, slots := 6, locals := 127 } (pC D dA [.ref h, .int (nI r), .int (nI w)] (VW dA h ad x) sz) "java/lang/IndexOutOfBoundsException" (fun st9 t9 => va_F (va_A (VW dA h ad x) sz) st9 t9 ∧ ∃ u9 : Unit, (True) ∧ bW D (va_A (VW dA h ad x) sz) (VW dA h ad x) t9) 1 6 (va_A (VW dA h ad x) sz) := by
  refine mkX (y := ⟨"SeriesVault", "isThere", "(II)Z"⟩) (cc := prog_1_method_48_code) (maxL := 3) (av := [.ref h, .int (nI r), .int (nI w)]) (ws := VW dA h ad x) (sz := sz) (B := fun A => (fun st9 t9 => va_F A st9 t9 ∧ ∃ u9 : Unit, (True) ∧ bW D A (VW dA h ad x) t9)) (by decide) (Nat.le_of_ble_eq_true rfl) ?_
  intro A p e s m below meth c ls hsz hno hB
  obtain ⟨hx, hb, hr, hml, hown, hin, hlk, hE, hK, hP, hD, hS, hA, hN, hl⟩ := hB
  have hown : s.vm.findClass "SeriesVault" = some m.cls := hown
  have hl : lv_has ls 3 [(0, .ref h), (1, .int (nI r)), (2, .int (nI w))] := hl
  obtain ⟨H, hH⟩ : ∃ z, z = s.heap := ⟨_, rfl⟩
  have hP : va_P D vwCl (VW dA h ad x) H := by rw [hH]; exact hP
  have hS : va_S A s.heap H [] := by rw [hH]; exact hS
  rw [← hH]
  refine lv_aload_n hx hb d_V_isThere_0 rfl (lv_at hl 0 rfl) ?_
  refine lv_iload_n hx hb d_V_isThere_1 rfl (lv_at hl 1 rfl) ?_
  refine lv_iload_n hx hb d_V_isThere_2 rfl (lv_at hl 2 rfl) ?_
  refine xkV (wr := []) (As := [.int (nI r), .int (nI w)]) (rest := []) hx hb hml hown hE hK (hN _ _ hS) (v_checkCell_xe l htr D dA H.size h ad x la g AT T rr r w hk9 hz9 ht hr1 hr2 hw1 hw2 hw3) (q0 := 0) rfl rfl w309 w308 w310 w311 w277 rfl rfl ⟨⟨by decide, by decide⟩, rfl⟩ ⟨(Nat.le_of_ble_eq_true rfl), (Nat.le_of_ble_eq_true rfl)⟩ rfl hl.1 rfl (Nat.le_of_ble_eq_true rfl) d_V_isThere_3 ⟨(show 0 + 1 ≤ 1 by omega), (show 0 + 6 ≤ 6 by omega)⟩ hP hD hS hA (fun u2 xa1 ce H locs hp9 hP hD hS hce hcv hcl => ?_)
  have hP : va_P D vwCl (VW dA h ad x) H := hP
  have hD : va_D A (VW dA h ad x) := hD
  exact xOut hno hlk hce hcv hcl (fun t ht => xkE () trivial hP hD hS t (by rw [ht]; exact Nat.le_refl _) (fun q _ => by rw [ht])) hS.2.2 (show 0 + 1 ≤ 1 by omega) (show 0 + 6 ≤ 6 by omega)
set_option maxHeartbeats 4000000 in
set_option maxRecDepth 100000 in
theorem v_cell_xe (l : Launch) (htr : l.stackTraces = false) (D : va_G) (dA : Nat → ClassId) (sz : Nat) (h : Nat) (ad : Nat → Nat) (x : VS) (la : Nat → Nat) (g : LI) (AT : Nat → Nat → Nat) (T : Nat → TB) (rr : va_W) (r : Nat) (w : Nat) (hk9 : skP dA ad rr x la g AT T) (hz9 : 0 < g.sz) (ht : x.hasTable = true) (hr1 : r < (T 0).rc) (hr2 : (T 0).rc ≤ 256) (hw1 : (T 0).wi ≤ w) (hw2 : (T 0).wi ≤ 64) (hw3 : w < 2 ^ 31) : mX l ⟨"SeriesVault", "cell", "(II)J"⟩ [Cond.code ⟨"SeriesVault", "cell", "(II)J"⟩ prog_1_method_49_code 4 (some FieldType.long)] { frames := 7, cells := 1, slots := 6, locals := 127 } (pC D dA [.ref h, .int (nI r), .int (nI w)] (VW dA h ad x) sz) "java/lang/IndexOutOfBoundsException" (fun st9 t9 => va_F (va_A (VW dA h ad x) sz) st9 t9 ∧ ∃ u9 : Unit, (True) ∧ bW D (va_A (VW dA h ad x) sz) (VW dA h ad x) t9) 1 6 (va_A (VW dA h ad x) sz) := by
  refine mkX (y := ⟨"SeriesVault", "cell", "(II)J"⟩) (cc := prog_1_method_49_code) (maxL := 4) (av := [.ref h, .int (nI r), .int (nI w)]) (ws := VW dA h ad x) (sz := sz) (B := fun A => (fun st9 t9 => va_F A st9 t9 ∧ ∃ u9 : Unit, (True) ∧ bW D A (VW dA h ad x) t9)) (by decide) (Nat.le_of_ble_eq_true rfl) ?_
  intro A p e s m below meth c ls hsz hno hB
  obtain ⟨hx, hb, hr, hml, hown, hin, hlk, hE, hK, hP, hD, hS, hA, hN, hl⟩ := hB
  have hown : s.vm.findClass "SeriesVault" = some m.cls := hown
  have hl : lv_has ls 4 [(0, .ref h), (1, .int (nI r)), (2, .int (nI w))] := hl
  obtain ⟨H, hH⟩ : ∃ z, z = s.heap := ⟨_, rfl⟩
  have hP : va_P D vwCl (VW dA h ad x) H := by rw [hH]; exact hP
  have hS : va_S A s.heap H [] := by rw [hH]; exact hS
  rw [← hH]
  refine lv_aload_n hx hb d_V_cell_0 rfl (lv_at hl 0 rfl) ?_
  refine lv_iload_n hx hb d_V_cell_1 rfl (lv_at hl 1 rfl) ?_
  refine lv_iload_n hx hb d_V_cell_2 rfl (lv_at hl 2 rfl) ?_
  refine xkV (wr := []) (As := [.int (nI r), .int (nI w)]) (rest := []) hx hb hml hown hE hK (hN _ _ hS) (v_checkCell_xe l htr D dA H.size h ad x la g AT T rr r w hk9 hz9 ht hr1 hr2 hw1 hw2 hw3) (q0 := 0) rfl rfl w309 w308 w310 w311 w277 rfl rfl ⟨⟨by decide, by decide⟩, rfl⟩ ⟨(Nat.le_of_ble_eq_true rfl), (Nat.le_of_ble_eq_true rfl)⟩ rfl hl.1 rfl (Nat.le_of_ble_eq_true rfl) d_V_cell_3 ⟨(show 0 + 1 ≤ 1 by omega), (show 0 + 6 ≤ 6 by omega)⟩ hP hD hS hA (fun u2 xa1 ce H locs hp9 hP hD hS hce hcv hcl => ?_)
  have hP : va_P D vwCl (VW dA h ad x) H := hP
  have hD : va_D A (VW dA h ad x) := hD
  exact xOut hno hlk hce hcv hcl (fun t ht => xkE () trivial hP hD hS t (by rw [ht]; exact Nat.le_refl _) (fun q _ => by rw [ht])) hS.2.2 (show 0 + 1 ≤ 1 by omega) (show 0 + 6 ≤ 6 by omega)
