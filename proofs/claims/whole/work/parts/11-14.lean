section
theorem d_V_checkSeries_0 : decode prog_1_method_14_code 0 = .ok (.iload_n 1, 1) := by decide +kernel
theorem d_V_checkSeries_1 : decode prog_1_method_14_code 1 = .ok (.ifCond .lt 14, 3) := by decide +kernel
theorem d_V_checkSeries_15 : decode prog_1_method_14_code 15 = .ok (.new 92, 3) := by decide +kernel
theorem d_V_checkSeries_18 : decode prog_1_method_14_code 18 = .ok (.dup, 1) := by decide +kernel
theorem d_V_checkSeries_19 : decode prog_1_method_14_code 19 = .ok (.invokespecial 94, 3) := by decide +kernel
theorem d_V_checkSeries_22 : decode prog_1_method_14_code 22 = .ok (.athrow, 1) := by decide +kernel
theorem d_V_checkSeries_4 : decode prog_1_method_14_code 4 = .ok (.iload_n 1, 1) := by decide +kernel
theorem d_V_checkSeries_5 : decode prog_1_method_14_code 5 = .ok (.aload_n 0, 1) := by decide +kernel
theorem d_V_checkSeries_6 : decode prog_1_method_14_code 6 = .ok (.getfield 33, 3) := by decide +kernel
theorem d_V_checkSeries_9 : decode prog_1_method_14_code 9 = .ok (.getfield 130, 3) := by decide +kernel
theorem d_V_checkSeries_12 : decode prog_1_method_14_code 12 = .ok (.if_icmp .lt 11, 3) := by decide +kernel
theorem w297 : Cond.fieldLink "SeriesVault" 33 "SeriesVault" "now" "LSeriesVault$Shelf;" ∈ aW := aw_of (tb_2 (List.mem_of_getElem? (i := 216) rfl)) rfl
theorem w298 : Cond.fieldLinkNest "SeriesVault" 130 "SeriesVault$Shelf" "seriesCount" "I" "SeriesVault" ∈ aW := aw_of (tb_1 (List.mem_of_getElem? (i := 156) rfl)) rfl
set_option maxHeartbeats 4000000 in
set_option maxRecDepth 100000 in
theorem c_V_checkSeries_x (l : Launch) (htr : l.stackTraces = false) (D : va_G) (dA : Nat → ClassId) (sz : Nat) (a : Nat) (fs : List Value) (b : Nat) (gs : List Value) (k : Int32) (n : Int32) (h0 : n < 0 ∨ k ≤ n) (h_fs_now : fs[11]? = some (.ref b)) (hl_fs : fs.length = 18) (h_gs_seriesCount : gs[8]? = some (.int k)) (hl_gs : gs.length = 11) : mX l ⟨"SeriesVault", "checkSeries", "(I)V"⟩ [Cond.code ⟨"SeriesVault", "checkSeries", "(I)V"⟩ prog_1_method_14_code 2 none] { frames := 6, cells := 1, slots := 6, locals := 81 } (pC D dA [.ref a, .int n] [(a, .inr (0, fs)), (b, .inr (3, gs))] sz) "java/lang/IndexOutOfBoundsException" (fun st9 t9 => va_F (va_A [(a, .inr (0, fs)), (b, .inr (3, gs))] sz) st9 t9 ∧ bW D (va_A [(a, .inr (0, fs)), (b, .inr (3, gs))] sz) [(a, .inr (0, fs)), (b, .inr (3, gs))] t9) 1 6 (va_A [(a, .inr (0, fs)), (b, .inr (3, gs))] sz) := by
  refine mkX (B := fun A => fun st9 t9 => va_F A st9 t9 ∧ bW D A [(a, .inr (0, fs)), (b, .inr (3, gs))] t9) (by decide) (Nat.le_of_ble_eq_true rfl) ?_
  intro A p e s m below meth c ls hsz hno hB
  obtain ⟨hx, hb, hr, hml, hown, hin, hlk, hE, hK, hP, hD, hS, hA, hN, hl⟩ := hB
  have hown : s.vm.findClass "SeriesVault" = some m.cls := hown
  have hin : meth.name = "checkSeries" := hin
  have hl : lv_has ls 2 [(0, .ref a), (1, .int n)] := hl
  obtain ⟨H, hH⟩ : ∃ z, z = s.heap := ⟨_, rfl⟩
  have hP : va_P D vwCl [(a, .inr (0, fs)), (b, .inr (3, gs))] H := by rw [hH]; exact hP
  have hS : va_S A s.heap H [] := by rw [hH]; exact hS
  rw [← hH]
  refine lv_iload_n hx hb d_V_checkSeries_0 rfl (lv_at hl 1 rfl) ?_
  refine lv_if_lt hx hb d_V_checkSeries_1 (tgt := 15) rfl (fun hc => ?_) (fun hc => ?_)
  · exact xNew (E := "java/lang/IndexOutOfBoundsException") (names := ["java/lang/RuntimeException", "java/lang/Exception"]) hx hb htr hown (by decide) (by decide) hE w257 w258 (fun U hU => at_V_IOOBE hU) (hN _ _ hS) (hl.1.trans hml.symm) d_V_checkSeries_15 d_V_checkSeries_18 d_V_checkSeries_19 d_V_checkSeries_22 hno (by decide) (Nat.le_of_ble_eq_true rfl) (Nat.le_of_ble_eq_true rfl) (Nat.le_of_ble_eq_true rfl) hlk (fun t h1 h2 => xEnd hP hD hS [0, 1] rfl rfl (by decide) t h1 h2) hS.2.2 (Nat.le_of_ble_eq_true rfl) (Nat.le_of_ble_eq_true rfl)
  · refine lv_iload_n hx hb d_V_checkSeries_4 rfl (lv_at hl 1 rfl) ?_
    refine lv_aload_n hx hb d_V_checkSeries_5 rfl (lv_at hl 0 rfl) ?_
    refine gF (v := .ref b) hx hb hown hE hK hP 0 rfl rfl layV 11 (by decide) w297 h_fs_now d_V_checkSeries_6 ?_
    refine gFN (v := .int k) hx hb hown hE hK hP 1 rfl rfl layH 8 (by decide) w298 h_gs_seriesCount d_V_checkSeries_9 ?_
    refine lv_icmp_lt hx hb d_V_checkSeries_12 (tgt := 23) rfl (fun h9 => absurd h9 (Int32.not_lt.mpr (h0.resolve_left hc))) (fun _ => ?_)
    exact xNew (E := "java/lang/IndexOutOfBoundsException") (names := ["java/lang/RuntimeException", "java/lang/Exception"]) hx hb htr hown (by decide) (by decide) hE w257 w258 (fun U hU => at_V_IOOBE hU) (hN _ _ hS) (hl.1.trans hml.symm) d_V_checkSeries_15 d_V_checkSeries_18 d_V_checkSeries_19 d_V_checkSeries_22 hno (by decide) (Nat.le_of_ble_eq_true rfl) (Nat.le_of_ble_eq_true rfl) (Nat.le_of_ble_eq_true rfl) hlk (fun t h1 h2 => xEnd hP hD hS [0, 1] rfl rfl (by decide) t h1 h2) hS.2.2 (Nat.le_of_ble_eq_true rfl) (Nat.le_of_ble_eq_true rfl)
theorem d_V_letter_0 : decode prog_1_method_26_code 0 = .ok (.aload_n 0, 1) := by decide +kernel
theorem d_V_letter_1 : decode prog_1_method_26_code 1 = .ok (.invokevirtual 124, 3) := by decide +kernel
theorem d_V_letter_4 : decode prog_1_method_26_code 4 = .ok (.aload_n 0, 1) := by decide +kernel
theorem d_V_letter_5 : decode prog_1_method_26_code 5 = .ok (.iload_n 1, 1) := by decide +kernel
theorem d_V_letter_6 : decode prog_1_method_26_code 6 = .ok (.invokevirtual 244, 3) := by decide +kernel
theorem w299 : Cond.methodLink "SeriesVault" 244 ⟨"SeriesVault", "checkSeries", "(I)V"⟩ ∈ aW := aw_of (tb_5 (List.mem_of_getElem? (i := 122) rfl)) rfl
theorem w300 : Cond.code ⟨"SeriesVault", "checkSeries", "(I)V"⟩ prog_1_method_14_code 2 none ∈ aW := aw_of (tb_5 (List.mem_of_getElem? (i := 125) rfl)) rfl
theorem w301 : Cond.instanceMethod ⟨"SeriesVault", "checkSeries", "(I)V"⟩ ∈ aW := aw_of (tb_5 (List.mem_of_getElem? (i := 124) rfl)) rfl
theorem w302 : Cond.selects "SeriesVault" ⟨"SeriesVault", "checkSeries", "(I)V"⟩ ⟨"SeriesVault", "checkSeries", "(I)V"⟩ ∈ aW := aw_pr (List.mem_map.mpr ⟨_, pv_2 (List.mem_of_getElem? (i := 1) rfl), rfl⟩) rfl
set_option maxHeartbeats 4000000 in
set_option maxRecDepth 100000 in
theorem c_V_letter_x (l : Launch) (htr : l.stackTraces = false) (D : va_G) (dA : Nat → ClassId) (sz : Nat) (a : Nat) (fs : List Value) (b : Nat) (gs : List Value) (k : Int32) (n : Int32) (i : Int32) (h0 : n < 0 ∨ k ≤ n) (h_fs_powered : fs[5]? = some (.int 1)) (h_fs_now : fs[11]? = some (.ref b)) (hl_fs : fs.length = 18) (h_gs_seriesCount : gs[8]? = some (.int k)) (hl_gs : gs.length = 11) : mX l ⟨"SeriesVault", "letter", "(II)I"⟩ [Cond.code ⟨"SeriesVault", "letter", "(II)I"⟩ prog_1_method_26_code 3 (some FieldType.int)] { frames := 7, cells := 1, slots := 6, locals := 102 } (pC D dA [.ref a, .int n, .int i] [(a, .inr (0, fs)), (b, .inr (3, gs))] sz) "java/lang/IndexOutOfBoundsException" (fun st9 t9 => va_F (va_A [(a, .inr (0, fs)), (b, .inr (3, gs))] sz) st9 t9 ∧ bW D (va_A [(a, .inr (0, fs)), (b, .inr (3, gs))] sz) [(a, .inr (0, fs)), (b, .inr (3, gs))] t9) 1 6 (va_A [(a, .inr (0, fs)), (b, .inr (3, gs))] sz) := by
  refine mkX (B := fun A => fun st9 t9 => va_F A st9 t9 ∧ bW D A [(a, .inr (0, fs)), (b, .inr (3, gs))] t9) (by decide) (Nat.le_of_ble_eq_true rfl) ?_
  intro A p e s m below meth c ls hsz hno hB
  obtain ⟨hx, hb, hr, hml, hown, hin, hlk, hE, hK, hP, hD, hS, hA, hN, hl⟩ := hB
  have hown : s.vm.findClass "SeriesVault" = some m.cls := hown
  have hin : meth.name = "letter" := hin
  have hl : lv_has ls 3 [(0, .ref a), (1, .int n), (2, .int i)] := hl
  obtain ⟨H, hH⟩ : ∃ z, z = s.heap := ⟨_, rfl⟩
  have hP : va_P D vwCl [(a, .inr (0, fs)), (b, .inr (3, gs))] H := by rw [hH]; exact hP
  have hS : va_S A s.heap H [] := by rw [hH]; exact hS
  rw [← hH]
  refine lv_aload_n hx hb d_V_letter_0 rfl (lv_at hl 0 rfl) ?_
  have hPc := hP.sub (ws' := [(a, .inr (0, fs))]) [0] rfl
  have hDc := hD.sub (ws' := [(a, .inr (0, fs))]) [0] (by decide) rfl
  refine jnV (rnV (As := []) (rest := []) hx hb hml hown hE hK (hN _ _ hS) hPc hDc (c_V_checkPower l D dA H.size a fs h_fs_powered hl_fs) (q0 := 0) rfl rfl w278 w276 w279 w280 w277 rfl rfl ⟨⟨by decide, by decide⟩, rfl⟩ ⟨(Nat.le_of_ble_eq_true rfl), (Nat.le_of_ble_eq_true rfl)⟩ rfl hl.1 rfl (Nat.le_of_ble_eq_true rfl) d_V_letter_1 ⟨(Nat.le_of_ble_eq_true rfl), (Nat.le_of_ble_eq_true rfl)⟩) hP hD hS hA [0] [1] (wr := [(b, .inr (3, gs))]) rfl rfl (by decide) (by decide) (fun u9 H locs hp9 hP hD hS => ?_)
  have hP : va_P D vwCl [(b, .inr (3, gs)), (a, .inr (0, fs))] H := hP
  have hD : va_D A [(b, .inr (3, gs)), (a, .inr (0, fs))] := hD
  refine lv_aload_n hx hb d_V_letter_4 rfl (lv_at hl 0 rfl) ?_
  refine lv_iload_n hx hb d_V_letter_5 rfl (lv_at hl 1 rfl) ?_
  have hPc := hP.sub (ws' := [(a, .inr (0, fs)), (b, .inr (3, gs))]) [1, 0] rfl
  have hDc := hD.sub (ws' := [(a, .inr (0, fs)), (b, .inr (3, gs))]) [1, 0] (by decide) rfl
  refine xnV (As := [.int n]) (rest := []) hx hb hml hown hE hK (hN _ _ hS) hPc hDc (c_V_checkSeries_x l htr D dA H.size a fs b gs k n h0 h_fs_now hl_fs h_gs_seriesCount hl_gs) (q0 := 0) rfl rfl w300 w299 w301 w302 w277 rfl rfl ⟨⟨by decide, by decide⟩, rfl⟩ ⟨(Nat.le_of_ble_eq_true rfl), (Nat.le_of_ble_eq_true rfl)⟩ rfl hl.1 rfl (Nat.le_of_ble_eq_true rfl) d_V_letter_6 ⟨(Nat.le_of_ble_eq_true rfl), (Nat.le_of_ble_eq_true rfl)⟩ hP hD hS hA [1, 0] [] (wr := []) rfl rfl (by decide) (by decide) (fun x2 ce H locs hP hD hS hce hcv hcl => ?_)
  have hP : va_P D vwCl [(a, .inr (0, fs)), (b, .inr (3, gs))] H := hP
  have hD : va_D A [(a, .inr (0, fs)), (b, .inr (3, gs))] := hD
  exact xOut hno hlk hce hcv hcl (fun t ht => xEnd hP hD hS [0, 1] rfl rfl (by decide) t (by rw [ht]; exact Nat.le_refl _) (fun q _ => by rw [ht])) hS.2.2 (Nat.le_of_ble_eq_true rfl) (Nat.le_of_ble_eq_true rfl)
theorem d_V_last_0 : decode prog_1_method_27_code 0 = .ok (.aload_n 0, 1) := by decide +kernel
theorem d_V_last_1 : decode prog_1_method_27_code 1 = .ok (.invokevirtual 124, 3) := by decide +kernel
theorem d_V_last_4 : decode prog_1_method_27_code 4 = .ok (.aload_n 0, 1) := by decide +kernel
theorem d_V_last_5 : decode prog_1_method_27_code 5 = .ok (.iload_n 1, 1) := by decide +kernel
theorem d_V_last_6 : decode prog_1_method_27_code 6 = .ok (.invokevirtual 244, 3) := by decide +kernel
set_option maxHeartbeats 4000000 in
set_option maxRecDepth 100000 in
theorem c_V_last_x (l : Launch) (htr : l.stackTraces = false) (D : va_G) (dA : Nat → ClassId) (sz : Nat) (a : Nat) (fs : List Value) (b : Nat) (gs : List Value) (k : Int32) (n : Int32) (h0 : n < 0 ∨ k ≤ n) (h_fs_powered : fs[5]? = some (.int 1)) (h_fs_now : fs[11]? = some (.ref b)) (hl_fs : fs.length = 18) (h_gs_seriesCount : gs[8]? = some (.int k)) (hl_gs : gs.length = 11) : mX l ⟨"SeriesVault", "last", "(I)J"⟩ [Cond.code ⟨"SeriesVault", "last", "(I)J"⟩ prog_1_method_27_code 2 (some FieldType.long)] { frames := 7, cells := 1, slots := 6, locals := 102 } (pC D dA [.ref a, .int n] [(a, .inr (0, fs)), (b, .inr (3, gs))] sz) "java/lang/IndexOutOfBoundsException" (fun st9 t9 => va_F (va_A [(a, .inr (0, fs)), (b, .inr (3, gs))] sz) st9 t9 ∧ bW D (va_A [(a, .inr (0, fs)), (b, .inr (3, gs))] sz) [(a, .inr (0, fs)), (b, .inr (3, gs))] t9) 1 6 (va_A [(a, .inr (0, fs)), (b, .inr (3, gs))] sz) := by
  refine mkX (B := fun A => fun st9 t9 => va_F A st9 t9 ∧ bW D A [(a, .inr (0, fs)), (b, .inr (3, gs))] t9) (by decide) (Nat.le_of_ble_eq_true rfl) ?_
  intro A p e s m below meth c ls hsz hno hB
  obtain ⟨hx, hb, hr, hml, hown, hin, hlk, hE, hK, hP, hD, hS, hA, hN, hl⟩ := hB
  have hown : s.vm.findClass "SeriesVault" = some m.cls := hown
  have hin : meth.name = "last" := hin
  have hl : lv_has ls 2 [(0, .ref a), (1, .int n)] := hl
  obtain ⟨H, hH⟩ : ∃ z, z = s.heap := ⟨_, rfl⟩
  have hP : va_P D vwCl [(a, .inr (0, fs)), (b, .inr (3, gs))] H := by rw [hH]; exact hP
  have hS : va_S A s.heap H [] := by rw [hH]; exact hS
  rw [← hH]
  refine lv_aload_n hx hb d_V_last_0 rfl (lv_at hl 0 rfl) ?_
  have hPc := hP.sub (ws' := [(a, .inr (0, fs))]) [0] rfl
  have hDc := hD.sub (ws' := [(a, .inr (0, fs))]) [0] (by decide) rfl
  refine jnV (rnV (As := []) (rest := []) hx hb hml hown hE hK (hN _ _ hS) hPc hDc (c_V_checkPower l D dA H.size a fs h_fs_powered hl_fs) (q0 := 0) rfl rfl w278 w276 w279 w280 w277 rfl rfl ⟨⟨by decide, by decide⟩, rfl⟩ ⟨(Nat.le_of_ble_eq_true rfl), (Nat.le_of_ble_eq_true rfl)⟩ rfl hl.1 rfl (Nat.le_of_ble_eq_true rfl) d_V_last_1 ⟨(Nat.le_of_ble_eq_true rfl), (Nat.le_of_ble_eq_true rfl)⟩) hP hD hS hA [0] [1] (wr := [(b, .inr (3, gs))]) rfl rfl (by decide) (by decide) (fun u9 H locs hp9 hP hD hS => ?_)
  have hP : va_P D vwCl [(b, .inr (3, gs)), (a, .inr (0, fs))] H := hP
  have hD : va_D A [(b, .inr (3, gs)), (a, .inr (0, fs))] := hD
  refine lv_aload_n hx hb d_V_last_4 rfl (lv_at hl 0 rfl) ?_
  refine lv_iload_n hx hb d_V_last_5 rfl (lv_at hl 1 rfl) ?_
  have hPc := hP.sub (ws' := [(a, .inr (0, fs)), (b, .inr (3, gs))]) [1, 0] rfl
  have hDc := hD.sub (ws' := [(a, .inr (0, fs)), (b, .inr (3, gs))]) [1, 0] (by decide) rfl
  refine xnV (As := [.int n]) (rest := []) hx hb hml hown hE hK (hN _ _ hS) hPc hDc (c_V_checkSeries_x l htr D dA H.size a fs b gs k n h0 h_fs_now hl_fs h_gs_seriesCount hl_gs) (q0 := 0) rfl rfl w300 w299 w301 w302 w277 rfl rfl ⟨⟨by decide, by decide⟩, rfl⟩ ⟨(Nat.le_of_ble_eq_true rfl), (Nat.le_of_ble_eq_true rfl)⟩ rfl hl.1 rfl (Nat.le_of_ble_eq_true rfl) d_V_last_6 ⟨(Nat.le_of_ble_eq_true rfl), (Nat.le_of_ble_eq_true rfl)⟩ hP hD hS hA [1, 0] [] (wr := []) rfl rfl (by decide) (by decide) (fun x2 ce H locs hP hD hS hce hcv hcl => ?_)
  have hP : va_P D vwCl [(a, .inr (0, fs)), (b, .inr (3, gs))] H := hP
  have hD : va_D A [(a, .inr (0, fs)), (b, .inr (3, gs))] := hD
  exact xOut hno hlk hce hcv hcl (fun t ht => xEnd hP hD hS [0, 1] rfl rfl (by decide) t (by rw [ht]; exact Nat.le_refl _) (fun q _ => by rw [ht])) hS.2.2 (Nat.le_of_ble_eq_true rfl) (Nat.le_of_ble_eq_true rfl)
theorem d_V_append_0 : decode prog_1_method_28_code 0 = .ok (.aload_n 0, 1) := by decide +kernel
theorem d_V_append_1 : decode prog_1_method_28_code 1 = .ok (.invokevirtual 124, 3) := by decide +kernel
theorem d_V_append_4 : decode prog_1_method_28_code 4 = .ok (.aload_n 0, 1) := by decide +kernel
theorem d_V_append_5 : decode prog_1_method_28_code 5 = .ok (.iload_n 1, 1) := by decide +kernel
theorem d_V_append_6 : decode prog_1_method_28_code 6 = .ok (.invokevirtual 244, 3) := by decide +kernel
set_option maxHeartbeats 4000000 in
set_option maxRecDepth 100000 in
theorem c_V_append_x (l : Launch) (htr : l.stackTraces = false) (D : va_G) (dA : Nat → ClassId) (sz : Nat) (a : Nat) (fs : List Value) (b : Nat) (gs : List Value) (k : Int32) (n : Int32) (t : Int64) (v : Int64) (h0 : n < 0 ∨ k ≤ n) (h_fs_powered : fs[5]? = some (.int 1)) (h_fs_now : fs[11]? = some (.ref b)) (hl_fs : fs.length = 18) (h_gs_seriesCount : gs[8]? = some (.int k)) (hl_gs : gs.length = 11) : mX l ⟨"SeriesVault", "append", "(IJJ)I"⟩ [Cond.code ⟨"SeriesVault", "append", "(IJJ)I"⟩ prog_1_method_28_code 6 (some FieldType.int)] { frames := 7, cells := 1, slots := 6, locals := 102 } (pC D dA [.ref a, .int n, .long t, .long v] [(a, .inr (0, fs)), (b, .inr (3, gs))] sz) "java/lang/IndexOutOfBoundsException" (fun st9 t9 => va_F (va_A [(a, .inr (0, fs)), (b, .inr (3, gs))] sz) st9 t9 ∧ bW D (va_A [(a, .inr (0, fs)), (b, .inr (3, gs))] sz) [(a, .inr (0, fs)), (b, .inr (3, gs))] t9) 1 6 (va_A [(a, .inr (0, fs)), (b, .inr (3, gs))] sz) := by
  refine mkX (B := fun A => fun st9 t9 => va_F A st9 t9 ∧ bW D A [(a, .inr (0, fs)), (b, .inr (3, gs))] t9) (by decide) (Nat.le_of_ble_eq_true rfl) ?_
  intro A p e s m below meth c ls hsz hno hB
  obtain ⟨hx, hb, hr, hml, hown, hin, hlk, hE, hK, hP, hD, hS, hA, hN, hl⟩ := hB
  have hown : s.vm.findClass "SeriesVault" = some m.cls := hown
  have hin : meth.name = "append" := hin
  have hl : lv_has ls 6 [(0, .ref a), (1, .int n), (2, .long t), (4, .long v)] := hl
  obtain ⟨H, hH⟩ : ∃ z, z = s.heap := ⟨_, rfl⟩
  have hP : va_P D vwCl [(a, .inr (0, fs)), (b, .inr (3, gs))] H := by rw [hH]; exact hP
  have hS : va_S A s.heap H [] := by rw [hH]; exact hS
  rw [← hH]
  refine lv_aload_n hx hb d_V_append_0 rfl (lv_at hl 0 rfl) ?_
  have hPc := hP.sub (ws' := [(a, .inr (0, fs))]) [0] rfl
  have hDc := hD.sub (ws' := [(a, .inr (0, fs))]) [0] (by decide) rfl
  refine jnV (rnV (As := []) (rest := []) hx hb hml hown hE hK (hN _ _ hS) hPc hDc (c_V_checkPower l D dA H.size a fs h_fs_powered hl_fs) (q0 := 0) rfl rfl w278 w276 w279 w280 w277 rfl rfl ⟨⟨by decide, by decide⟩, rfl⟩ ⟨(Nat.le_of_ble_eq_true rfl), (Nat.le_of_ble_eq_true rfl)⟩ rfl hl.1 rfl (Nat.le_of_ble_eq_true rfl) d_V_append_1 ⟨(Nat.le_of_ble_eq_true rfl), (Nat.le_of_ble_eq_true rfl)⟩) hP hD hS hA [0] [1] (wr := [(b, .inr (3, gs))]) rfl rfl (by decide) (by decide) (fun u9 H locs hp9 hP hD hS => ?_)
  have hP : va_P D vwCl [(b, .inr (3, gs)), (a, .inr (0, fs))] H := hP
  have hD : va_D A [(b, .inr (3, gs)), (a, .inr (0, fs))] := hD
  refine lv_aload_n hx hb d_V_append_4 rfl (lv_at hl 0 rfl) ?_
  refine lv_iload_n hx hb d_V_append_5 rfl (lv_at hl 1 rfl) ?_
  have hPc := hP.sub (ws' := [(a, .inr (0, fs)), (b, .inr (3, gs))]) [1, 0] rfl
  have hDc := hD.sub (ws' := [(a, .inr (0, fs)), (b, .inr (3, gs))]) [1, 0] (by decide) rfl
  refine xnV (As := [.int n]) (rest := []) hx hb hml hown hE hK (hN _ _ hS) hPc hDc (c_V_checkSeries_x l htr D dA H.size a fs b gs k n h0 h_fs_now hl_fs h_gs_seriesCount hl_gs) (q0 := 0) rfl rfl w300 w299 w301 w302 w277 rfl rfl ⟨⟨by decide, by decide⟩, rfl⟩ ⟨(Nat.le_of_ble_eq_true rfl), (Nat.le_of_ble_eq_true rfl)⟩ rfl hl.1 rfl (Nat.le_of_ble_eq_true rfl) d_V_append_6 ⟨(Nat.le_of_ble_eq_true rfl), (Nat.le_of_ble_eq_true rfl)⟩ hP hD hS hA [1, 0] [] (wr := []) rfl rfl (by decide) (by decide) (fun x2 ce H locs hP hD hS hce hcv hcl => ?_)
  have hP : va_P D vwCl [(a, .inr (0, fs)), (b, .inr (3, gs))] H := hP
  have hD : va_D A [(a, .inr (0, fs)), (b, .inr (3, gs))] := hD
  exact xOut hno hlk hce hcv hcl (fun t ht => xEnd hP hD hS [0, 1] rfl rfl (by decide) t (by rw [ht]; exact Nat.le_refl _) (fun q _ => by rw [ht])) hS.2.2 (Nat.le_of_ble_eq_true rfl) (Nat.le_of_ble_eq_true rfl)
theorem d_V_bulk_0 : decode prog_1_method_33_code 0 = .ok (.aload_n 0, 1) := by decide +kernel
theorem d_V_bulk_1 : decode prog_1_method_33_code 1 = .ok (.invokevirtual 124, 3) := by decide +kernel
theorem d_V_bulk_4 : decode prog_1_method_33_code 4 = .ok (.aload_n 0, 1) := by decide +kernel
theorem d_V_bulk_5 : decode prog_1_method_33_code 5 = .ok (.iload_n 1, 1) := by decide +kernel
theorem d_V_bulk_6 : decode prog_1_method_33_code 6 = .ok (.invokevirtual 244, 3) := by decide +kernel
set_option maxHeartbeats 4000000 in
set_option maxRecDepth 100000 in
theorem c_V_bulk_x (l : Launch) (htr : l.stackTraces = false) (D : va_G) (dA : Nat → ClassId) (sz : Nat) (a : Nat) (fs : List Value) (b : Nat) (gs : List Value) (k : Int32) (n : Int32) (h0 : n < 0 ∨ k ≤ n) (h_fs_powered : fs[5]? = some (.int 1)) (h_fs_now : fs[11]? = some (.ref b)) (hl_fs : fs.length = 18) (h_gs_seriesCount : gs[8]? = some (.int k)) (hl_gs : gs.length = 11) : mX l ⟨"SeriesVault", "bulk", "(I)I"⟩ [Cond.code ⟨"SeriesVault", "bulk", "(I)I"⟩ prog_1_method_33_code 6 (some FieldType.int)] { frames := 7, cells := 1, slots := 6, locals := 102 } (pC D dA [.ref a, .int n] [(a, .inr (0, fs)), (b, .inr (3, gs))] sz) "java/lang/IndexOutOfBoundsException" (fun st9 t9 => va_F (va_A [(a, .inr (0, fs)), (b, .inr (3, gs))] sz) st9 t9 ∧ bW D (va_A [(a, .inr (0, fs)), (b, .inr (3, gs))] sz) [(a, .inr (0, fs)), (b, .inr (3, gs))] t9) 1 6 (va_A [(a, .inr (0, fs)), (b, .inr (3, gs))] sz) := by
  refine mkX (B := fun A => fun st9 t9 => va_F A st9 t9 ∧ bW D A [(a, .inr (0, fs)), (b, .inr (3, gs))] t9) (by decide) (Nat.le_of_ble_eq_true rfl) ?_
  intro A p e s m below meth c ls hsz hno hB
  obtain ⟨hx, hb, hr, hml, hown, hin, hlk, hE, hK, hP, hD, hS, hA, hN, hl⟩ := hB
  have hown : s.vm.findClass "SeriesVault" = some m.cls := hown
  have hin : meth.name = "bulk" := hin
  have hl : lv_has ls 6 [(0, .ref a), (1, .int n)] := hl
  obtain ⟨H, hH⟩ : ∃ z, z = s.heap := ⟨_, rfl⟩
  have hP : va_P D vwCl [(a, .inr (0, fs)), (b, .inr (3, gs))] H := by rw [hH]; exact hP
  have hS : va_S A s.heap H [] := by rw [hH]; exact hS
  rw [← hH]
  refine lv_aload_n hx hb d_V_bulk_0 rfl (lv_at hl 0 rfl) ?_
  have hPc := hP.sub (ws' := [(a, .inr (0, fs))]) [0] rfl
  have hDc := hD.sub (ws' := [(a, .inr (0, fs))]) [0] (by decide) rfl
  refine jnV (rnV (As := []) (rest := []) hx hb hml hown hE hK (hN _ _ hS) hPc hDc (c_V_checkPower l D dA H.size a fs h_fs_powered hl_fs) (q0 := 0) rfl rfl w278 w276 w279 w280 w277 rfl rfl ⟨⟨by decide, by decide⟩, rfl⟩ ⟨(Nat.le_of_ble_eq_true rfl), (Nat.le_of_ble_eq_true rfl)⟩ rfl hl.1 rfl (Nat.le_of_ble_eq_true rfl) d_V_bulk_1 ⟨(Nat.le_of_ble_eq_true rfl), (Nat.le_of_ble_eq_true rfl)⟩) hP hD hS hA [0] [1] (wr := [(b, .inr (3, gs))]) rfl rfl (by decide) (by decide) (fun u9 H locs hp9 hP hD hS => ?_)
  have hP : va_P D vwCl [(b, .inr (3, gs)), (a, .inr (0, fs))] H := hP
  have hD : va_D A [(b, .inr (3, gs)), (a, .inr (0, fs))] := hD
  refine lv_aload_n hx hb d_V_bulk_4 rfl (lv_at hl 0 rfl) ?_
  refine lv_iload_n hx hb d_V_bulk_5 rfl (lv_at hl 1 rfl) ?_
  have hPc := hP.sub (ws' := [(a, .inr (0, fs)), (b, .inr (3, gs))]) [1, 0] rfl
  have hDc := hD.sub (ws' := [(a, .inr (0, fs)), (b, .inr (3, gs))]) [1, 0] (by decide) rfl
  refine xnV (As := [.int n]) (rest := []) hx hb hml hown hE hK (hN _ _ hS) hPc hDc (c_V_checkSeries_x l htr D dA H.size a fs b gs k n h0 h_fs_now hl_fs h_gs_seriesCount hl_gs) (q0 := 0) rfl rfl w300 w299 w301 w302 w277 rfl rfl ⟨⟨by decide, by decide⟩, rfl⟩ ⟨(Nat.le_of_ble_eq_true rfl), (Nat.le_of_ble_eq_true rfl)⟩ rfl hl.1 rfl (Nat.le_of_ble_eq_true rfl) d_V_bulk_6 ⟨(Nat.le_of_ble_eq_true rfl), (Nat.le_of_ble_eq_true rfl)⟩ hP hD hS hA [1, 0] [] (wr := []) rfl rfl (by decide) (by decide) (fun x2 ce H locs hP hD hS hce hcv hcl => ?_)
  have hP : va_P D vwCl [(a, .inr (0, fs)), (b, .inr (3, gs))] H := hP
  have hD : va_D A [(a, .inr (0, fs)), (b, .inr (3, gs))] := hD
  exact xOut hno hlk hce hcv hcl (fun t ht => xEnd hP hD hS [0, 1] rfl rfl (by decide) t (by rw [ht]; exact Nat.le_refl _) (fun q _ => by rw [ht])) hS.2.2 (Nat.le_of_ble_eq_true rfl) (Nat.le_of_ble_eq_true rfl)
theorem d_V_delete_0 : decode prog_1_method_34_code 0 = .ok (.aload_n 0, 1) := by decide +kernel
theorem d_V_delete_1 : decode prog_1_method_34_code 1 = .ok (.invokevirtual 124, 3) := by decide +kernel
theorem d_V_delete_4 : decode prog_1_method_34_code 4 = .ok (.aload_n 0, 1) := by decide +kernel
theorem d_V_delete_5 : decode prog_1_method_34_code 5 = .ok (.iload_n 1, 1) := by decide +kernel
theorem d_V_delete_6 : decode prog_1_method_34_code 6 = .ok (.invokevirtual 244, 3) := by decide +kernel
set_option maxHeartbeats 4000000 in
set_option maxRecDepth 100000 in
theorem c_V_delete_x (l : Launch) (htr : l.stackTraces = false) (D : va_G) (dA : Nat → ClassId) (sz : Nat) (a : Nat) (fs : List Value) (b : Nat) (gs : List Value) (k : Int32) (n : Int32) (t : Int64) (v : Int64) (h0 : n < 0 ∨ k ≤ n) (h_fs_powered : fs[5]? = some (.int 1)) (h_fs_now : fs[11]? = some (.ref b)) (hl_fs : fs.length = 18) (h_gs_seriesCount : gs[8]? = some (.int k)) (hl_gs : gs.length = 11) : mX l ⟨"SeriesVault", "delete", "(IJJ)I"⟩ [Cond.code ⟨"SeriesVault", "delete", "(IJJ)I"⟩ prog_1_method_34_code 8 (some FieldType.int)] { frames := 7, cells := 1, slots := 6, locals := 102 } (pC D dA [.ref a, .int n, .long t, .long v] [(a, .inr (0, fs)), (b, .inr (3, gs))] sz) "java/lang/IndexOutOfBoundsException" (fun st9 t9 => va_F (va_A [(a, .inr (0, fs)), (b, .inr (3, gs))] sz) st9 t9 ∧ bW D (va_A [(a, .inr (0, fs)), (b, .inr (3, gs))] sz) [(a, .inr (0, fs)), (b, .inr (3, gs))] t9) 1 6 (va_A [(a, .inr (0, fs)), (b, .inr (3, gs))] sz) := by
  refine mkX (B := fun A => fun st9 t9 => va_F A st9 t9 ∧ bW D A [(a, .inr (0, fs)), (b, .inr (3, gs))] t9) (by decide) (Nat.le_of_ble_eq_true rfl) ?_
  intro A p e s m below meth c ls hsz hno hB
  obtain ⟨hx, hb, hr, hml, hown, hin, hlk, hE, hK, hP, hD, hS, hA, hN, hl⟩ := hB
  have hown : s.vm.findClass "SeriesVault" = some m.cls := hown
  have hin : meth.name = "delete" := hin
  have hl : lv_has ls 8 [(0, .ref a), (1, .int n), (2, .long t), (4, .long v)] := hl
  obtain ⟨H, hH⟩ : ∃ z, z = s.heap := ⟨_, rfl⟩
  have hP : va_P D vwCl [(a, .inr (0, fs)), (b, .inr (3, gs))] H := by rw [hH]; exact hP
  have hS : va_S A s.heap H [] := by rw [hH]; exact hS
  rw [← hH]
  refine lv_aload_n hx hb d_V_delete_0 rfl (lv_at hl 0 rfl) ?_
  have hPc := hP.sub (ws' := [(a, .inr (0, fs))]) [0] rfl
  have hDc := hD.sub (ws' := [(a, .inr (0, fs))]) [0] (by decide) rfl
  refine jnV (rnV (As := []) (rest := []) hx hb hml hown hE hK (hN _ _ hS) hPc hDc (c_V_checkPower l D dA H.size a fs h_fs_powered hl_fs) (q0 := 0) rfl rfl w278 w276 w279 w280 w277 rfl rfl ⟨⟨by decide, by decide⟩, rfl⟩ ⟨(Nat.le_of_ble_eq_true rfl), (Nat.le_of_ble_eq_true rfl)⟩ rfl hl.1 rfl (Nat.le_of_ble_eq_true rfl) d_V_delete_1 ⟨(Nat.le_of_ble_eq_true rfl), (Nat.le_of_ble_eq_true rfl)⟩) hP hD hS hA [0] [1] (wr := [(b, .inr (3, gs))]) rfl rfl (by decide) (by decide) (fun u9 H locs hp9 hP hD hS => ?_)
  have hP : va_P D vwCl [(b, .inr (3, gs)), (a, .inr (0, fs))] H := hP
  have hD : va_D A [(b, .inr (3, gs)), (a, .inr (0, fs))] := hD
  refine lv_aload_n hx hb d_V_delete_4 rfl (lv_at hl 0 rfl) ?_
  refine lv_iload_n hx hb d_V_delete_5 rfl (lv_at hl 1 rfl) ?_
  have hPc := hP.sub (ws' := [(a, .inr (0, fs)), (b, .inr (3, gs))]) [1, 0] rfl
  have hDc := hD.sub (ws' := [(a, .inr (0, fs)), (b, .inr (3, gs))]) [1, 0] (by decide) rfl
  refine xnV (As := [.int n]) (rest := []) hx hb hml hown hE hK (hN _ _ hS) hPc hDc (c_V_checkSeries_x l htr D dA H.size a fs b gs k n h0 h_fs_now hl_fs h_gs_seriesCount hl_gs) (q0 := 0) rfl rfl w300 w299 w301 w302 w277 rfl rfl ⟨⟨by decide, by decide⟩, rfl⟩ ⟨(Nat.le_of_ble_eq_true rfl), (Nat.le_of_ble_eq_true rfl)⟩ rfl hl.1 rfl (Nat.le_of_ble_eq_true rfl) d_V_delete_6 ⟨(Nat.le_of_ble_eq_true rfl), (Nat.le_of_ble_eq_true rfl)⟩ hP hD hS hA [1, 0] [] (wr := []) rfl rfl (by decide) (by decide) (fun x2 ce H locs hP hD hS hce hcv hcl => ?_)
  have hP : va_P D vwCl [(a, .inr (0, fs)), (b, .inr (3, gs))] H := hP
  have hD : va_D A [(a, .inr (0, fs)), (b, .inr (3, gs))] := hD
  exact xOut hno hlk hce hcv hcl (fun t ht => xEnd hP hD hS [0, 1] rfl rfl (by decide) t (by rw [ht]; exact Nat.le_refl _) (fun q _ => by rw [ht])) hS.2.2 (Nat.le_of_ble_eq_true rfl) (Nat.le_of_ble_eq_true rfl)
theorem d_V_compact_0 : decode prog_1_method_40_code 0 = .ok (.aload_n 0, 1) := by decide +kernel
theorem d_V_compact_1 : decode prog_1_method_40_code 1 = .ok (.invokevirtual 124, 3) := by decide +kernel
theorem d_V_compact_4 : decode prog_1_method_40_code 4 = .ok (.iload_n 1, 1) := by decide +kernel
theorem d_V_compact_5 : decode prog_1_method_40_code 5 = .ok (.ifCond .lt 16, 3) := by decide +kernel
theorem d_V_compact_21 : decode prog_1_method_40_code 21 = .ok (.new 92, 3) := by decide +kernel
theorem d_V_compact_24 : decode prog_1_method_40_code 24 = .ok (.dup, 1) := by decide +kernel
theorem d_V_compact_25 : decode prog_1_method_40_code 25 = .ok (.invokespecial 94, 3) := by decide +kernel
theorem d_V_compact_28 : decode prog_1_method_40_code 28 = .ok (.athrow, 1) := by decide +kernel
theorem d_V_compact_8 : decode prog_1_method_40_code 8 = .ok (.iload_n 1, 1) := by decide +kernel
theorem d_V_compact_9 : decode prog_1_method_40_code 9 = .ok (.aload_n 0, 1) := by decide +kernel
theorem d_V_compact_10 : decode prog_1_method_40_code 10 = .ok (.getfield 33, 3) := by decide +kernel
theorem d_V_compact_13 : decode prog_1_method_40_code 13 = .ok (.getfield 305, 3) := by decide +kernel
theorem d_V_compact_16 : decode prog_1_method_40_code 16 = .ok (.iconst 1, 1) := by decide +kernel
theorem d_V_compact_17 : decode prog_1_method_40_code 17 = .ok (.isub, 1) := by decide +kernel
theorem d_V_compact_18 : decode prog_1_method_40_code 18 = .ok (.if_icmp .lt 11, 3) := by decide +kernel
theorem w303 : Cond.fieldLinkNest "SeriesVault" 305 "SeriesVault$Shelf" "parcelCount" "I" "SeriesVault" ∈ aW := aw_of (tb_1 (List.mem_of_getElem? (i := 145) rfl)) rfl
set_option maxHeartbeats 4000000 in
set_option maxRecDepth 100000 in
theorem c_V_compact_x (l : Launch) (htr : l.stackTraces = false) (D : va_G) (dA : Nat → ClassId) (sz : Nat) (a : Nat) (fs : List Value) (b : Nat) (gs : List Value) (k : Int32) (n : Int32) (h0 : n < 0 ∨ k - 1 ≤ n) (h_fs_powered : fs[5]? = some (.int 1)) (h_fs_now : fs[11]? = some (.ref b)) (hl_fs : fs.length = 18) (h_gs_parcelCount : gs[1]? = some (.int k)) (hl_gs : gs.length = 11) : mX l ⟨"SeriesVault", "compact", "(I)I"⟩ [Cond.code ⟨"SeriesVault", "compact", "(I)I"⟩ prog_1_method_40_code 4 (some FieldType.int)] { frames := 6, cells := 1, slots := 6, locals := 81 } (pC D dA [.ref a, .int n] [(a, .inr (0, fs)), (b, .inr (3, gs))] sz) "java/lang/IndexOutOfBoundsException" (fun st9 t9 => va_F (va_A [(a, .inr (0, fs)), (b, .inr (3, gs))] sz) st9 t9 ∧ bW D (va_A [(a, .inr (0, fs)), (b, .inr (3, gs))] sz) [(b, .inr (3, gs)), (a, .inr (0, fs))] t9) 1 6 (va_A [(a, .inr (0, fs)), (b, .inr (3, gs))] sz) := by
  refine mkX (B := fun A => fun st9 t9 => va_F A st9 t9 ∧ bW D A [(b, .inr (3, gs)), (a, .inr (0, fs))] t9) (by decide) (Nat.le_of_ble_eq_true rfl) ?_
  intro A p e s m below meth c ls hsz hno hB
  obtain ⟨hx, hb, hr, hml, hown, hin, hlk, hE, hK, hP, hD, hS, hA, hN, hl⟩ := hB
  have hown : s.vm.findClass "SeriesVault" = some m.cls := hown
  have hin : meth.name = "compact" := hin
  have hl : lv_has ls 4 [(0, .ref a), (1, .int n)] := hl
  obtain ⟨H, hH⟩ : ∃ z, z = s.heap := ⟨_, rfl⟩
  have hP : va_P D vwCl [(a, .inr (0, fs)), (b, .inr (3, gs))] H := by rw [hH]; exact hP
  have hS : va_S A s.heap H [] := by rw [hH]; exact hS
  rw [← hH]
  refine lv_aload_n hx hb d_V_compact_0 rfl (lv_at hl 0 rfl) ?_
  have hPc := hP.sub (ws' := [(a, .inr (0, fs))]) [0] rfl
  have hDc := hD.sub (ws' := [(a, .inr (0, fs))]) [0] (by decide) rfl
  refine jnV (rnV (As := []) (rest := []) hx hb hml hown hE hK (hN _ _ hS) hPc hDc (c_V_checkPower l D dA H.size a fs h_fs_powered hl_fs) (q0 := 0) rfl rfl w278 w276 w279 w280 w277 rfl rfl ⟨⟨by decide, by decide⟩, rfl⟩ ⟨(Nat.le_of_ble_eq_true rfl), (Nat.le_of_ble_eq_true rfl)⟩ rfl hl.1 rfl (Nat.le_of_ble_eq_true rfl) d_V_compact_1 ⟨(Nat.le_of_ble_eq_true rfl), (Nat.le_of_ble_eq_true rfl)⟩) hP hD hS hA [0] [1] (wr := [(b, .inr (3, gs))]) rfl rfl (by decide) (by decide) (fun u9 H locs hp9 hP hD hS => ?_)
  have hP : va_P D vwCl [(b, .inr (3, gs)), (a, .inr (0, fs))] H := hP
  have hD : va_D A [(b, .inr (3, gs)), (a, .inr (0, fs))] := hD
  refine lv_iload_n hx hb d_V_compact_4 rfl (lv_at hl 1 rfl) ?_
  refine lv_if_lt hx hb d_V_compact_5 (tgt := 21) rfl (fun hc => ?_) (fun hc => ?_)
  · exact xNew (E := "java/lang/IndexOutOfBoundsException") (names := ["java/lang/RuntimeException", "java/lang/Exception"]) hx hb htr hown (by decide) (by decide) hE w257 w258 (fun U hU => at_V_IOOBE hU) (hN _ _ hS) (hl.1.trans hml.symm) d_V_compact_21 d_V_compact_24 d_V_compact_25 d_V_compact_28 hno (by decide) (Nat.le_of_ble_eq_true rfl) (Nat.le_of_ble_eq_true rfl) (Nat.le_of_ble_eq_true rfl) hlk (fun t h1 h2 => xEnd hP hD hS [0, 1] rfl rfl (by decide) t h1 h2) hS.2.2 (Nat.le_of_ble_eq_true rfl) (Nat.le_of_ble_eq_true rfl)
  · refine lv_iload_n hx hb d_V_compact_8 rfl (lv_at hl 1 rfl) ?_
    refine lv_aload_n hx hb d_V_compact_9 rfl (lv_at hl 0 rfl) ?_
    refine gF (v := .ref b) hx hb hown hE hK hP 1 rfl rfl layV 11 (by decide) w297 h_fs_now d_V_compact_10 ?_
    refine gFN (v := .int k) hx hb hown hE hK hP 0 rfl rfl layH 1 (by decide) w303 h_gs_parcelCount d_V_compact_13 ?_
    refine lv_iconst (v := 1) hx hb d_V_compact_16 (by decide) ?_
    refine lv_isub hx hb d_V_compact_17 ?_
    refine lv_icmp_lt hx hb d_V_compact_18 (tgt := 29) rfl (fun h9 => absurd h9 (Int32.not_lt.mpr (h0.resolve_left hc))) (fun _ => ?_)
    exact xNew (E := "java/lang/IndexOutOfBoundsException") (names := ["java/lang/RuntimeException", "java/lang/Exception"]) hx hb htr hown (by decide) (by decide) hE w257 w258 (fun U hU => at_V_IOOBE hU) (hN _ _ hS) (hl.1.trans hml.symm) d_V_compact_21 d_V_compact_24 d_V_compact_25 d_V_compact_28 hno (by decide) (Nat.le_of_ble_eq_true rfl) (Nat.le_of_ble_eq_true rfl) (Nat.le_of_ble_eq_true rfl) hlk (fun t h1 h2 => xEnd hP hD hS [0, 1] rfl rfl (by decide) t h1 h2) hS.2.2 (Nat.le_of_ble_eq_true rfl) (Nat.le_of_ble_eq_true rfl)
theorem d_V_parcel_0 : decode prog_1_method_44_code 0 = .ok (.aload_n 0, 1) := by decide +kernel
theorem d_V_parcel_1 : decode prog_1_method_44_code 1 = .ok (.invokevirtual 124, 3) := by decide +kernel
theorem d_V_parcel_4 : decode prog_1_method_44_code 4 = .ok (.iload_n 1, 1) := by decide +kernel
theorem d_V_parcel_5 : decode prog_1_method_44_code 5 = .ok (.ifCond .lt 14, 3) := by decide +kernel
theorem d_V_parcel_19 : decode prog_1_method_44_code 19 = .ok (.new 92, 3) := by decide +kernel
theorem d_V_parcel_22 : decode prog_1_method_44_code 22 = .ok (.dup, 1) := by decide +kernel
theorem d_V_parcel_23 : decode prog_1_method_44_code 23 = .ok (.invokespecial 94, 3) := by decide +kernel
theorem d_V_parcel_26 : decode prog_1_method_44_code 26 = .ok (.athrow, 1) := by decide +kernel
theorem d_V_parcel_8 : decode prog_1_method_44_code 8 = .ok (.iload_n 1, 1) := by decide +kernel
theorem d_V_parcel_9 : decode prog_1_method_44_code 9 = .ok (.aload_n 0, 1) := by decide +kernel
theorem d_V_parcel_10 : decode prog_1_method_44_code 10 = .ok (.getfield 33, 3) := by decide +kernel
theorem d_V_parcel_13 : decode prog_1_method_44_code 13 = .ok (.getfield 305, 3) := by decide +kernel
theorem d_V_parcel_16 : decode prog_1_method_44_code 16 = .ok (.if_icmp .lt 11, 3) := by decide +kernel
set_option maxHeartbeats 4000000 in
set_option maxRecDepth 100000 in
theorem c_V_parcel_x (l : Launch) (htr : l.stackTraces = false) (D : va_G) (dA : Nat → ClassId) (sz : Nat) (a : Nat) (fs : List Value) (b : Nat) (gs : List Value) (k : Int32) (n : Int32) (i : Int32) (h0 : n < 0 ∨ k ≤ n) (h_fs_powered : fs[5]? = some (.int 1)) (h_fs_now : fs[11]? = some (.ref b)) (hl_fs : fs.length = 18) (h_gs_parcelCount : gs[1]? = some (.int k)) (hl_gs : gs.length = 11) : mX l ⟨"SeriesVault", "parcel", "(II)I"⟩ [Cond.code ⟨"SeriesVault", "parcel", "(II)I"⟩ prog_1_method_44_code 4 (some FieldType.int)] { frames := 6, cells := 1, slots := 6, locals := 81 } (pC D dA [.ref a, .int n, .int i] [(a, .inr (0, fs)), (b, .inr (3, gs))] sz) "java/lang/IndexOutOfBoundsException" (fun st9 t9 => va_F (va_A [(a, .inr (0, fs)), (b, .inr (3, gs))] sz) st9 t9 ∧ bW D (va_A [(a, .inr (0, fs)), (b, .inr (3, gs))] sz) [(b, .inr (3, gs)), (a, .inr (0, fs))] t9) 1 6 (va_A [(a, .inr (0, fs)), (b, .inr (3, gs))] sz) := by
  refine mkX (B := fun A => fun st9 t9 => va_F A st9 t9 ∧ bW D A [(b, .inr (3, gs)), (a, .inr (0, fs))] t9) (by decide) (Nat.le_of_ble_eq_true rfl) ?_
  intro A p e s m below meth c ls hsz hno hB
  obtain ⟨hx, hb, hr, hml, hown, hin, hlk, hE, hK, hP, hD, hS, hA, hN, hl⟩ := hB
  have hown : s.vm.findClass "SeriesVault" = some m.cls := hown
  have hin : meth.name = "parcel" := hin
  have hl : lv_has ls 4 [(0, .ref a), (1, .int n), (2, .int i)] := hl
  obtain ⟨H, hH⟩ : ∃ z, z = s.heap := ⟨_, rfl⟩
  have hP : va_P D vwCl [(a, .inr (0, fs)), (b, .inr (3, gs))] H := by rw [hH]; exact hP
  have hS : va_S A s.heap H [] := by rw [hH]; exact hS
  rw [← hH]
  refine lv_aload_n hx hb d_V_parcel_0 rfl (lv_at hl 0 rfl) ?_
  have hPc := hP.sub (ws' := [(a, .inr (0, fs))]) [0] rfl
  have hDc := hD.sub (ws' := [(a, .inr (0, fs))]) [0] (by decide) rfl
  refine jnV (rnV (As := []) (rest := []) hx hb hml hown hE hK (hN _ _ hS) hPc hDc (c_V_checkPower l D dA H.size a fs h_fs_powered hl_fs) (q0 := 0) rfl rfl w278 w276 w279 w280 w277 rfl rfl ⟨⟨by decide, by decide⟩, rfl⟩ ⟨(Nat.le_of_ble_eq_true rfl), (Nat.le_of_ble_eq_true rfl)⟩ rfl hl.1 rfl (Nat.le_of_ble_eq_true rfl) d_V_parcel_1 ⟨(Nat.le_of_ble_eq_true rfl), (Nat.le_of_ble_eq_true rfl)⟩) hP hD hS hA [0] [1] (wr := [(b, .inr (3, gs))]) rfl rfl (by decide) (by decide) (fun u9 H locs hp9 hP hD hS => ?_)
  have hP : va_P D vwCl [(b, .inr (3, gs)), (a, .inr (0, fs))] H := hP
  have hD : va_D A [(b, .inr (3, gs)), (a, .inr (0, fs))] := hD
  refine lv_iload_n hx hb d_V_parcel_4 rfl (lv_at hl 1 rfl) ?_
  refine lv_if_lt hx hb d_V_parcel_5 (tgt := 19) rfl (fun hc => ?_) (fun hc => ?_)
  · exact xNew (E := "java/lang/IndexOutOfBoundsException") (names := ["java/lang/RuntimeException", "java/lang/Exception"]) hx hb htr hown (by decide) (by decide) hE w257 w258 (fun U hU => at_V_IOOBE hU) (hN _ _ hS) (hl.1.trans hml.symm) d_V_parcel_19 d_V_parcel_22 d_V_parcel_23 d_V_parcel_26 hno (by decide) (Nat.le_of_ble_eq_true rfl) (Nat.le_of_ble_eq_true rfl) (Nat.le_of_ble_eq_true rfl) hlk (fun t h1 h2 => xEnd hP hD hS [0, 1] rfl rfl (by decide) t h1 h2) hS.2.2 (Nat.le_of_ble_eq_true rfl) (Nat.le_of_ble_eq_true rfl)
  · refine lv_iload_n hx hb d_V_parcel_8 rfl (lv_at hl 1 rfl) ?_
    refine lv_aload_n hx hb d_V_parcel_9 rfl (lv_at hl 0 rfl) ?_
    refine gF (v := .ref b) hx hb hown hE hK hP 1 rfl rfl layV 11 (by decide) w297 h_fs_now d_V_parcel_10 ?_
    refine gFN (v := .int k) hx hb hown hE hK hP 0 rfl rfl layH 1 (by decide) w303 h_gs_parcelCount d_V_parcel_13 ?_
    refine lv_icmp_lt hx hb d_V_parcel_16 (tgt := 27) rfl (fun h9 => absurd h9 (Int32.not_lt.mpr (h0.resolve_left hc))) (fun _ => ?_)
    exact xNew (E := "java/lang/IndexOutOfBoundsException") (names := ["java/lang/RuntimeException", "java/lang/Exception"]) hx hb htr hown (by decide) (by decide) hE w257 w258 (fun U hU => at_V_IOOBE hU) (hN _ _ hS) (hl.1.trans hml.symm) d_V_parcel_19 d_V_parcel_22 d_V_parcel_23 d_V_parcel_26 hno (by decide) (Nat.le_of_ble_eq_true rfl) (Nat.le_of_ble_eq_true rfl) (Nat.le_of_ble_eq_true rfl) hlk (fun t h1 h2 => xEnd hP hD hS [0, 1] rfl rfl (by decide) t h1 h2) hS.2.2 (Nat.le_of_ble_eq_true rfl) (Nat.le_of_ble_eq_true rfl)
theorem d_V_checkRow_0 : decode prog_1_method_50_code 0 = .ok (.aload_n 0, 1) := by decide +kernel
theorem d_V_checkRow_1 : decode prog_1_method_50_code 1 = .ok (.getfield 114, 3) := by decide +kernel
theorem d_V_checkRow_4 : decode prog_1_method_50_code 4 = .ok (.ifCond .eq 21, 3) := by decide +kernel
theorem d_V_checkRow_25 : decode prog_1_method_50_code 25 = .ok (.new 92, 3) := by decide +kernel
theorem d_V_checkRow_28 : decode prog_1_method_50_code 28 = .ok (.dup, 1) := by decide +kernel
theorem d_V_checkRow_29 : decode prog_1_method_50_code 29 = .ok (.invokespecial 94, 3) := by decide +kernel
theorem d_V_checkRow_32 : decode prog_1_method_50_code 32 = .ok (.athrow, 1) := by decide +kernel
set_option maxHeartbeats 4000000 in
set_option maxRecDepth 100000 in
theorem c_V_checkRow_x (l : Launch) (htr : l.stackTraces = false) (D : va_G) (dA : Nat → ClassId) (sz : Nat) (a : Nat) (fs : List Value) (n : Int32) (h_fs_hasTable : fs[17]? = some (.int 0)) (hl_fs : fs.length = 18) : mX l ⟨"SeriesVault", "checkRow", "(I)V"⟩ [Cond.code ⟨"SeriesVault", "checkRow", "(I)V"⟩ prog_1_method_50_code 2 none] { frames := 6, cells := 1, slots := 6, locals := 81 } (pC D dA [.ref a, .int n] [(a, .inr (0, fs))] sz) "java/lang/IndexOutOfBoundsException" (fun st9 t9 => va_F (va_A [(a, .inr (0, fs))] sz) st9 t9 ∧ bW D (va_A [(a, .inr (0, fs))] sz) [(a, .inr (0, fs))] t9) 1 6 (va_A [(a, .inr (0, fs))] sz) := by
  refine mkX (B := fun A => fun st9 t9 => va_F A st9 t9 ∧ bW D A [(a, .inr (0, fs))] t9) (by decide) (Nat.le_of_ble_eq_true rfl) ?_
  intro A p e s m below meth c ls hsz hno hB
  obtain ⟨hx, hb, hr, hml, hown, hin, hlk, hE, hK, hP, hD, hS, hA, hN, hl⟩ := hB
  have hown : s.vm.findClass "SeriesVault" = some m.cls := hown
  have hin : meth.name = "checkRow" := hin
  have hl : lv_has ls 2 [(0, .ref a), (1, .int n)] := hl
  obtain ⟨H, hH⟩ : ∃ z, z = s.heap := ⟨_, rfl⟩
  have hP : va_P D vwCl [(a, .inr (0, fs))] H := by rw [hH]; exact hP
  have hS : va_S A s.heap H [] := by rw [hH]; exact hS
  rw [← hH]
  refine lv_aload_n hx hb d_V_checkRow_0 rfl (lv_at hl 0 rfl) ?_
  refine gF (v := .int 0) hx hb hown hE hK hP 0 rfl rfl layV 17 (by decide) w210 h_fs_hasTable d_V_checkRow_1 ?_
  refine lv_if_eq hx hb d_V_checkRow_4 (tgt := 25) rfl (fun _ => ?_) (fun h9 => absurd (by decide) h9)
  exact xNew (E := "java/lang/IndexOutOfBoundsException") (names := ["java/lang/RuntimeException", "java/lang/Exception"]) hx hb htr hown (by decide) (by decide) hE w257 w258 (fun U hU => at_V_IOOBE hU) (hN _ _ hS) (hl.1.trans hml.symm) d_V_checkRow_25 d_V_checkRow_28 d_V_checkRow_29 d_V_checkRow_32 hno (by decide) (Nat.le_of_ble_eq_true rfl) (Nat.le_of_ble_eq_true rfl) (Nat.le_of_ble_eq_true rfl) hlk (fun t h1 h2 => xEnd hP hD hS [0] rfl rfl (by decide) t h1 h2) hS.2.2 (Nat.le_of_ble_eq_true rfl) (Nat.le_of_ble_eq_true rfl)
theorem d_V_text_0 : decode prog_1_method_47_code 0 = .ok (.aload_n 0, 1) := by decide +kernel
theorem d_V_text_1 : decode prog_1_method_47_code 1 = .ok (.iload_n 1, 1) := by decide +kernel
theorem d_V_text_2 : decode prog_1_method_47_code 2 = .ok (.invokevirtual 398, 3) := by decide +kernel
theorem w304 : Cond.methodLink "SeriesVault" 398 ⟨"SeriesVault", "checkRow", "(I)V"⟩ ∈ aW := aw_of (tb_8 (List.mem_of_getElem? (i := 78) rfl)) rfl
theorem w305 : Cond.code ⟨"SeriesVault", "checkRow", "(I)V"⟩ prog_1_method_50_code 2 none ∈ aW := aw_of (tb_8 (List.mem_of_getElem? (i := 81) rfl)) rfl
theorem w306 : Cond.instanceMethod ⟨"SeriesVault", "checkRow", "(I)V"⟩ ∈ aW := aw_of (tb_8 (List.mem_of_getElem? (i := 80) rfl)) rfl
theorem w307 : Cond.selects "SeriesVault" ⟨"SeriesVault", "checkRow", "(I)V"⟩ ⟨"SeriesVault", "checkRow", "(I)V"⟩ ∈ aW := aw_pr (List.mem_map.mpr ⟨_, pv_5 (List.mem_of_getElem? (i := 0) rfl), rfl⟩) rfl
set_option maxHeartbeats 4000000 in
set_option maxRecDepth 100000 in
theorem c_V_text_x (l : Launch) (htr : l.stackTraces = false) (D : va_G) (dA : Nat → ClassId) (sz : Nat) (a : Nat) (fs : List Value) (n : Int32) (i : Int32) (j : Int32) (h_fs_hasTable : fs[17]? = some (.int 0)) (hl_fs : fs.length = 18) : mX l ⟨"SeriesVault", "text", "(III)I"⟩ [Cond.code ⟨"SeriesVault", "text", "(III)I"⟩ prog_1_method_47_code 5 (some FieldType.int)] { frames := 7, cells := 1, slots := 6, locals := 102 } (pC D dA [.ref a, .int n, .int i, .int j] [(a, .inr (0, fs))] sz) "java/lang/IndexOutOfBoundsException" (fun st9 t9 => va_F (va_A [(a, .inr (0, fs))] sz) st9 t9 ∧ bW D (va_A [(a, .inr (0, fs))] sz) [(a, .inr (0, fs))] t9) 1 6 (va_A [(a, .inr (0, fs))] sz) := by
  refine mkX (B := fun A => fun st9 t9 => va_F A st9 t9 ∧ bW D A [(a, .inr (0, fs))] t9) (by decide) (Nat.le_of_ble_eq_true rfl) ?_
  intro A p e s m below meth c ls hsz hno hB
  obtain ⟨hx, hb, hr, hml, hown, hin, hlk, hE, hK, hP, hD, hS, hA, hN, hl⟩ := hB
  have hown : s.vm.findClass "SeriesVault" = some m.cls := hown
  have hin : meth.name = "text" := hin
  have hl : lv_has ls 5 [(0, .ref a), (1, .int n), (2, .int i), (3, .int j)] := hl
  obtain ⟨H, hH⟩ : ∃ z, z = s.heap := ⟨_, rfl⟩
  have hP : va_P D vwCl [(a, .inr (0, fs))] H := by rw [hH]; exact hP
  have hS : va_S A s.heap H [] := by rw [hH]; exact hS
  rw [← hH]
  refine lv_aload_n hx hb d_V_text_0 rfl (lv_at hl 0 rfl) ?_
  refine lv_iload_n hx hb d_V_text_1 rfl (lv_at hl 1 rfl) ?_
  have hPc := hP.sub (ws' := [(a, .inr (0, fs))]) [0] rfl
  have hDc := hD.sub (ws' := [(a, .inr (0, fs))]) [0] (by decide) rfl
  refine xnV (As := [.int n]) (rest := []) hx hb hml hown hE hK (hN _ _ hS) hPc hDc (c_V_checkRow_x l htr D dA H.size a fs n h_fs_hasTable hl_fs) (q0 := 0) rfl rfl w305 w304 w306 w307 w277 rfl rfl ⟨⟨by decide, by decide⟩, rfl⟩ ⟨(Nat.le_of_ble_eq_true rfl), (Nat.le_of_ble_eq_true rfl)⟩ rfl hl.1 rfl (Nat.le_of_ble_eq_true rfl) d_V_text_2 ⟨(Nat.le_of_ble_eq_true rfl), (Nat.le_of_ble_eq_true rfl)⟩ hP hD hS hA [0] [] (wr := []) rfl rfl (by decide) (by decide) (fun x1 ce H locs hP hD hS hce hcv hcl => ?_)
  have hP : va_P D vwCl [(a, .inr (0, fs))] H := hP
  have hD : va_D A [(a, .inr (0, fs))] := hD
  exact xOut hno hlk hce hcv hcl (fun t ht => xEnd hP hD hS [0] rfl rfl (by decide) t (by rw [ht]; exact Nat.le_refl _) (fun q _ => by rw [ht])) hS.2.2 (Nat.le_of_ble_eq_true rfl) (Nat.le_of_ble_eq_true rfl)
theorem d_V_checkCell_0 : decode prog_1_method_51_code 0 = .ok (.aload_n 0, 1) := by decide +kernel
theorem d_V_checkCell_1 : decode prog_1_method_51_code 1 = .ok (.iload_n 1, 1) := by decide +kernel
theorem d_V_checkCell_2 : decode prog_1_method_51_code 2 = .ok (.invokevirtual 398, 3) := by decide +kernel
set_option maxHeartbeats 4000000 in
set_option maxRecDepth 100000 in
theorem c_V_checkCell_x (l : Launch) (htr : l.stackTraces = false) (D : va_G) (dA : Nat → ClassId) (sz : Nat) (a : Nat) (fs : List Value) (n : Int32) (i : Int32) (h_fs_hasTable : fs[17]? = some (.int 0)) (hl_fs : fs.length = 18) : mX l ⟨"SeriesVault", "checkCell", "(II)V"⟩ [Cond.code ⟨"SeriesVault", "checkCell", "(II)V"⟩ prog_1_method_51_code 3 none] { frames := 7, cells := 1, slots := 6, locals := 102 } (pC D dA [.ref a, .int n, .int i] [(a, .inr (0, fs))] sz) "java/lang/IndexOutOfBoundsException" (fun st9 t9 => va_F (va_A [(a, .inr (0, fs))] sz) st9 t9 ∧ bW D (va_A [(a, .inr (0, fs))] sz) [(a, .inr (0, fs))] t9) 1 6 (va_A [(a, .inr (0, fs))] sz) := by
  refine mkX (B := fun A => fun st9 t9 => va_F A st9 t9 ∧ bW D A [(a, .inr (0, fs))] t9) (by decide) (Nat.le_of_ble_eq_true rfl) ?_
  intro A p e s m below meth c ls hsz hno hB
  obtain ⟨hx, hb, hr, hml, hown, hin, hlk, hE, hK, hP, hD, hS, hA, hN, hl⟩ := hB
  have hown : s.vm.findClass "SeriesVault" = some m.cls := hown
  have hin : meth.name = "checkCell" := hin
  have hl : lv_has ls 3 [(0, .ref a), (1, .int n), (2, .int i)] := hl
  obtain ⟨H, hH⟩ : ∃ z, z = s.heap := ⟨_, rfl⟩
  have hP : va_P D vwCl [(a, .inr (0, fs))] H := by rw [hH]; exact hP
  have hS : va_S A s.heap H [] := by rw [hH]; exact hS
  rw [← hH]
  refine lv_aload_n hx hb d_V_checkCell_0 rfl (lv_at hl 0 rfl) ?_
  refine lv_iload_n hx hb d_V_checkCell_1 rfl (lv_at hl 1 rfl) ?_
  have hPc := hP.sub (ws' := [(a, .inr (0, fs))]) [0] rfl
  have hDc := hD.sub (ws' := [(a, .inr (0, fs))]) [0] (by decide) rfl
  refine xnV (As := [.int n]) (rest := []) hx hb hml hown hE hK (hN _ _ hS) hPc hDc (c_V_checkRow_x l htr D dA H.size a fs n h_fs_hasTable hl_fs) (q0 := 0) rfl rfl w305 w304 w306 w307 w277 rfl rfl ⟨⟨by decide, by decide⟩, rfl⟩ ⟨(Nat.le_of_ble_eq_true rfl), (Nat.le_of_ble_eq_true rfl)⟩ rfl hl.1 rfl (Nat.le_of_ble_eq_true rfl) d_V_checkCell_2 ⟨(Nat.le_of_ble_eq_true rfl), (Nat.le_of_ble_eq_true rfl)⟩ hP hD hS hA [0] [] (wr := []) rfl rfl (by decide) (by decide) (fun x1 ce H locs hP hD hS hce hcv hcl => ?_)
  have hP : va_P D vwCl [(a, .inr (0, fs))] H := hP
  have hD : va_D A [(a, .inr (0, fs))] := hD
  exact xOut hno hlk hce hcv hcl (fun t ht => xEnd hP hD hS [0] rfl rfl (by decide) t (by rw [ht]; exact Nat.le_refl _) (fun q _ => by rw [ht])) hS.2.2 (Nat.le_of_ble_eq_true rfl) (Nat.le_of_ble_eq_true rfl)
theorem d_V_isThere_0 : decode prog_1_method_48_code 0 = .ok (.aload_n 0, 1) := by decide +kernel
theorem d_V_isThere_1 : decode prog_1_method_48_code 1 = .ok (.iload_n 1, 1) := by decide +kernel
theorem d_V_isThere_2 : decode prog_1_method_48_code 2 = .ok (.iload_n 2, 1) := by decide +kernel
theorem d_V_isThere_3 : decode prog_1_method_48_code 3 = .ok (.invokevirtual 405, 3) := by decide +kernel
theorem w308 : Cond.methodLink "SeriesVault" 405 ⟨"SeriesVault", "checkCell", "(II)V"⟩ ∈ aW := aw_of (tb_8 (List.mem_of_getElem? (i := 93) rfl)) rfl
theorem w309 : Cond.code ⟨"SeriesVault", "checkCell", "(II)V"⟩ prog_1_method_51_code 3 none ∈ aW := aw_of (tb_8 (List.mem_of_getElem? (i := 96) rfl)) rfl
theorem w310 : Cond.instanceMethod ⟨"SeriesVault", "checkCell", "(II)V"⟩ ∈ aW := aw_of (tb_8 (List.mem_of_getElem? (i := 95) rfl)) rfl
theorem w311 : Cond.selects "SeriesVault" ⟨"SeriesVault", "checkCell", "(II)V"⟩ ⟨"SeriesVault", "checkCell", "(II)V"⟩ ∈ aW := aw_pr (List.mem_map.mpr ⟨_, pv_5 (List.mem_of_getElem? (i := 1) rfl), rfl⟩) rfl
set_option maxHeartbeats 4000000 in
set_option maxRecDepth 100000 in
theorem c_V_isThere_x (l : Launch) (htr : l.stackTraces = false) (D : va_G) (dA : Nat → ClassId) (sz : Nat) (a : Nat) (fs : List Value) (n : Int32) (i : Int32) (h_fs_hasTable : fs[17]? = some (.int 0)) (hl_fs : fs.length = 18) : mX l ⟨"SeriesVault", "isThere", "(II)Z"⟩ [Cond.code ⟨"SeriesVault", "isThere", "(II)Z"⟩ prog_1_method_48_code 3 (some FieldType.boolean)] { frames := 8, cells := 1, slots := 6, locals := 124 } (pC D dA [.ref a, .int n, .int i] [(a, .inr (0, fs))] sz) "java/lang/IndexOutOfBoundsException" (fun st9 t9 => va_F (va_A [(a, .inr (0, fs))] sz) st9 t9 ∧ bW D (va_A [(a, .inr (0, fs))] sz) [(a, .inr (0, fs))] t9) 1 6 (va_A [(a, .inr (0, fs))] sz) := by
  refine mkX (B := fun A => fun st9 t9 => va_F A st9 t9 ∧ bW D A [(a, .inr (0, fs))] t9) (by decide) (Nat.le_of_ble_eq_true rfl) ?_
  intro A p e s m below meth c ls hsz hno hB
  obtain ⟨hx, hb, hr, hml, hown, hin, hlk, hE, hK, hP, hD, hS, hA, hN, hl⟩ := hB
  have hown : s.vm.findClass "SeriesVault" = some m.cls := hown
  have hin : meth.name = "isThere" := hin
  have hl : lv_has ls 3 [(0, .ref a), (1, .int n), (2, .int i)] := hl
  obtain ⟨H, hH⟩ : ∃ z, z = s.heap := ⟨_, rfl⟩
  have hP : va_P D vwCl [(a, .inr (0, fs))] H := by rw [hH]; exact hP
  have hS : va_S A s.heap H [] := by rw [hH]; exact hS
  rw [← hH]
  refine lv_aload_n hx hb d_V_isThere_0 rfl (lv_at hl 0 rfl) ?_
  refine lv_iload_n hx hb d_V_isThere_1 rfl (lv_at hl 1 rfl) ?_
  refine lv_iload_n hx hb d_V_isThere_2 rfl (lv_at hl 2 rfl) ?_
  have hPc := hP.sub (ws' := [(a, .inr (0, fs))]) [0] rfl
  have hDc := hD.sub (ws' := [(a, .inr (0, fs))]) [0] (by decide) rfl
  refine xnV (As := [.int n, .int i]) (rest := []) hx hb hml hown hE hK (hN _ _ hS) hPc hDc (c_V_checkCell_x l htr D dA H.size a fs n i h_fs_hasTable hl_fs) (q0 := 0) rfl rfl w309 w308 w310 w311 w277 rfl rfl ⟨⟨by decide, by decide⟩, rfl⟩ ⟨(Nat.le_of_ble_eq_true rfl), (Nat.le_of_ble_eq_true rfl)⟩ rfl hl.1 rfl (Nat.le_of_ble_eq_true rfl) d_V_isThere_3 ⟨(Nat.le_of_ble_eq_true rfl), (Nat.le_of_ble_eq_true rfl)⟩ hP hD hS hA [0] [] (wr := []) rfl rfl (by decide) (by decide) (fun x1 ce H locs hP hD hS hce hcv hcl => ?_)
  have hP : va_P D vwCl [(a, .inr (0, fs))] H := hP
  have hD : va_D A [(a, .inr (0, fs))] := hD
  exact xOut hno hlk hce hcv hcl (fun t ht => xEnd hP hD hS [0] rfl rfl (by decide) t (by rw [ht]; exact Nat.le_refl _) (fun q _ => by rw [ht])) hS.2.2 (Nat.le_of_ble_eq_true rfl) (Nat.le_of_ble_eq_true rfl)
theorem d_V_cell_0 : decode prog_1_method_49_code 0 = .ok (.aload_n 0, 1) := by decide +kernel
theorem d_V_cell_1 : decode prog_1_method_49_code 1 = .ok (.iload_n 1, 1) := by decide +kernel
theorem d_V_cell_2 : decode prog_1_method_49_code 2 = .ok (.iload_n 2, 1) := by decide +kernel
theorem d_V_cell_3 : decode prog_1_method_49_code 3 = .ok (.invokevirtual 405, 3) := by decide +kernel
set_option maxHeartbeats 4000000 in
set_option maxRecDepth 100000 in
theorem c_V_cell_x (l : Launch) (htr : l.stackTraces = false) (D : va_G) (dA : Nat → ClassId) (sz : Nat) (a : Nat) (fs : List Value) (n : Int32) (i : Int32) (h_fs_hasTable : fs[17]? = some (.int 0)) (hl_fs : fs.length = 18) : mX l ⟨"SeriesVault", "cell", "(II)J"⟩ [Cond.code ⟨"SeriesVault", "cell", "(II)J"⟩ prog_1_method_49_code 4 (some FieldType.long)] { frames := 8, cells := 1, slots := 6, locals := 124 } (pC D dA [.ref a, .int n, .int i] [(a, .inr (0, fs))] sz) "java/lang/IndexOutOfBoundsException" (fun st9 t9 => va_F (va_A [(a, .inr (0, fs))] sz) st9 t9 ∧ bW D (va_A [(a, .inr (0, fs))] sz) [(a, .inr (0, fs))] t9) 1 6 (va_A [(a, .inr (0, fs))] sz) := by
  refine mkX (B := fun A => fun st9 t9 => va_F A st9 t9 ∧ bW D A [(a, .inr (0, fs))] t9) (by decide) (Nat.le_of_ble_eq_true rfl) ?_
  intro A p e s m below meth c ls hsz hno hB
  obtain ⟨hx, hb, hr, hml, hown, hin, hlk, hE, hK, hP, hD, hS, hA, hN, hl⟩ := hB
  have hown : s.vm.findClass "SeriesVault" = some m.cls := hown
  have hin : meth.name = "cell" := hin
  have hl : lv_has ls 4 [(0, .ref a), (1, .int n), (2, .int i)] := hl
  obtain ⟨H, hH⟩ : ∃ z, z = s.heap := ⟨_, rfl⟩
  have hP : va_P D vwCl [(a, .inr (0, fs))] H := by rw [hH]; exact hP
  have hS : va_S A s.heap H [] := by rw [hH]; exact hS
  rw [← hH]
  refine lv_aload_n hx hb d_V_cell_0 rfl (lv_at hl 0 rfl) ?_
  refine lv_iload_n hx hb d_V_cell_1 rfl (lv_at hl 1 rfl) ?_
  refine lv_iload_n hx hb d_V_cell_2 rfl (lv_at hl 2 rfl) ?_
  have hPc := hP.sub (ws' := [(a, .inr (0, fs))]) [0] rfl
  have hDc := hD.sub (ws' := [(a, .inr (0, fs))]) [0] (by decide) rfl
  refine xnV (As := [.int n, .int i]) (rest := []) hx hb hml hown hE hK (hN _ _ hS) hPc hDc (c_V_checkCell_x l htr D dA H.size a fs n i h_fs_hasTable hl_fs) (q0 := 0) rfl rfl w309 w308 w310 w311 w277 rfl rfl ⟨⟨by decide, by decide⟩, rfl⟩ ⟨(Nat.le_of_ble_eq_true rfl), (Nat.le_of_ble_eq_true rfl)⟩ rfl hl.1 rfl (Nat.le_of_ble_eq_true rfl) d_V_cell_3 ⟨(Nat.le_of_ble_eq_true rfl), (Nat.le_of_ble_eq_true rfl)⟩ hP hD hS hA [0] [] (wr := []) rfl rfl (by decide) (by decide) (fun x1 ce H locs hP hD hS hce hcv hcl => ?_)
  have hP : va_P D vwCl [(a, .inr (0, fs))] H := hP
  have hD : va_D A [(a, .inr (0, fs))] := hD
  exact xOut hno hlk hce hcv hcl (fun t ht => xEnd hP hD hS [0] rfl rfl (by decide) t (by rw [ht]; exact Nat.le_refl _) (fun q _ => by rw [ht])) hS.2.2 (Nat.le_of_ble_eq_true rfl) (Nat.le_of_ble_eq_true rfl)
theorem d_V_writeJournalBlock_0 : decode prog_1_method_21_code 0 = .ok (.aload_n 0, 1) := by decide +kernel
theorem d_V_writeJournalBlock_1 : decode prog_1_method_21_code 1 = .ok (.getfield 16, 3) := by decide +kernel
theorem d_V_writeJournalBlock_4 : decode prog_1_method_21_code 4 = .ok (.getfield 198, 3) := by decide +kernel
theorem d_V_writeJournalBlock_7 : decode prog_1_method_21_code 7 = .ok (.ifCond .ne 5, 3) := by decide +kernel
theorem d_V_writeJournalBlock_10 : decode prog_1_method_21_code 10 = .ok (.iconst 0, 1) := by decide +kernel
theorem d_V_writeJournalBlock_11 : decode prog_1_method_21_code 11 = .ok (.ireturn, 1) := by decide +kernel
theorem w312 : Cond.fieldLink "SeriesVault" 16 "SeriesVault" "journal" "LSeriesVault$Journal;" ∈ aW := aw_of (tb_2 (List.mem_of_getElem? (i := 213) rfl)) rfl
theorem w313 : Cond.fieldLinkNest "SeriesVault" 198 "SeriesVault$Journal" "changed" "Z" "SeriesVault" ∈ aW := aw_of (tb_1 (List.mem_of_getElem? (i := 73) rfl)) rfl
set_option maxHeartbeats 4000000 in
set_option maxRecDepth 100000 in
theorem c_V_writeJournalBlock_0 (l : Launch) (D : va_G) (dA : Nat → ClassId) (sz : Nat) (a : Nat) (fs : List Value) (b : Nat) (gs : List Value) (h_fs_journal : fs[8]? = some (.ref b)) (hl_fs : fs.length = 18) (h_gs_changed : gs[12]? = some (.int 0)) (hl_gs : gs.length = 13) : Met l ⟨"SeriesVault", "writeJournalBlock", "()Z"⟩ [Cond.code ⟨"SeriesVault", "writeJournalBlock", "()Z"⟩ prog_1_method_21_code 1 (some FieldType.boolean)] { frames := 1, cells := 0, slots := 0, locals := 0 } (pC D dA [.ref a] [(a, .inr (0, fs)), (b, .inr (1, gs))] sz) (va_Qi (fun (r : Int32) (_ : Unit) => r = 0) (fun (u9 : Unit) t9 => bW D (va_A [(a, .inr (0, fs)), (b, .inr (1, gs))] sz) [(a, .inr (0, fs)), (b, .inr (1, gs))] t9) (va_A [(a, .inr (0, fs)), (b, .inr (1, gs))] sz)) 0 0 (va_A [(a, .inr (0, fs)), (b, .inr (1, gs))] sz) := by
  refine mkC (Qc := fun A => va_Qi (fun (r : Int32) (_ : Unit) => r = 0) (fun (u9 : Unit) t9 => bW D A [(a, .inr (0, fs)), (b, .inr (1, gs))] t9) A) (by decide) (Nat.le_of_ble_eq_true rfl) ?_
  intro A p e s m below meth c ls hsz hB
  obtain ⟨hx, hb, hr, hml, hown, hin, hlk, hE, hK, hP, hD, hS, hA, hN, hl⟩ := hB
  have hown : s.vm.findClass "SeriesVault" = some m.cls := hown
  have hin : meth.name = "writeJournalBlock" := hin
  have hl : lv_has ls 1 [(0, .ref a)] := hl
  obtain ⟨H, hH⟩ : ∃ z, z = s.heap := ⟨_, rfl⟩
  have hP : va_P D vwCl [(a, .inr (0, fs)), (b, .inr (1, gs))] H := by rw [hH]; exact hP
  have hS : va_S A s.heap H [] := by rw [hH]; exact hS
  rw [← hH]
  refine lv_aload_n hx hb d_V_writeJournalBlock_0 rfl (lv_at hl 0 rfl) ?_
  refine gF (v := .ref b) hx hb hown hE hK hP 0 rfl rfl layV 8 (by decide) w312 h_fs_journal d_V_writeJournalBlock_1 ?_
  refine gFN (v := .int 0) hx hb hown hE hK hP 1 rfl rfl layJ 12 (by decide) w313 h_gs_changed d_V_writeJournalBlock_4 ?_
  refine lv_if_ne hx hb d_V_writeJournalBlock_7 (tgt := 12) rfl (fun h9 => absurd (by decide) h9) (fun _ => ?_)
  refine lv_iconst (v := 0) hx hb d_V_writeJournalBlock_10 (by decide) ?_
  exact rtZ hx hb hr (by decide) hlk hP hD hS () rfl [0, 1] rfl rfl (by decide) (Nat.le_of_ble_eq_true rfl) (Nat.le_of_ble_eq_true rfl) d_V_writeJournalBlock_11
theorem d_V_sync_0 : decode prog_1_method_22_code 0 = .ok (.aload_n 0, 1) := by decide +kernel
theorem d_V_sync_1 : decode prog_1_method_22_code 1 = .ok (.invokevirtual 124, 3) := by decide +kernel
theorem d_V_sync_4 : decode prog_1_method_22_code 4 = .ok (.aload_n 0, 1) := by decide +kernel
theorem d_V_sync_5 : decode prog_1_method_22_code 5 = .ok (.invokevirtual 187, 3) := by decide +kernel
theorem d_V_sync_8 : decode prog_1_method_22_code 8 = .ok (.ireturn, 1) := by decide +kernel
theorem w314 : Cond.methodLink "SeriesVault" 187 ⟨"SeriesVault", "writeJournalBlock", "()Z"⟩ ∈ aW := aw_of (tb_5 (List.mem_of_getElem? (i := 47) rfl)) rfl
theorem w315 : Cond.code ⟨"SeriesVault", "writeJournalBlock", "()Z"⟩ prog_1_method_21_code 1 (some FieldType.boolean) ∈ aW := aw_of (tb_5 (List.mem_of_getElem? (i := 50) rfl)) rfl
theorem w316 : Cond.instanceMethod ⟨"SeriesVault", "writeJournalBlock", "()Z"⟩ ∈ aW := aw_of (tb_5 (List.mem_of_getElem? (i := 49) rfl)) rfl
theorem w317 : Cond.selects "SeriesVault" ⟨"SeriesVault", "writeJournalBlock", "()Z"⟩ ⟨"SeriesVault", "writeJournalBlock", "()Z"⟩ ∈ aW := aw_pr (List.mem_map.mpr ⟨_, pv_1 (List.mem_of_getElem? (i := 14) rfl), rfl⟩) rfl
set_option maxHeartbeats 4000000 in
set_option maxRecDepth 100000 in
theorem c_V_sync_0 (l : Launch) (D : va_G) (dA : Nat → ClassId) (sz : Nat) (a : Nat) (fs : List Value) (b : Nat) (gs : List Value) (h_fs_powered : fs[5]? = some (.int 1)) (h_fs_journal : fs[8]? = some (.ref b)) (hl_fs : fs.length = 18) (h_gs_changed : gs[12]? = some (.int 0)) (hl_gs : gs.length = 13) : Met l ⟨"SeriesVault", "sync", "()Z"⟩ [Cond.code ⟨"SeriesVault", "sync", "()Z"⟩ prog_1_method_22_code 1 (some FieldType.boolean)] { frames := 2, cells := 0, slots := 0, locals := 20 } (pC D dA [.ref a] [(a, .inr (0, fs)), (b, .inr (1, gs))] sz) (va_Qi (fun (r : Int32) (_ : Unit) => r = 0) (fun (u9 : Unit) t9 => bW D (va_A [(a, .inr (0, fs)), (b, .inr (1, gs))] sz) [(a, .inr (0, fs)), (b, .inr (1, gs))] t9) (va_A [(a, .inr (0, fs)), (b, .inr (1, gs))] sz)) 0 0 (va_A [(a, .inr (0, fs)), (b, .inr (1, gs))] sz) := by
  refine mkC (Qc := fun A => va_Qi (fun (r : Int32) (_ : Unit) => r = 0) (fun (u9 : Unit) t9 => bW D A [(a, .inr (0, fs)), (b, .inr (1, gs))] t9) A) (by decide) (Nat.le_of_ble_eq_true rfl) ?_
  intro A p e s m below meth c ls hsz hB
  obtain ⟨hx, hb, hr, hml, hown, hin, hlk, hE, hK, hP, hD, hS, hA, hN, hl⟩ := hB
  have hown : s.vm.findClass "SeriesVault" = some m.cls := hown
  have hin : meth.name = "sync" := hin
  have hl : lv_has ls 1 [(0, .ref a)] := hl
  obtain ⟨H, hH⟩ : ∃ z, z = s.heap := ⟨_, rfl⟩
  have hP : va_P D vwCl [(a, .inr (0, fs)), (b, .inr (1, gs))] H := by rw [hH]; exact hP
  have hS : va_S A s.heap H [] := by rw [hH]; exact hS
  rw [← hH]
  refine lv_aload_n hx hb d_V_sync_0 rfl (lv_at hl 0 rfl) ?_
  have hPc := hP.sub (ws' := [(a, .inr (0, fs))]) [0] rfl
  have hDc := hD.sub (ws' := [(a, .inr (0, fs))]) [0] (by decide) rfl
  refine jnV (rnV (As := []) (rest := []) hx hb hml hown hE hK (hN _ _ hS) hPc hDc (c_V_checkPower l D dA H.size a fs h_fs_powered hl_fs) (q0 := 0) rfl rfl w278 w276 w279 w280 w277 rfl rfl ⟨⟨by decide, by decide⟩, rfl⟩ ⟨(Nat.le_of_ble_eq_true rfl), (Nat.le_of_ble_eq_true rfl)⟩ rfl hl.1 rfl (Nat.le_of_ble_eq_true rfl) d_V_sync_1 ⟨(Nat.le_of_ble_eq_true rfl), (Nat.le_of_ble_eq_true rfl)⟩) hP hD hS hA [0] [1] (wr := [(b, .inr (1, gs))]) rfl rfl (by decide) (by decide) (fun u9 H locs hp9 hP hD hS => ?_)
  have hP : va_P D vwCl [(b, .inr (1, gs)), (a, .inr (0, fs))] H := hP
  have hD : va_D A [(b, .inr (1, gs)), (a, .inr (0, fs))] := hD
  refine lv_aload_n hx hb d_V_sync_4 rfl (lv_at hl 0 rfl) ?_
  have hPc := hP.sub (ws' := [(a, .inr (0, fs)), (b, .inr (1, gs))]) [1, 0] rfl
  have hDc := hD.sub (ws' := [(a, .inr (0, fs)), (b, .inr (1, gs))]) [1, 0] (by decide) rfl
  refine jnI (rnV (As := []) (rest := []) hx hb hml hown hE hK (hN _ _ hS) hPc hDc (c_V_writeJournalBlock_0 l D dA H.size a fs b gs h_fs_journal hl_fs h_gs_changed hl_gs) (q0 := 0) rfl rfl w315 w314 w316 w317 w277 rfl rfl ⟨⟨by decide, by decide⟩, rfl⟩ ⟨(Nat.le_of_ble_eq_true rfl), (Nat.le_of_ble_eq_true rfl)⟩ rfl hl.1 rfl (Nat.le_of_ble_eq_true rfl) d_V_sync_5 ⟨(Nat.le_of_ble_eq_true rfl), (Nat.le_of_ble_eq_true rfl)⟩) hP hD hS hA [1, 0] [] (wr := []) rfl rfl (by decide) (by decide) (fun r2 u9 H locs hp9 hP hD hS => ?_)
  have hP : va_P D vwCl [(a, .inr (0, fs)), (b, .inr (1, gs))] H := hP
  have hD : va_D A [(a, .inr (0, fs)), (b, .inr (1, gs))] := hD
  have hp9 : 0 = r2 := Eq.symm hp9
  subst hp9
  exact rtZ hx hb hr (by decide) hlk hP hD hS () rfl [0, 1] rfl rfl (by decide) (Nat.le_of_ble_eq_true rfl) (Nat.le_of_ble_eq_true rfl) d_V_sync_8
theorem d_V_flush_0 : decode prog_1_method_36_code 0 = .ok (.aload_n 0, 1) := by decide +kernel
theorem d_V_flush_1 : decode prog_1_method_36_code 1 = .ok (.invokevirtual 124, 3) := by decide +kernel
theorem d_V_flush_4 : decode prog_1_method_36_code 4 = .ok (.aload_n 0, 1) := by decide +kernel
theorem d_V_flush_5 : decode prog_1_method_36_code 5 = .ok (.getfield 16, 3) := by decide +kernel
theorem d_V_flush_8 : decode prog_1_method_36_code 8 = .ok (.getfield 153, 3) := by decide +kernel
theorem d_V_flush_11 : decode prog_1_method_36_code 11 = .ok (.ifCond .ne 5, 3) := by decide +kernel
theorem d_V_flush_14 : decode prog_1_method_36_code 14 = .ok (.iconst 0, 1) := by decide +kernel
theorem d_V_flush_15 : decode prog_1_method_36_code 15 = .ok (.ireturn, 1) := by decide +kernel
theorem w318 : Cond.fieldLinkNest "SeriesVault" 153 "SeriesVault$Journal" "size" "I" "SeriesVault" ∈ aW := aw_of (tb_1 (List.mem_of_getElem? (i := 63) rfl)) rfl
set_option maxHeartbeats 4000000 in
set_option maxRecDepth 100000 in
theorem c_V_flush_0 (l : Launch) (D : va_G) (dA : Nat → ClassId) (sz : Nat) (a : Nat) (fs : List Value) (b : Nat) (gs : List Value) (h_fs_powered : fs[5]? = some (.int 1)) (h_fs_journal : fs[8]? = some (.ref b)) (hl_fs : fs.length = 18) (h_gs_size : gs[6]? = some (.int 0)) (hl_gs : gs.length = 13) : Met l ⟨"SeriesVault", "flush", "()I"⟩ [Cond.code ⟨"SeriesVault", "flush", "()I"⟩ prog_1_method_36_code 4 (some FieldType.int)] { frames := 2, cells := 0, slots := 0, locals := 20 } (pC D dA [.ref a] [(a, .inr (0, fs)), (b, .inr (1, gs))] sz) (va_Qi (fun (r : Int32) (_ : Unit) => r = 0) (fun (u9 : Unit) t9 => bW D (va_A [(a, .inr (0, fs)), (b, .inr (1, gs))] sz) [(a, .inr (0, fs)), (b, .inr (1, gs))] t9) (va_A [(a, .inr (0, fs)), (b, .inr (1, gs))] sz)) 0 0 (va_A [(a, .inr (0, fs)), (b, .inr (1, gs))] sz) := by
  refine mkC (Qc := fun A => va_Qi (fun (r : Int32) (_ : Unit) => r = 0) (fun (u9 : Unit) t9 => bW D A [(a, .inr (0, fs)), (b, .inr (1, gs))] t9) A) (by decide) (Nat.le_of_ble_eq_true rfl) ?_
  intro A p e s m below meth c ls hsz hB
  obtain ⟨hx, hb, hr, hml, hown, hin, hlk, hE, hK, hP, hD, hS, hA, hN, hl⟩ := hB
  have hown : s.vm.findClass "SeriesVault" = some m.cls := hown
  have hin : meth.name = "flush" := hin
  have hl : lv_has ls 4 [(0, .ref a)] := hl
  obtain ⟨H, hH⟩ : ∃ z, z = s.heap := ⟨_, rfl⟩
  have hP : va_P D vwCl [(a, .inr (0, fs)), (b, .inr (1, gs))] H := by rw [hH]; exact hP
  have hS : va_S A s.heap H [] := by rw [hH]; exact hS
  rw [← hH]
  refine lv_aload_n hx hb d_V_flush_0 rfl (lv_at hl 0 rfl) ?_
  have hPc := hP.sub (ws' := [(a, .inr (0, fs))]) [0] rfl
  have hDc := hD.sub (ws' := [(a, .inr (0, fs))]) [0] (by decide) rfl
  refine jnV (rnV (As := []) (rest := []) hx hb hml hown hE hK (hN _ _ hS) hPc hDc (c_V_checkPower l D dA H.size a fs h_fs_powered hl_fs) (q0 := 0) rfl rfl w278 w276 w279 w280 w277 rfl rfl ⟨⟨by decide, by decide⟩, rfl⟩ ⟨(Nat.le_of_ble_eq_true rfl), (Nat.le_of_ble_eq_true rfl)⟩ rfl hl.1 rfl (Nat.le_of_ble_eq_true rfl) d_V_flush_1 ⟨(Nat.le_of_ble_eq_true rfl), (Nat.le_of_ble_eq_true rfl)⟩) hP hD hS hA [0] [1] (wr := [(b, .inr (1, gs))]) rfl rfl (by decide) (by decide) (fun u9 H locs hp9 hP hD hS => ?_)
  have hP : va_P D vwCl [(b, .inr (1, gs)), (a, .inr (0, fs))] H := hP
  have hD : va_D A [(b, .inr (1, gs)), (a, .inr (0, fs))] := hD
  refine lv_aload_n hx hb d_V_flush_4 rfl (lv_at hl 0 rfl) ?_
  refine gF (v := .ref b) hx hb hown hE hK hP 1 rfl rfl layV 8 (by decide) w312 h_fs_journal d_V_flush_5 ?_
  refine gFN (v := .int 0) hx hb hown hE hK hP 0 rfl rfl layJ 6 (by decide) w318 h_gs_size d_V_flush_8 ?_
  refine lv_if_ne hx hb d_V_flush_11 (tgt := 16) rfl (fun h9 => absurd (by decide) h9) (fun _ => ?_)
  refine lv_iconst (v := 0) hx hb d_V_flush_14 (by decide) ?_
  exact rtI hx hb hr hlk hP hD hS () rfl [1, 0] rfl rfl (by decide) (Nat.le_of_ble_eq_true rfl) (Nat.le_of_ble_eq_true rfl) d_V_flush_15
end
section
/-! Small facts of ints. -/
theorem nlt_m1 {n : Int32} (h : ¬ n < 0) : ¬ n < (-1) := by
  intro h2
  exact h (Int32.lt_trans h2 (by decide))
theorem ask_l {t w : Int64} {n : Int32} {T : Int64} (h0 : t < 0 ∨ T < t ∨ w < 1 ∨ T < w ∨ n < 1 ∨ 64 < n) (hc : ¬ lg_cmp t 0 < 0) (hd : ¬ 0 < lg_cmp t T) (he : ¬ lg_cmp w 1 < 0) (hf : ¬ 0 < lg_cmp w T) (hg : ¬ n < 1) : ¬ n ≤ 64 := by
  rcases h0 with h | h | h | h | h | h
  · exact absurd ((lg_cmp_lt _ _).mpr h) hc
  · exact absurd ((lg_cmp_gt _ _).mpr h) hd
  · exact absurd ((lg_cmp_lt _ _).mpr h) he
  · exact absurd ((lg_cmp_gt _ _).mpr h) hf
  · exact absurd h hg
  · exact Int32.not_le.mpr h
end
section
theorem d_M_thrown_0 : decode prog_14_method_2_code 0 = .ok (.aload_n 0, 1) := by decide +kernel
theorem d_M_thrown_1 : decode prog_14_method_2_code 1 = .ok (.getfield 145, 3) := by decide +kernel
theorem d_M_thrown_4 : decode prog_14_method_2_code 4 = .ok (.ireturn, 1) := by decide +kernel
theorem w319 : Cond.fieldLink "SeriesVaultModel" 145 "SeriesVaultModel" "code" "I" ∈ aW := aw_of (tb_8 (List.mem_of_getElem? (i := 174) rfl)) rfl
set_option maxHeartbeats 4000000 in
set_option maxRecDepth 100000 in
theorem c_M_thrown (l : Launch) (D : va_G) (dA : Nat → ClassId) (sz : Nat) (a : Nat) (fs : List Value) (k : Int32) (h_fs_code : fs[0]? = some (.int k)) (hl_fs : fs.length = 79) : Met l ⟨"SeriesVaultModel", "thrown", "()I"⟩ [Cond.code ⟨"SeriesVaultModel", "thrown", "()I"⟩ prog_14_method_2_code 1 (some FieldType.int)] { frames := 1, cells := 0, slots := 0, locals := 0 } (pC D dA [.ref a] [(a, .inr (9, fs))] sz) (va_Qi (fun (r : Int32) (_ : Unit) => r = k) (fun (u9 : Unit) t9 => bW D (va_A [(a, .inr (9, fs))] sz) [(a, .inr (9, fs))] t9) (va_A [(a, .inr (9, fs))] sz)) 0 0 (va_A [(a, .inr (9, fs))] sz) := by
  refine mkC (Qc := fun A => va_Qi (fun (r : Int32) (_ : Unit) => r = k) (fun (u9 : Unit) t9 => bW D A [(a, .inr (9, fs))] t9) A) (by decide) (Nat.le_of_ble_eq_true rfl) ?_
  intro A p e s m below meth c ls hsz hB
  obtain ⟨hx, hb, hr, hml, hown, hin, hlk, hE, hK, hP, hD, hS, hA, hN, hl⟩ := hB
  have hown : s.vm.findClass "SeriesVaultModel" = some m.cls := hown
  have hin : meth.name = "thrown" := hin
  have hl : lv_has ls 1 [(0, .ref a)] := hl
  obtain ⟨H, hH⟩ : ∃ z, z = s.heap := ⟨_, rfl⟩
  have hP : va_P D vwCl [(a, .inr (9, fs))] H := by rw [hH]; exact hP
  have hS : va_S A s.heap H [] := by rw [hH]; exact hS
  rw [← hH]
  refine lv_aload_n hx hb d_M_thrown_0 rfl (lv_at hl 0 rfl) ?_
  refine gF (v := .int k) hx hb hown hE hK hP 0 rfl rfl layM 0 (by decide) w319 h_fs_code d_M_thrown_1 ?_
  exact rtI hx hb hr hlk hP hD hS () rfl [0] rfl rfl (by decide) (Nat.le_of_ble_eq_true rfl) (Nat.le_of_ble_eq_true rfl) d_M_thrown_4
theorem d_M_end_0 : decode prog_14_method_4_code 0 = .ok (.aload_n 0, 1) := by decide +kernel
theorem d_M_end_1 : decode prog_14_method_4_code 1 = .ok (.iload_n 1, 1) := by decide +kernel
theorem d_M_end_2 : decode prog_14_method_4_code 2 = .ok (.ifCond .lt 11, 3) := by decide +kernel
theorem d_M_end_5 : decode prog_14_method_4_code 5 = .ok (.iload_n 1, 1) := by decide +kernel
theorem d_M_end_6 : decode prog_14_method_4_code 6 = .ok (.aload_n 0, 1) := by decide +kernel
theorem d_M_end_7 : decode prog_14_method_4_code 7 = .ok (.getfield 148, 3) := by decide +kernel
theorem d_M_end_10 : decode prog_14_method_4_code 10 = .ok (.if_icmp .le 7, 3) := by decide +kernel
theorem d_M_end_17 : decode prog_14_method_4_code 17 = .ok (.iconst 0, 1) := by decide +kernel
theorem d_M_end_18 : decode prog_14_method_4_code 18 = .ok (.putfield 145, 3) := by decide +kernel
theorem d_M_end_21 : decode prog_14_method_4_code 21 = .ok (.aload_n 0, 1) := by decide +kernel
theorem d_M_end_22 : decode prog_14_method_4_code 22 = .ok (.aload_n 0, 1) := by decide +kernel
theorem d_M_end_23 : decode prog_14_method_4_code 23 = .ok (.getfield 145, 3) := by decide +kernel
theorem d_M_end_26 : decode prog_14_method_4_code 26 = .ok (.ifCond .ne 7, 3) := by decide +kernel
theorem d_M_end_29 : decode prog_14_method_4_code 29 = .ok (.iload_n 1, 1) := by decide +kernel
theorem d_M_end_30 : decode prog_14_method_4_code 30 = .ok (.goto 7, 3) := by decide +kernel
theorem d_M_end_37 : decode prog_14_method_4_code 37 = .ok (.putfield 148, 3) := by decide +kernel
theorem d_M_end_40 : decode prog_14_method_4_code 40 = .ok (.return_, 1) := by decide +kernel
theorem w320 : Cond.fieldLink "SeriesVaultModel" 148 "SeriesVaultModel" "length" "I" ∈ aW := aw_of (tb_8 (List.mem_of_getElem? (i := 176) rfl)) rfl
set_option maxHeartbeats 4000000 in
set_option maxRecDepth 100000 in
theorem c_M_end (l : Launch) (D : va_G) (dA : Nat → ClassId) (sz : Nat) (a : Nat) (fs : List Value) (n : Int32) (tl : Int32) (h1 : ¬ n < 0) (h2 : n ≤ tl) (h_fs_length : fs[2]? = some (.int tl)) (hl_fs : fs.length = 79) : Met l ⟨"SeriesVaultModel", "end", "(I)V"⟩ [Cond.code ⟨"SeriesVaultModel", "end", "(I)V"⟩ prog_14_method_4_code 2 none] { frames := 1, cells := 0, slots := 0, locals := 0 } (pC D dA [.ref a, .int n] [(a, .inr (9, fs))] sz) (va_Qv (fun (_ : Unit) => True) (fun (u9 : Unit) t9 => bW D (va_A [(a, .inr (9, fs))] sz) [(a, .inr (9, ((fs.set 0 (.int 0)).set 2 (.int n))))] t9) (va_A [(a, .inr (9, fs))] sz)) 0 0 (va_A [(a, .inr (9, fs))] sz) := by
  refine mkC (Qc := fun A => va_Qv (fun (_ : Unit) => True) (fun (u9 : Unit) t9 => bW D A [(a, .inr (9, ((fs.set 0 (.int 0)).set 2 (.int n))))] t9) A) (by decide) (Nat.le_of_ble_eq_true rfl) ?_
  intro A p e s m below meth c ls hsz hB
  obtain ⟨hx, hb, hr, hml, hown, hin, hlk, hE, hK, hP, hD, hS, hA, hN, hl⟩ := hB
  have hown : s.vm.findClass "SeriesVaultModel" = some m.cls := hown
  have hin : meth.name = "end" := hin
  have hl : lv_has ls 2 [(0, .ref a), (1, .int n)] := hl
  obtain ⟨H, hH⟩ : ∃ z, z = s.heap := ⟨_, rfl⟩
  have hP : va_P D vwCl [(a, .inr (9, fs))] H := by rw [hH]; exact hP
  have hS : va_S A s.heap H [] := by rw [hH]; exact hS
  rw [← hH]
  refine lv_aload_n hx hb d_M_end_0 rfl (lv_at hl 0 rfl) ?_
  refine lv_iload_n hx hb d_M_end_1 rfl (lv_at hl 1 rfl) ?_
  refine lv_if_lt hx hb d_M_end_2 (tgt := 13) rfl (fun h9 => absurd h9 h1) (fun _ => ?_)
  refine lv_iload_n hx hb d_M_end_5 rfl (lv_at hl 1 rfl) ?_
  refine lv_aload_n hx hb d_M_end_6 rfl (lv_at hl 0 rfl) ?_
  refine gF (v := .int tl) hx hb hown hE hK hP 0 rfl rfl layM 2 (by decide) w320 h_fs_length d_M_end_7 ?_
  refine lv_icmp_le hx hb d_M_end_10 (tgt := 17) rfl (fun _ => ?_) (fun h9 => absurd h2 h9)
  refine lv_iconst (v := 0) hx hb d_M_end_17 (by decide) ?_
  refine pF hx hb hown hE hK hP hD hS 0 rfl rfl layM tyM tokM nmM 0 (by decide) w319 rfl rfl rfl (by simp [hl_fs]) d_M_end_18 (fun H locs hP hD hS => ?_)
  have hP : va_P D vwCl [(a, .inr (9, (fs.set 0 (.int 0))))] H := hP
  have hD : va_D A [(a, .inr (9, (fs.set 0 (.int 0))))] := hD
  refine lv_aload_n hx hb d_M_end_21 rfl (lv_at hl 0 rfl) ?_
  refine lv_aload_n hx hb d_M_end_22 rfl (lv_at hl 0 rfl) ?_
  refine gF (v := .int 0) hx hb hown hE hK hP 0 rfl rfl layM 0 (by decide) w319 (by simp [hl_fs]) d_M_end_23 ?_
  refine lv_if_ne hx hb d_M_end_26 (tgt := 33) rfl (fun h9 => absurd (by decide) h9) (fun _ => ?_)
  refine lv_iload_n hx hb d_M_end_29 rfl (lv_at hl 1 rfl) ?_
  refine lv_goto hx hb d_M_end_30 (tgt := 37) rfl ?_
  refine pF hx hb hown hE hK hP hD hS 0 rfl rfl layM tyM tokM nmM 2 (by decide) w320 rfl rfl rfl (by simp [hl_fs]) d_M_end_37 (fun H locs hP hD hS => ?_)
  have hP : va_P D vwCl [(a, .inr (9, ((fs.set 0 (.int 0)).set 2 (.int n))))] H := hP
  have hD : va_D A [(a, .inr (9, ((fs.set 0 (.int 0)).set 2 (.int n))))] := hD
  exact rtV hx hb hr hlk hP hD hS () trivial [0] rfl rfl (by decide) (Nat.le_of_ble_eq_true rfl) (Nat.le_of_ble_eq_true rfl) d_M_end_40
theorem d_M_fault_0 : decode prog_14_method_5_code 0 = .ok (.aload_n 0, 1) := by decide +kernel
theorem d_M_fault_1 : decode prog_14_method_5_code 1 = .ok (.iload_n 1, 1) := by decide +kernel
theorem d_M_fault_2 : decode prog_14_method_5_code 2 = .ok (.ifCond .eq 8, 3) := by decide +kernel
theorem d_M_fault_10 : decode prog_14_method_5_code 10 = .ok (.iconst 0, 1) := by decide +kernel
theorem d_M_fault_11 : decode prog_14_method_5_code 11 = .ok (.goto 4, 3) := by decide +kernel
theorem d_M_fault_15 : decode prog_14_method_5_code 15 = .ok (.putfield 145, 3) := by decide +kernel
theorem d_M_fault_18 : decode prog_14_method_5_code 18 = .ok (.aload_n 0, 1) := by decide +kernel
theorem d_M_fault_19 : decode prog_14_method_5_code 19 = .ok (.getfield 145, 3) := by decide +kernel
theorem d_M_fault_22 : decode prog_14_method_5_code 22 = .ok (.ifCond .le 7, 3) := by decide +kernel
theorem d_M_fault_29 : decode prog_14_method_5_code 29 = .ok (.iload_n 1, 1) := by decide +kernel
theorem d_M_fault_30 : decode prog_14_method_5_code 30 = .ok (.ifCond .ne 10, 3) := by decide +kernel
theorem d_M_fault_33 : decode prog_14_method_5_code 33 = .ok (.aload_n 0, 1) := by decide +kernel
theorem d_M_fault_34 : decode prog_14_method_5_code 34 = .ok (.getfield 151, 3) := by decide +kernel
theorem d_M_fault_37 : decode prog_14_method_5_code 37 = .ok (.goto 7, 3) := by decide +kernel
theorem d_M_fault_44 : decode prog_14_method_5_code 44 = .ok (.ireturn, 1) := by decide +kernel
theorem w321 : Cond.fieldLink "SeriesVaultModel" 151 "SeriesVaultModel" "faultCode" "I" ∈ aW := aw_of (tb_8 (List.mem_of_getElem? (i := 177) rfl)) rfl
set_option maxHeartbeats 4000000 in
set_option maxRecDepth 100000 in
theorem c_M_fault_0 (l : Launch) (D : va_G) (dA : Nat → ClassId) (sz : Nat) (a : Nat) (fs : List Value) (fc : Int32) (h_fs_faultCode : fs[3]? = some (.int fc)) (hl_fs : fs.length = 79) : Met l ⟨"SeriesVaultModel", "fault", "(I)I"⟩ [Cond.code ⟨"SeriesVaultModel", "fault", "(I)I"⟩ prog_14_method_5_code 2 (some FieldType.int)] { frames := 1, cells := 0, slots := 0, locals := 0 } (pC D dA [.ref a, .int 0] [(a, .inr (9, fs))] sz) (va_Qi (fun (r : Int32) (_ : Unit) => r = fc) (fun (u9 : Unit) t9 => bW D (va_A [(a, .inr (9, fs))] sz) [(a, .inr (9, (fs.set 0 (.int 0))))] t9) (va_A [(a, .inr (9, fs))] sz)) 0 0 (va_A [(a, .inr (9, fs))] sz) := by
  refine mkC (Qc := fun A => va_Qi (fun (r : Int32) (_ : Unit) => r = fc) (fun (u9 : Unit) t9 => bW D A [(a, .inr (9, (fs.set 0 (.int 0))))] t9) A) (by decide) (Nat.le_of_ble_eq_true rfl) ?_
  intro A p e s m below meth c ls hsz hB
  obtain ⟨hx, hb, hr, hml, hown, hin, hlk, hE, hK, hP, hD, hS, hA, hN, hl⟩ := hB
  have hown : s.vm.findClass "SeriesVaultModel" = some m.cls := hown
  have hin : meth.name = "fault" := hin
  have hl : lv_has ls 2 [(0, .ref a), (1, .int 0)] := hl
  obtain ⟨H, hH⟩ : ∃ z, z = s.heap := ⟨_, rfl⟩
  have hP : va_P D vwCl [(a, .inr (9, fs))] H := by rw [hH]; exact hP
  have hS : va_S A s.heap H [] := by rw [hH]; exact hS
  rw [← hH]
  refine lv_aload_n hx hb d_M_fault_0 rfl (lv_at hl 0 rfl) ?_
  refine lv_iload_n hx hb d_M_fault_1 rfl (lv_at hl 1 rfl) ?_
  refine lv_if_eq hx hb d_M_fault_2 (tgt := 10) rfl (fun _ => ?_) (fun h9 => absurd (by decide) h9)
  refine lv_iconst (v := 0) hx hb d_M_fault_10 (by decide) ?_
  refine lv_goto hx hb d_M_fault_11 (tgt := 15) rfl ?_
  refine pF hx hb hown hE hK hP hD hS 0 rfl rfl layM tyM tokM nmM 0 (by decide) w319 rfl rfl rfl (by simp [hl_fs]) d_M_fault_15 (fun H locs hP hD hS => ?_)
  have hP : va_P D vwCl [(a, .inr (9, (fs.set 0 (.int 0))))] H := hP
  have hD : va_D A [(a, .inr (9, (fs.set 0 (.int 0))))] := hD
  refine lv_aload_n hx hb d_M_fault_18 rfl (lv_at hl 0 rfl) ?_
  refine gF (v := .int 0) hx hb hown hE hK hP 0 rfl rfl layM 0 (by decide) w319 (by simp [hl_fs]) d_M_fault_19 ?_
  refine lv_if_le hx hb d_M_fault_22 (tgt := 29) rfl (fun _ => ?_) (fun h9 => absurd (by decide) h9)
  refine lv_iload_n hx hb d_M_fault_29 rfl (lv_at hl 1 rfl) ?_
  refine lv_if_ne hx hb d_M_fault_30 (tgt := 40) rfl (fun h9 => absurd (by decide) h9) (fun _ => ?_)
  refine lv_aload_n hx hb d_M_fault_33 rfl (lv_at hl 0 rfl) ?_
  refine gF (v := .int fc) hx hb hown hE hK hP 0 rfl rfl layM 3 (by decide) w321 (by simp [h_fs_faultCode]) d_M_fault_34 ?_
  refine lv_goto hx hb d_M_fault_37 (tgt := 44) rfl ?_
  exact rtI hx hb hr hlk hP hD hS () rfl [0] rfl rfl (by decide) (Nat.le_of_ble_eq_true rfl) (Nat.le_of_ble_eq_true rfl) d_M_fault_44
theorem d_M_fault_5 : decode prog_14_method_5_code 5 = .ok (.iload_n 1, 1) := by decide +kernel
theorem d_M_fault_6 : decode prog_14_method_5_code 6 = .ok (.iconst 1, 1) := by decide +kernel
theorem d_M_fault_7 : decode prog_14_method_5_code 7 = .ok (.if_icmp .ne 7, 3) := by decide +kernel
theorem d_M_fault_40 : decode prog_14_method_5_code 40 = .ok (.aload_n 0, 1) := by decide +kernel
theorem d_M_fault_41 : decode prog_14_method_5_code 41 = .ok (.getfield 154, 3) := by decide +kernel
theorem w322 : Cond.fieldLink "SeriesVaultModel" 154 "SeriesVaultModel" "faultPlace" "I" ∈ aW := aw_of (tb_8 (List.mem_of_getElem? (i := 178) rfl)) rfl
set_option maxHeartbeats 4000000 in
set_option maxRecDepth 100000 in
theorem c_M_fault_1 (l : Launch) (D : va_G) (dA : Nat → ClassId) (sz : Nat) (a : Nat) (fs : List Value) (fp : Int32) (h_fs_faultPlace : fs[4]? = some (.int fp)) (hl_fs : fs.length = 79) : Met l ⟨"SeriesVaultModel", "fault", "(I)I"⟩ [Cond.code ⟨"SeriesVaultModel", "fault", "(I)I"⟩ prog_14_method_5_code 2 (some FieldType.int)] { frames := 1, cells := 0, slots := 0, locals := 0 } (pC D dA [.ref a, .int 1] [(a, .inr (9, fs))] sz) (va_Qi (fun (r : Int32) (_ : Unit) => r = fp) (fun (u9 : Unit) t9 => bW D (va_A [(a, .inr (9, fs))] sz) [(a, .inr (9, (fs.set 0 (.int 0))))] t9) (va_A [(a, .inr (9, fs))] sz)) 0 0 (va_A [(a, .inr (9, fs))] sz) := by
  refine mkC (Qc := fun A => va_Qi (fun (r : Int32) (_ : Unit) => r = fp) (fun (u9 : Unit) t9 => bW D A [(a, .inr (9, (fs.set 0 (.int 0))))] t9) A) (by decide) (Nat.le_of_ble_eq_true rfl) ?_
  intro A p e s m below meth c ls hsz hB
  obtain ⟨hx, hb, hr, hml, hown, hin, hlk, hE, hK, hP, hD, hS, hA, hN, hl⟩ := hB
  have hown : s.vm.findClass "SeriesVaultModel" = some m.cls := hown
  have hin : meth.name = "fault" := hin
  have hl : lv_has ls 2 [(0, .ref a), (1, .int 1)] := hl
  obtain ⟨H, hH⟩ : ∃ z, z = s.heap := ⟨_, rfl⟩
  have hP : va_P D vwCl [(a, .inr (9, fs))] H := by rw [hH]; exact hP
  have hS : va_S A s.heap H [] := by rw [hH]; exact hS
  rw [← hH]
  refine lv_aload_n hx hb d_M_fault_0 rfl (lv_at hl 0 rfl) ?_
  refine lv_iload_n hx hb d_M_fault_1 rfl (lv_at hl 1 rfl) ?_
  refine lv_if_eq hx hb d_M_fault_2 (tgt := 10) rfl (fun h9 => absurd h9 (by decide)) (fun _ => ?_)
  refine lv_iload_n hx hb d_M_fault_5 rfl (lv_at hl 1 rfl) ?_
  refine lv_iconst (v := 1) hx hb d_M_fault_6 (by decide) ?_
  refine lv_icmp_ne hx hb d_M_fault_7 (tgt := 14) rfl (fun h9 => absurd (by decide) h9) (fun _ => ?_)
  refine lv_iconst (v := 0) hx hb d_M_fault_10 (by decide) ?_
  refine lv_goto hx hb d_M_fault_11 (tgt := 15) rfl ?_
  refine pF hx hb hown hE hK hP hD hS 0 rfl rfl layM tyM tokM nmM 0 (by decide) w319 rfl rfl rfl (by simp [hl_fs]) d_M_fault_15 (fun H locs hP hD hS => ?_)
  have hP : va_P D vwCl [(a, .inr (9, (fs.set 0 (.int 0))))] H := hP
  have hD : va_D A [(a, .inr (9, (fs.set 0 (.int 0))))] := hD
  refine lv_aload_n hx hb d_M_fault_18 rfl (lv_at hl 0 rfl) ?_
  refine gF (v := .int 0) hx hb hown hE hK hP 0 rfl rfl layM 0 (by decide) w319 (by simp [hl_fs]) d_M_fault_19 ?_
  refine lv_if_le hx hb d_M_fault_22 (tgt := 29) rfl (fun _ => ?_) (fun h9 => absurd (by decide) h9)
  refine lv_iload_n hx hb d_M_fault_29 rfl (lv_at hl 1 rfl) ?_
  refine lv_if_ne hx hb d_M_fault_30 (tgt := 40) rfl (fun _ => ?_) (fun h9 => absurd h9 (by decide))
  refine lv_aload_n hx hb d_M_fault_40 rfl (lv_at hl 0 rfl) ?_
  refine gF (v := .int fp) hx hb hown hE hK hP 0 rfl rfl layM 4 (by decide) w322 (by simp [h_fs_faultPlace]) d_M_fault_41 ?_
  exact rtI hx hb hr hlk hP hD hS () rfl [0] rfl rfl (by decide) (Nat.le_of_ble_eq_true rfl) (Nat.le_of_ble_eq_true rfl) d_M_fault_44
theorem d_M_fault_14 : decode prog_14_method_5_code 14 = .ok (.iconst 1, 1) := by decide +kernel
theorem d_M_fault_25 : decode prog_14_method_5_code 25 = .ok (.iconst 0, 1) := by decide +kernel
theorem d_M_fault_26 : decode prog_14_method_5_code 26 = .ok (.goto 18, 3) := by decide +kernel
set_option maxHeartbeats 4000000 in
set_option maxRecDepth 100000 in
theorem c_M_fault_x (l : Launch) (D : va_G) (dA : Nat → ClassId) (sz : Nat) (a : Nat) (fs : List Value) (n : Int32) (h0 : ¬ n = 0) (h1 : ¬ n = 1) (hl_fs : fs.length = 79) : Met l ⟨"SeriesVaultModel", "fault", "(I)I"⟩ [Cond.code ⟨"SeriesVaultModel", "fault", "(I)I"⟩ prog_14_method_5_code 2 (some FieldType.int)] { frames := 1, cells := 0, slots := 0, locals := 0 } (pC D dA [.ref a, .int n] [(a, .inr (9, fs))] sz) (va_Qi (fun (r : Int32) (_ : Unit) => r = 0) (fun (u9 : Unit) t9 => bW D (va_A [(a, .inr (9, fs))] sz) [(a, .inr (9, (fs.set 0 (.int 1))))] t9) (va_A [(a, .inr (9, fs))] sz)) 0 0 (va_A [(a, .inr (9, fs))] sz) := by
  refine mkC (Qc := fun A => va_Qi (fun (r : Int32) (_ : Unit) => r = 0) (fun (u9 : Unit) t9 => bW D A [(a, .inr (9, (fs.set 0 (.int 1))))] t9) A) (by decide) (Nat.le_of_ble_eq_true rfl) ?_
  intro A p e s m below meth c ls hsz hB
  obtain ⟨hx, hb, hr, hml, hown, hin, hlk, hE, hK, hP, hD, hS, hA, hN, hl⟩ := hB
  have hown : s.vm.findClass "SeriesVaultModel" = some m.cls := hown
  have hin : meth.name = "fault" := hin
  have hl : lv_has ls 2 [(0, .ref a), (1, .int n)] := hl
  obtain ⟨H, hH⟩ : ∃ z, z = s.heap := ⟨_, rfl⟩
  have hP : va_P D vwCl [(a, .inr (9, fs))] H := by rw [hH]; exact hP
  have hS : va_S A s.heap H [] := by rw [hH]; exact hS
  rw [← hH]
  refine lv_aload_n hx hb d_M_fault_0 rfl (lv_at hl 0 rfl) ?_
  refine lv_iload_n hx hb d_M_fault_1 rfl (lv_at hl 1 rfl) ?_
  refine lv_if_eq hx hb d_M_fault_2 (tgt := 10) rfl (fun h9 => absurd h9 h0) (fun _ => ?_)
  refine lv_iload_n hx hb d_M_fault_5 rfl (lv_at hl 1 rfl) ?_
  refine lv_iconst (v := 1) hx hb d_M_fault_6 (by decide) ?_
  refine lv_icmp_ne hx hb d_M_fault_7 (tgt := 14) rfl (fun _ => ?_) (fun h9 => absurd h9 h1)
  refine lv_iconst (v := 1) hx hb d_M_fault_14 (by decide) ?_
  refine pF hx hb hown hE hK hP hD hS 0 rfl rfl layM tyM tokM nmM 0 (by decide) w319 rfl rfl rfl (by simp [hl_fs]) d_M_fault_15 (fun H locs hP hD hS => ?_)
  have hP : va_P D vwCl [(a, .inr (9, (fs.set 0 (.int 1))))] H := hP
  have hD : va_D A [(a, .inr (9, (fs.set 0 (.int 1))))] := hD
  refine lv_aload_n hx hb d_M_fault_18 rfl (lv_at hl 0 rfl) ?_
  refine gF (v := .int 1) hx hb hown hE hK hP 0 rfl rfl layM 0 (by decide) w319 (by simp [hl_fs]) d_M_fault_19 ?_
  refine lv_if_le hx hb d_M_fault_22 (tgt := 29) rfl (fun h9 => absurd h9 (by decide)) (fun _ => ?_)
  refine lv_iconst (v := 0) hx hb d_M_fault_25 (by decide) ?_
  refine lv_goto hx hb d_M_fault_26 (tgt := 44) rfl ?_
  exact rtI hx hb hr hlk hP hD hS () rfl [0] rfl rfl (by decide) (Nat.le_of_ble_eq_true rfl) (Nat.le_of_ble_eq_true rfl) d_M_fault_44
theorem d_M_written_0 : decode prog_14_method_50_code 0 = .ok (.aload_n 0, 1) := by decide +kernel
theorem d_M_written_1 : decode prog_14_method_50_code 1 = .ok (.iconst 0, 1) := by decide +kernel
theorem d_M_written_2 : decode prog_14_method_50_code 2 = .ok (.putfield 145, 3) := by decide +kernel
theorem d_M_written_5 : decode prog_14_method_50_code 5 = .ok (.aload_n 0, 1) := by decide +kernel
theorem d_M_written_6 : decode prog_14_method_50_code 6 = .ok (.getfield 157, 3) := by decide +kernel
theorem d_M_written_9 : decode prog_14_method_50_code 9 = .ok (.ireturn, 1) := by decide +kernel
theorem w323 : Cond.fieldLink "SeriesVaultModel" 157 "SeriesVaultModel" "written" "I" ∈ aW := aw_of (tb_8 (List.mem_of_getElem? (i := 183) rfl)) rfl
set_option maxHeartbeats 4000000 in
set_option maxRecDepth 100000 in
theorem c_M_written (l : Launch) (D : va_G) (dA : Nat → ClassId) (sz : Nat) (a : Nat) (fs : List Value) (w : Int32) (h_fs_written : fs[9]? = some (.int w)) (hl_fs : fs.length = 79) : Met l ⟨"SeriesVaultModel", "written", "()I"⟩ [Cond.code ⟨"SeriesVaultModel", "written", "()I"⟩ prog_14_method_50_code 1 (some FieldType.int)] { frames := 1, cells := 0, slots := 0, locals := 0 } (pC D dA [.ref a] [(a, .inr (9, fs))] sz) (va_Qi (fun (r : Int32) (_ : Unit) => r = w) (fun (u9 : Unit) t9 => bW D (va_A [(a, .inr (9, fs))] sz) [(a, .inr (9, (fs.set 0 (.int 0))))] t9) (va_A [(a, .inr (9, fs))] sz)) 0 0 (va_A [(a, .inr (9, fs))] sz) := by
  refine mkC (Qc := fun A => va_Qi (fun (r : Int32) (_ : Unit) => r = w) (fun (u9 : Unit) t9 => bW D A [(a, .inr (9, (fs.set 0 (.int 0))))] t9) A) (by decide) (Nat.le_of_ble_eq_true rfl) ?_
  intro A p e s m below meth c ls hsz hB
  obtain ⟨hx, hb, hr, hml, hown, hin, hlk, hE, hK, hP, hD, hS, hA, hN, hl⟩ := hB
  have hown : s.vm.findClass "SeriesVaultModel" = some m.cls := hown
  have hin : meth.name = "written" := hin
  have hl : lv_has ls 1 [(0, .ref a)] := hl
  obtain ⟨H, hH⟩ : ∃ z, z = s.heap := ⟨_, rfl⟩
  have hP : va_P D vwCl [(a, .inr (9, fs))] H := by rw [hH]; exact hP
  have hS : va_S A s.heap H [] := by rw [hH]; exact hS
  rw [← hH]
  refine lv_aload_n hx hb d_M_written_0 rfl (lv_at hl 0 rfl) ?_
  refine lv_iconst (v := 0) hx hb d_M_written_1 (by decide) ?_
  refine pF hx hb hown hE hK hP hD hS 0 rfl rfl layM tyM tokM nmM 0 (by decide) w319 rfl rfl rfl (by simp [hl_fs]) d_M_written_2 (fun H locs hP hD hS => ?_)
  have hP : va_P D vwCl [(a, .inr (9, (fs.set 0 (.int 0))))] H := hP
  have hD : va_D A [(a, .inr (9, (fs.set 0 (.int 0))))] := hD
  refine lv_aload_n hx hb d_M_written_5 rfl (lv_at hl 0 rfl) ?_
  refine gF (v := .int w) hx hb hown hE hK hP 0 rfl rfl layM 9 (by decide) w323 (by simp [h_fs_written]) d_M_written_6 ?_
  exact rtI hx hb hr hlk hP hD hS () rfl [0] rfl rfl (by decide) (Nat.le_of_ble_eq_true rfl) (Nat.le_of_ble_eq_true rfl) d_M_written_9
theorem d_M_cut_0 : decode prog_14_method_51_code 0 = .ok (.aload_n 0, 1) := by decide +kernel
theorem d_M_cut_1 : decode prog_14_method_51_code 1 = .ok (.aload_n 0, 1) := by decide +kernel
theorem d_M_cut_2 : decode prog_14_method_51_code 2 = .ok (.getfield 21, 3) := by decide +kernel
theorem d_M_cut_5 : decode prog_14_method_51_code 5 = .ok (.ifCond .ne 7, 3) := by decide +kernel
theorem d_M_cut_12 : decode prog_14_method_51_code 12 = .ok (.iload_n 1, 1) := by decide +kernel
theorem d_M_cut_13 : decode prog_14_method_51_code 13 = .ok (.iconst (-1), 1) := by decide +kernel
theorem d_M_cut_14 : decode prog_14_method_51_code 14 = .ok (.if_icmp .ge 7, 3) := by decide +kernel
theorem d_M_cut_21 : decode prog_14_method_51_code 21 = .ok (.iconst 0, 1) := by decide +kernel
theorem d_M_cut_22 : decode prog_14_method_51_code 22 = .ok (.putfield 145, 3) := by decide +kernel
theorem d_M_cut_25 : decode prog_14_method_51_code 25 = .ok (.aload_n 0, 1) := by decide +kernel
theorem d_M_cut_26 : decode prog_14_method_51_code 26 = .ok (.aload_n 0, 1) := by decide +kernel
theorem d_M_cut_27 : decode prog_14_method_51_code 27 = .ok (.getfield 145, 3) := by decide +kernel
theorem d_M_cut_30 : decode prog_14_method_51_code 30 = .ok (.ifCond .ne 7, 3) := by decide +kernel
theorem d_M_cut_33 : decode prog_14_method_51_code 33 = .ok (.iload_n 1, 1) := by decide +kernel
theorem d_M_cut_34 : decode prog_14_method_51_code 34 = .ok (.goto 7, 3) := by decide +kernel
theorem d_M_cut_41 : decode prog_14_method_51_code 41 = .ok (.putfield 25, 3) := by decide +kernel
theorem d_M_cut_44 : decode prog_14_method_51_code 44 = .ok (.return_, 1) := by decide +kernel
theorem w324 : Cond.fieldLink "SeriesVaultModel" 21 "SeriesVaultModel" "on" "Z" ∈ aW := aw_of (tb_8 (List.mem_of_getElem? (i := 181) rfl)) rfl
theorem w325 : Cond.fieldLink "SeriesVaultModel" 25 "SeriesVaultModel" "cutLeft" "I" ∈ aW := aw_of (tb_8 (List.mem_of_getElem? (i := 182) rfl)) rfl
set_option maxHeartbeats 4000000 in
set_option maxRecDepth 100000 in
theorem c_M_cut (l : Launch) (D : va_G) (dA : Nat → ClassId) (sz : Nat) (a : Nat) (fs : List Value) (n : Int32) (h1 : (-1) ≤ n) (h_fs_on : fs[7]? = some (.int 1)) (hl_fs : fs.length = 79) : Met l ⟨"SeriesVaultModel", "cut", "(I)V"⟩ [Cond.code ⟨"SeriesVaultModel", "cut", "(I)V"⟩ prog_14_method_51_code 2 none] { frames := 1, cells := 0, slots := 0, locals := 0 } (pC D dA [.ref a, .int n] [(a, .inr (9, fs))] sz) (va_Qv (fun (_ : Unit) => True) (fun (u9 : Unit) t9 => bW D (va_A [(a, .inr (9, fs))] sz) [(a, .inr (9, ((fs.set 0 (.int 0)).set 8 (.int n))))] t9) (va_A [(a, .inr (9, fs))] sz)) 0 0 (va_A [(a, .inr (9, fs))] sz) := by
  refine mkC (Qc := fun A => va_Qv (fun (_ : Unit) => True) (fun (u9 : Unit) t9 => bW D A [(a, .inr (9, ((fs.set 0 (.int 0)).set 8 (.int n))))] t9) A) (by decide) (Nat.le_of_ble_eq_true rfl) ?_
  intro A p e s m below meth c ls hsz hB
  obtain ⟨hx, hb, hr, hml, hown, hin, hlk, hE, hK, hP, hD, hS, hA, hN, hl⟩ := hB
  have hown : s.vm.findClass "SeriesVaultModel" = some m.cls := hown
  have hin : meth.name = "cut" := hin
  have hl : lv_has ls 2 [(0, .ref a), (1, .int n)] := hl
  obtain ⟨H, hH⟩ : ∃ z, z = s.heap := ⟨_, rfl⟩
  have hP : va_P D vwCl [(a, .inr (9, fs))] H := by rw [hH]; exact hP
  have hS : va_S A s.heap H [] := by rw [hH]; exact hS
  rw [← hH]
  refine lv_aload_n hx hb d_M_cut_0 rfl (lv_at hl 0 rfl) ?_
  refine lv_aload_n hx hb d_M_cut_1 rfl (lv_at hl 0 rfl) ?_
  refine gF (v := .int 1) hx hb hown hE hK hP 0 rfl rfl layM 7 (by decide) w324 h_fs_on d_M_cut_2 ?_
  refine lv_if_ne hx hb d_M_cut_5 (tgt := 12) rfl (fun _ => ?_) (fun h9 => absurd h9 (by decide))
  refine lv_iload_n hx hb d_M_cut_12 rfl (lv_at hl 1 rfl) ?_
  refine lv_iconst (v := (-1)) hx hb d_M_cut_13 (by decide) ?_
  refine lv_icmp_ge hx hb d_M_cut_14 (tgt := 21) rfl (fun _ => ?_) (fun h9 => absurd h1 h9)
  refine lv_iconst (v := 0) hx hb d_M_cut_21 (by decide) ?_
  refine pF hx hb hown hE hK hP hD hS 0 rfl rfl layM tyM tokM nmM 0 (by decide) w319 rfl rfl rfl (by simp [hl_fs]) d_M_cut_22 (fun H locs hP hD hS => ?_)
  have hP : va_P D vwCl [(a, .inr (9, (fs.set 0 (.int 0))))] H := hP
  have hD : va_D A [(a, .inr (9, (fs.set 0 (.int 0))))] := hD
  refine lv_aload_n hx hb d_M_cut_25 rfl (lv_at hl 0 rfl) ?_
  refine lv_aload_n hx hb d_M_cut_26 rfl (lv_at hl 0 rfl) ?_
  refine gF (v := .int 0) hx hb hown hE hK hP 0 rfl rfl layM 0 (by decide) w319 (by simp [hl_fs]) d_M_cut_27 ?_
  refine lv_if_ne hx hb d_M_cut_30 (tgt := 37) rfl (fun h9 => absurd (by decide) h9) (fun _ => ?_)
  refine lv_iload_n hx hb d_M_cut_33 rfl (lv_at hl 1 rfl) ?_
  refine lv_goto hx hb d_M_cut_34 (tgt := 41) rfl ?_
  refine pF hx hb hown hE hK hP hD hS 0 rfl rfl layM tyM tokM nmM 8 (by decide) w325 rfl rfl rfl (by simp [hl_fs]) d_M_cut_41 (fun H locs hP hD hS => ?_)
  have hP : va_P D vwCl [(a, .inr (9, ((fs.set 0 (.int 0)).set 8 (.int n))))] H := hP
  have hD : va_D A [(a, .inr (9, ((fs.set 0 (.int 0)).set 8 (.int n))))] := hD
  exact rtV hx hb hr hlk hP hD hS () trivial [0] rfl rfl (by decide) (Nat.le_of_ble_eq_true rfl) (Nat.le_of_ble_eq_true rfl) d_M_cut_44
theorem d_M_cut_17 : decode prog_14_method_51_code 17 = .ok (.iconst 2, 1) := by decide +kernel
theorem d_M_cut_18 : decode prog_14_method_51_code 18 = .ok (.goto 4, 3) := by decide +kernel
theorem d_M_cut_37 : decode prog_14_method_51_code 37 = .ok (.aload_n 0, 1) := by decide +kernel
theorem d_M_cut_38 : decode prog_14_method_51_code 38 = .ok (.getfield 25, 3) := by decide +kernel
set_option maxHeartbeats 4000000 in
set_option maxRecDepth 100000 in
theorem c_M_cut_x (l : Launch) (D : va_G) (dA : Nat → ClassId) (sz : Nat) (a : Nat) (fs : List Value) (n : Int32) (cl : Int32) (h1 : n < (-1)) (h_fs_on : fs[7]? = some (.int 1)) (h_fs_cutLeft : fs[8]? = some (.int cl)) (hl_fs : fs.length = 79) : Met l ⟨"SeriesVaultModel", "cut", "(I)V"⟩ [Cond.code ⟨"SeriesVaultModel", "cut", "(I)V"⟩ prog_14_method_51_code 2 none] { frames := 1, cells := 0, slots := 0, locals := 0 } (pC D dA [.ref a, .int n] [(a, .inr (9, fs))] sz) (va_Qv (fun (_ : Unit) => True) (fun (u9 : Unit) t9 => bW D (va_A [(a, .inr (9, fs))] sz) [(a, .inr (9, ((fs.set 0 (.int 2)).set 8 (.int cl))))] t9) (va_A [(a, .inr (9, fs))] sz)) 0 0 (va_A [(a, .inr (9, fs))] sz) := by
  refine mkC (Qc := fun A => va_Qv (fun (_ : Unit) => True) (fun (u9 : Unit) t9 => bW D A [(a, .inr (9, ((fs.set 0 (.int 2)).set 8 (.int cl))))] t9) A) (by decide) (Nat.le_of_ble_eq_true rfl) ?_
  intro A p e s m below meth c ls hsz hB
  obtain ⟨hx, hb, hr, hml, hown, hin, hlk, hE, hK, hP, hD, hS, hA, hN, hl⟩ := hB
  have hown : s.vm.findClass "SeriesVaultModel" = some m.cls := hown
  have hin : meth.name = "cut" := hin
  have hl : lv_has ls 2 [(0, .ref a), (1, .int n)] := hl
  obtain ⟨H, hH⟩ : ∃ z, z = s.heap := ⟨_, rfl⟩
  have hP : va_P D vwCl [(a, .inr (9, fs))] H := by rw [hH]; exact hP
  have hS : va_S A s.heap H [] := by rw [hH]; exact hS
  rw [← hH]
  refine lv_aload_n hx hb d_M_cut_0 rfl (lv_at hl 0 rfl) ?_
  refine lv_aload_n hx hb d_M_cut_1 rfl (lv_at hl 0 rfl) ?_
  refine gF (v := .int 1) hx hb hown hE hK hP 0 rfl rfl layM 7 (by decide) w324 h_fs_on d_M_cut_2 ?_
  refine lv_if_ne hx hb d_M_cut_5 (tgt := 12) rfl (fun _ => ?_) (fun h9 => absurd h9 (by decide))
  refine lv_iload_n hx hb d_M_cut_12 rfl (lv_at hl 1 rfl) ?_
  refine lv_iconst (v := (-1)) hx hb d_M_cut_13 (by decide) ?_
  refine lv_icmp_ge hx hb d_M_cut_14 (tgt := 21) rfl (fun h9 => absurd h9 (Int32.not_le.mpr (h1))) (fun _ => ?_)
  refine lv_iconst (v := 2) hx hb d_M_cut_17 (by decide) ?_
  refine lv_goto hx hb d_M_cut_18 (tgt := 22) rfl ?_
  refine pF hx hb hown hE hK hP hD hS 0 rfl rfl layM tyM tokM nmM 0 (by decide) w319 rfl rfl rfl (by simp [hl_fs]) d_M_cut_22 (fun H locs hP hD hS => ?_)
  have hP : va_P D vwCl [(a, .inr (9, (fs.set 0 (.int 2))))] H := hP
  have hD : va_D A [(a, .inr (9, (fs.set 0 (.int 2))))] := hD
  refine lv_aload_n hx hb d_M_cut_25 rfl (lv_at hl 0 rfl) ?_
  refine lv_aload_n hx hb d_M_cut_26 rfl (lv_at hl 0 rfl) ?_
  refine gF (v := .int 2) hx hb hown hE hK hP 0 rfl rfl layM 0 (by decide) w319 (by simp [hl_fs]) d_M_cut_27 ?_
  refine lv_if_ne hx hb d_M_cut_30 (tgt := 37) rfl (fun _ => ?_) (fun h9 => absurd h9 (by decide))
  refine lv_aload_n hx hb d_M_cut_37 rfl (lv_at hl 0 rfl) ?_
  refine gF (v := .int cl) hx hb hown hE hK hP 0 rfl rfl layM 8 (by decide) w325 (by simp [h_fs_cutLeft]) d_M_cut_38 ?_
  refine pF hx hb hown hE hK hP hD hS 0 rfl rfl layM tyM tokM nmM 8 (by decide) w325 rfl rfl rfl (by simp [hl_fs]) d_M_cut_41 (fun H locs hP hD hS => ?_)
  have hP : va_P D vwCl [(a, .inr (9, ((fs.set 0 (.int 2)).set 8 (.int cl))))] H := hP
  have hD : va_D A [(a, .inr (9, ((fs.set 0 (.int 2)).set 8 (.int cl))))] := hD
  exact rtV hx hb hr hlk hP hD hS () trivial [0] rfl rfl (by decide) (Nat.le_of_ble_eq_true rfl) (Nat.le_of_ble_eq_true rfl) d_M_cut_44
theorem d_M_off_0 : decode prog_14_method_52_code 0 = .ok (.aload_n 0, 1) := by decide +kernel
theorem d_M_off_1 : decode prog_14_method_52_code 1 = .ok (.aload_n 0, 1) := by decide +kernel
theorem d_M_off_2 : decode prog_14_method_52_code 2 = .ok (.getfield 21, 3) := by decide +kernel
theorem d_M_off_5 : decode prog_14_method_52_code 5 = .ok (.ifCond .eq 7, 3) := by decide +kernel
theorem d_M_off_8 : decode prog_14_method_52_code 8 = .ok (.iconst 0, 1) := by decide +kernel
theorem d_M_off_9 : decode prog_14_method_52_code 9 = .ok (.goto 4, 3) := by decide +kernel
theorem d_M_off_13 : decode prog_14_method_52_code 13 = .ok (.putfield 145, 3) := by decide +kernel
theorem d_M_off_16 : decode prog_14_method_52_code 16 = .ok (.aload_n 0, 1) := by decide +kernel
theorem d_M_off_17 : decode prog_14_method_52_code 17 = .ok (.iconst 0, 1) := by decide +kernel
theorem d_M_off_18 : decode prog_14_method_52_code 18 = .ok (.putfield 21, 3) := by decide +kernel
theorem d_M_off_21 : decode prog_14_method_52_code 21 = .ok (.return_, 1) := by decide +kernel
set_option maxHeartbeats 4000000 in
set_option maxRecDepth 100000 in
theorem c_M_off (l : Launch) (D : va_G) (dA : Nat → ClassId) (sz : Nat) (a : Nat) (fs : List Value) (h_fs_on : fs[7]? = some (.int 1)) (hl_fs : fs.length = 79) : Met l ⟨"SeriesVaultModel", "off", "()V"⟩ [Cond.code ⟨"SeriesVaultModel", "off", "()V"⟩ prog_14_method_52_code 1 none] { frames := 1, cells := 0, slots := 0, locals := 0 } (pC D dA [.ref a] [(a, .inr (9, fs))] sz) (va_Qv (fun (_ : Unit) => True) (fun (u9 : Unit) t9 => bW D (va_A [(a, .inr (9, fs))] sz) [(a, .inr (9, ((fs.set 0 (.int 0)).set 7 (.int 0))))] t9) (va_A [(a, .inr (9, fs))] sz)) 0 0 (va_A [(a, .inr (9, fs))] sz) := by
  refine mkC (Qc := fun A => va_Qv (fun (_ : Unit) => True) (fun (u9 : Unit) t9 => bW D A [(a, .inr (9, ((fs.set 0 (.int 0)).set 7 (.int 0))))] t9) A) (by decide) (Nat.le_of_ble_eq_true rfl) ?_
  intro A p e s m below meth c ls hsz hB
  obtain ⟨hx, hb, hr, hml, hown, hin, hlk, hE, hK, hP, hD, hS, hA, hN, hl⟩ := hB
  have hown : s.vm.findClass "SeriesVaultModel" = some m.cls := hown
  have hin : meth.name = "off" := hin
  have hl : lv_has ls 1 [(0, .ref a)] := hl
  obtain ⟨H, hH⟩ : ∃ z, z = s.heap := ⟨_, rfl⟩
  have hP : va_P D vwCl [(a, .inr (9, fs))] H := by rw [hH]; exact hP
  have hS : va_S A s.heap H [] := by rw [hH]; exact hS
  rw [← hH]
  refine lv_aload_n hx hb d_M_off_0 rfl (lv_at hl 0 rfl) ?_
  refine lv_aload_n hx hb d_M_off_1 rfl (lv_at hl 0 rfl) ?_
  refine gF (v := .int 1) hx hb hown hE hK hP 0 rfl rfl layM 7 (by decide) w324 h_fs_on d_M_off_2 ?_
  refine lv_if_eq hx hb d_M_off_5 (tgt := 12) rfl (fun h9 => absurd h9 (by decide)) (fun _ => ?_)
  refine lv_iconst (v := 0) hx hb d_M_off_8 (by decide) ?_
  refine lv_goto hx hb d_M_off_9 (tgt := 13) rfl ?_
  refine pF hx hb hown hE hK hP hD hS 0 rfl rfl layM tyM tokM nmM 0 (by decide) w319 rfl rfl rfl (by simp [hl_fs]) d_M_off_13 (fun H locs hP hD hS => ?_)
  have hP : va_P D vwCl [(a, .inr (9, (fs.set 0 (.int 0))))] H := hP
  have hD : va_D A [(a, .inr (9, (fs.set 0 (.int 0))))] := hD
  refine lv_aload_n hx hb d_M_off_16 rfl (lv_at hl 0 rfl) ?_
  refine lv_iconst (v := 0) hx hb d_M_off_17 (by decide) ?_
  refine pF hx hb hown hE hK hP hD hS 0 rfl rfl layM tyM tokM nmM 7 (by decide) w324 rfl rfl rfl (by simp [hl_fs]) d_M_off_18 (fun H locs hP hD hS => ?_)
  have hP : va_P D vwCl [(a, .inr (9, ((fs.set 0 (.int 0)).set 7 (.int 0))))] H := hP
  have hD : va_D A [(a, .inr (9, ((fs.set 0 (.int 0)).set 7 (.int 0))))] := hD
  exact rtV hx hb hr hlk hP hD hS () trivial [0] rfl rfl (by decide) (Nat.le_of_ble_eq_true rfl) (Nat.le_of_ble_eq_true rfl) d_M_off_21
theorem d_M_start_0 : decode prog_14_method_53_code 0 = .ok (.aload_n 0, 1) := by decide +kernel
theorem d_M_start_1 : decode prog_14_method_53_code 1 = .ok (.aload_n 0, 1) := by decide +kernel
theorem d_M_start_2 : decode prog_14_method_53_code 2 = .ok (.getfield 21, 3) := by decide +kernel
theorem d_M_start_5 : decode prog_14_method_53_code 5 = .ok (.ifCond .eq 7, 3) := by decide +kernel
theorem d_M_start_8 : decode prog_14_method_53_code 8 = .ok (.iconst 1, 1) := by decide +kernel
theorem d_M_start_9 : decode prog_14_method_53_code 9 = .ok (.goto 4, 3) := by decide +kernel
theorem d_M_start_13 : decode prog_14_method_53_code 13 = .ok (.putfield 145, 3) := by decide +kernel
theorem d_M_start_16 : decode prog_14_method_53_code 16 = .ok (.aload_n 0, 1) := by decide +kernel
theorem d_M_start_17 : decode prog_14_method_53_code 17 = .ok (.getfield 145, 3) := by decide +kernel
theorem d_M_start_20 : decode prog_14_method_53_code 20 = .ok (.ifCond .le 5, 3) := by decide +kernel
theorem d_M_start_23 : decode prog_14_method_53_code 23 = .ok (.iconst 0, 1) := by decide +kernel
theorem d_M_start_24 : decode prog_14_method_53_code 24 = .ok (.ireturn, 1) := by decide +kernel
set_option maxHeartbeats 4000000 in
set_option maxRecDepth 100000 in
theorem c_M_start_x (l : Launch) (D : va_G) (dA : Nat → ClassId) (sz : Nat) (a : Nat) (fs : List Value) (h_fs_on : fs[7]? = some (.int 1)) (hl_fs : fs.length = 79) : Met l ⟨"SeriesVaultModel", "start", "()I"⟩ [Cond.code ⟨"SeriesVaultModel", "start", "()I"⟩ prog_14_method_53_code 2 (some FieldType.int)] { frames := 1, cells := 0, slots := 0, locals := 0 } (pC D dA [.ref a] [(a, .inr (9, fs))] sz) (va_Qi (fun (r : Int32) (_ : Unit) => r = 0) (fun (u9 : Unit) t9 => bW D (va_A [(a, .inr (9, fs))] sz) [(a, .inr (9, (fs.set 0 (.int 1))))] t9) (va_A [(a, .inr (9, fs))] sz)) 0 0 (va_A [(a, .inr (9, fs))] sz) := by
  refine mkC (Qc := fun A => va_Qi (fun (r : Int32) (_ : Unit) => r = 0) (fun (u9 : Unit) t9 => bW D A [(a, .inr (9, (fs.set 0 (.int 1))))] t9) A) (by decide) (Nat.le_of_ble_eq_true rfl) ?_
  intro A p e s m below meth c ls hsz hB
  obtain ⟨hx, hb, hr, hml, hown, hin, hlk, hE, hK, hP, hD, hS, hA, hN, hl⟩ := hB
  have hown : s.vm.findClass "SeriesVaultModel" = some m.cls := hown
  have hin : meth.name = "start" := hin
  have hl : lv_has ls 2 [(0, .ref a)] := hl
  obtain ⟨H, hH⟩ : ∃ z, z = s.heap := ⟨_, rfl⟩
  have hP : va_P D vwCl [(a, .inr (9, fs))] H := by rw [hH]; exact hP
  have hS : va_S A s.heap H [] := by rw [hH]; exact hS
  rw [← hH]
  refine lv_aload_n hx hb d_M_start_0 rfl (lv_at hl 0 rfl) ?_
  refine lv_aload_n hx hb d_M_start_1 rfl (lv_at hl 0 rfl) ?_
  refine gF (v := .int 1) hx hb hown hE hK hP 0 rfl rfl layM 7 (by decide) w324 h_fs_on d_M_start_2 ?_
  refine lv_if_eq hx hb d_M_start_5 (tgt := 12) rfl (fun h9 => absurd h9 (by decide)) (fun _ => ?_)
  refine lv_iconst (v := 1) hx hb d_M_start_8 (by decide) ?_
  refine lv_goto hx hb d_M_start_9 (tgt := 13) rfl ?_
  refine pF hx hb hown hE hK hP hD hS 0 rfl rfl layM tyM tokM nmM 0 (by decide) w319 rfl rfl rfl (by simp [hl_fs]) d_M_start_13 (fun H locs hP hD hS => ?_)
  have hP : va_P D vwCl [(a, .inr (9, (fs.set 0 (.int 1))))] H := hP
  have hD : va_D A [(a, .inr (9, (fs.set 0 (.int 1))))] := hD
  refine lv_aload_n hx hb d_M_start_16 rfl (lv_at hl 0 rfl) ?_
  refine gF (v := .int 1) hx hb hown hE hK hP 0 rfl rfl layM 0 (by decide) w319 (by simp [hl_fs]) d_M_start_17 ?_
  refine lv_if_le hx hb d_M_start_20 (tgt := 25) rfl (fun h9 => absurd h9 (by decide)) (fun _ => ?_)
  refine lv_iconst (v := 0) hx hb d_M_start_23 (by decide) ?_
  exact rtI hx hb hr hlk hP hD hS () rfl [0] rfl rfl (by decide) (Nat.le_of_ble_eq_true rfl) (Nat.le_of_ble_eq_true rfl) d_M_start_24
theorem d_M_names_0 : decode prog_14_method_92_code 0 = .ok (.aload_n 0, 1) := by decide +kernel
theorem d_M_names_1 : decode prog_14_method_92_code 1 = .ok (.iconst 0, 1) := by decide +kernel
theorem d_M_names_2 : decode prog_14_method_92_code 2 = .ok (.putfield 145, 3) := by decide +kernel
theorem d_M_names_5 : decode prog_14_method_92_code 5 = .ok (.aload_n 0, 1) := by decide +kernel
theorem d_M_names_6 : decode prog_14_method_92_code 6 = .ok (.getfield 197, 3) := by decide +kernel
theorem d_M_names_9 : decode prog_14_method_92_code 9 = .ok (.ifCond .eq 10, 3) := by decide +kernel
theorem d_M_names_19 : decode prog_14_method_92_code 19 = .ok (.iconst (-1), 1) := by decide +kernel
theorem d_M_names_20 : decode prog_14_method_92_code 20 = .ok (.ireturn, 1) := by decide +kernel
theorem w326 : Cond.fieldLink "SeriesVaultModel" 197 "SeriesVaultModel" "isTable" "Z" ∈ aW := aw_of (tb_9 (List.mem_of_getElem? (i := 5) rfl)) rfl
set_option maxHeartbeats 4000000 in
set_option maxRecDepth 100000 in
theorem c_M_names (l : Launch) (D : va_G) (dA : Nat → ClassId) (sz : Nat) (a : Nat) (fs : List Value) (h_fs_isTable : fs[71]? = some (.int 0)) (hl_fs : fs.length = 79) : Met l ⟨"SeriesVaultModel", "names", "()I"⟩ [Cond.code ⟨"SeriesVaultModel", "names", "()I"⟩ prog_14_method_92_code 1 (some FieldType.int)] { frames := 1, cells := 0, slots := 0, locals := 0 } (pC D dA [.ref a] [(a, .inr (9, fs))] sz) (va_Qi (fun (r : Int32) (_ : Unit) => r = (-1)) (fun (u9 : Unit) t9 => bW D (va_A [(a, .inr (9, fs))] sz) [(a, .inr (9, (fs.set 0 (.int 0))))] t9) (va_A [(a, .inr (9, fs))] sz)) 0 0 (va_A [(a, .inr (9, fs))] sz) := by
  refine mkC (Qc := fun A => va_Qi (fun (r : Int32) (_ : Unit) => r = (-1)) (fun (u9 : Unit) t9 => bW D A [(a, .inr (9, (fs.set 0 (.int 0))))] t9) A) (by decide) (Nat.le_of_ble_eq_true rfl) ?_
  intro A p e s m below meth c ls hsz hB
  obtain ⟨hx, hb, hr, hml, hown, hin, hlk, hE, hK, hP, hD, hS, hA, hN, hl⟩ := hB
  have hown : s.vm.findClass "SeriesVaultModel" = some m.cls := hown
  have hin : meth.name = "names" := hin
  have hl : lv_has ls 1 [(0, .ref a)] := hl
  obtain ⟨H, hH⟩ : ∃ z, z = s.heap := ⟨_, rfl⟩
  have hP : va_P D vwCl [(a, .inr (9, fs))] H := by rw [hH]; exact hP
  have hS : va_S A s.heap H [] := by rw [hH]; exact hS
  rw [← hH]
  refine lv_aload_n hx hb d_M_names_0 rfl (lv_at hl 0 rfl) ?_
  refine lv_iconst (v := 0) hx hb d_M_names_1 (by decide) ?_
  refine pF hx hb hown hE hK hP hD hS 0 rfl rfl layM tyM tokM nmM 0 (by decide) w319 rfl rfl rfl (by simp [hl_fs]) d_M_names_2 (fun H locs hP hD hS => ?_)
  have hP : va_P D vwCl [(a, .inr (9, (fs.set 0 (.int 0))))] H := hP
  have hD : va_D A [(a, .inr (9, (fs.set 0 (.int 0))))] := hD
  refine lv_aload_n hx hb d_M_names_5 rfl (lv_at hl 0 rfl) ?_
  refine gF (v := .int 0) hx hb hown hE hK hP 0 rfl rfl layM 71 (by decide) w326 (by simp [h_fs_isTable]) d_M_names_6 ?_
  refine lv_if_eq hx hb d_M_names_9 (tgt := 19) rfl (fun _ => ?_) (fun h9 => absurd (by decide) h9)
  refine lv_iconst (v := (-1)) hx hb d_M_names_19 (by decide) ?_
  exact rtI hx hb hr hlk hP hD hS () rfl [0] rfl rfl (by decide) (Nat.le_of_ble_eq_true rfl) (Nat.le_of_ble_eq_true rfl) d_M_names_20
theorem d_M_isRow_0 : decode prog_14_method_93_code 0 = .ok (.aload_n 0, 1) := by decide +kernel
theorem d_M_isRow_1 : decode prog_14_method_93_code 1 = .ok (.getfield 197, 3) := by decide +kernel
theorem d_M_isRow_4 : decode prog_14_method_93_code 4 = .ok (.ifCond .eq 19, 3) := by decide +kernel
theorem d_M_isRow_23 : decode prog_14_method_93_code 23 = .ok (.iconst 0, 1) := by decide +kernel
theorem d_M_isRow_24 : decode prog_14_method_93_code 24 = .ok (.ireturn, 1) := by decide +kernel
set_option maxHeartbeats 4000000 in
set_option maxRecDepth 100000 in
theorem c_M_isRow_0 (l : Launch) (D : va_G) (dA : Nat → ClassId) (sz : Nat) (a : Nat) (fs : List Value) (n : Int32) (h_fs_isTable : fs[71]? = some (.int 0)) (hl_fs : fs.length = 79) : Met l ⟨"SeriesVaultModel", "isRow", "(I)Z"⟩ [Cond.code ⟨"SeriesVaultModel", "isRow", "(I)Z"⟩ prog_14_method_93_code 2 (some FieldType.boolean)] { frames := 1, cells := 0, slots := 0, locals := 0 } (pC D dA [.ref a, .int n] [(a, .inr (9, fs))] sz) (va_Qi (fun (r : Int32) (_ : Unit) => r = 0) (fun (u9 : Unit) t9 => bW D (va_A [(a, .inr (9, fs))] sz) [(a, .inr (9, fs))] t9) (va_A [(a, .inr (9, fs))] sz)) 0 0 (va_A [(a, .inr (9, fs))] sz) := by
  refine mkC (Qc := fun A => va_Qi (fun (r : Int32) (_ : Unit) => r = 0) (fun (u9 : Unit) t9 => bW D A [(a, .inr (9, fs))] t9) A) (by decide) (Nat.le_of_ble_eq_true rfl) ?_
  intro A p e s m below meth c ls hsz hB
  obtain ⟨hx, hb, hr, hml, hown, hin, hlk, hE, hK, hP, hD, hS, hA, hN, hl⟩ := hB
  have hown : s.vm.findClass "SeriesVaultModel" = some m.cls := hown
  have hin : meth.name = "isRow" := hin
  have hl : lv_has ls 2 [(0, .ref a), (1, .int n)] := hl
  obtain ⟨H, hH⟩ : ∃ z, z = s.heap := ⟨_, rfl⟩
  have hP : va_P D vwCl [(a, .inr (9, fs))] H := by rw [hH]; exact hP
  have hS : va_S A s.heap H [] := by rw [hH]; exact hS
  rw [← hH]
  refine lv_aload_n hx hb d_M_isRow_0 rfl (lv_at hl 0 rfl) ?_
  refine gF (v := .int 0) hx hb hown hE hK hP 0 rfl rfl layM 71 (by decide) w326 h_fs_isTable d_M_isRow_1 ?_
  refine lv_if_eq hx hb d_M_isRow_4 (tgt := 23) rfl (fun _ => ?_) (fun h9 => absurd (by decide) h9)
  refine lv_iconst (v := 0) hx hb d_M_isRow_23 (by decide) ?_
  exact rtZ hx hb hr (by decide) hlk hP hD hS () rfl [0] rfl rfl (by decide) (Nat.le_of_ble_eq_true rfl) (Nat.le_of_ble_eq_true rfl) d_M_isRow_24
theorem d_M_text_0 : decode prog_14_method_94_code 0 = .ok (.aload_n 0, 1) := by decide +kernel
theorem d_M_text_1 : decode prog_14_method_94_code 1 = .ok (.aload_n 0, 1) := by decide +kernel
theorem d_M_text_2 : decode prog_14_method_94_code 2 = .ok (.iload_n 1, 1) := by decide +kernel
theorem d_M_text_3 : decode prog_14_method_94_code 3 = .ok (.invokevirtual 511, 3) := by decide +kernel
theorem d_M_text_6 : decode prog_14_method_94_code 6 = .ok (.ifCond .eq 7, 3) := by decide +kernel
theorem d_M_text_13 : decode prog_14_method_94_code 13 = .ok (.iconst 1, 1) := by decide +kernel
theorem d_M_text_14 : decode prog_14_method_94_code 14 = .ok (.putfield 145, 3) := by decide +kernel
theorem d_M_text_17 : decode prog_14_method_94_code 17 = .ok (.aload_n 0, 1) := by decide +kernel
theorem d_M_text_18 : decode prog_14_method_94_code 18 = .ok (.getfield 145, 3) := by decide +kernel
theorem d_M_text_21 : decode prog_14_method_94_code 21 = .ok (.ifCond .le 7, 3) := by decide +kernel
theorem d_M_text_24 : decode prog_14_method_94_code 24 = .ok (.iconst 0, 1) := by decide +kernel
theorem d_M_text_25 : decode prog_14_method_94_code 25 = .ok (.goto 54, 3) := by decide +kernel
theorem d_M_text_79 : decode prog_14_method_94_code 79 = .ok (.ireturn, 1) := by decide +kernel
theorem w327 : Cond.methodLink "SeriesVaultModel" 511 ⟨"SeriesVaultModel", "isRow", "(I)Z"⟩ ∈ aW := aw_of (tb_11 (List.mem_of_getElem? (i := 67) rfl)) rfl
theorem w328 : Cond.initialized "SeriesVaultModel" ∈ aW := aw_of (tb_1 (List.mem_of_getElem? (i := 16) rfl)) rfl
theorem w329 : Cond.code ⟨"SeriesVaultModel", "isRow", "(I)Z"⟩ prog_14_method_93_code 2 (some FieldType.boolean) ∈ aW := aw_of (tb_11 (List.mem_of_getElem? (i := 70) rfl)) rfl
theorem w330 : Cond.instanceMethod ⟨"SeriesVaultModel", "isRow", "(I)Z"⟩ ∈ aW := aw_of (tb_11 (List.mem_of_getElem? (i := 69) rfl)) rfl
theorem w331 : Cond.selects "SeriesVaultModel" ⟨"SeriesVaultModel", "isRow", "(I)Z"⟩ ⟨"SeriesVaultModel", "isRow", "(I)Z"⟩ ∈ aW := aw_pr (List.mem_map.mpr ⟨_, pv_8 (List.mem_of_getElem? (i := 15) rfl), rfl⟩) rfl
set_option maxHeartbeats 4000000 in
set_option maxRecDepth 100000 in
theorem c_M_text_x (l : Launch) (D : va_G) (dA : Nat → ClassId) (sz : Nat) (a : Nat) (fs : List Value) (n : Int32) (i : Int32) (j : Int32) (h_fs_isTable : fs[71]? = some (.int 0)) (hl_fs : fs.length = 79) : Met l ⟨"SeriesVaultModel", "text", "(III)I"⟩ [Cond.code ⟨"SeriesVaultModel", "text", "(III)I"⟩ prog_14_method_94_code 4 (some FieldType.int)] { frames := 2, cells := 0, slots := 0, locals := 21 } (pC D dA [.ref a, .int n, .int i, .int j] [(a, .inr (9, fs))] sz) (va_Qi (fun (r : Int32) (_ : Unit) => r = 0) (fun (u9 : Unit) t9 => bW D (va_A [(a, .inr (9, fs))] sz) [(a, .inr (9, (fs.set 0 (.int 1))))] t9) (va_A [(a, .inr (9, fs))] sz)) 0 0 (va_A [(a, .inr (9, fs))] sz) := by
  refine mkC (Qc := fun A => va_Qi (fun (r : Int32) (_ : Unit) => r = 0) (fun (u9 : Unit) t9 => bW D A [(a, .inr (9, (fs.set 0 (.int 1))))] t9) A) (by decide) (Nat.le_of_ble_eq_true rfl) ?_
  intro A p e s m below meth c ls hsz hB
  obtain ⟨hx, hb, hr, hml, hown, hin, hlk, hE, hK, hP, hD, hS, hA, hN, hl⟩ := hB
  have hown : s.vm.findClass "SeriesVaultModel" = some m.cls := hown
  have hin : meth.name = "text" := hin
  have hl : lv_has ls 4 [(0, .ref a), (1, .int n), (2, .int i), (3, .int j)] := hl
  obtain ⟨H, hH⟩ : ∃ z, z = s.heap := ⟨_, rfl⟩
  have hP : va_P D vwCl [(a, .inr (9, fs))] H := by rw [hH]; exact hP
  have hS : va_S A s.heap H [] := by rw [hH]; exact hS
  rw [← hH]
  refine lv_aload_n hx hb d_M_text_0 rfl (lv_at hl 0 rfl) ?_
  refine lv_aload_n hx hb d_M_text_1 rfl (lv_at hl 0 rfl) ?_
  refine lv_iload_n hx hb d_M_text_2 rfl (lv_at hl 1 rfl) ?_
  have hPc := hP.sub (ws' := [(a, .inr (9, fs))]) [0] rfl
  have hDc := hD.sub (ws' := [(a, .inr (9, fs))]) [0] (by decide) rfl
  refine jnI (rnV (As := [.int n]) (rest := [.ref a]) hx hb hml hown hE hK (hN _ _ hS) hPc hDc (c_M_isRow_0 l D dA H.size a fs n h_fs_isTable hl_fs) (q0 := 0) rfl rfl w329 w327 w330 w331 w328 rfl rfl ⟨⟨by decide, by decide⟩, rfl⟩ ⟨(Nat.le_of_ble_eq_true rfl), (Nat.le_of_ble_eq_true rfl)⟩ rfl hl.1 rfl (Nat.le_of_ble_eq_true rfl) d_M_text_3 ⟨(Nat.le_of_ble_eq_true rfl), (Nat.le_of_ble_eq_true rfl)⟩) hP hD hS hA [0] [] (wr := []) rfl rfl (by decide) (by decide) (fun r1 u9 H locs hp9 hP hD hS => ?_)
  have hP : va_P D vwCl [(a, .inr (9, fs))] H := hP
  have hD : va_D A [(a, .inr (9, fs))] := hD
  have hp9 : 0 = r1 := Eq.symm hp9
  subst hp9
  refine lv_if_eq hx hb d_M_text_6 (tgt := 13) rfl (fun _ => ?_) (fun h9 => absurd (by decide) h9)
  refine lv_iconst (v := 1) hx hb d_M_text_13 (by decide) ?_
  refine pF hx hb hown hE hK hP hD hS 0 rfl rfl layM tyM tokM nmM 0 (by decide) w319 rfl rfl rfl (by simp [hl_fs]) d_M_text_14 (fun H locs hP hD hS => ?_)
  have hP : va_P D vwCl [(a, .inr (9, (fs.set 0 (.int 1))))] H := hP
  have hD : va_D A [(a, .inr (9, (fs.set 0 (.int 1))))] := hD
  refine lv_aload_n hx hb d_M_text_17 rfl (lv_at hl 0 rfl) ?_
  refine gF (v := .int 1) hx hb hown hE hK hP 0 rfl rfl layM 0 (by decide) w319 (by simp [hl_fs]) d_M_text_18 ?_
  refine lv_if_le hx hb d_M_text_21 (tgt := 28) rfl (fun h9 => absurd h9 (by decide)) (fun _ => ?_)
  refine lv_iconst (v := 0) hx hb d_M_text_24 (by decide) ?_
  refine lv_goto hx hb d_M_text_25 (tgt := 79) rfl ?_
  exact rtI hx hb hr hlk hP hD hS () rfl [0] rfl rfl (by decide) (Nat.le_of_ble_eq_true rfl) (Nat.le_of_ble_eq_true rfl) d_M_text_79
theorem d_M_isThere_0 : decode prog_14_method_95_code 0 = .ok (.aload_n 0, 1) := by decide +kernel
theorem d_M_isThere_1 : decode prog_14_method_95_code 1 = .ok (.aload_n 0, 1) := by decide +kernel
theorem d_M_isThere_2 : decode prog_14_method_95_code 2 = .ok (.iload_n 1, 1) := by decide +kernel
theorem d_M_isThere_3 : decode prog_14_method_95_code 3 = .ok (.invokevirtual 511, 3) := by decide +kernel
theorem d_M_isThere_6 : decode prog_14_method_95_code 6 = .ok (.ifCond .eq 19, 3) := by decide +kernel
theorem d_M_isThere_25 : decode prog_14_method_95_code 25 = .ok (.iconst 1, 1) := by decide +kernel
theorem d_M_isThere_26 : decode prog_14_method_95_code 26 = .ok (.putfield 145, 3) := by decide +kernel
theorem d_M_isThere_29 : decode prog_14_method_95_code 29 = .ok (.aload_n 0, 1) := by decide +kernel
theorem d_M_isThere_30 : decode prog_14_method_95_code 30 = .ok (.getfield 145, 3) := by decide +kernel
theorem d_M_isThere_33 : decode prog_14_method_95_code 33 = .ok (.ifCond .ne 21, 3) := by decide +kernel
theorem d_M_isThere_54 : decode prog_14_method_95_code 54 = .ok (.iconst 0, 1) := by decide +kernel
theorem d_M_isThere_55 : decode prog_14_method_95_code 55 = .ok (.ireturn, 1) := by decide +kernel
set_option maxHeartbeats 4000000 in
set_option maxRecDepth 100000 in
theorem c_M_isThere_x (l : Launch) (D : va_G) (dA : Nat → ClassId) (sz : Nat) (a : Nat) (fs : List Value) (n : Int32) (i : Int32) (h_fs_isTable : fs[71]? = some (.int 0)) (hl_fs : fs.length = 79) : Met l ⟨"SeriesVaultModel", "isThere", "(II)Z"⟩ [Cond.code ⟨"SeriesVaultModel", "isThere", "(II)Z"⟩ prog_14_method_95_code 3 (some FieldType.boolean)] { frames := 2, cells := 0, slots := 0, locals := 21 } (pC D dA [.ref a, .int n, .int i] [(a, .inr (9, fs))] sz) (va_Qi (fun (r : Int32) (_ : Unit) => r = 0) (fun (u9 : Unit) t9 => bW D (va_A [(a, .inr (9, fs))] sz) [(a, .inr (9, (fs.set 0 (.int 1))))] t9) (va_A [(a, .inr (9, fs))] sz)) 0 0 (va_A [(a, .inr (9, fs))] sz) := by
  refine mkC (Qc := fun A => va_Qi (fun (r : Int32) (_ : Unit) => r = 0) (fun (u9 : Unit) t9 => bW D A [(a, .inr (9, (fs.set 0 (.int 1))))] t9) A) (by decide) (Nat.le_of_ble_eq_true rfl) ?_
  intro A p e s m below meth c ls hsz hB
  obtain ⟨hx, hb, hr, hml, hown, hin, hlk, hE, hK, hP, hD, hS, hA, hN, hl⟩ := hB
  have hown : s.vm.findClass "SeriesVaultModel" = some m.cls := hown
  have hin : meth.name = "isThere" := hin
  have hl : lv_has ls 3 [(0, .ref a), (1, .int n), (2, .int i)] := hl
  obtain ⟨H, hH⟩ : ∃ z, z = s.heap := ⟨_, rfl⟩
  have hP : va_P D vwCl [(a, .inr (9, fs))] H := by rw [hH]; exact hP
  have hS : va_S A s.heap H [] := by rw [hH]; exact hS
  rw [← hH]
  refine lv_aload_n hx hb d_M_isThere_0 rfl (lv_at hl 0 rfl) ?_
  refine lv_aload_n hx hb d_M_isThere_1 rfl (lv_at hl 0 rfl) ?_
  refine lv_iload_n hx hb d_M_isThere_2 rfl (lv_at hl 1 rfl) ?_
  have hPc := hP.sub (ws' := [(a, .inr (9, fs))]) [0] rfl
  have hDc := hD.sub (ws' := [(a, .inr (9, fs))]) [0] (by decide) rfl
  refine jnI (rnV (As := [.int n]) (rest := [.ref a]) hx hb hml hown hE hK (hN _ _ hS) hPc hDc (c_M_isRow_0 l D dA H.size a fs n h_fs_isTable hl_fs) (q0 := 0) rfl rfl w329 w327 w330 w331 w328 rfl rfl ⟨⟨by decide, by decide⟩, rfl⟩ ⟨(Nat.le_of_ble_eq_true rfl), (Nat.le_of_ble_eq_true rfl)⟩ rfl hl.1 rfl (Nat.le_of_ble_eq_true rfl) d_M_isThere_3 ⟨(Nat.le_of_ble_eq_true rfl), (Nat.le_of_ble_eq_true rfl)⟩) hP hD hS hA [0] [] (wr := []) rfl rfl (by decide) (by decide) (fun r1 u9 H locs hp9 hP hD hS => ?_)
  have hP : va_P D vwCl [(a, .inr (9, fs))] H := hP
  have hD : va_D A [(a, .inr (9, fs))] := hD
  have hp9 : 0 = r1 := Eq.symm hp9
  subst hp9
  refine lv_if_eq hx hb d_M_isThere_6 (tgt := 25) rfl (fun _ => ?_) (fun h9 => absurd (by decide) h9)
  refine lv_iconst (v := 1) hx hb d_M_isThere_25 (by decide) ?_
  refine pF hx hb hown hE hK hP hD hS 0 rfl rfl layM tyM tokM nmM 0 (by decide) w319 rfl rfl rfl (by simp [hl_fs]) d_M_isThere_26 (fun H locs hP hD hS => ?_)
  have hP : va_P D vwCl [(a, .inr (9, (fs.set 0 (.int 1))))] H := hP
  have hD : va_D A [(a, .inr (9, (fs.set 0 (.int 1))))] := hD
  refine lv_aload_n hx hb d_M_isThere_29 rfl (lv_at hl 0 rfl) ?_
  refine gF (v := .int 1) hx hb hown hE hK hP 0 rfl rfl layM 0 (by decide) w319 (by simp [hl_fs]) d_M_isThere_30 ?_
  refine lv_if_ne hx hb d_M_isThere_33 (tgt := 54) rfl (fun _ => ?_) (fun h9 => absurd h9 (by decide))
  refine lv_iconst (v := 0) hx hb d_M_isThere_54 (by decide) ?_
  exact rtZ hx hb hr (by decide) hlk hP hD hS () rfl [0] rfl rfl (by decide) (Nat.le_of_ble_eq_true rfl) (Nat.le_of_ble_eq_true rfl) d_M_isThere_55
theorem d_M_cell_0 : decode prog_14_method_96_code 0 = .ok (.aload_n 0, 1) := by decide +kernel
theorem d_M_cell_1 : decode prog_14_method_96_code 1 = .ok (.aload_n 0, 1) := by decide +kernel
theorem d_M_cell_2 : decode prog_14_method_96_code 2 = .ok (.iload_n 1, 1) := by decide +kernel
theorem d_M_cell_3 : decode prog_14_method_96_code 3 = .ok (.invokevirtual 511, 3) := by decide +kernel
theorem d_M_cell_6 : decode prog_14_method_96_code 6 = .ok (.ifCond .eq 19, 3) := by decide +kernel
theorem d_M_cell_25 : decode prog_14_method_96_code 25 = .ok (.iconst 1, 1) := by decide +kernel
theorem d_M_cell_26 : decode prog_14_method_96_code 26 = .ok (.putfield 145, 3) := by decide +kernel
theorem d_M_cell_29 : decode prog_14_method_96_code 29 = .ok (.aload_n 0, 1) := by decide +kernel
theorem d_M_cell_30 : decode prog_14_method_96_code 30 = .ok (.getfield 145, 3) := by decide +kernel
theorem d_M_cell_33 : decode prog_14_method_96_code 33 = .ok (.ifCond .ne 31, 3) := by decide +kernel
theorem d_M_cell_64 : decode prog_14_method_96_code 64 = .ok (.lconst 0, 1) := by decide +kernel
theorem d_M_cell_65 : decode prog_14_method_96_code 65 = .ok (.lreturn, 1) := by decide +kernel
set_option maxHeartbeats 4000000 in
set_option maxRecDepth 100000 in
theorem c_M_cell_x (l : Launch) (D : va_G) (dA : Nat → ClassId) (sz : Nat) (a : Nat) (fs : List Value) (n : Int32) (i : Int32) (h_fs_isTable : fs[71]? = some (.int 0)) (hl_fs : fs.length = 79) : Met l ⟨"SeriesVaultModel", "cell", "(II)J"⟩ [Cond.code ⟨"SeriesVaultModel", "cell", "(II)J"⟩ prog_14_method_96_code 3 (some FieldType.long)] { frames := 2, cells := 0, slots := 0, locals := 21 } (pC D dA [.ref a, .int n, .int i] [(a, .inr (9, fs))] sz) (va_Ql (fun (r : Int64) (_ : Unit) => r = 0) (fun (u9 : Unit) t9 => bW D (va_A [(a, .inr (9, fs))] sz) [(a, .inr (9, (fs.set 0 (.int 1))))] t9) (va_A [(a, .inr (9, fs))] sz)) 0 0 (va_A [(a, .inr (9, fs))] sz) := by
  refine mkC (Qc := fun A => va_Ql (fun (r : Int64) (_ : Unit) => r = 0) (fun (u9 : Unit) t9 => bW D A [(a, .inr (9, (fs.set 0 (.int 1))))] t9) A) (by decide) (Nat.le_of_ble_eq_true rfl) ?_
  intro A p e s m below meth c ls hsz hB
  obtain ⟨hx, hb, hr, hml, hown, hin, hlk, hE, hK, hP, hD, hS, hA, hN, hl⟩ := hB
  have hown : s.vm.findClass "SeriesVaultModel" = some m.cls := hown
  have hin : meth.name = "cell" := hin
  have hl : lv_has ls 3 [(0, .ref a), (1, .int n), (2, .int i)] := hl
  obtain ⟨H, hH⟩ : ∃ z, z = s.heap := ⟨_, rfl⟩
  have hP : va_P D vwCl [(a, .inr (9, fs))] H := by rw [hH]; exact hP
  have hS : va_S A s.heap H [] := by rw [hH]; exact hS
  rw [← hH]
  refine lv_aload_n hx hb d_M_cell_0 rfl (lv_at hl 0 rfl) ?_
  refine lv_aload_n hx hb d_M_cell_1 rfl (lv_at hl 0 rfl) ?_
  refine lv_iload_n hx hb d_M_cell_2 rfl (lv_at hl 1 rfl) ?_
  have hPc := hP.sub (ws' := [(a, .inr (9, fs))]) [0] rfl
  have hDc := hD.sub (ws' := [(a, .inr (9, fs))]) [0] (by decide) rfl
  refine jnI (rnV (As := [.int n]) (rest := [.ref a]) hx hb hml hown hE hK (hN _ _ hS) hPc hDc (c_M_isRow_0 l D dA H.size a fs n h_fs_isTable hl_fs) (q0 := 0) rfl rfl w329 w327 w330 w331 w328 rfl rfl ⟨⟨by decide, by decide⟩, rfl⟩ ⟨(Nat.le_of_ble_eq_true rfl), (Nat.le_of_ble_eq_true rfl)⟩ rfl hl.1 rfl (Nat.le_of_ble_eq_true rfl) d_M_cell_3 ⟨(Nat.le_of_ble_eq_true rfl), (Nat.le_of_ble_eq_true rfl)⟩) hP hD hS hA [0] [] (wr := []) rfl rfl (by decide) (by decide) (fun r1 u9 H locs hp9 hP hD hS => ?_)
  have hP : va_P D vwCl [(a, .inr (9, fs))] H := hP
  have hD : va_D A [(a, .inr (9, fs))] := hD
  have hp9 : 0 = r1 := Eq.symm hp9
  subst hp9
  refine lv_if_eq hx hb d_M_cell_6 (tgt := 25) rfl (fun _ => ?_) (fun h9 => absurd (by decide) h9)
  refine lv_iconst (v := 1) hx hb d_M_cell_25 (by decide) ?_
  refine pF hx hb hown hE hK hP hD hS 0 rfl rfl layM tyM tokM nmM 0 (by decide) w319 rfl rfl rfl (by simp [hl_fs]) d_M_cell_26 (fun H locs hP hD hS => ?_)
  have hP : va_P D vwCl [(a, .inr (9, (fs.set 0 (.int 1))))] H := hP
  have hD : va_D A [(a, .inr (9, (fs.set 0 (.int 1))))] := hD
  refine lv_aload_n hx hb d_M_cell_29 rfl (lv_at hl 0 rfl) ?_
  refine gF (v := .int 1) hx hb hown hE hK hP 0 rfl rfl layM 0 (by decide) w319 (by simp [hl_fs]) d_M_cell_30 ?_
  refine lv_if_ne hx hb d_M_cell_33 (tgt := 64) rfl (fun _ => ?_) (fun h9 => absurd h9 (by decide))
  refine lv_lconst (v := 0) hx hb d_M_cell_64 (by decide) ?_
  exact rtL hx hb hr hlk hP hD hS () rfl [0] rfl rfl (by decide) (Nat.le_of_ble_eq_true rfl) (Nat.le_of_ble_eq_true rfl) d_M_cell_65
theorem d_M_seriesFault_0 : decode prog_14_method_30_code 0 = .ok (.aload_n 0, 1) := by decide +kernel
theorem d_M_seriesFault_1 : decode prog_14_method_30_code 1 = .ok (.getfield 21, 3) := by decide +kernel
theorem d_M_seriesFault_4 : decode prog_14_method_30_code 4 = .ok (.ifCond .ne 7, 3) := by decide +kernel
theorem d_M_seriesFault_11 : decode prog_14_method_30_code 11 = .ok (.iload_n 1, 1) := by decide +kernel
theorem d_M_seriesFault_12 : decode prog_14_method_30_code 12 = .ok (.ifCond .lt 11, 3) := by decide +kernel
theorem d_M_seriesFault_23 : decode prog_14_method_30_code 23 = .ok (.iconst 2, 1) := by decide +kernel
theorem d_M_seriesFault_24 : decode prog_14_method_30_code 24 = .ok (.goto 4, 3) := by decide +kernel
theorem d_M_seriesFault_28 : decode prog_14_method_30_code 28 = .ok (.ireturn, 1) := by decide +kernel
theorem d_M_seriesFault_15 : decode prog_14_method_30_code 15 = .ok (.iload_n 1, 1) := by decide +kernel
theorem d_M_seriesFault_16 : decode prog_14_method_30_code 16 = .ok (.aload_n 0, 1) := by decide +kernel
theorem d_M_seriesFault_17 : decode prog_14_method_30_code 17 = .ok (.getfield 160, 3) := by decide +kernel
theorem d_M_seriesFault_20 : decode prog_14_method_30_code 20 = .ok (.if_icmp .lt 7, 3) := by decide +kernel
theorem w332 : Cond.fieldLink "SeriesVaultModel" 160 "SeriesVaultModel" "seriesCount" "I" ∈ aW := aw_of (tb_8 (List.mem_of_getElem? (i := 186) rfl)) rfl
set_option maxHeartbeats 4000000 in
set_option maxRecDepth 100000 in
theorem c_M_seriesFault_x (l : Launch) (D : va_G) (dA : Nat → ClassId) (sz : Nat) (a : Nat) (fs : List Value) (n : Int32) (h_fs_on : fs[7]? = some (.int 1)) (h_fs_seriesCount : fs[12]? = some (.int 0)) (hl_fs : fs.length = 79) : Met l ⟨"SeriesVaultModel", "seriesFault", "(I)I"⟩ [Cond.code ⟨"SeriesVaultModel", "seriesFault", "(I)I"⟩ prog_14_method_30_code 2 (some FieldType.int)] { frames := 1, cells := 0, slots := 0, locals := 0 } (pC D dA [.ref a, .int n] [(a, .inr (9, fs))] sz) (va_Qi (fun (r : Int32) (_ : Unit) => r = 2) (fun (u9 : Unit) t9 => bW D (va_A [(a, .inr (9, fs))] sz) [(a, .inr (9, fs))] t9) (va_A [(a, .inr (9, fs))] sz)) 0 0 (va_A [(a, .inr (9, fs))] sz) := by
  refine mkC (Qc := fun A => va_Qi (fun (r : Int32) (_ : Unit) => r = 2) (fun (u9 : Unit) t9 => bW D A [(a, .inr (9, fs))] t9) A) (by decide) (Nat.le_of_ble_eq_true rfl) ?_
  intro A p e s m below meth c ls hsz hB
  obtain ⟨hx, hb, hr, hml, hown, hin, hlk, hE, hK, hP, hD, hS, hA, hN, hl⟩ := hB
  have hown : s.vm.findClass "SeriesVaultModel" = some m.cls := hown
  have hin : meth.name = "seriesFault" := hin
  have hl : lv_has ls 2 [(0, .ref a), (1, .int n)] := hl
  obtain ⟨H, hH⟩ : ∃ z, z = s.heap := ⟨_, rfl⟩
  have hP : va_P D vwCl [(a, .inr (9, fs))] H := by rw [hH]; exact hP
  have hS : va_S A s.heap H [] := by rw [hH]; exact hS
  rw [← hH]
  refine lv_aload_n hx hb d_M_seriesFault_0 rfl (lv_at hl 0 rfl) ?_
  refine gF (v := .int 1) hx hb hown hE hK hP 0 rfl rfl layM 7 (by decide) w324 h_fs_on d_M_seriesFault_1 ?_
  refine lv_if_ne hx hb d_M_seriesFault_4 (tgt := 11) rfl (fun _ => ?_) (fun h9 => absurd h9 (by decide))
  refine lv_iload_n hx hb d_M_seriesFault_11 rfl (lv_at hl 1 rfl) ?_
  refine lv_if_lt hx hb d_M_seriesFault_12 (tgt := 23) rfl (fun hc => ?_) (fun hc => ?_)
  · refine lv_iconst (v := 2) hx hb d_M_seriesFault_23 (by decide) ?_
    refine lv_goto hx hb d_M_seriesFault_24 (tgt := 28) rfl ?_
    exact rtI hx hb hr hlk hP hD hS () rfl [0] rfl rfl (by decide) (Nat.le_of_ble_eq_true rfl) (Nat.le_of_ble_eq_true rfl) d_M_seriesFault_28
  · refine lv_iload_n hx hb d_M_seriesFault_15 rfl (lv_at hl 1 rfl) ?_
    refine lv_aload_n hx hb d_M_seriesFault_16 rfl (lv_at hl 0 rfl) ?_
    refine gF (v := .int 0) hx hb hown hE hK hP 0 rfl rfl layM 12 (by decide) w332 h_fs_seriesCount d_M_seriesFault_17 ?_
    refine lv_icmp_lt hx hb d_M_seriesFault_20 (tgt := 27) rfl (fun h9 => absurd h9 hc) (fun _ => ?_)
    refine lv_iconst (v := 2) hx hb d_M_seriesFault_23 (by decide) ?_
    refine lv_goto hx hb d_M_seriesFault_24 (tgt := 28) rfl ?_
    exact rtI hx hb hr hlk hP hD hS () rfl [0] rfl rfl (by decide) (Nat.le_of_ble_eq_true rfl) (Nat.le_of_ble_eq_true rfl) d_M_seriesFault_28
theorem d_M_letter_0 : decode prog_14_method_31_code 0 = .ok (.aload_n 0, 1) := by decide +kernel
theorem d_M_letter_1 : decode prog_14_method_31_code 1 = .ok (.aload_n 0, 1) := by decide +kernel
theorem d_M_letter_2 : decode prog_14_method_31_code 2 = .ok (.iload_n 1, 1) := by decide +kernel
theorem d_M_letter_3 : decode prog_14_method_31_code 3 = .ok (.invokevirtual 258, 3) := by decide +kernel
theorem d_M_letter_6 : decode prog_14_method_31_code 6 = .ok (.putfield 145, 3) := by decide +kernel
theorem d_M_letter_9 : decode prog_14_method_31_code 9 = .ok (.aload_n 0, 1) := by decide +kernel
theorem d_M_letter_10 : decode prog_14_method_31_code 10 = .ok (.getfield 145, 3) := by decide +kernel
theorem d_M_letter_13 : decode prog_14_method_31_code 13 = .ok (.ifCond .le 7, 3) := by decide +kernel
theorem d_M_letter_16 : decode prog_14_method_31_code 16 = .ok (.iconst 0, 1) := by decide +kernel
theorem d_M_letter_17 : decode prog_14_method_31_code 17 = .ok (.goto 33, 3) := by decide +kernel
theorem d_M_letter_50 : decode prog_14_method_31_code 50 = .ok (.ireturn, 1) := by decide +kernel
theorem w333 : Cond.methodLink "SeriesVaultModel" 258 ⟨"SeriesVaultModel", "seriesFault", "(I)I"⟩ ∈ aW := aw_of (tb_10 (List.mem_of_getElem? (i := 11) rfl)) rfl
theorem w334 : Cond.code ⟨"SeriesVaultModel", "seriesFault", "(I)I"⟩ prog_14_method_30_code 2 (some FieldType.int) ∈ aW := aw_of (tb_10 (List.mem_of_getElem? (i := 14) rfl)) rfl
theorem w335 : Cond.instanceMethod ⟨"SeriesVaultModel", "seriesFault", "(I)I"⟩ ∈ aW := aw_of (tb_10 (List.mem_of_getElem? (i := 13) rfl)) rfl
theorem w336 : Cond.selects "SeriesVaultModel" ⟨"SeriesVaultModel", "seriesFault", "(I)I"⟩ ⟨"SeriesVaultModel", "seriesFault", "(I)I"⟩ ∈ aW := aw_pr (List.mem_map.mpr ⟨_, pv_5 (List.mem_of_getElem? (i := 14) rfl), rfl⟩) rfl
set_option maxHeartbeats 4000000 in
set_option maxRecDepth 100000 in
theorem c_M_letter_x (l : Launch) (D : va_G) (dA : Nat → ClassId) (sz : Nat) (a : Nat) (fs : List Value) (n : Int32) (i : Int32) (h_fs_on : fs[7]? = some (.int 1)) (h_fs_seriesCount : fs[12]? = some (.int 0)) (hl_fs : fs.length = 79) : Met l ⟨"SeriesVaultModel", "letter", "(II)I"⟩ [Cond.code ⟨"SeriesVaultModel", "letter", "(II)I"⟩ prog_14_method_31_code 3 (some FieldType.int)] { frames := 2, cells := 0, slots := 0, locals := 21 } (pC D dA [.ref a, .int n, .int i] [(a, .inr (9, fs))] sz) (va_Qi (fun (r : Int32) (_ : Unit) => r = 0) (fun (u9 : Unit) t9 => bW D (va_A [(a, .inr (9, fs))] sz) [(a, .inr (9, (fs.set 0 (.int 2))))] t9) (va_A [(a, .inr (9, fs))] sz)) 0 0 (va_A [(a, .inr (9, fs))] sz) := by
  refine mkC (Qc := fun A => va_Qi (fun (r : Int32) (_ : Unit) => r = 0) (fun (u9 : Unit) t9 => bW D A [(a, .inr (9, (fs.set 0 (.int 2))))] t9) A) (by decide) (Nat.le_of_ble_eq_true rfl) ?_
  intro A p e s m below meth c ls hsz hB
  obtain ⟨hx, hb, hr, hml, hown, hin, hlk, hE, hK, hP, hD, hS, hA, hN, hl⟩ := hB
  have hown : s.vm.findClass "SeriesVaultModel" = some m.cls := hown
  have hin : meth.name = "letter" := hin
  have hl : lv_has ls 3 [(0, .ref a), (1, .int n), (2, .int i)] := hl
  obtain ⟨H, hH⟩ : ∃ z, z = s.heap := ⟨_, rfl⟩
  have hP : va_P D vwCl [(a, .inr (9, fs))] H := by rw [hH]; exact hP
  have hS : va_S A s.heap H [] := by rw [hH]; exact hS
  rw [← hH]
  refine lv_aload_n hx hb d_M_letter_0 rfl (lv_at hl 0 rfl) ?_
  refine lv_aload_n hx hb d_M_letter_1 rfl (lv_at hl 0 rfl) ?_
  refine lv_iload_n hx hb d_M_letter_2 rfl (lv_at hl 1 rfl) ?_
  have hPc := hP.sub (ws' := [(a, .inr (9, fs))]) [0] rfl
  have hDc := hD.sub (ws' := [(a, .inr (9, fs))]) [0] (by decide) rfl
  refine jnI (rnV (As := [.int n]) (rest := [.ref a]) hx hb hml hown hE hK (hN _ _ hS) hPc hDc (c_M_seriesFault_x l D dA H.size a fs n h_fs_on h_fs_seriesCount hl_fs) (q0 := 0) rfl rfl w334 w333 w335 w336 w328 rfl rfl ⟨⟨by decide, by decide⟩, rfl⟩ ⟨(Nat.le_of_ble_eq_true rfl), (Nat.le_of_ble_eq_true rfl)⟩ rfl hl.1 rfl (Nat.le_of_ble_eq_true rfl) d_M_letter_3 ⟨(Nat.le_of_ble_eq_true rfl), (Nat.le_of_ble_eq_true rfl)⟩) hP hD hS hA [0] [] (wr := []) rfl rfl (by decide) (by decide) (fun r1 u9 H locs hp9 hP hD hS => ?_)
  have hP : va_P D vwCl [(a, .inr (9, fs))] H := hP
  have hD : va_D A [(a, .inr (9, fs))] := hD
  have hp9 : 2 = r1 := Eq.symm hp9
  subst hp9
  refine pF hx hb hown hE hK hP hD hS 0 rfl rfl layM tyM tokM nmM 0 (by decide) w319 rfl rfl rfl (by simp [hl_fs]) d_M_letter_6 (fun H locs hP hD hS => ?_)
  have hP : va_P D vwCl [(a, .inr (9, (fs.set 0 (.int 2))))] H := hP
  have hD : va_D A [(a, .inr (9, (fs.set 0 (.int 2))))] := hD
  refine lv_aload_n hx hb d_M_letter_9 rfl (lv_at hl 0 rfl) ?_
  refine gF (v := .int 2) hx hb hown hE hK hP 0 rfl rfl layM 0 (by decide) w319 (by simp [hl_fs]) d_M_letter_10 ?_
  refine lv_if_le hx hb d_M_letter_13 (tgt := 20) rfl (fun h9 => absurd h9 (by decide)) (fun _ => ?_)
  refine lv_iconst (v := 0) hx hb d_M_letter_16 (by decide) ?_
  refine lv_goto hx hb d_M_letter_17 (tgt := 50) rfl ?_
  exact rtI hx hb hr hlk hP hD hS () rfl [0] rfl rfl (by decide) (Nat.le_of_ble_eq_true rfl) (Nat.le_of_ble_eq_true rfl) d_M_letter_50
theorem d_M_last_0 : decode prog_14_method_32_code 0 = .ok (.aload_n 0, 1) := by decide +kernel
theorem d_M_last_1 : decode prog_14_method_32_code 1 = .ok (.aload_n 0, 1) := by decide +kernel
theorem d_M_last_2 : decode prog_14_method_32_code 2 = .ok (.iload_n 1, 1) := by decide +kernel
theorem d_M_last_3 : decode prog_14_method_32_code 3 = .ok (.invokevirtual 258, 3) := by decide +kernel
theorem d_M_last_6 : decode prog_14_method_32_code 6 = .ok (.putfield 145, 3) := by decide +kernel
theorem d_M_last_9 : decode prog_14_method_32_code 9 = .ok (.aload_n 0, 1) := by decide +kernel
theorem d_M_last_10 : decode prog_14_method_32_code 10 = .ok (.getfield 145, 3) := by decide +kernel
theorem d_M_last_13 : decode prog_14_method_32_code 13 = .ok (.ifCond .le 7, 3) := by decide +kernel
theorem d_M_last_16 : decode prog_14_method_32_code 16 = .ok (.lconst 0, 1) := by decide +kernel
theorem d_M_last_17 : decode prog_14_method_32_code 17 = .ok (.goto 9, 3) := by decide +kernel
theorem d_M_last_26 : decode prog_14_method_32_code 26 = .ok (.lreturn, 1) := by decide +kernel
set_option maxHeartbeats 4000000 in
set_option maxRecDepth 100000 in
theorem c_M_last_x (l : Launch) (D : va_G) (dA : Nat → ClassId) (sz : Nat) (a : Nat) (fs : List Value) (n : Int32) (h_fs_on : fs[7]? = some (.int 1)) (h_fs_seriesCount : fs[12]? = some (.int 0)) (hl_fs : fs.length = 79) : Met l ⟨"SeriesVaultModel", "last", "(I)J"⟩ [Cond.code ⟨"SeriesVaultModel", "last", "(I)J"⟩ prog_14_method_32_code 2 (some FieldType.long)] { frames := 2, cells := 0, slots := 0, locals := 21 } (pC D dA [.ref a, .int n] [(a, .inr (9, fs))] sz) (va_Ql (fun (r : Int64) (_ : Unit) => r = 0) (fun (u9 : Unit) t9 => bW D (va_A [(a, .inr (9, fs))] sz) [(a, .inr (9, (fs.set 0 (.int 2))))] t9) (va_A [(a, .inr (9, fs))] sz)) 0 0 (va_A [(a, .inr (9, fs))] sz) := by
  refine mkC (Qc := fun A => va_Ql (fun (r : Int64) (_ : Unit) => r = 0) (fun (u9 : Unit) t9 => bW D A [(a, .inr (9, (fs.set 0 (.int 2))))] t9) A) (by decide) (Nat.le_of_ble_eq_true rfl) ?_
  intro A p e s m below meth c ls hsz hB
  obtain ⟨hx, hb, hr, hml, hown, hin, hlk, hE, hK, hP, hD, hS, hA, hN, hl⟩ := hB
  have hown : s.vm.findClass "SeriesVaultModel" = some m.cls := hown
  have hin : meth.name = "last" := hin
  have hl : lv_has ls 2 [(0, .ref a), (1, .int n)] := hl
  obtain ⟨H, hH⟩ : ∃ z, z = s.heap := ⟨_, rfl⟩
  have hP : va_P D vwCl [(a, .inr (9, fs))] H := by rw [hH]; exact hP
  have hS : va_S A s.heap H [] := by rw [hH]; exact hS
  rw [← hH]
  refine lv_aload_n hx hb d_M_last_0 rfl (lv_at hl 0 rfl) ?_
  refine lv_aload_n hx hb d_M_last_1 rfl (lv_at hl 0 rfl) ?_
  refine lv_iload_n hx hb d_M_last_2 rfl (lv_at hl 1 rfl) ?_
  have hPc := hP.sub (ws' := [(a, .inr (9, fs))]) [0] rfl
  have hDc := hD.sub (ws' := [(a, .inr (9, fs))]) [0] (by decide) rfl
  refine jnI (rnV (As := [.int n]) (rest := [.ref a]) hx hb hml hown hE hK (hN _ _ hS) hPc hDc (c_M_seriesFault_x l D dA H.size a fs n h_fs_on h_fs_seriesCount hl_fs) (q0 := 0) rfl rfl w334 w333 w335 w336 w328 rfl rfl ⟨⟨by decide, by decide⟩, rfl⟩ ⟨(Nat.le_of_ble_eq_true rfl), (Nat.le_of_ble_eq_true rfl)⟩ rfl hl.1 rfl (Nat.le_of_ble_eq_true rfl) d_M_last_3 ⟨(Nat.le_of_ble_eq_true rfl), (Nat.le_of_ble_eq_true rfl)⟩) hP hD hS hA [0] [] (wr := []) rfl rfl (by decide) (by decide) (fun r1 u9 H locs hp9 hP hD hS => ?_)
  have hP : va_P D vwCl [(a, .inr (9, fs))] H := hP
  have hD : va_D A [(a, .inr (9, fs))] := hD
  have hp9 : 2 = r1 := Eq.symm hp9
  subst hp9
  refine pF hx hb hown hE hK hP hD hS 0 rfl rfl layM tyM tokM nmM 0 (by decide) w319 rfl rfl rfl (by simp [hl_fs]) d_M_last_6 (fun H locs hP hD hS => ?_)
  have hP : va_P D vwCl [(a, .inr (9, (fs.set 0 (.int 2))))] H := hP
  have hD : va_D A [(a, .inr (9, (fs.set 0 (.int 2))))] := hD
  refine lv_aload_n hx hb d_M_last_9 rfl (lv_at hl 0 rfl) ?_
  refine gF (v := .int 2) hx hb hown hE hK hP 0 rfl rfl layM 0 (by decide) w319 (by simp [hl_fs]) d_M_last_10 ?_
  refine lv_if_le hx hb d_M_last_13 (tgt := 20) rfl (fun h9 => absurd h9 (by decide)) (fun _ => ?_)
  refine lv_lconst (v := 0) hx hb d_M_last_16 (by decide) ?_
  refine lv_goto hx hb d_M_last_17 (tgt := 26) rfl ?_
  exact rtL hx hb hr hlk hP hD hS () rfl [0] rfl rfl (by decide) (Nat.le_of_ble_eq_true rfl) (Nat.le_of_ble_eq_true rfl) d_M_last_26
theorem d_M_bulk_0 : decode prog_14_method_36_code 0 = .ok (.aload_n 0, 1) := by decide +kernel
theorem d_M_bulk_1 : decode prog_14_method_36_code 1 = .ok (.aload_n 0, 1) := by decide +kernel
theorem d_M_bulk_2 : decode prog_14_method_36_code 2 = .ok (.iload_n 1, 1) := by decide +kernel
theorem d_M_bulk_3 : decode prog_14_method_36_code 3 = .ok (.invokevirtual 258, 3) := by decide +kernel
theorem d_M_bulk_6 : decode prog_14_method_36_code 6 = .ok (.putfield 145, 3) := by decide +kernel
theorem d_M_bulk_9 : decode prog_14_method_36_code 9 = .ok (.aload_n 0, 1) := by decide +kernel
theorem d_M_bulk_10 : decode prog_14_method_36_code 10 = .ok (.getfield 145, 3) := by decide +kernel
theorem d_M_bulk_13 : decode prog_14_method_36_code 13 = .ok (.ifCond .le 5, 3) := by decide +kernel
theorem d_M_bulk_16 : decode prog_14_method_36_code 16 = .ok (.iconst 0, 1) := by decide +kernel
theorem d_M_bulk_17 : decode prog_14_method_36_code 17 = .ok (.ireturn, 1) := by decide +kernel
set_option maxHeartbeats 4000000 in
set_option maxRecDepth 100000 in
theorem c_M_bulk_x (l : Launch) (D : va_G) (dA : Nat → ClassId) (sz : Nat) (a : Nat) (fs : List Value) (n : Int32) (h_fs_on : fs[7]? = some (.int 1)) (h_fs_seriesCount : fs[12]? = some (.int 0)) (hl_fs : fs.length = 79) : Met l ⟨"SeriesVaultModel", "bulk", "(I)I"⟩ [Cond.code ⟨"SeriesVaultModel", "bulk", "(I)I"⟩ prog_14_method_36_code 7 (some FieldType.int)] { frames := 2, cells := 0, slots := 0, locals := 21 } (pC D dA [.ref a, .int n] [(a, .inr (9, fs))] sz) (va_Qi (fun (r : Int32) (_ : Unit) => r = 0) (fun (u9 : Unit) t9 => bW D (va_A [(a, .inr (9, fs))] sz) [(a, .inr (9, (fs.set 0 (.int 2))))] t9) (va_A [(a, .inr (9, fs))] sz)) 0 0 (va_A [(a, .inr (9, fs))] sz) := by
  refine mkC (Qc := fun A => va_Qi (fun (r : Int32) (_ : Unit) => r = 0) (fun (u9 : Unit) t9 => bW D A [(a, .inr (9, (fs.set 0 (.int 2))))] t9) A) (by decide) (Nat.le_of_ble_eq_true rfl) ?_
  intro A p e s m below meth c ls hsz hB
  obtain ⟨hx, hb, hr, hml, hown, hin, hlk, hE, hK, hP, hD, hS, hA, hN, hl⟩ := hB
  have hown : s.vm.findClass "SeriesVaultModel" = some m.cls := hown
  have hin : meth.name = "bulk" := hin
  have hl : lv_has ls 7 [(0, .ref a), (1, .int n)] := hl
  obtain ⟨H, hH⟩ : ∃ z, z = s.heap := ⟨_, rfl⟩
  have hP : va_P D vwCl [(a, .inr (9, fs))] H := by rw [hH]; exact hP
  have hS : va_S A s.heap H [] := by rw [hH]; exact hS
  rw [← hH]
  refine lv_aload_n hx hb d_M_bulk_0 rfl (lv_at hl 0 rfl) ?_
  refine lv_aload_n hx hb d_M_bulk_1 rfl (lv_at hl 0 rfl) ?_
  refine lv_iload_n hx hb d_M_bulk_2 rfl (lv_at hl 1 rfl) ?_
  have hPc := hP.sub (ws' := [(a, .inr (9, fs))]) [0] rfl
  have hDc := hD.sub (ws' := [(a, .inr (9, fs))]) [0] (by decide) rfl
  refine jnI (rnV (As := [.int n]) (rest := [.ref a]) hx hb hml hown hE hK (hN _ _ hS) hPc hDc (c_M_seriesFault_x l D dA H.size a fs n h_fs_on h_fs_seriesCount hl_fs) (q0 := 0) rfl rfl w334 w333 w335 w336 w328 rfl rfl ⟨⟨by decide, by decide⟩, rfl⟩ ⟨(Nat.le_of_ble_eq_true rfl), (Nat.le_of_ble_eq_true rfl)⟩ rfl hl.1 rfl (Nat.le_of_ble_eq_true rfl) d_M_bulk_3 ⟨(Nat.le_of_ble_eq_true rfl), (Nat.le_of_ble_eq_true rfl)⟩) hP hD hS hA [0] [] (wr := []) rfl rfl (by decide) (by decide) (fun r1 u9 H locs hp9 hP hD hS => ?_)
  have hP : va_P D vwCl [(a, .inr (9, fs))] H := hP
  have hD : va_D A [(a, .inr (9, fs))] := hD
  have hp9 : 2 = r1 := Eq.symm hp9
  subst hp9
  refine pF hx hb hown hE hK hP hD hS 0 rfl rfl layM tyM tokM nmM 0 (by decide) w319 rfl rfl rfl (by simp [hl_fs]) d_M_bulk_6 (fun H locs hP hD hS => ?_)
  have hP : va_P D vwCl [(a, .inr (9, (fs.set 0 (.int 2))))] H := hP
  have hD : va_D A [(a, .inr (9, (fs.set 0 (.int 2))))] := hD
  refine lv_aload_n hx hb d_M_bulk_9 rfl (lv_at hl 0 rfl) ?_
  refine gF (v := .int 2) hx hb hown hE hK hP 0 rfl rfl layM 0 (by decide) w319 (by simp [hl_fs]) d_M_bulk_10 ?_
  refine lv_if_le hx hb d_M_bulk_13 (tgt := 18) rfl (fun h9 => absurd h9 (by decide)) (fun _ => ?_)
  refine lv_iconst (v := 0) hx hb d_M_bulk_16 (by decide) ?_
  exact rtI hx hb hr hlk hP hD hS () rfl [0] rfl rfl (by decide) (Nat.le_of_ble_eq_true rfl) (Nat.le_of_ble_eq_true rfl) d_M_bulk_17
theorem d_M_append_0 : decode prog_14_method_34_code 0 = .ok (.aload_n 0, 1) := by decide +kernel
theorem d_M_append_1 : decode prog_14_method_34_code 1 = .ok (.aload_n 0, 1) := by decide +kernel
theorem d_M_append_2 : decode prog_14_method_34_code 2 = .ok (.iload_n 1, 1) := by decide +kernel
theorem d_M_append_3 : decode prog_14_method_34_code 3 = .ok (.invokevirtual 258, 3) := by decide +kernel
theorem d_M_append_6 : decode prog_14_method_34_code 6 = .ok (.putfield 145, 3) := by decide +kernel
theorem d_M_append_9 : decode prog_14_method_34_code 9 = .ok (.aload_n 0, 1) := by decide +kernel
theorem d_M_append_10 : decode prog_14_method_34_code 10 = .ok (.aload_n 0, 1) := by decide +kernel
theorem d_M_append_11 : decode prog_14_method_34_code 11 = .ok (.getfield 145, 3) := by decide +kernel
theorem d_M_append_14 : decode prog_14_method_34_code 14 = .ok (.ifCond .ne 12, 3) := by decide +kernel
theorem d_M_append_26 : decode prog_14_method_34_code 26 = .ok (.aload_n 0, 1) := by decide +kernel
theorem d_M_append_27 : decode prog_14_method_34_code 27 = .ok (.getfield 145, 3) := by decide +kernel
theorem d_M_append_30 : decode prog_14_method_34_code 30 = .ok (.putfield 145, 3) := by decide +kernel
theorem d_M_append_33 : decode prog_14_method_34_code 33 = .ok (.aload_n 0, 1) := by decide +kernel
theorem d_M_append_34 : decode prog_14_method_34_code 34 = .ok (.getfield 145, 3) := by decide +kernel
theorem d_M_append_37 : decode prog_14_method_34_code 37 = .ok (.ifCond .le 5, 3) := by decide +kernel
theorem d_M_append_40 : decode prog_14_method_34_code 40 = .ok (.iconst 0, 1) := by decide +kernel
theorem d_M_append_41 : decode prog_14_method_34_code 41 = .ok (.ireturn, 1) := by decide +kernel
set_option maxHeartbeats 4000000 in
set_option maxRecDepth 100000 in
theorem c_M_append_x (l : Launch) (D : va_G) (dA : Nat → ClassId) (sz : Nat) (a : Nat) (fs : List Value) (n : Int32) (t : Int64) (v : Int64) (h_fs_on : fs[7]? = some (.int 1)) (h_fs_seriesCount : fs[12]? = some (.int 0)) (hl_fs : fs.length = 79) : Met l ⟨"SeriesVaultModel", "append", "(IJJ)I"⟩ [Cond.code ⟨"SeriesVaultModel", "append", "(IJJ)I"⟩ prog_14_method_34_code 6 (some FieldType.int)] { frames := 2, cells := 0, slots := 0, locals := 21 } (pC D dA [.ref a, .int n, .long t, .long v] [(a, .inr (9, fs))] sz) (va_Qi (fun (r : Int32) (_ : Unit) => r = 0) (fun (u9 : Unit) t9 => bW D (va_A [(a, .inr (9, fs))] sz) [(a, .inr (9, ((fs.set 0 (.int 2)).set 0 (.int 2))))] t9) (va_A [(a, .inr (9, fs))] sz)) 0 0 (va_A [(a, .inr (9, fs))] sz) := by
  refine mkC (Qc := fun A => va_Qi (fun (r : Int32) (_ : Unit) => r = 0) (fun (u9 : Unit) t9 => bW D A [(a, .inr (9, ((fs.set 0 (.int 2)).set 0 (.int 2))))] t9) A) (by decide) (Nat.le_of_ble_eq_true rfl) ?_
  intro A p e s m below meth c ls hsz hB
  obtain ⟨hx, hb, hr, hml, hown, hin, hlk, hE, hK, hP, hD, hS, hA, hN, hl⟩ := hB
  have hown : s.vm.findClass "SeriesVaultModel" = some m.cls := hown
  have hin : meth.name = "append" := hin
  have hl : lv_has ls 6 [(0, .ref a), (1, .int n), (2, .long t), (4, .long v)] := hl
  obtain ⟨H, hH⟩ : ∃ z, z = s.heap := ⟨_, rfl⟩
  have hP : va_P D vwCl [(a, .inr (9, fs))] H := by rw [hH]; exact hP
  have hS : va_S A s.heap H [] := by rw [hH]; exact hS
  rw [← hH]
  refine lv_aload_n hx hb d_M_append_0 rfl (lv_at hl 0 rfl) ?_
  refine lv_aload_n hx hb d_M_append_1 rfl (lv_at hl 0 rfl) ?_
  refine lv_iload_n hx hb d_M_append_2 rfl (lv_at hl 1 rfl) ?_
  have hPc := hP.sub (ws' := [(a, .inr (9, fs))]) [0] rfl
  have hDc := hD.sub (ws' := [(a, .inr (9, fs))]) [0] (by decide) rfl
  refine jnI (rnV (As := [.int n]) (rest := [.ref a]) hx hb hml hown hE hK (hN _ _ hS) hPc hDc (c_M_seriesFault_x l D dA H.size a fs n h_fs_on h_fs_seriesCount hl_fs) (q0 := 0) rfl rfl w334 w333 w335 w336 w328 rfl rfl ⟨⟨by decide, by decide⟩, rfl⟩ ⟨(Nat.le_of_ble_eq_true rfl), (Nat.le_of_ble_eq_true rfl)⟩ rfl hl.1 rfl (Nat.le_of_ble_eq_true rfl) d_M_append_3 ⟨(Nat.le_of_ble_eq_true rfl), (Nat.le_of_ble_eq_true rfl)⟩) hP hD hS hA [0] [] (wr := []) rfl rfl (by decide) (by decide) (fun r1 u9 H locs hp9 hP hD hS => ?_)
  have hP : va_P D vwCl [(a, .inr (9, fs))] H := hP
  have hD : va_D A [(a, .inr (9, fs))] := hD
  have hp9 : 2 = r1 := Eq.symm hp9
  subst hp9
  refine pF hx hb hown hE hK hP hD hS 0 rfl rfl layM tyM tokM nmM 0 (by decide) w319 rfl rfl rfl (by simp [hl_fs]) d_M_append_6 (fun H locs hP hD hS => ?_)
  have hP : va_P D vwCl [(a, .inr (9, (fs.set 0 (.int 2))))] H := hP
  have hD : va_D A [(a, .inr (9, (fs.set 0 (.int 2))))] := hD
  refine lv_aload_n hx hb d_M_append_9 rfl (lv_at hl 0 rfl) ?_
  refine lv_aload_n hx hb d_M_append_10 rfl (lv_at hl 0 rfl) ?_
  refine gF (v := .int 2) hx hb hown hE hK hP 0 rfl rfl layM 0 (by decide) w319 (by simp [hl_fs]) d_M_append_11 ?_
  refine lv_if_ne hx hb d_M_append_14 (tgt := 26) rfl (fun _ => ?_) (fun h9 => absurd h9 (by decide))
  refine lv_aload_n hx hb d_M_append_26 rfl (lv_at hl 0 rfl) ?_
  refine gF (v := .int 2) hx hb hown hE hK hP 0 rfl rfl layM 0 (by decide) w319 (by simp [hl_fs]) d_M_append_27 ?_
  refine pF hx hb hown hE hK hP hD hS 0 rfl rfl layM tyM tokM nmM 0 (by decide) w319 rfl rfl rfl (by simp [hl_fs]) d_M_append_30 (fun H locs hP hD hS => ?_)
  have hP : va_P D vwCl [(a, .inr (9, ((fs.set 0 (.int 2)).set 0 (.int 2))))] H := hP
  have hD : va_D A [(a, .inr (9, ((fs.set 0 (.int 2)).set 0 (.int 2))))] := hD
  refine lv_aload_n hx hb d_M_append_33 rfl (lv_at hl 0 rfl) ?_
  refine gF (v := .int 2) hx hb hown hE hK hP 0 rfl rfl layM 0 (by decide) w319 (by simp [hl_fs]) d_M_append_34 ?_
  refine lv_if_le hx hb d_M_append_37 (tgt := 42) rfl (fun h9 => absurd h9 (by decide)) (fun _ => ?_)
  refine lv_iconst (v := 0) hx hb d_M_append_40 (by decide) ?_
  exact rtI hx hb hr hlk hP hD hS () rfl [0] rfl rfl (by decide) (Nat.le_of_ble_eq_true rfl) (Nat.le_of_ble_eq_true rfl) d_M_append_41
theorem d_M_delete_0 : decode prog_14_method_37_code 0 = .ok (.aload_n 0, 1) := by decide +kernel
theorem d_M_delete_1 : decode prog_14_method_37_code 1 = .ok (.aload_n 0, 1) := by decide +kernel
theorem d_M_delete_2 : decode prog_14_method_37_code 2 = .ok (.iload_n 1, 1) := by decide +kernel
theorem d_M_delete_3 : decode prog_14_method_37_code 3 = .ok (.invokevirtual 258, 3) := by decide +kernel
theorem d_M_delete_6 : decode prog_14_method_37_code 6 = .ok (.putfield 145, 3) := by decide +kernel
theorem d_M_delete_9 : decode prog_14_method_37_code 9 = .ok (.aload_n 0, 1) := by decide +kernel
theorem d_M_delete_10 : decode prog_14_method_37_code 10 = .ok (.aload_n 0, 1) := by decide +kernel
theorem d_M_delete_11 : decode prog_14_method_37_code 11 = .ok (.getfield 145, 3) := by decide +kernel
theorem d_M_delete_14 : decode prog_14_method_37_code 14 = .ok (.ifCond .ne 14, 3) := by decide +kernel
theorem d_M_delete_28 : decode prog_14_method_37_code 28 = .ok (.aload_n 0, 1) := by decide +kernel
theorem d_M_delete_29 : decode prog_14_method_37_code 29 = .ok (.getfield 145, 3) := by decide +kernel
theorem d_M_delete_32 : decode prog_14_method_37_code 32 = .ok (.putfield 145, 3) := by decide +kernel
theorem d_M_delete_35 : decode prog_14_method_37_code 35 = .ok (.aload_n 0, 1) := by decide +kernel
theorem d_M_delete_36 : decode prog_14_method_37_code 36 = .ok (.getfield 145, 3) := by decide +kernel
theorem d_M_delete_39 : decode prog_14_method_37_code 39 = .ok (.ifCond .le 5, 3) := by decide +kernel
theorem d_M_delete_42 : decode prog_14_method_37_code 42 = .ok (.iconst 0, 1) := by decide +kernel
theorem d_M_delete_43 : decode prog_14_method_37_code 43 = .ok (.ireturn, 1) := by decide +kernel
set_option maxHeartbeats 4000000 in
set_option maxRecDepth 100000 in
theorem c_M_delete_x (l : Launch) (D : va_G) (dA : Nat → ClassId) (sz : Nat) (a : Nat) (fs : List Value) (n : Int32) (t : Int64) (v : Int64) (h_fs_on : fs[7]? = some (.int 1)) (h_fs_seriesCount : fs[12]? = some (.int 0)) (hl_fs : fs.length = 79) : Met l ⟨"SeriesVaultModel", "delete", "(IJJ)I"⟩ [Cond.code ⟨"SeriesVaultModel", "delete", "(IJJ)I"⟩ prog_14_method_37_code 7 (some FieldType.int)] { frames := 2, cells := 0, slots := 0, locals := 21 } (pC D dA [.ref a, .int n, .long t, .long v] [(a, .inr (9, fs))] sz) (va_Qi (fun (r : Int32) (_ : Unit) => r = 0) (fun (u9 : Unit) t9 => bW D (va_A [(a, .inr (9, fs))] sz) [(a, .inr (9, ((fs.set 0 (.int 2)).set 0 (.int 2))))] t9) (va_A [(a, .inr (9, fs))] sz)) 0 0 (va_A [(a, .inr (9, fs))] sz) := by
  refine mkC (Qc := fun A => va_Qi (fun (r : Int32) (_ : Unit) => r = 0) (fun (u9 : Unit) t9 => bW D A [(a, .inr (9, ((fs.set 0 (.int 2)).set 0 (.int 2))))] t9) A) (by decide) (Nat.le_of_ble_eq_true rfl) ?_
  intro A p e s m below meth c ls hsz hB
  obtain ⟨hx, hb, hr, hml, hown, hin, hlk, hE, hK, hP, hD, hS, hA, hN, hl⟩ := hB
  have hown : s.vm.findClass "SeriesVaultModel" = some m.cls := hown
  have hin : meth.name = "delete" := hin
  have hl : lv_has ls 7 [(0, .ref a), (1, .int n), (2, .long t), (4, .long v)] := hl
  obtain ⟨H, hH⟩ : ∃ z, z = s.heap := ⟨_, rfl⟩
  have hP : va_P D vwCl [(a, .inr (9, fs))] H := by rw [hH]; exact hP
  have hS : va_S A s.heap H [] := by rw [hH]; exact hS
  rw [← hH]
  refine lv_aload_n hx hb d_M_delete_0 rfl (lv_at hl 0 rfl) ?_
  refine lv_aload_n hx hb d_M_delete_1 rfl (lv_at hl 0 rfl) ?_
  refine lv_iload_n hx hb d_M_delete_2 rfl (lv_at hl 1 rfl) ?_
  have hPc := hP.sub (ws' := [(a, .inr (9, fs))]) [0] rfl
  have hDc := hD.sub (ws' := [(a, .inr (9, fs))]) [0] (by decide) rfl
  refine jnI (rnV (As := [.int n]) (rest := [.ref a]) hx hb hml hown hE hK (hN _ _ hS) hPc hDc (c_M_seriesFault_x l D dA H.size a fs n h_fs_on h_fs_seriesCount hl_fs) (q0 := 0) rfl rfl w334 w333 w335 w336 w328 rfl rfl ⟨⟨by decide, by decide⟩, rfl⟩ ⟨(Nat.le_of_ble_eq_true rfl), (Nat.le_of_ble_eq_true rfl)⟩ rfl hl.1 rfl (Nat.le_of_ble_eq_true rfl) d_M_delete_3 ⟨(Nat.le_of_ble_eq_true rfl), (Nat.le_of_ble_eq_true rfl)⟩) hP hD hS hA [0] [] (wr := []) rfl rfl (by decide) (by decide) (fun r1 u9 H locs hp9 hP hD hS => ?_)
  have hP : va_P D vwCl [(a, .inr (9, fs))] H := hP
  have hD : va_D A [(a, .inr (9, fs))] := hD
  have hp9 : 2 = r1 := Eq.symm hp9
  subst hp9
  refine pF hx hb hown hE hK hP hD hS 0 rfl rfl layM tyM tokM nmM 0 (by decide) w319 rfl rfl rfl (by simp [hl_fs]) d_M_delete_6 (fun H locs hP hD hS => ?_)
  have hP : va_P D vwCl [(a, .inr (9, (fs.set 0 (.int 2))))] H := hP
  have hD : va_D A [(a, .inr (9, (fs.set 0 (.int 2))))] := hD
  refine lv_aload_n hx hb d_M_delete_9 rfl (lv_at hl 0 rfl) ?_
  refine lv_aload_n hx hb d_M_delete_10 rfl (lv_at hl 0 rfl) ?_
  refine gF (v := .int 2) hx hb hown hE hK hP 0 rfl rfl layM 0 (by decide) w319 (by simp [hl_fs]) d_M_delete_11 ?_
  refine lv_if_ne hx hb d_M_delete_14 (tgt := 28) rfl (fun _ => ?_) (fun h9 => absurd h9 (by decide))
  refine lv_aload_n hx hb d_M_delete_28 rfl (lv_at hl 0 rfl) ?_
  refine gF (v := .int 2) hx hb hown hE hK hP 0 rfl rfl layM 0 (by decide) w319 (by simp [hl_fs]) d_M_delete_29 ?_
  refine pF hx hb hown hE hK hP hD hS 0 rfl rfl layM tyM tokM nmM 0 (by decide) w319 rfl rfl rfl (by simp [hl_fs]) d_M_delete_32 (fun H locs hP hD hS => ?_)
  have hP : va_P D vwCl [(a, .inr (9, ((fs.set 0 (.int 2)).set 0 (.int 2))))] H := hP
  have hD : va_D A [(a, .inr (9, ((fs.set 0 (.int 2)).set 0 (.int 2))))] := hD
  refine lv_aload_n hx hb d_M_delete_35 rfl (lv_at hl 0 rfl) ?_
  refine gF (v := .int 2) hx hb hown hE hK hP 0 rfl rfl layM 0 (by decide) w319 (by simp [hl_fs]) d_M_delete_36 ?_
  refine lv_if_le hx hb d_M_delete_39 (tgt := 44) rfl (fun h9 => absurd h9 (by decide)) (fun _ => ?_)
  refine lv_iconst (v := 0) hx hb d_M_delete_42 (by decide) ?_
  exact rtI hx hb hr hlk hP hD hS () rfl [0] rfl rfl (by decide) (Nat.le_of_ble_eq_true rfl) (Nat.le_of_ble_eq_true rfl) d_M_delete_43
theorem d_M_synced_0 : decode prog_14_method_12_code 0 = .ok (.aload_n 0, 1) := by decide +kernel
theorem d_M_synced_1 : decode prog_14_method_12_code 1 = .ok (.getfield 194, 3) := by decide +kernel
theorem d_M_synced_4 : decode prog_14_method_12_code 4 = .ok (.ifCond .eq 12, 3) := by decide +kernel
theorem d_M_synced_16 : decode prog_14_method_12_code 16 = .ok (.aload_n 0, 1) := by decide +kernel
theorem d_M_synced_17 : decode prog_14_method_12_code 17 = .ok (.iconst 0, 1) := by decide +kernel
theorem d_M_synced_18 : decode prog_14_method_12_code 18 = .ok (.putfield 194, 3) := by decide +kernel
theorem d_M_synced_21 : decode prog_14_method_12_code 21 = .ok (.aload_n 0, 1) := by decide +kernel
theorem d_M_synced_22 : decode prog_14_method_12_code 22 = .ok (.aload_n 0, 1) := by decide +kernel
theorem d_M_synced_23 : decode prog_14_method_12_code 23 = .ok (.getfield 182, 3) := by decide +kernel
theorem d_M_synced_26 : decode prog_14_method_12_code 26 = .ok (.putfield 185, 3) := by decide +kernel
theorem d_M_synced_29 : decode prog_14_method_12_code 29 = .ok (.iconst 1, 1) := by decide +kernel
theorem d_M_synced_30 : decode prog_14_method_12_code 30 = .ok (.ireturn, 1) := by decide +kernel
theorem w337 : Cond.fieldLink "SeriesVaultModel" 194 "SeriesVaultModel" "fresh" "Z" ∈ aW := aw_of (tb_8 (List.mem_of_getElem? (i := 215) rfl)) rfl
theorem w338 : Cond.fieldLink "SeriesVaultModel" 182 "SeriesVaultModel" "records" "I" ∈ aW := aw_of (tb_8 (List.mem_of_getElem? (i := 211) rfl)) rfl
theorem w339 : Cond.fieldLink "SeriesVaultModel" 185 "SeriesVaultModel" "kept" "I" ∈ aW := aw_of (tb_8 (List.mem_of_getElem? (i := 212) rfl)) rfl
set_option maxHeartbeats 4000000 in
set_option maxRecDepth 100000 in
theorem c_M_synced (l : Launch) (D : va_G) (dA : Nat → ClassId) (sz : Nat) (a : Nat) (fs : List Value) (h_fs_records : fs[37]? = some (.int 0)) (h_fs_fresh : fs[41]? = some (.int 0)) (hl_fs : fs.length = 79) : Met l ⟨"SeriesVaultModel", "synced", "()Z"⟩ [Cond.code ⟨"SeriesVaultModel", "synced", "()Z"⟩ prog_14_method_12_code 1 (some FieldType.boolean)] { frames := 1, cells := 0, slots := 0, locals := 0 } (pC D dA [.ref a] [(a, .inr (9, fs))] sz) (va_Qi (fun (r : Int32) (_ : Unit) => r = 1) (fun (u9 : Unit) t9 => bW D (va_A [(a, .inr (9, fs))] sz) [(a, .inr (9, ((fs.set 41 (.int 0)).set 38 (.int 0))))] t9) (va_A [(a, .inr (9, fs))] sz)) 0 0 (va_A [(a, .inr (9, fs))] sz) := by
  refine mkC (Qc := fun A => va_Qi (fun (r : Int32) (_ : Unit) => r = 1) (fun (u9 : Unit) t9 => bW D A [(a, .inr (9, ((fs.set 41 (.int 0)).set 38 (.int 0))))] t9) A) (by decide) (Nat.le_of_ble_eq_true rfl) ?_
  intro A p e s m below meth c ls hsz hB
  obtain ⟨hx, hb, hr, hml, hown, hin, hlk, hE, hK, hP, hD, hS, hA, hN, hl⟩ := hB
  have hown : s.vm.findClass "SeriesVaultModel" = some m.cls := hown
  have hin : meth.name = "synced" := hin
  have hl : lv_has ls 1 [(0, .ref a)] := hl
  obtain ⟨H, hH⟩ : ∃ z, z = s.heap := ⟨_, rfl⟩
  have hP : va_P D vwCl [(a, .inr (9, fs))] H := by rw [hH]; exact hP
  have hS : va_S A s.heap H [] := by rw [hH]; exact hS
  rw [← hH]
  refine lv_aload_n hx hb d_M_synced_0 rfl (lv_at hl 0 rfl) ?_
  refine gF (v := .int 0) hx hb hown hE hK hP 0 rfl rfl layM 41 (by decide) w337 h_fs_fresh d_M_synced_1 ?_
  refine lv_if_eq hx hb d_M_synced_4 (tgt := 16) rfl (fun _ => ?_) (fun h9 => absurd (by decide) h9)
  refine lv_aload_n hx hb d_M_synced_16 rfl (lv_at hl 0 rfl) ?_
  refine lv_iconst (v := 0) hx hb d_M_synced_17 (by decide) ?_
  refine pF hx hb hown hE hK hP hD hS 0 rfl rfl layM tyM tokM nmM 41 (by decide) w337 rfl rfl rfl (by simp [hl_fs]) d_M_synced_18 (fun H locs hP hD hS => ?_)
  have hP : va_P D vwCl [(a, .inr (9, (fs.set 41 (.int 0))))] H := hP
  have hD : va_D A [(a, .inr (9, (fs.set 41 (.int 0))))] := hD
  refine lv_aload_n hx hb d_M_synced_21 rfl (lv_at hl 0 rfl) ?_
  refine lv_aload_n hx hb d_M_synced_22 rfl (lv_at hl 0 rfl) ?_
  refine gF (v := .int 0) hx hb hown hE hK hP 0 rfl rfl layM 37 (by decide) w338 (by simp [h_fs_records]) d_M_synced_23 ?_
  refine pF hx hb hown hE hK hP hD hS 0 rfl rfl layM tyM tokM nmM 38 (by decide) w339 rfl rfl rfl (by simp [hl_fs]) d_M_synced_26 (fun H locs hP hD hS => ?_)
  have hP : va_P D vwCl [(a, .inr (9, ((fs.set 41 (.int 0)).set 38 (.int 0))))] H := hP
  have hD : va_D A [(a, .inr (9, ((fs.set 41 (.int 0)).set 38 (.int 0))))] := hD
  refine lv_iconst (v := 1) hx hb d_M_synced_29 (by decide) ?_
  exact rtZ hx hb hr (by decide) hlk hP hD hS () rfl [0] rfl rfl (by decide) (Nat.le_of_ble_eq_true rfl) (Nat.le_of_ble_eq_true rfl) d_M_synced_30
theorem d_M_sync_0 : decode prog_14_method_43_code 0 = .ok (.aload_n 0, 1) := by decide +kernel
theorem d_M_sync_1 : decode prog_14_method_43_code 1 = .ok (.aload_n 0, 1) := by decide +kernel
theorem d_M_sync_2 : decode prog_14_method_43_code 2 = .ok (.getfield 21, 3) := by decide +kernel
theorem d_M_sync_5 : decode prog_14_method_43_code 5 = .ok (.ifCond .eq 7, 3) := by decide +kernel
theorem d_M_sync_8 : decode prog_14_method_43_code 8 = .ok (.iconst 0, 1) := by decide +kernel
theorem d_M_sync_9 : decode prog_14_method_43_code 9 = .ok (.goto 4, 3) := by decide +kernel
theorem d_M_sync_13 : decode prog_14_method_43_code 13 = .ok (.putfield 145, 3) := by decide +kernel
theorem d_M_sync_16 : decode prog_14_method_43_code 16 = .ok (.aload_n 0, 1) := by decide +kernel
theorem d_M_sync_17 : decode prog_14_method_43_code 17 = .ok (.getfield 145, 3) := by decide +kernel
theorem d_M_sync_20 : decode prog_14_method_43_code 20 = .ok (.ifCond .le 5, 3) := by decide +kernel
theorem d_M_sync_25 : decode prog_14_method_43_code 25 = .ok (.aload_n 0, 1) := by decide +kernel
theorem d_M_sync_26 : decode prog_14_method_43_code 26 = .ok (.getfield 194, 3) := by decide +kernel
theorem d_M_sync_29 : decode prog_14_method_43_code 29 = .ok (.istore_n 1, 1) := by decide +kernel
theorem d_M_sync_30 : decode prog_14_method_43_code 30 = .ok (.aload_n 0, 1) := by decide +kernel
theorem d_M_sync_31 : decode prog_14_method_43_code 31 = .ok (.aload_n 0, 1) := by decide +kernel
theorem d_M_sync_32 : decode prog_14_method_43_code 32 = .ok (.invokevirtual 204, 3) := by decide +kernel
theorem d_M_sync_35 : decode prog_14_method_43_code 35 = .ok (.ifCond .eq 7, 3) := by decide +kernel
theorem d_M_sync_38 : decode prog_14_method_43_code 38 = .ok (.iconst 0, 1) := by decide +kernel
theorem d_M_sync_39 : decode prog_14_method_43_code 39 = .ok (.goto 4, 3) := by decide +kernel
theorem d_M_sync_43 : decode prog_14_method_43_code 43 = .ok (.putfield 145, 3) := by decide +kernel
theorem d_M_sync_46 : decode prog_14_method_43_code 46 = .ok (.aload_n 0, 1) := by decide +kernel
theorem d_M_sync_47 : decode prog_14_method_43_code 47 = .ok (.getfield 145, 3) := by decide +kernel
theorem d_M_sync_50 : decode prog_14_method_43_code 50 = .ok (.ifCond .ne 11, 3) := by decide +kernel
theorem d_M_sync_53 : decode prog_14_method_43_code 53 = .ok (.iload_n 1, 1) := by decide +kernel
theorem d_M_sync_54 : decode prog_14_method_43_code 54 = .ok (.ifCond .eq 7, 3) := by decide +kernel
theorem d_M_sync_61 : decode prog_14_method_43_code 61 = .ok (.iconst 0, 1) := by decide +kernel
theorem d_M_sync_62 : decode prog_14_method_43_code 62 = .ok (.ireturn, 1) := by decide +kernel
theorem w340 : Cond.methodLink "SeriesVaultModel" 204 ⟨"SeriesVaultModel", "synced", "()Z"⟩ ∈ aW := aw_of (tb_9 (List.mem_of_getElem? (i := 234) rfl)) rfl
theorem w341 : Cond.code ⟨"SeriesVaultModel", "synced", "()Z"⟩ prog_14_method_12_code 1 (some FieldType.boolean) ∈ aW := aw_of (tb_9 (List.mem_of_getElem? (i := 237) rfl)) rfl
theorem w342 : Cond.instanceMethod ⟨"SeriesVaultModel", "synced", "()Z"⟩ ∈ aW := aw_of (tb_9 (List.mem_of_getElem? (i := 236) rfl)) rfl
theorem w343 : Cond.selects "SeriesVaultModel" ⟨"SeriesVaultModel", "synced", "()Z"⟩ ⟨"SeriesVaultModel", "synced", "()Z"⟩ ∈ aW := aw_pr (List.mem_map.mpr ⟨_, pv_5 (List.mem_of_getElem? (i := 11) rfl), rfl⟩) rfl
set_option maxHeartbeats 4000000 in
set_option maxRecDepth 100000 in
theorem c_M_sync_0 (l : Launch) (D : va_G) (dA : Nat → ClassId) (sz : Nat) (a : Nat) (fs : List Value) (h_fs_on : fs[7]? = some (.int 1)) (h_fs_records : fs[37]? = some (.int 0)) (h_fs_fresh : fs[41]? = some (.int 0)) (hl_fs : fs.length = 79) : Met l ⟨"SeriesVaultModel", "sync", "()Z"⟩ [Cond.code ⟨"SeriesVaultModel", "sync", "()Z"⟩ prog_14_method_43_code 2 (some FieldType.boolean)] { frames := 2, cells := 0, slots := 0, locals := 20 } (pC D dA [.ref a] [(a, .inr (9, fs))] sz) (va_Qi (fun (r : Int32) (_ : Unit) => r = 0) (fun (u9 : Unit) t9 => bW D (va_A [(a, .inr (9, fs))] sz) [(a, .inr (9, ((((fs.set 0 (.int 0)).set 41 (.int 0)).set 38 (.int 0)).set 0 (.int 0))))] t9) (va_A [(a, .inr (9, fs))] sz)) 0 0 (va_A [(a, .inr (9, fs))] sz) := by
  refine mkC (Qc := fun A => va_Qi (fun (r : Int32) (_ : Unit) => r = 0) (fun (u9 : Unit) t9 => bW D A [(a, .inr (9, ((((fs.set 0 (.int 0)).set 41 (.int 0)).set 38 (.int 0)).set 0 (.int 0))))] t9) A) (by decide) (Nat.le_of_ble_eq_true rfl) ?_
  intro A p e s m below meth c ls hsz hB
  obtain ⟨hx, hb, hr, hml, hown, hin, hlk, hE, hK, hP, hD, hS, hA, hN, hl⟩ := hB
  have hown : s.vm.findClass "SeriesVaultModel" = some m.cls := hown
  have hin : meth.name = "sync" := hin
  have hl : lv_has ls 2 [(0, .ref a)] := hl
  obtain ⟨H, hH⟩ : ∃ z, z = s.heap := ⟨_, rfl⟩
  have hP : va_P D vwCl [(a, .inr (9, fs))] H := by rw [hH]; exact hP
  have hS : va_S A s.heap H [] := by rw [hH]; exact hS
  rw [← hH]
  refine lv_aload_n hx hb d_M_sync_0 rfl (lv_at hl 0 rfl) ?_
  refine lv_aload_n hx hb d_M_sync_1 rfl (lv_at hl 0 rfl) ?_
  refine gF (v := .int 1) hx hb hown hE hK hP 0 rfl rfl layM 7 (by decide) w324 h_fs_on d_M_sync_2 ?_
  refine lv_if_eq hx hb d_M_sync_5 (tgt := 12) rfl (fun h9 => absurd h9 (by decide)) (fun _ => ?_)
  refine lv_iconst (v := 0) hx hb d_M_sync_8 (by decide) ?_
  refine lv_goto hx hb d_M_sync_9 (tgt := 13) rfl ?_
  refine pF hx hb hown hE hK hP hD hS 0 rfl rfl layM tyM tokM nmM 0 (by decide) w319 rfl rfl rfl (by simp [hl_fs]) d_M_sync_13 (fun H locs hP hD hS => ?_)
  have hP : va_P D vwCl [(a, .inr (9, (fs.set 0 (.int 0))))] H := hP
  have hD : va_D A [(a, .inr (9, (fs.set 0 (.int 0))))] := hD
  refine lv_aload_n hx hb d_M_sync_16 rfl (lv_at hl 0 rfl) ?_
  refine gF (v := .int 0) hx hb hown hE hK hP 0 rfl rfl layM 0 (by decide) w319 (by simp [hl_fs]) d_M_sync_17 ?_
  refine lv_if_le hx hb d_M_sync_20 (tgt := 25) rfl (fun _ => ?_) (fun h9 => absurd (by decide) h9)
  refine lv_aload_n hx hb d_M_sync_25 rfl (lv_at hl 0 rfl) ?_
  refine gF (v := .int 0) hx hb hown hE hK hP 0 rfl rfl layM 41 (by decide) w337 (by simp [h_fs_fresh]) d_M_sync_26 ?_
  refine lv_istore_n hx hb d_M_sync_29 rfl hl (by decide) rfl (fun ls hl => ?_)
  have hl : lv_has ls 2 [(1, .int 0), (0, .ref a)] := hl
  refine lv_aload_n hx hb d_M_sync_30 rfl (lv_at hl 1 rfl) ?_
  refine lv_aload_n hx hb d_M_sync_31 rfl (lv_at hl 1 rfl) ?_
  have hPc := hP.sub (ws' := [(a, .inr (9, (fs.set 0 (.int 0))))]) [0] rfl
  have hDc := hD.sub (ws' := [(a, .inr (9, (fs.set 0 (.int 0))))]) [0] (by decide) rfl
  refine jnI (rnV (As := []) (rest := [.ref a]) hx hb hml hown hE hK (hN _ _ hS) hPc hDc (c_M_synced l D dA H.size a (fs.set 0 (.int 0)) (by simp [h_fs_records]) (by simp [h_fs_fresh]) (by simp [hl_fs])) (q0 := 0) rfl rfl w341 w340 w342 w343 w328 rfl rfl ⟨⟨by decide, by decide⟩, rfl⟩ ⟨(Nat.le_of_ble_eq_true rfl), (Nat.le_of_ble_eq_true rfl)⟩ rfl hl.1 rfl (Nat.le_of_ble_eq_true rfl) d_M_sync_32 ⟨(Nat.le_of_ble_eq_true rfl), (Nat.le_of_ble_eq_true rfl)⟩) hP hD hS hA [0] [] (wr := []) rfl rfl (by decide) (by decide) (fun r1 u9 H locs hp9 hP hD hS => ?_)
  have hP : va_P D vwCl [(a, .inr (9, (((fs.set 0 (.int 0)).set 41 (.int 0)).set 38 (.int 0))))] H := hP
  have hD : va_D A [(a, .inr (9, (((fs.set 0 (.int 0)).set 41 (.int 0)).set 38 (.int 0))))] := hD
  have hp9 : 1 = r1 := Eq.symm hp9
  subst hp9
  refine lv_if_eq hx hb d_M_sync_35 (tgt := 42) rfl (fun h9 => absurd h9 (by decide)) (fun _ => ?_)
  refine lv_iconst (v := 0) hx hb d_M_sync_38 (by decide) ?_
  refine lv_goto hx hb d_M_sync_39 (tgt := 43) rfl ?_
  refine pF hx hb hown hE hK hP hD hS 0 rfl rfl layM tyM tokM nmM 0 (by decide) w319 rfl rfl rfl (by simp [hl_fs]) d_M_sync_43 (fun H locs hP hD hS => ?_)
  have hP : va_P D vwCl [(a, .inr (9, ((((fs.set 0 (.int 0)).set 41 (.int 0)).set 38 (.int 0)).set 0 (.int 0))))] H := hP
  have hD : va_D A [(a, .inr (9, ((((fs.set 0 (.int 0)).set 41 (.int 0)).set 38 (.int 0)).set 0 (.int 0))))] := hD
  refine lv_aload_n hx hb d_M_sync_46 rfl (lv_at hl 1 rfl) ?_
  refine gF (v := .int 0) hx hb hown hE hK hP 0 rfl rfl layM 0 (by decide) w319 (by simp [hl_fs]) d_M_sync_47 ?_
  refine lv_if_ne hx hb d_M_sync_50 (tgt := 61) rfl (fun h9 => absurd (by decide) h9) (fun _ => ?_)
  refine lv_iload_n hx hb d_M_sync_53 rfl (lv_at hl 0 rfl) ?_
  refine lv_if_eq hx hb d_M_sync_54 (tgt := 61) rfl (fun _ => ?_) (fun h9 => absurd (by decide) h9)
  refine lv_iconst (v := 0) hx hb d_M_sync_61 (by decide) ?_
  exact rtZ hx hb hr (by decide) hlk hP hD hS () rfl [0] rfl rfl (by decide) (Nat.le_of_ble_eq_true rfl) (Nat.le_of_ble_eq_true rfl) d_M_sync_62
theorem d_M_flush_0 : decode prog_14_method_44_code 0 = .ok (.aload_n 0, 1) := by decide +kernel
theorem d_M_flush_1 : decode prog_14_method_44_code 1 = .ok (.aload_n 0, 1) := by decide +kernel
theorem d_M_flush_2 : decode prog_14_method_44_code 2 = .ok (.getfield 21, 3) := by decide +kernel
theorem d_M_flush_5 : decode prog_14_method_44_code 5 = .ok (.ifCond .eq 7, 3) := by decide +kernel
theorem d_M_flush_8 : decode prog_14_method_44_code 8 = .ok (.iconst 0, 1) := by decide +kernel
theorem d_M_flush_9 : decode prog_14_method_44_code 9 = .ok (.goto 4, 3) := by decide +kernel
theorem d_M_flush_13 : decode prog_14_method_44_code 13 = .ok (.putfield 145, 3) := by decide +kernel
theorem d_M_flush_16 : decode prog_14_method_44_code 16 = .ok (.aload_n 0, 1) := by decide +kernel
theorem d_M_flush_17 : decode prog_14_method_44_code 17 = .ok (.getfield 145, 3) := by decide +kernel
theorem d_M_flush_20 : decode prog_14_method_44_code 20 = .ok (.ifCond .gt 10, 3) := by decide +kernel
theorem d_M_flush_23 : decode prog_14_method_44_code 23 = .ok (.aload_n 0, 1) := by decide +kernel
theorem d_M_flush_24 : decode prog_14_method_44_code 24 = .ok (.getfield 182, 3) := by decide +kernel
theorem d_M_flush_27 : decode prog_14_method_44_code 27 = .ok (.ifCond .ne 5, 3) := by decide +kernel
theorem d_M_flush_30 : decode prog_14_method_44_code 30 = .ok (.iconst 0, 1) := by decide +kernel
theorem d_M_flush_31 : decode prog_14_method_44_code 31 = .ok (.ireturn, 1) := by decide +kernel
set_option maxHeartbeats 4000000 in
set_option maxRecDepth 100000 in
theorem c_M_flush_0 (l : Launch) (D : va_G) (dA : Nat → ClassId) (sz : Nat) (a : Nat) (fs : List Value) (h_fs_on : fs[7]? = some (.int 1)) (h_fs_records : fs[37]? = some (.int 0)) (hl_fs : fs.length = 79) : Met l ⟨"SeriesVaultModel", "flush", "()I"⟩ [Cond.code ⟨"SeriesVaultModel", "flush", "()I"⟩ prog_14_method_44_code 5 (some FieldType.int)] { frames := 1, cells := 0, slots := 0, locals := 0 } (pC D dA [.ref a] [(a, .inr (9, fs))] sz) (va_Qi (fun (r : Int32) (_ : Unit) => r = 0) (fun (u9 : Unit) t9 => bW D (va_A [(a, .inr (9, fs))] sz) [(a, .inr (9, (fs.set 0 (.int 0))))] t9) (va_A [(a, .inr (9, fs))] sz)) 0 0 (va_A [(a, .inr (9, fs))] sz) := by
  refine mkC (Qc := fun A => va_Qi (fun (r : Int32) (_ : Unit) => r = 0) (fun (u9 : Unit) t9 => bW D A [(a, .inr (9, (fs.set 0 (.int 0))))] t9) A) (by decide) (Nat.le_of_ble_eq_true rfl) ?_
  intro A p e s m below meth c ls hsz hB
  obtain ⟨hx, hb, hr, hml, hown, hin, hlk, hE, hK, hP, hD, hS, hA, hN, hl⟩ := hB
  have hown : s.vm.findClass "SeriesVaultModel" = some m.cls := hown
  have hin : meth.name = "flush" := hin
  have hl : lv_has ls 5 [(0, .ref a)] := hl
  obtain ⟨H, hH⟩ : ∃ z, z = s.heap := ⟨_, rfl⟩
  have hP : va_P D vwCl [(a, .inr (9, fs))] H := by rw [hH]; exact hP
  have hS : va_S A s.heap H [] := by rw [hH]; exact hS
  rw [← hH]
  refine lv_aload_n hx hb d_M_flush_0 rfl (lv_at hl 0 rfl) ?_
  refine lv_aload_n hx hb d_M_flush_1 rfl (lv_at hl 0 rfl) ?_
  refine gF (v := .int 1) hx hb hown hE hK hP 0 rfl rfl layM 7 (by decide) w324 h_fs_on d_M_flush_2 ?_
  refine lv_if_eq hx hb d_M_flush_5 (tgt := 12) rfl (fun h9 => absurd h9 (by decide)) (fun _ => ?_)
  refine lv_iconst (v := 0) hx hb d_M_flush_8 (by decide) ?_
  refine lv_goto hx hb d_M_flush_9 (tgt := 13) rfl ?_
  refine pF hx hb hown hE hK hP hD hS 0 rfl rfl layM tyM tokM nmM 0 (by decide) w319 rfl rfl rfl (by simp [hl_fs]) d_M_flush_13 (fun H locs hP hD hS => ?_)
  have hP : va_P D vwCl [(a, .inr (9, (fs.set 0 (.int 0))))] H := hP
  have hD : va_D A [(a, .inr (9, (fs.set 0 (.int 0))))] := hD
  refine lv_aload_n hx hb d_M_flush_16 rfl (lv_at hl 0 rfl) ?_
  refine gF (v := .int 0) hx hb hown hE hK hP 0 rfl rfl layM 0 (by decide) w319 (by simp [hl_fs]) d_M_flush_17 ?_
  refine lv_if_gt hx hb d_M_flush_20 (tgt := 30) rfl (fun h9 => absurd h9 (by decide)) (fun _ => ?_)
  refine lv_aload_n hx hb d_M_flush_23 rfl (lv_at hl 0 rfl) ?_
  refine gF (v := .int 0) hx hb hown hE hK hP 0 rfl rfl layM 37 (by decide) w338 (by simp [h_fs_records]) d_M_flush_24 ?_
  refine lv_if_ne hx hb d_M_flush_27 (tgt := 32) rfl (fun h9 => absurd (by decide) h9) (fun _ => ?_)
  refine lv_iconst (v := 0) hx hb d_M_flush_30 (by decide) ?_
  exact rtI hx hb hr hlk hP hD hS () rfl [0] rfl rfl (by decide) (Nat.le_of_ble_eq_true rfl) (Nat.le_of_ble_eq_true rfl) d_M_flush_31
theorem d_M_compact_0 : decode prog_14_method_45_code 0 = .ok (.aload_n 0, 1) := by decide +kernel
theorem d_M_compact_1 : decode prog_14_method_45_code 1 = .ok (.aload_n 0, 1) := by decide +kernel
theorem d_M_compact_2 : decode prog_14_method_45_code 2 = .ok (.getfield 21, 3) := by decide +kernel
theorem d_M_compact_5 : decode prog_14_method_45_code 5 = .ok (.ifCond .ne 7, 3) := by decide +kernel
theorem d_M_compact_12 : decode prog_14_method_45_code 12 = .ok (.iload_n 1, 1) := by decide +kernel
theorem d_M_compact_13 : decode prog_14_method_45_code 13 = .ok (.ifCond .lt 13, 3) := by decide +kernel
theorem d_M_compact_26 : decode prog_14_method_45_code 26 = .ok (.iconst 2, 1) := by decide +kernel
theorem d_M_compact_27 : decode prog_14_method_45_code 27 = .ok (.goto 4, 3) := by decide +kernel
theorem d_M_compact_31 : decode prog_14_method_45_code 31 = .ok (.putfield 145, 3) := by decide +kernel
theorem d_M_compact_34 : decode prog_14_method_45_code 34 = .ok (.aload_n 0, 1) := by decide +kernel
theorem d_M_compact_35 : decode prog_14_method_45_code 35 = .ok (.getfield 145, 3) := by decide +kernel
theorem d_M_compact_38 : decode prog_14_method_45_code 38 = .ok (.ifCond .le 5, 3) := by decide +kernel
theorem d_M_compact_41 : decode prog_14_method_45_code 41 = .ok (.iconst 0, 1) := by decide +kernel
theorem d_M_compact_42 : decode prog_14_method_45_code 42 = .ok (.ireturn, 1) := by decide +kernel
theorem d_M_compact_16 : decode prog_14_method_45_code 16 = .ok (.iload_n 1, 1) := by decide +kernel
theorem d_M_compact_17 : decode prog_14_method_45_code 17 = .ok (.aload_n 0, 1) := by decide +kernel
theorem d_M_compact_18 : decode prog_14_method_45_code 18 = .ok (.getfield 179, 3) := by decide +kernel
theorem d_M_compact_21 : decode prog_14_method_45_code 21 = .ok (.iconst 1, 1) := by decide +kernel
theorem d_M_compact_22 : decode prog_14_method_45_code 22 = .ok (.isub, 1) := by decide +kernel
theorem d_M_compact_23 : decode prog_14_method_45_code 23 = .ok (.if_icmp .lt 7, 3) := by decide +kernel
theorem w344 : Cond.fieldLink "SeriesVaultModel" 179 "SeriesVaultModel" "parcelCount" "I" ∈ aW := aw_of (tb_8 (List.mem_of_getElem? (i := 202) rfl)) rfl
set_option maxHeartbeats 4000000 in
set_option maxRecDepth 100000 in
theorem c_M_compact_x (l : Launch) (D : va_G) (dA : Nat → ClassId) (sz : Nat) (a : Nat) (fs : List Value) (n : Int32) (h_fs_on : fs[7]? = some (.int 1)) (h_fs_parcelCount : fs[28]? = some (.int 0)) (hl_fs : fs.length = 79) : Met l ⟨"SeriesVaultModel", "compact", "(I)I"⟩ [Cond.code ⟨"SeriesVaultModel", "compact", "(I)I"⟩ prog_14_method_45_code 7 (some FieldType.int)] { frames := 1, cells := 0, slots := 0, locals := 0 } (pC D dA [.ref a, .int n] [(a, .inr (9, fs))] sz) (va_Qi (fun (r : Int32) (_ : Unit) => r = 0) (fun (u9 : Unit) t9 => bW D (va_A [(a, .inr (9, fs))] sz) [(a, .inr (9, (fs.set 0 (.int 2))))] t9) (va_A [(a, .inr (9, fs))] sz)) 0 0 (va_A [(a, .inr (9, fs))] sz) := by
  refine mkC (Qc := fun A => va_Qi (fun (r : Int32) (_ : Unit) => r = 0) (fun (u9 : Unit) t9 => bW D A [(a, .inr (9, (fs.set 0 (.int 2))))] t9) A) (by decide) (Nat.le_of_ble_eq_true rfl) ?_
  intro A p e s m below meth c ls hsz hB
  obtain ⟨hx, hb, hr, hml, hown, hin, hlk, hE, hK, hP, hD, hS, hA, hN, hl⟩ := hB
  have hown : s.vm.findClass "SeriesVaultModel" = some m.cls := hown
  have hin : meth.name = "compact" := hin
  have hl : lv_has ls 7 [(0, .ref a), (1, .int n)] := hl
  obtain ⟨H, hH⟩ : ∃ z, z = s.heap := ⟨_, rfl⟩
  have hP : va_P D vwCl [(a, .inr (9, fs))] H := by rw [hH]; exact hP
  have hS : va_S A s.heap H [] := by rw [hH]; exact hS
  rw [← hH]
  refine lv_aload_n hx hb d_M_compact_0 rfl (lv_at hl 0 rfl) ?_
  refine lv_aload_n hx hb d_M_compact_1 rfl (lv_at hl 0 rfl) ?_
  refine gF (v := .int 1) hx hb hown hE hK hP 0 rfl rfl layM 7 (by decide) w324 h_fs_on d_M_compact_2 ?_
  refine lv_if_ne hx hb d_M_compact_5 (tgt := 12) rfl (fun _ => ?_) (fun h9 => absurd h9 (by decide))
  refine lv_iload_n hx hb d_M_compact_12 rfl (lv_at hl 1 rfl) ?_
  refine lv_if_lt hx hb d_M_compact_13 (tgt := 26) rfl (fun hc => ?_) (fun hc => ?_)
  · refine lv_iconst (v := 2) hx hb d_M_compact_26 (by decide) ?_
    refine lv_goto hx hb d_M_compact_27 (tgt := 31) rfl ?_
    refine pF hx hb hown hE hK hP hD hS 0 rfl rfl layM tyM tokM nmM 0 (by decide) w319 rfl rfl rfl (by simp [hl_fs]) d_M_compact_31 (fun H locs hP hD hS => ?_)
    have hP : va_P D vwCl [(a, .inr (9, (fs.set 0 (.int 2))))] H := hP
    have hD : va_D A [(a, .inr (9, (fs.set 0 (.int 2))))] := hD
    refine lv_aload_n hx hb d_M_compact_34 rfl (lv_at hl 0 rfl) ?_
    refine gF (v := .int 2) hx hb hown hE hK hP 0 rfl rfl layM 0 (by decide) w319 (by simp [hl_fs]) d_M_compact_35 ?_
    refine lv_if_le hx hb d_M_compact_38 (tgt := 43) rfl (fun h9 => absurd h9 (by decide)) (fun _ => ?_)
    refine lv_iconst (v := 0) hx hb d_M_compact_41 (by decide) ?_
    exact rtI hx hb hr hlk hP hD hS () rfl [0] rfl rfl (by decide) (Nat.le_of_ble_eq_true rfl) (Nat.le_of_ble_eq_true rfl) d_M_compact_42
  · refine lv_iload_n hx hb d_M_compact_16 rfl (lv_at hl 1 rfl) ?_
    refine lv_aload_n hx hb d_M_compact_17 rfl (lv_at hl 0 rfl) ?_
    refine gF (v := .int 0) hx hb hown hE hK hP 0 rfl rfl layM 28 (by decide) w344 h_fs_parcelCount d_M_compact_18 ?_
    refine lv_iconst (v := 1) hx hb d_M_compact_21 (by decide) ?_
    refine lv_isub hx hb d_M_compact_22 (tpi (y := (-1)) (by decide) ?_)
    refine lv_icmp_lt hx hb d_M_compact_23 (tgt := 30) rfl (fun h9 => absurd h9 (nlt_m1 hc)) (fun _ => ?_)
    refine lv_iconst (v := 2) hx hb d_M_compact_26 (by decide) ?_
    refine lv_goto hx hb d_M_compact_27 (tgt := 31) rfl ?_
    refine pF hx hb hown hE hK hP hD hS 0 rfl rfl layM tyM tokM nmM 0 (by decide) w319 rfl rfl rfl (by simp [hl_fs]) d_M_compact_31 (fun H locs hP hD hS => ?_)
    have hP : va_P D vwCl [(a, .inr (9, (fs.set 0 (.int 2))))] H := hP
    have hD : va_D A [(a, .inr (9, (fs.set 0 (.int 2))))] := hD
    refine lv_aload_n hx hb d_M_compact_34 rfl (lv_at hl 0 rfl) ?_
    refine gF (v := .int 2) hx hb hown hE hK hP 0 rfl rfl layM 0 (by decide) w319 (by simp [hl_fs]) d_M_compact_35 ?_
    refine lv_if_le hx hb d_M_compact_38 (tgt := 43) rfl (fun h9 => absurd h9 (by decide)) (fun _ => ?_)
    refine lv_iconst (v := 0) hx hb d_M_compact_41 (by decide) ?_
    exact rtI hx hb hr hlk hP hD hS () rfl [0] rfl rfl (by decide) (Nat.le_of_ble_eq_true rfl) (Nat.le_of_ble_eq_true rfl) d_M_compact_42
theorem d_M_parcel_0 : decode prog_14_method_49_code 0 = .ok (.aload_n 0, 1) := by decide +kernel
theorem d_M_parcel_1 : decode prog_14_method_49_code 1 = .ok (.aload_n 0, 1) := by decide +kernel
theorem d_M_parcel_2 : decode prog_14_method_49_code 2 = .ok (.getfield 21, 3) := by decide +kernel
theorem d_M_parcel_5 : decode prog_14_method_49_code 5 = .ok (.ifCond .ne 7, 3) := by decide +kernel
theorem d_M_parcel_12 : decode prog_14_method_49_code 12 = .ok (.iload_n 1, 1) := by decide +kernel
theorem d_M_parcel_13 : decode prog_14_method_49_code 13 = .ok (.ifCond .lt 11, 3) := by decide +kernel
theorem d_M_parcel_24 : decode prog_14_method_49_code 24 = .ok (.iconst 2, 1) := by decide +kernel
theorem d_M_parcel_25 : decode prog_14_method_49_code 25 = .ok (.goto 17, 3) := by decide +kernel
theorem d_M_parcel_42 : decode prog_14_method_49_code 42 = .ok (.putfield 145, 3) := by decide +kernel
theorem d_M_parcel_45 : decode prog_14_method_49_code 45 = .ok (.aload_n 0, 1) := by decide +kernel
theorem d_M_parcel_46 : decode prog_14_method_49_code 46 = .ok (.getfield 145, 3) := by decide +kernel
theorem d_M_parcel_49 : decode prog_14_method_49_code 49 = .ok (.ifCond .le 5, 3) := by decide +kernel
theorem d_M_parcel_52 : decode prog_14_method_49_code 52 = .ok (.iconst 0, 1) := by decide +kernel
theorem d_M_parcel_53 : decode prog_14_method_49_code 53 = .ok (.ireturn, 1) := by decide +kernel
theorem d_M_parcel_16 : decode prog_14_method_49_code 16 = .ok (.iload_n 1, 1) := by decide +kernel
theorem d_M_parcel_17 : decode prog_14_method_49_code 17 = .ok (.aload_n 0, 1) := by decide +kernel
theorem d_M_parcel_18 : decode prog_14_method_49_code 18 = .ok (.getfield 179, 3) := by decide +kernel
theorem d_M_parcel_21 : decode prog_14_method_49_code 21 = .ok (.if_icmp .lt 7, 3) := by decide +kernel
set_option maxHeartbeats 4000000 in
set_option maxRecDepth 100000 in
theorem c_M_parcel_x (l : Launch) (D : va_G) (dA : Nat → ClassId) (sz : Nat) (a : Nat) (fs : List Value) (n : Int32) (i : Int32) (h_fs_on : fs[7]? = some (.int 1)) (h_fs_parcelCount : fs[28]? = some (.int 0)) (hl_fs : fs.length = 79) : Met l ⟨"SeriesVaultModel", "parcel", "(II)I"⟩ [Cond.code ⟨"SeriesVaultModel", "parcel", "(II)I"⟩ prog_14_method_49_code 10 (some FieldType.int)] { frames := 1, cells := 0, slots := 0, locals := 0 } (pC D dA [.ref a, .int n, .int i] [(a, .inr (9, fs))] sz) (va_Qi (fun (r : Int32) (_ : Unit) => r = 0) (fun (u9 : Unit) t9 => bW D (va_A [(a, .inr (9, fs))] sz) [(a, .inr (9, (fs.set 0 (.int 2))))] t9) (va_A [(a, .inr (9, fs))] sz)) 0 0 (va_A [(a, .inr (9, fs))] sz) := by
  refine mkC (Qc := fun A => va_Qi (fun (r : Int32) (_ : Unit) => r = 0) (fun (u9 : Unit) t9 => bW D A [(a, .inr (9, (fs.set 0 (.int 2))))] t9) A) (by decide) (Nat.le_of_ble_eq_true rfl) ?_
  intro A p e s m below meth c ls hsz hB
  obtain ⟨hx, hb, hr, hml, hown, hin, hlk, hE, hK, hP, hD, hS, hA, hN, hl⟩ := hB
  have hown : s.vm.findClass "SeriesVaultModel" = some m.cls := hown
  have hin : meth.name = "parcel" := hin
  have hl : lv_has ls 10 [(0, .ref a), (1, .int n), (2, .int i)] := hl
  obtain ⟨H, hH⟩ : ∃ z, z = s.heap := ⟨_, rfl⟩
  have hP : va_P D vwCl [(a, .inr (9, fs))] H := by rw [hH]; exact hP
  have hS : va_S A s.heap H [] := by rw [hH]; exact hS
  rw [← hH]
  refine lv_aload_n hx hb d_M_parcel_0 rfl (lv_at hl 0 rfl) ?_
  refine lv_aload_n hx hb d_M_parcel_1 rfl (lv_at hl 0 rfl) ?_
  refine gF (v := .int 1) hx hb hown hE hK hP 0 rfl rfl layM 7 (by decide) w324 h_fs_on d_M_parcel_2 ?_
  refine lv_if_ne hx hb d_M_parcel_5 (tgt := 12) rfl (fun _ => ?_) (fun h9 => absurd h9 (by decide))
  refine lv_iload_n hx hb d_M_parcel_12 rfl (lv_at hl 1 rfl) ?_
  refine lv_if_lt hx hb d_M_parcel_13 (tgt := 24) rfl (fun hc => ?_) (fun hc => ?_)
  · refine lv_iconst (v := 2) hx hb d_M_parcel_24 (by decide) ?_
    refine lv_goto hx hb d_M_parcel_25 (tgt := 42) rfl ?_
    refine pF hx hb hown hE hK hP hD hS 0 rfl rfl layM tyM tokM nmM 0 (by decide) w319 rfl rfl rfl (by simp [hl_fs]) d_M_parcel_42 (fun H locs hP hD hS => ?_)
    have hP : va_P D vwCl [(a, .inr (9, (fs.set 0 (.int 2))))] H := hP
    have hD : va_D A [(a, .inr (9, (fs.set 0 (.int 2))))] := hD
    refine lv_aload_n hx hb d_M_parcel_45 rfl (lv_at hl 0 rfl) ?_
    refine gF (v := .int 2) hx hb hown hE hK hP 0 rfl rfl layM 0 (by decide) w319 (by simp [hl_fs]) d_M_parcel_46 ?_
    refine lv_if_le hx hb d_M_parcel_49 (tgt := 54) rfl (fun h9 => absurd h9 (by decide)) (fun _ => ?_)
    refine lv_iconst (v := 0) hx hb d_M_parcel_52 (by decide) ?_
    exact rtI hx hb hr hlk hP hD hS () rfl [0] rfl rfl (by decide) (Nat.le_of_ble_eq_true rfl) (Nat.le_of_ble_eq_true rfl) d_M_parcel_53
  · refine lv_iload_n hx hb d_M_parcel_16 rfl (lv_at hl 1 rfl) ?_
    refine lv_aload_n hx hb d_M_parcel_17 rfl (lv_at hl 0 rfl) ?_
    refine gF (v := .int 0) hx hb hown hE hK hP 0 rfl rfl layM 28 (by decide) w344 h_fs_parcelCount d_M_parcel_18 ?_
    refine lv_icmp_lt hx hb d_M_parcel_21 (tgt := 28) rfl (fun h9 => absurd h9 hc) (fun _ => ?_)
    refine lv_iconst (v := 2) hx hb d_M_parcel_24 (by decide) ?_
    refine lv_goto hx hb d_M_parcel_25 (tgt := 42) rfl ?_
    refine pF hx hb hown hE hK hP hD hS 0 rfl rfl layM tyM tokM nmM 0 (by decide) w319 rfl rfl rfl (by simp [hl_fs]) d_M_parcel_42 (fun H locs hP hD hS => ?_)
    have hP : va_P D vwCl [(a, .inr (9, (fs.set 0 (.int 2))))] H := hP
    have hD : va_D A [(a, .inr (9, (fs.set 0 (.int 2))))] := hD
    refine lv_aload_n hx hb d_M_parcel_45 rfl (lv_at hl 0 rfl) ?_
    refine gF (v := .int 2) hx hb hown hE hK hP 0 rfl rfl layM 0 (by decide) w319 (by simp [hl_fs]) d_M_parcel_46 ?_
    refine lv_if_le hx hb d_M_parcel_49 (tgt := 54) rfl (fun h9 => absurd h9 (by decide)) (fun _ => ?_)
    refine lv_iconst (v := 0) hx hb d_M_parcel_52 (by decide) ?_
    exact rtI hx hb hr hlk hP hD hS () rfl [0] rfl rfl (by decide) (Nat.le_of_ble_eq_true rfl) (Nat.le_of_ble_eq_true rfl) d_M_parcel_53
end
section
theorem d_SeriesVaultLaw_end_0 : decode method_4_code 0 = .ok (.aload_n 0, 1) := by decide +kernel
theorem d_SeriesVaultLaw_end_1 : decode method_4_code 1 = .ok (.iload_n 1, 1) := by decide +kernel
theorem d_SeriesVaultLaw_end_2 : decode method_4_code 2 = .ok (.invokevirtual 15, 3) := by decide +kernel
theorem d_SeriesVaultLaw_end_5 : decode method_4_code 5 = .ok (.goto 6, 3) := by decide +kernel
theorem d_SeriesVaultLaw_end_11 : decode method_4_code 11 = .ok (.iconst 0, 1) := by decide +kernel
theorem d_SeriesVaultLaw_end_12 : decode method_4_code 12 = .ok (.ireturn, 1) := by decide +kernel
theorem w345 : Cond.methodLink "SeriesVaultLaw" 15 ⟨"SeriesVault", "end", "(I)V"⟩ ∈ aW := aw_of (tb_3 (List.mem_of_getElem? (i := 139) rfl)) rfl
theorem w346 : Cond.code ⟨"SeriesVault", "end", "(I)V"⟩ prog_1_method_4_code 2 none ∈ aW := aw_of (tb_3 (List.mem_of_getElem? (i := 142) rfl)) rfl
theorem w347 : Cond.instanceMethod ⟨"SeriesVault", "end", "(I)V"⟩ ∈ aW := aw_of (tb_3 (List.mem_of_getElem? (i := 140) rfl)) rfl
theorem w348 : Cond.selects "SeriesVault" ⟨"SeriesVault", "end", "(I)V"⟩ ⟨"SeriesVault", "end", "(I)V"⟩ ∈ aW := aw_of (tb_3 (List.mem_of_getElem? (i := 141) rfl)) rfl
set_option maxHeartbeats 4000000 in
set_option maxRecDepth 100000 in
theorem c_K_end (l : Launch) (htr : l.stackTraces = false) (D : va_G) (dA : Nat → ClassId) (sz : Nat) (a : Nat) (fs : List Value) (tl : Int32) (n : Int32) (h1 : ¬ n < 0) (h2 : n ≤ tl) (h_fs_tapeLength : fs[1]? = some (.int tl)) (hl_fs : fs.length = 18) : Met l ⟨"SeriesVaultLaw", "end", "(LSeriesVault;I)I"⟩ [Cond.codeWith ⟨"SeriesVaultLaw", "end", "(LSeriesVault;I)I"⟩ method_4_code 3 (some FieldType.int) [(0, 5, 8, 19)]] { frames := 2, cells := 0, slots := 0, locals := 21 } (pC D dA [.ref a, .int n] [(a, .inr (0, fs))] sz) (va_Qi (fun (r : Int32) (_ : Unit) => r = 0) (fun (u9 : Unit) t9 => bW D (va_A [(a, .inr (0, fs))] sz) [(a, .inr (0, (fs.set 1 (.int n))))] t9) (va_A [(a, .inr (0, fs))] sz)) 0 0 (va_A [(a, .inr (0, fs))] sz) := by
  refine mkW (Qc := fun A => va_Qi (fun (r : Int32) (_ : Unit) => r = 0) (fun (u9 : Unit) t9 => bW D A [(a, .inr (0, (fs.set 1 (.int n))))] t9) A) (by decide) (Nat.le_of_ble_eq_true rfl) ?_
  intro A p e s m below meth c ls hsz htab hB
  obtain ⟨hx, hb, hr, hml, hown, hin, hlk, hE, hK, hP, hD, hS, hA, hN, hl⟩ := hB
  have hown : s.vm.findClass "SeriesVaultLaw" = some m.cls := hown
  have hin : meth.name = "end" := hin
  have hl : lv_has ls 3 [(0, .ref a), (1, .int n)] := hl
  obtain ⟨H, hH⟩ : ∃ z, z = s.heap := ⟨_, rfl⟩
  have hP : va_P D vwCl [(a, .inr (0, fs))] H := by rw [hH]; exact hP
  have hS : va_S A s.heap H [] := by rw [hH]; exact hS
  rw [← hH]
  refine lv_aload_n hx hb d_SeriesVaultLaw_end_0 rfl (lv_at hl 0 rfl) ?_
  refine lv_iload_n hx hb d_SeriesVaultLaw_end_1 rfl (lv_at hl 1 rfl) ?_
  have hPc := hP.sub (ws' := [(a, .inr (0, fs))]) [0] rfl
  have hDc := hD.sub (ws' := [(a, .inr (0, fs))]) [0] (by decide) rfl
  refine jnV (rnV (As := [.int n]) (rest := []) hx hb hml hown hE hK (hN _ _ hS) hPc hDc (c_V_end l D dA H.size a fs tl n h1 h2 h_fs_tapeLength hl_fs) (q0 := 0) rfl rfl w346 w345 w347 w348 w277 rfl rfl ⟨⟨by decide, by decide⟩, rfl⟩ ⟨(Nat.le_of_ble_eq_true rfl), (Nat.le_of_ble_eq_true rfl)⟩ rfl hl.1 rfl (Nat.le_of_ble_eq_true rfl) d_SeriesVaultLaw_end_2 ⟨(Nat.le_of_ble_eq_true rfl), (Nat.le_of_ble_eq_true rfl)⟩) hP hD hS hA [0] [] (wr := []) rfl rfl (by decide) (by decide) (fun u9 H locs hp9 hP hD hS => ?_)
  have hP : va_P D vwCl [(a, .inr (0, (fs.set 1 (.int n))))] H := hP
  have hD : va_D A [(a, .inr (0, (fs.set 1 (.int n))))] := hD
  refine lv_goto hx hb d_SeriesVaultLaw_end_5 (tgt := 11) rfl ?_
  refine lv_iconst (v := 0) hx hb d_SeriesVaultLaw_end_11 (by decide) ?_
  exact rtI hx hb hr hlk hP hD hS () rfl [0] rfl rfl (by decide) (Nat.le_of_ble_eq_true rfl) (Nat.le_of_ble_eq_true rfl) d_SeriesVaultLaw_end_12
theorem d_SeriesVaultLaw_end_8 : decode method_4_code 8 = .ok (.astore_n 2, 1) := by decide +kernel
theorem d_SeriesVaultLaw_end_9 : decode method_4_code 9 = .ok (.iconst 1, 1) := by decide +kernel
theorem d_SeriesVaultLaw_end_10 : decode method_4_code 10 = .ok (.ireturn, 1) := by decide +kernel
theorem w349 : Cond.classLink "SeriesVaultLaw" 19 "java/lang/IllegalArgumentException" ∈ aW := aw_of (tb_3 (List.mem_of_getElem? (i := 138) rfl)) rfl
set_option maxHeartbeats 4000000 in
set_option maxRecDepth 100000 in
theorem c_K_end_x (l : Launch) (htr : l.stackTraces = false) (D : va_G) (dA : Nat → ClassId) (sz : Nat) (a : Nat) (fs : List Value) (tl : Int32) (n : Int32) (h0 : n < 0 ∨ tl < n) (h_fs_tapeLength : fs[1]? = some (.int tl)) (hl_fs : fs.length = 18) : Met l ⟨"SeriesVaultLaw", "end", "(LSeriesVault;I)I"⟩ [Cond.codeWith ⟨"SeriesVaultLaw", "end", "(LSeriesVault;I)I"⟩ method_4_code 3 (some FieldType.int) [(0, 5, 8, 19)]] { frames := 7, cells := 1, slots := 6, locals := 102 } (pC D dA [.ref a, .int n] [(a, .inr (0, fs))] sz) (va_Qi (fun (r : Int32) (_ : Unit) => r = 1) (fun (u9 : Unit) t9 => bW D (va_A [(a, .inr (0, fs))] sz) [(a, .inr (0, fs))] t9) (va_A [(a, .inr (0, fs))] sz)) 1 6 (va_A [(a, .inr (0, fs))] sz) := by
  refine mkW (Qc := fun A => va_Qi (fun (r : Int32) (_ : Unit) => r = 1) (fun (u9 : Unit) t9 => bW D A [(a, .inr (0, fs))] t9) A) (by decide) (Nat.le_of_ble_eq_true rfl) ?_
  intro A p e s m below meth c ls hsz htab hB
  obtain ⟨hx, hb, hr, hml, hown, hin, hlk, hE, hK, hP, hD, hS, hA, hN, hl⟩ := hB
  have hown : s.vm.findClass "SeriesVaultLaw" = some m.cls := hown
  have hin : meth.name = "end" := hin
  have hl : lv_has ls 3 [(0, .ref a), (1, .int n)] := hl
  obtain ⟨H, hH⟩ : ∃ z, z = s.heap := ⟨_, rfl⟩
  have hP : va_P D vwCl [(a, .inr (0, fs))] H := by rw [hH]; exact hP
  have hS : va_S A s.heap H [] := by rw [hH]; exact hS
  rw [← hH]
  refine lv_aload_n hx hb d_SeriesVaultLaw_end_0 rfl (lv_at hl 0 rfl) ?_
  refine lv_iload_n hx hb d_SeriesVaultLaw_end_1 rfl (lv_at hl 1 rfl) ?_
  have hPc := hP.sub (ws' := [(a, .inr (0, fs))]) [0] rfl
  have hDc := hD.sub (ws' := [(a, .inr (0, fs))]) [0] (by decide) rfl
  refine xnV (As := [.int n]) (rest := []) hx hb hml hown hE hK (hN _ _ hS) hPc hDc (c_V_end_x l htr D dA H.size a fs tl n h0 h_fs_tapeLength hl_fs) (q0 := 0) rfl rfl w346 w345 w347 w348 w277 rfl rfl ⟨⟨by decide, by decide⟩, rfl⟩ ⟨(Nat.le_of_ble_eq_true rfl), (Nat.le_of_ble_eq_true rfl)⟩ rfl hl.1 rfl (Nat.le_of_ble_eq_true rfl) d_SeriesVaultLaw_end_2 ⟨(Nat.le_of_ble_eq_true rfl), (Nat.le_of_ble_eq_true rfl)⟩ hP hD hS hA [0] [] (wr := []) rfl rfl (by decide) (by decide) (fun x1 ce H locs hP hD hS hce hcv hcl => ?_)
  have hP : va_P D vwCl [(a, .inr (0, fs))] H := hP
  have hD : va_D A [(a, .inr (0, fs))] := hD
  refine xCatch (E := "java/lang/IllegalArgumentException") hown hE [] ⟨0, 5, 8, 19⟩ [] htab (fun _ h => absurd h List.not_mem_nil) (by decide) (by decide) w349 w267 hce hcv hcl ?_
  refine lv_astore_n hx hb d_SeriesVaultLaw_end_8 rfl hl (by decide) rfl (fun ls hl => ?_)
  have hl : lv_has ls 3 [(2, .ref x1), (0, .ref a), (1, .int n)] := hl
  refine lv_iconst (v := 1) hx hb d_SeriesVaultLaw_end_9 (by decide) ?_
  exact rtI hx hb hr hlk hP hD hS () rfl [0] rfl rfl (by decide) (Nat.le_of_ble_eq_true rfl) (Nat.le_of_ble_eq_true rfl) d_SeriesVaultLaw_end_10
theorem d_SeriesVaultLaw_fault_0 : decode method_7_code 0 = .ok (.aload_n 2, 1) := by decide +kernel
theorem d_SeriesVaultLaw_fault_1 : decode method_7_code 1 = .ok (.iconst 0, 1) := by decide +kernel
theorem d_SeriesVaultLaw_fault_2 : decode method_7_code 2 = .ok (.aload_n 0, 1) := by decide +kernel
theorem d_SeriesVaultLaw_fault_3 : decode method_7_code 3 = .ok (.iload_n 1, 1) := by decide +kernel
theorem d_SeriesVaultLaw_fault_4 : decode method_7_code 4 = .ok (.invokevirtual 31, 3) := by decide +kernel
theorem d_SeriesVaultLaw_fault_7 : decode method_7_code 7 = .ok (.i2l, 1) := by decide +kernel
theorem d_SeriesVaultLaw_fault_8 : decode method_7_code 8 = .ok (.lastore, 1) := by decide +kernel
theorem d_SeriesVaultLaw_fault_9 : decode method_7_code 9 = .ok (.goto 6, 3) := by decide +kernel
theorem d_SeriesVaultLaw_fault_15 : decode method_7_code 15 = .ok (.iconst 0, 1) := by decide +kernel
theorem d_SeriesVaultLaw_fault_16 : decode method_7_code 16 = .ok (.ireturn, 1) := by decide +kernel
theorem w350 : Cond.methodLink "SeriesVaultLaw" 31 ⟨"SeriesVault", "fault", "(I)I"⟩ ∈ aW := aw_of (tb_5 (List.mem_of_getElem? (i := 96) rfl)) rfl
theorem w351 : Cond.code ⟨"SeriesVault", "fault", "(I)I"⟩ prog_1_method_6_code 2 (some FieldType.int) ∈ aW := aw_of (tb_5 (List.mem_of_getElem? (i := 99) rfl)) rfl
theorem w352 : Cond.instanceMethod ⟨"SeriesVault", "fault", "(I)I"⟩ ∈ aW := aw_of (tb_5 (List.mem_of_getElem? (i := 97) rfl)) rfl
theorem w353 : Cond.selects "SeriesVault" ⟨"SeriesVault", "fault", "(I)I"⟩ ⟨"SeriesVault", "fault", "(I)I"⟩ ∈ aW := aw_of (tb_5 (List.mem_of_getElem? (i := 98) rfl)) rfl
set_option maxHeartbeats 4000000 in
set_option maxRecDepth 100000 in
theorem c_K_fault_0 (l : Launch) (htr : l.stackTraces = false) (D : va_G) (dA : Nat → ClassId) (sz : Nat) (a : Nat) (fs : List Value) (fc : Int32) (o : Nat) (g : Nat → Int64) (h_fs_faultCode : fs[2]? = some (.int fc)) (hl_fs : fs.length = 18) : Met l ⟨"SeriesVaultLaw", "fault", "(LSeriesVault;I[J)I"⟩ [Cond.codeWith ⟨"SeriesVaultLaw", "fault", "(LSeriesVault;I[J)I"⟩ method_7_code 4 (some FieldType.int) [(0, 9, 12, 35)]] { frames := 2, cells := 0, slots := 0, locals := 21 } (pC D dA [.ref a, .int 0, .ref o] [(a, .inr (0, fs)), (o, .inl (dA 2, 1, .inr (.inl g)))] sz) (va_Qi (fun (r : Int32) (_ : Unit) => r = 0) (fun (u9 : Unit) t9 => bW D (va_A [(a, .inr (0, fs)), (o, .inl (dA 2, 1, .inr (.inl g)))] sz) [(a, .inr (0, fs)), (o, .inl (dA 2, 1, .inr (.inl (vp_updL g 0 fc.toInt64))))] t9) (va_A [(a, .inr (0, fs)), (o, .inl (dA 2, 1, .inr (.inl g)))] sz)) 0 0 (va_A [(a, .inr (0, fs)), (o, .inl (dA 2, 1, .inr (.inl g)))] sz) := by
  refine mkW (Qc := fun A => va_Qi (fun (r : Int32) (_ : Unit) => r = 0) (fun (u9 : Unit) t9 => bW D A [(a, .inr (0, fs)), (o, .inl (dA 2, 1, .inr (.inl (vp_updL g 0 fc.toInt64))))] t9) A) (by decide) (Nat.le_of_ble_eq_true rfl) ?_
  intro A p e s m below meth c ls hsz htab hB
  obtain ⟨hx, hb, hr, hml, hown, hin, hlk, hE, hK, hP, hD, hS, hA, hN, hl⟩ := hB
  have hown : s.vm.findClass "SeriesVaultLaw" = some m.cls := hown
  have hin : meth.name = "fault" := hin
  have hl : lv_has ls 4 [(0, .ref a), (1, .int 0), (2, .ref o)] := hl
  obtain ⟨H, hH⟩ : ∃ z, z = s.heap := ⟨_, rfl⟩
  have hP : va_P D vwCl [(a, .inr (0, fs)), (o, .inl (dA 2, 1, .inr (.inl g)))] H := by rw [hH]; exact hP
  have hS : va_S A s.heap H [] := by rw [hH]; exact hS
  rw [← hH]
  refine lv_aload_n hx hb d_SeriesVaultLaw_fault_0 rfl (lv_at hl 2 rfl) ?_
  refine lv_iconst (v := 0) hx hb d_SeriesVaultLaw_fault_1 (by decide) ?_
  refine lv_aload_n hx hb d_SeriesVaultLaw_fault_2 rfl (lv_at hl 0 rfl) ?_
  refine lv_iload_n hx hb d_SeriesVaultLaw_fault_3 rfl (lv_at hl 1 rfl) ?_
  have hPc := hP.sub (ws' := [(a, .inr (0, fs))]) [0] rfl
  have hDc := hD.sub (ws' := [(a, .inr (0, fs))]) [0] (by decide) rfl
  refine jnI (rnV (As := [.int 0]) (rest := [.int 0, .ref o]) hx hb hml hown hE hK (hN _ _ hS) hPc hDc (c_V_fault_0 l D dA H.size a fs fc h_fs_faultCode hl_fs) (q0 := 0) rfl rfl w351 w350 w352 w353 w277 rfl rfl ⟨⟨by decide, by decide⟩, rfl⟩ ⟨(Nat.le_of_ble_eq_true rfl), (Nat.le_of_ble_eq_true rfl)⟩ rfl hl.1 rfl (Nat.le_of_ble_eq_true rfl) d_SeriesVaultLaw_fault_4 ⟨(Nat.le_of_ble_eq_true rfl), (Nat.le_of_ble_eq_true rfl)⟩) hP hD hS hA [0] [1] (wr := [(o, .inl (dA 2, 1, .inr (.inl g)))]) rfl rfl (by decide) (by decide) (fun r1 u9 H locs hp9 hP hD hS => ?_)
  have hP : va_P D vwCl [(o, .inl (dA 2, 1, .inr (.inl g))), (a, .inr (0, fs))] H := hP
  have hD : va_D A [(o, .inl (dA 2, 1, .inr (.inl g))), (a, .inr (0, fs))] := hD
  have hp9 : fc = r1 := Eq.symm hp9
  subst hp9
  refine lv_i2l hx hb d_SeriesVaultLaw_fault_7 rfl ?_
  refine va_last hx hb hK hP hD hS 0 2 rfl rfl (by unfold vp_in; decide) d_SeriesVaultLaw_fault_8 (fun H locs hP hD hS => ?_)
  have hP : va_P D vwCl [(o, .inl (dA 2, 1, .inr (.inl (vp_updL g 0 fc.toInt64)))), (a, .inr (0, fs))] H := hP
  have hD : va_D A [(o, .inl (dA 2, 1, .inr (.inl (vp_updL g 0 fc.toInt64)))), (a, .inr (0, fs))] := hD
  refine lv_goto hx hb d_SeriesVaultLaw_fault_9 (tgt := 15) rfl ?_
  refine lv_iconst (v := 0) hx hb d_SeriesVaultLaw_fault_15 (by decide) ?_
  exact rtI hx hb hr hlk hP hD hS () rfl [1, 0] rfl rfl (by decide) (Nat.le_of_ble_eq_true rfl) (Nat.le_of_ble_eq_true rfl) d_SeriesVaultLaw_fault_16
set_option maxHeartbeats 4000000 in
set_option maxRecDepth 100000 in
theorem c_K_fault_1 (l : Launch) (htr : l.stackTraces = false) (D : va_G) (dA : Nat → ClassId) (sz : Nat) (a : Nat) (fs : List Value) (fp : Int32) (o : Nat) (g : Nat → Int64) (h_fs_faultPlace : fs[3]? = some (.int fp)) (hl_fs : fs.length = 18) : Met l ⟨"SeriesVaultLaw", "fault", "(LSeriesVault;I[J)I"⟩ [Cond.codeWith ⟨"SeriesVaultLaw", "fault", "(LSeriesVault;I[J)I"⟩ method_7_code 4 (some FieldType.int) [(0, 9, 12, 35)]] { frames := 2, cells := 0, slots := 0, locals := 21 } (pC D dA [.ref a, .int 1, .ref o] [(a, .inr (0, fs)), (o, .inl (dA 2, 1, .inr (.inl g)))] sz) (va_Qi (fun (r : Int32) (_ : Unit) => r = 0) (fun (u9 : Unit) t9 => bW D (va_A [(a, .inr (0, fs)), (o, .inl (dA 2, 1, .inr (.inl g)))] sz) [(a, .inr (0, fs)), (o, .inl (dA 2, 1, .inr (.inl (vp_updL g 0 fp.toInt64))))] t9) (va_A [(a, .inr (0, fs)), (o, .inl (dA 2, 1, .inr (.inl g)))] sz)) 0 0 (va_A [(a, .inr (0, fs)), (o, .inl (dA 2, 1, .inr (.inl g)))] sz) := by
  refine mkW (Qc := fun A => va_Qi (fun (r : Int32) (_ : Unit) => r = 0) (fun (u9 : Unit) t9 => bW D A [(a, .inr (0, fs)), (o, .inl (dA 2, 1, .inr (.inl (vp_updL g 0 fp.toInt64))))] t9) A) (by decide) (Nat.le_of_ble_eq_true rfl) ?_
  intro A p e s m below meth c ls hsz htab hB
  obtain ⟨hx, hb, hr, hml, hown, hin, hlk, hE, hK, hP, hD, hS, hA, hN, hl⟩ := hB
  have hown : s.vm.findClass "SeriesVaultLaw" = some m.cls := hown
  have hin : meth.name = "fault" := hin
  have hl : lv_has ls 4 [(0, .ref a), (1, .int 1), (2, .ref o)] := hl
  obtain ⟨H, hH⟩ : ∃ z, z = s.heap := ⟨_, rfl⟩
  have hP : va_P D vwCl [(a, .inr (0, fs)), (o, .inl (dA 2, 1, .inr (.inl g)))] H := by rw [hH]; exact hP
  have hS : va_S A s.heap H [] := by rw [hH]; exact hS
  rw [← hH]
  refine lv_aload_n hx hb d_SeriesVaultLaw_fault_0 rfl (lv_at hl 2 rfl) ?_
  refine lv_iconst (v := 0) hx hb d_SeriesVaultLaw_fault_1 (by decide) ?_
  refine lv_aload_n hx hb d_SeriesVaultLaw_fault_2 rfl (lv_at hl 0 rfl) ?_
  refine lv_iload_n hx hb d_SeriesVaultLaw_fault_3 rfl (lv_at hl 1 rfl) ?_
  have hPc := hP.sub (ws' := [(a, .inr (0, fs))]) [0] rfl
  have hDc := hD.sub (ws' := [(a, .inr (0, fs))]) [0] (by decide) rfl
  refine jnI (rnV (As := [.int 1]) (rest := [.int 0, .ref o]) hx hb hml hown hE hK (hN _ _ hS) hPc hDc (c_V_fault_1 l D dA H.size a fs fp h_fs_faultPlace hl_fs) (q0 := 0) rfl rfl w351 w350 w352 w353 w277 rfl rfl ⟨⟨by decide, by decide⟩, rfl⟩ ⟨(Nat.le_of_ble_eq_true rfl), (Nat.le_of_ble_eq_true rfl)⟩ rfl hl.1 rfl (Nat.le_of_ble_eq_true rfl) d_SeriesVaultLaw_fault_4 ⟨(Nat.le_of_ble_eq_true rfl), (Nat.le_of_ble_eq_true rfl)⟩) hP hD hS hA [0] [1] (wr := [(o, .inl (dA 2, 1, .inr (.inl g)))]) rfl rfl (by decide) (by decide) (fun r1 u9 H locs hp9 hP hD hS => ?_)
  have hP : va_P D vwCl [(o, .inl (dA 2, 1, .inr (.inl g))), (a, .inr (0, fs))] H := hP
  have hD : va_D A [(o, .inl (dA 2, 1, .inr (.inl g))), (a, .inr (0, fs))] := hD
  have hp9 : fp = r1 := Eq.symm hp9
  subst hp9
  refine lv_i2l hx hb d_SeriesVaultLaw_fault_7 rfl ?_
  refine va_last hx hb hK hP hD hS 0 2 rfl rfl (by unfold vp_in; decide) d_SeriesVaultLaw_fault_8 (fun H locs hP hD hS => ?_)
  have hP : va_P D vwCl [(o, .inl (dA 2, 1, .inr (.inl (vp_updL g 0 fp.toInt64)))), (a, .inr (0, fs))] H := hP
  have hD : va_D A [(o, .inl (dA 2, 1, .inr (.inl (vp_updL g 0 fp.toInt64)))), (a, .inr (0, fs))] := hD
  refine lv_goto hx hb d_SeriesVaultLaw_fault_9 (tgt := 15) rfl ?_
  refine lv_iconst (v := 0) hx hb d_SeriesVaultLaw_fault_15 (by decide) ?_
  exact rtI hx hb hr hlk hP hD hS () rfl [1, 0] rfl rfl (by decide) (Nat.le_of_ble_eq_true rfl) (Nat.le_of_ble_eq_true rfl) d_SeriesVaultLaw_fault_16
theorem d_SeriesVaultLaw_fault_12 : decode method_7_code 12 = .ok (.astore_n 3, 1) := by decide +kernel
theorem d_SeriesVaultLaw_fault_13 : decode method_7_code 13 = .ok (.iconst 1, 1) := by decide +kernel
theorem d_SeriesVaultLaw_fault_14 : decode method_7_code 14 = .ok (.ireturn, 1) := by decide +kernel
theorem w354 : Cond.classLink "SeriesVaultLaw" 35 "java/lang/IndexOutOfBoundsException" ∈ aW := aw_of (tb_5 (List.mem_of_getElem? (i := 95) rfl)) rfl
set_option maxHeartbeats 4000000 in
set_option maxRecDepth 100000 in
theorem c_K_fault_x (l : Launch) (htr : l.stackTraces = false) (D : va_G) (dA : Nat → ClassId) (sz : Nat) (a : Nat) (fs : List Value) (n : Int32) (o : Nat) (g : Nat → Int64) (h0 : n < 0 ∨ 1 < n) (hl_fs : fs.length = 18) : Met l ⟨"SeriesVaultLaw", "fault", "(LSeriesVault;I[J)I"⟩ [Cond.codeWith ⟨"SeriesVaultLaw", "fault", "(LSeriesVault;I[J)I"⟩ method_7_code 4 (some FieldType.int) [(0, 9, 12, 35)]] { frames := 7, cells := 1, slots := 6, locals := 102 } (pC D dA [.ref a, .int n, .ref o] [(a, .inr (0, fs)), (o, .inl (dA 2, 1, .inr (.inl g)))] sz) (va_Qi (fun (r : Int32) (_ : Unit) => r = 1) (fun (u9 : Unit) t9 => bW D (va_A [(a, .inr (0, fs)), (o, .inl (dA 2, 1, .inr (.inl g)))] sz) [(a, .inr (0, fs)), (o, .inl (dA 2, 1, .inr (.inl g)))] t9) (va_A [(a, .inr (0, fs)), (o, .inl (dA 2, 1, .inr (.inl g)))] sz)) 1 6 (va_A [(a, .inr (0, fs)), (o, .inl (dA 2, 1, .inr (.inl g)))] sz) := by
  refine mkW (Qc := fun A => va_Qi (fun (r : Int32) (_ : Unit) => r = 1) (fun (u9 : Unit) t9 => bW D A [(a, .inr (0, fs)), (o, .inl (dA 2, 1, .inr (.inl g)))] t9) A) (by decide) (Nat.le_of_ble_eq_true rfl) ?_
  intro A p e s m below meth c ls hsz htab hB
  obtain ⟨hx, hb, hr, hml, hown, hin, hlk, hE, hK, hP, hD, hS, hA, hN, hl⟩ := hB
  have hown : s.vm.findClass "SeriesVaultLaw" = some m.cls := hown
  have hin : meth.name = "fault" := hin
  have hl : lv_has ls 4 [(0, .ref a), (1, .int n), (2, .ref o)] := hl
  obtain ⟨H, hH⟩ : ∃ z, z = s.heap := ⟨_, rfl⟩
  have hP : va_P D vwCl [(a, .inr (0, fs)), (o, .inl (dA 2, 1, .inr (.inl g)))] H := by rw [hH]; exact hP
  have hS : va_S A s.heap H [] := by rw [hH]; exact hS
  rw [← hH]
  refine lv_aload_n hx hb d_SeriesVaultLaw_fault_0 rfl (lv_at hl 2 rfl) ?_
  refine lv_iconst (v := 0) hx hb d_SeriesVaultLaw_fault_1 (by decide) ?_
  refine lv_aload_n hx hb d_SeriesVaultLaw_fault_2 rfl (lv_at hl 0 rfl) ?_
  refine lv_iload_n hx hb d_SeriesVaultLaw_fault_3 rfl (lv_at hl 1 rfl) ?_
  have hPc := hP.sub (ws' := [(a, .inr (0, fs))]) [0] rfl
  have hDc := hD.sub (ws' := [(a, .inr (0, fs))]) [0] (by decide) rfl
  refine xnV (As := [.int n]) (rest := [.int 0, .ref o]) hx hb hml hown hE hK (hN _ _ hS) hPc hDc (c_V_fault_x l htr D dA H.size a fs n h0 hl_fs) (q0 := 0) rfl rfl w351 w350 w352 w353 w277 rfl rfl ⟨⟨by decide, by decide⟩, rfl⟩ ⟨(Nat.le_of_ble_eq_true rfl), (Nat.le_of_ble_eq_true rfl)⟩ rfl hl.1 rfl (Nat.le_of_ble_eq_true rfl) d_SeriesVaultLaw_fault_4 ⟨(Nat.le_of_ble_eq_true rfl), (Nat.le_of_ble_eq_true rfl)⟩ hP hD hS hA [0] [1] (wr := [(o, .inl (dA 2, 1, .inr (.inl g)))]) rfl rfl (by decide) (by decide) (fun x1 ce H locs hP hD hS hce hcv hcl => ?_)
  have hP : va_P D vwCl [(o, .inl (dA 2, 1, .inr (.inl g))), (a, .inr (0, fs))] H := hP
  have hD : va_D A [(o, .inl (dA 2, 1, .inr (.inl g))), (a, .inr (0, fs))] := hD
  refine xCatch (E := "java/lang/IndexOutOfBoundsException") hown hE [] ⟨0, 9, 12, 35⟩ [] htab (fun _ h => absurd h List.not_mem_nil) (by decide) (by decide) w354 w222 hce hcv hcl ?_
  refine lv_astore_n hx hb d_SeriesVaultLaw_fault_12 rfl hl (by decide) rfl (fun ls hl => ?_)
  have hl : lv_has ls 4 [(3, .ref x1), (0, .ref a), (1, .int n), (2, .ref o)] := hl
  refine lv_iconst (v := 1) hx hb d_SeriesVaultLaw_fault_13 (by decide) ?_
  exact rtI hx hb hr hlk hP hD hS () rfl [1, 0] rfl rfl (by decide) (Nat.le_of_ble_eq_true rfl) (Nat.le_of_ble_eq_true rfl) d_SeriesVaultLaw_fault_14
theorem d_SeriesVaultLaw_off_0 : decode method_24_code 0 = .ok (.aload_n 0, 1) := by decide +kernel
theorem d_SeriesVaultLaw_off_1 : decode method_24_code 1 = .ok (.invokevirtual 94, 3) := by decide +kernel
theorem d_SeriesVaultLaw_off_4 : decode method_24_code 4 = .ok (.goto 6, 3) := by decide +kernel
theorem d_SeriesVaultLaw_off_10 : decode method_24_code 10 = .ok (.iconst 0, 1) := by decide +kernel
theorem d_SeriesVaultLaw_off_11 : decode method_24_code 11 = .ok (.ireturn, 1) := by decide +kernel
theorem w355 : Cond.methodLink "SeriesVaultLaw" 94 ⟨"SeriesVault", "off", "()V"⟩ ∈ aW := aw_of (tb_8 (List.mem_of_getElem? (i := 148) rfl)) rfl
theorem w356 : Cond.code ⟨"SeriesVault", "off", "()V"⟩ prog_1_method_12_code 1 none ∈ aW := aw_of (tb_8 (List.mem_of_getElem? (i := 151) rfl)) rfl
theorem w357 : Cond.instanceMethod ⟨"SeriesVault", "off", "()V"⟩ ∈ aW := aw_of (tb_8 (List.mem_of_getElem? (i := 149) rfl)) rfl
theorem w358 : Cond.selects "SeriesVault" ⟨"SeriesVault", "off", "()V"⟩ ⟨"SeriesVault", "off", "()V"⟩ ∈ aW := aw_of (tb_8 (List.mem_of_getElem? (i := 150) rfl)) rfl
set_option maxHeartbeats 4000000 in
set_option maxRecDepth 100000 in
theorem c_K_off (l : Launch) (htr : l.stackTraces = false) (D : va_G) (dA : Nat → ClassId) (sz : Nat) (a : Nat) (fs : List Value) (h_fs_powered : fs[5]? = some (.int 1)) (hl_fs : fs.length = 18) : Met l ⟨"SeriesVaultLaw", "off", "(LSeriesVault;)I"⟩ [Cond.codeWith ⟨"SeriesVaultLaw", "off", "(LSeriesVault;)I"⟩ method_24_code 2 (some FieldType.int) [(0, 4, 7, 29)]] { frames := 3, cells := 0, slots := 0, locals := 40 } (pC D dA [.ref a] [(a, .inr (0, fs))] sz) (va_Qi (fun (r : Int32) (_ : Unit) => r = 0) (fun (u9 : Unit) t9 => bW D (va_A [(a, .inr (0, fs))] sz) [(a, .inr (0, (fs.set 5 (.int 0))))] t9) (va_A [(a, .inr (0, fs))] sz)) 0 0 (va_A [(a, .inr (0, fs))] sz) := by
  refine mkW (Qc := fun A => va_Qi (fun (r : Int32) (_ : Unit) => r = 0) (fun (u9 : Unit) t9 => bW D A [(a, .inr (0, (fs.set 5 (.int 0))))] t9) A) (by decide) (Nat.le_of_ble_eq_true rfl) ?_
  intro A p e s m below meth c ls hsz htab hB
  obtain ⟨hx, hb, hr, hml, hown, hin, hlk, hE, hK, hP, hD, hS, hA, hN, hl⟩ := hB
  have hown : s.vm.findClass "SeriesVaultLaw" = some m.cls := hown
  have hin : meth.name = "off" := hin
  have hl : lv_has ls 2 [(0, .ref a)] := hl
  obtain ⟨H, hH⟩ : ∃ z, z = s.heap := ⟨_, rfl⟩
  have hP : va_P D vwCl [(a, .inr (0, fs))] H := by rw [hH]; exact hP
  have hS : va_S A s.heap H [] := by rw [hH]; exact hS
  rw [← hH]
  refine lv_aload_n hx hb d_SeriesVaultLaw_off_0 rfl (lv_at hl 0 rfl) ?_
  have hPc := hP.sub (ws' := [(a, .inr (0, fs))]) [0] rfl
  have hDc := hD.sub (ws' := [(a, .inr (0, fs))]) [0] (by decide) rfl
  refine jnV (rnV (As := []) (rest := []) hx hb hml hown hE hK (hN _ _ hS) hPc hDc (c_V_off l D dA H.size a fs h_fs_powered hl_fs) (q0 := 0) rfl rfl w356 w355 w357 w358 w277 rfl rfl ⟨⟨by decide, by decide⟩, rfl⟩ ⟨(Nat.le_of_ble_eq_true rfl), (Nat.le_of_ble_eq_true rfl)⟩ rfl hl.1 rfl (Nat.le_of_ble_eq_true rfl) d_SeriesVaultLaw_off_1 ⟨(Nat.le_of_ble_eq_true rfl), (Nat.le_of_ble_eq_true rfl)⟩) hP hD hS hA [0] [] (wr := []) rfl rfl (by decide) (by decide) (fun u9 H locs hp9 hP hD hS => ?_)
  have hP : va_P D vwCl [(a, .inr (0, (fs.set 5 (.int 0))))] H := hP
  have hD : va_D A [(a, .inr (0, (fs.set 5 (.int 0))))] := hD
  refine lv_goto hx hb d_SeriesVaultLaw_off_4 (tgt := 10) rfl ?_
  refine lv_iconst (v := 0) hx hb d_SeriesVaultLaw_off_10 (by decide) ?_
  exact rtI hx hb hr hlk hP hD hS () rfl [0] rfl rfl (by decide) (Nat.le_of_ble_eq_true rfl) (Nat.le_of_ble_eq_true rfl) d_SeriesVaultLaw_off_11
theorem d_SeriesVaultLaw_cut_0 : decode method_23_code 0 = .ok (.aload_n 0, 1) := by decide +kernel
theorem d_SeriesVaultLaw_cut_1 : decode method_23_code 1 = .ok (.iload_n 1, 1) := by decide +kernel
theorem d_SeriesVaultLaw_cut_2 : decode method_23_code 2 = .ok (.invokevirtual 91, 3) := by decide +kernel
theorem d_SeriesVaultLaw_cut_5 : decode method_23_code 5 = .ok (.goto 9, 3) := by decide +kernel
theorem d_SeriesVaultLaw_cut_14 : decode method_23_code 14 = .ok (.iconst 0, 1) := by decide +kernel
theorem d_SeriesVaultLaw_cut_15 : decode method_23_code 15 = .ok (.ireturn, 1) := by decide +kernel
theorem w359 : Cond.methodLink "SeriesVaultLaw" 91 ⟨"SeriesVault", "cut", "(I)V"⟩ ∈ aW := aw_of (tb_8 (List.mem_of_getElem? (i := 141) rfl)) rfl
theorem w360 : Cond.code ⟨"SeriesVault", "cut", "(I)V"⟩ prog_1_method_11_code 2 none ∈ aW := aw_of (tb_8 (List.mem_of_getElem? (i := 144) rfl)) rfl
theorem w361 : Cond.instanceMethod ⟨"SeriesVault", "cut", "(I)V"⟩ ∈ aW := aw_of (tb_8 (List.mem_of_getElem? (i := 142) rfl)) rfl
theorem w362 : Cond.selects "SeriesVault" ⟨"SeriesVault", "cut", "(I)V"⟩ ⟨"SeriesVault", "cut", "(I)V"⟩ ∈ aW := aw_of (tb_8 (List.mem_of_getElem? (i := 143) rfl)) rfl
set_option maxHeartbeats 4000000 in
set_option maxRecDepth 100000 in
theorem c_K_cut (l : Launch) (htr : l.stackTraces = false) (D : va_G) (dA : Nat → ClassId) (sz : Nat) (a : Nat) (fs : List Value) (n : Int32) (h1 : (-1) ≤ n) (h_fs_powered : fs[5]? = some (.int 1)) (hl_fs : fs.length = 18) : Met l ⟨"SeriesVaultLaw", "cut", "(LSeriesVault;I)I"⟩ [Cond.codeWith ⟨"SeriesVaultLaw", "cut", "(LSeriesVault;I)I"⟩ method_23_code 3 (some FieldType.int) [(0, 5, 8, 29), (0, 5, 11, 19)]] { frames := 3, cells := 0, slots := 0, locals := 41 } (pC D dA [.ref a, .int n] [(a, .inr (0, fs))] sz) (va_Qi (fun (r : Int32) (_ : Unit) => r = 0) (fun (u9 : Unit) t9 => bW D (va_A [(a, .inr (0, fs))] sz) [(a, .inr (0, (fs.set 6 (.int n))))] t9) (va_A [(a, .inr (0, fs))] sz)) 0 0 (va_A [(a, .inr (0, fs))] sz) := by
  refine mkW (Qc := fun A => va_Qi (fun (r : Int32) (_ : Unit) => r = 0) (fun (u9 : Unit) t9 => bW D A [(a, .inr (0, (fs.set 6 (.int n))))] t9) A) (by decide) (Nat.le_of_ble_eq_true rfl) ?_
  intro A p e s m below meth c ls hsz htab hB
  obtain ⟨hx, hb, hr, hml, hown, hin, hlk, hE, hK, hP, hD, hS, hA, hN, hl⟩ := hB
  have hown : s.vm.findClass "SeriesVaultLaw" = some m.cls := hown
  have hin : meth.name = "cut" := hin
  have hl : lv_has ls 3 [(0, .ref a), (1, .int n)] := hl
  obtain ⟨H, hH⟩ : ∃ z, z = s.heap := ⟨_, rfl⟩
  have hP : va_P D vwCl [(a, .inr (0, fs))] H := by rw [hH]; exact hP
  have hS : va_S A s.heap H [] := by rw [hH]; exact hS
  rw [← hH]
  refine lv_aload_n hx hb d_SeriesVaultLaw_cut_0 rfl (lv_at hl 0 rfl) ?_
  refine lv_iload_n hx hb d_SeriesVaultLaw_cut_1 rfl (lv_at hl 1 rfl) ?_
  have hPc := hP.sub (ws' := [(a, .inr (0, fs))]) [0] rfl
  have hDc := hD.sub (ws' := [(a, .inr (0, fs))]) [0] (by decide) rfl
  refine jnV (rnV (As := [.int n]) (rest := []) hx hb hml hown hE hK (hN _ _ hS) hPc hDc (c_V_cut l D dA H.size a fs n h1 h_fs_powered hl_fs) (q0 := 0) rfl rfl w360 w359 w361 w362 w277 rfl rfl ⟨⟨by decide, by decide⟩, rfl⟩ ⟨(Nat.le_of_ble_eq_true rfl), (Nat.le_of_ble_eq_true rfl)⟩ rfl hl.1 rfl (Nat.le_of_ble_eq_true rfl) d_SeriesVaultLaw_cut_2 ⟨(Nat.le_of_ble_eq_true rfl), (Nat.le_of_ble_eq_true rfl)⟩) hP hD hS hA [0] [] (wr := []) rfl rfl (by decide) (by decide) (fun u9 H locs hp9 hP hD hS => ?_)
  have hP : va_P D vwCl [(a, .inr (0, (fs.set 6 (.int n))))] H := hP
  have hD : va_D A [(a, .inr (0, (fs.set 6 (.int n))))] := hD
  refine lv_goto hx hb d_SeriesVaultLaw_cut_5 (tgt := 14) rfl ?_
  refine lv_iconst (v := 0) hx hb d_SeriesVaultLaw_cut_14 (by decide) ?_
  exact rtI hx hb hr hlk hP hD hS () rfl [0] rfl rfl (by decide) (Nat.le_of_ble_eq_true rfl) (Nat.le_of_ble_eq_true rfl) d_SeriesVaultLaw_cut_15
theorem d_SeriesVaultLaw_cut_11 : decode method_23_code 11 = .ok (.astore_n 2, 1) := by decide +kernel
theorem d_SeriesVaultLaw_cut_12 : decode method_23_code 12 = .ok (.iconst 2, 1) := by decide +kernel
theorem d_SeriesVaultLaw_cut_13 : decode method_23_code 13 = .ok (.ireturn, 1) := by decide +kernel
theorem w363 : Cond.classLink "SeriesVaultLaw" 29 "java/lang/IllegalStateException" ∈ aW := aw_of (tb_3 (List.mem_of_getElem? (i := 168) rfl)) rfl
set_option maxHeartbeats 4000000 in
set_option maxRecDepth 100000 in
theorem c_K_cut_x (l : Launch) (htr : l.stackTraces = false) (D : va_G) (dA : Nat → ClassId) (sz : Nat) (a : Nat) (fs : List Value) (n : Int32) (h1 : n < (-1)) (h_fs_powered : fs[5]? = some (.int 1)) (hl_fs : fs.length = 18) : Met l ⟨"SeriesVaultLaw", "cut", "(LSeriesVault;I)I"⟩ [Cond.codeWith ⟨"SeriesVaultLaw", "cut", "(LSeriesVault;I)I"⟩ method_23_code 3 (some FieldType.int) [(0, 5, 8, 29), (0, 5, 11, 19)]] { frames := 7, cells := 1, slots := 6, locals := 102 } (pC D dA [.ref a, .int n] [(a, .inr (0, fs))] sz) (va_Qi (fun (r : Int32) (_ : Unit) => r = 2) (fun (u9 : Unit) t9 => bW D (va_A [(a, .inr (0, fs))] sz) [(a, .inr (0, fs))] t9) (va_A [(a, .inr (0, fs))] sz)) 1 6 (va_A [(a, .inr (0, fs))] sz) := by
  refine mkW (Qc := fun A => va_Qi (fun (r : Int32) (_ : Unit) => r = 2) (fun (u9 : Unit) t9 => bW D A [(a, .inr (0, fs))] t9) A) (by decide) (Nat.le_of_ble_eq_true rfl) ?_
  intro A p e s m below meth c ls hsz htab hB
  obtain ⟨hx, hb, hr, hml, hown, hin, hlk, hE, hK, hP, hD, hS, hA, hN, hl⟩ := hB
  have hown : s.vm.findClass "SeriesVaultLaw" = some m.cls := hown
  have hin : meth.name = "cut" := hin
  have hl : lv_has ls 3 [(0, .ref a), (1, .int n)] := hl
  obtain ⟨H, hH⟩ : ∃ z, z = s.heap := ⟨_, rfl⟩
  have hP : va_P D vwCl [(a, .inr (0, fs))] H := by rw [hH]; exact hP
  have hS : va_S A s.heap H [] := by rw [hH]; exact hS
  rw [← hH]
  refine lv_aload_n hx hb d_SeriesVaultLaw_cut_0 rfl (lv_at hl 0 rfl) ?_
  refine lv_iload_n hx hb d_SeriesVaultLaw_cut_1 rfl (lv_at hl 1 rfl) ?_
  have hPc := hP.sub (ws' := [(a, .inr (0, fs))]) [0] rfl
  have hDc := hD.sub (ws' := [(a, .inr (0, fs))]) [0] (by decide) rfl
  refine xnV (As := [.int n]) (rest := []) hx hb hml hown hE hK (hN _ _ hS) hPc hDc (c_V_cut_x l htr D dA H.size a fs n h1 h_fs_powered hl_fs) (q0 := 0) rfl rfl w360 w359 w361 w362 w277 rfl rfl ⟨⟨by decide, by decide⟩, rfl⟩ ⟨(Nat.le_of_ble_eq_true rfl), (Nat.le_of_ble_eq_true rfl)⟩ rfl hl.1 rfl (Nat.le_of_ble_eq_true rfl) d_SeriesVaultLaw_cut_2 ⟨(Nat.le_of_ble_eq_true rfl), (Nat.le_of_ble_eq_true rfl)⟩ hP hD hS hA [0] [] (wr := []) rfl rfl (by decide) (by decide) (fun x1 ce H locs hP hD hS hce hcv hcl => ?_)
  have hP : va_P D vwCl [(a, .inr (0, fs))] H := hP
  have hD : va_D A [(a, .inr (0, fs))] := hD
  refine xCatch (E := "java/lang/IllegalArgumentException") hown hE [⟨0, 5, 8, 29⟩] ⟨0, 5, 11, 19⟩ [] htab (List.forall_mem_cons.mpr ⟨⟨by decide, "java/lang/IllegalStateException", w363, by decide⟩, fun _ h => absurd h List.not_mem_nil⟩) (by decide) (by decide) w349 w267 hce hcv hcl ?_
  refine lv_astore_n hx hb d_SeriesVaultLaw_cut_11 rfl hl (by decide) rfl (fun ls hl => ?_)
  have hl : lv_has ls 3 [(2, .ref x1), (0, .ref a), (1, .int n)] := hl
  refine lv_iconst (v := 2) hx hb d_SeriesVaultLaw_cut_12 (by decide) ?_
  exact rtI hx hb hr hlk hP hD hS () rfl [0] rfl rfl (by decide) (Nat.le_of_ble_eq_true rfl) (Nat.le_of_ble_eq_true rfl) d_SeriesVaultLaw_cut_13
theorem d_SeriesVaultLaw_start_0 : decode method_25_code 0 = .ok (.aload_n 1, 1) := by decide +kernel
theorem d_SeriesVaultLaw_start_1 : decode method_25_code 1 = .ok (.iconst 0, 1) := by decide +kernel
theorem d_SeriesVaultLaw_start_2 : decode method_25_code 2 = .ok (.aload_n 0, 1) := by decide +kernel
theorem d_SeriesVaultLaw_start_3 : decode method_25_code 3 = .ok (.invokevirtual 97, 3) := by decide +kernel
theorem d_SeriesVaultLaw_start_11 : decode method_25_code 11 = .ok (.astore_n 2, 1) := by decide +kernel
theorem d_SeriesVaultLaw_start_12 : decode method_25_code 12 = .ok (.iconst 1, 1) := by decide +kernel
theorem d_SeriesVaultLaw_start_13 : decode method_25_code 13 = .ok (.ireturn, 1) := by decide +kernel
theorem w364 : Cond.methodLink "SeriesVaultLaw" 97 ⟨"SeriesVault", "start", "()I"⟩ ∈ aW := aw_of (tb_8 (List.mem_of_getElem? (i := 155) rfl)) rfl
theorem w365 : Cond.code ⟨"SeriesVault", "start", "()I"⟩ prog_1_method_18_code 2 (some FieldType.int) ∈ aW := aw_of (tb_8 (List.mem_of_getElem? (i := 158) rfl)) rfl
theorem w366 : Cond.instanceMethod ⟨"SeriesVault", "start", "()I"⟩ ∈ aW := aw_of (tb_8 (List.mem_of_getElem? (i := 156) rfl)) rfl
theorem w367 : Cond.selects "SeriesVault" ⟨"SeriesVault", "start", "()I"⟩ ⟨"SeriesVault", "start", "()I"⟩ ∈ aW := aw_of (tb_8 (List.mem_of_getElem? (i := 157) rfl)) rfl
set_option maxHeartbeats 4000000 in
set_option maxRecDepth 100000 in
theorem c_K_start_x (l : Launch) (htr : l.stackTraces = false) (D : va_G) (dA : Nat → ClassId) (sz : Nat) (a : Nat) (fs : List Value) (o : Nat) (g : Nat → Int64) (h_fs_powered : fs[5]? = some (.int 1)) (hl_fs : fs.length = 18) : Met l ⟨"SeriesVaultLaw", "start", "(LSeriesVault;[J)I"⟩ [Cond.codeWith ⟨"SeriesVaultLaw", "start", "(LSeriesVault;[J)I"⟩ method_25_code 3 (some FieldType.int) [(0, 8, 11, 29)]] { frames := 7, cells := 1, slots := 6, locals := 102 } (pC D dA [.ref a, .ref o] [(a, .inr (0, fs)), (o, .inl (dA 2, 1, .inr (.inl g)))] sz) (va_Qi (fun (r : Int32) (_ : Unit) => r = 1) (fun (u9 : Unit) t9 => bW D (va_A [(a, .inr (0, fs)), (o, .inl (dA 2, 1, .inr (.inl g)))] sz) [(a, .inr (0, fs)), (o, .inl (dA 2, 1, .inr (.inl g)))] t9) (va_A [(a, .inr (0, fs)), (o, .inl (dA 2, 1, .inr (.inl g)))] sz)) 1 6 (va_A [(a, .inr (0, fs)), (o, .inl (dA 2, 1, .inr (.inl g)))] sz) := by
  refine mkW (Qc := fun A => va_Qi (fun (r : Int32) (_ : Unit) => r = 1) (fun (u9 : Unit) t9 => bW D A [(a, .inr (0, fs)), (o, .inl (dA 2, 1, .inr (.inl g)))] t9) A) (by decide) (Nat.le_of_ble_eq_true rfl) ?_
  intro A p e s m below meth c ls hsz htab hB
  obtain ⟨hx, hb, hr, hml, hown, hin, hlk, hE, hK, hP, hD, hS, hA, hN, hl⟩ := hB
  have hown : s.vm.findClass "SeriesVaultLaw" = some m.cls := hown
  have hin : meth.name = "start" := hin
  have hl : lv_has ls 3 [(0, .ref a), (1, .ref o)] := hl
  obtain ⟨H, hH⟩ : ∃ z, z = s.heap := ⟨_, rfl⟩
  have hP : va_P D vwCl [(a, .inr (0, fs)), (o, .inl (dA 2, 1, .inr (.inl g)))] H := by rw [hH]; exact hP
  have hS : va_S A s.heap H [] := by rw [hH]; exact hS
  rw [← hH]
  refine lv_aload_n hx hb d_SeriesVaultLaw_start_0 rfl (lv_at hl 1 rfl) ?_
  refine lv_iconst (v := 0) hx hb d_SeriesVaultLaw_start_1 (by decide) ?_
  refine lv_aload_n hx hb d_SeriesVaultLaw_start_2 rfl (lv_at hl 0 rfl) ?_
  have hPc := hP.sub (ws' := [(a, .inr (0, fs))]) [0] rfl
  have hDc := hD.sub (ws' := [(a, .inr (0, fs))]) [0] (by decide) rfl
  refine xnV (As := []) (rest := [.int 0, .ref o]) hx hb hml hown hE hK (hN _ _ hS) hPc hDc (c_V_start_x l htr D dA H.size a fs h_fs_powered hl_fs) (q0 := 0) rfl rfl w365 w364 w366 w367 w277 rfl rfl ⟨⟨by decide, by decide⟩, rfl⟩ ⟨(Nat.le_of_ble_eq_true rfl), (Nat.le_of_ble_eq_true rfl)⟩ rfl hl.1 rfl (Nat.le_of_ble_eq_true rfl) d_SeriesVaultLaw_start_3 ⟨(Nat.le_of_ble_eq_true rfl), (Nat.le_of_ble_eq_true rfl)⟩ hP hD hS hA [0] [1] (wr := [(o, .inl (dA 2, 1, .inr (.inl g)))]) rfl rfl (by decide) (by decide) (fun x1 ce H locs hP hD hS hce hcv hcl => ?_)
  have hP : va_P D vwCl [(o, .inl (dA 2, 1, .inr (.inl g))), (a, .inr (0, fs))] H := hP
  have hD : va_D A [(o, .inl (dA 2, 1, .inr (.inl g))), (a, .inr (0, fs))] := hD
  refine xCatch (E := "java/lang/IllegalStateException") hown hE [] ⟨0, 8, 11, 29⟩ [] htab (fun _ h => absurd h List.not_mem_nil) (by decide) (by decide) w363 w289 hce hcv hcl ?_
  refine lv_astore_n hx hb d_SeriesVaultLaw_start_11 rfl hl (by decide) rfl (fun ls hl => ?_)
  have hl : lv_has ls 3 [(2, .ref x1), (0, .ref a), (1, .ref o)] := hl
  refine lv_iconst (v := 1) hx hb d_SeriesVaultLaw_start_12 (by decide) ?_
  exact rtI hx hb hr hlk hP hD hS () rfl [1, 0] rfl rfl (by decide) (Nat.le_of_ble_eq_true rfl) (Nat.le_of_ble_eq_true rfl) d_SeriesVaultLaw_start_13
theorem d_SeriesVaultLaw_letter_0 : decode method_8_code 0 = .ok (.aload_n 3, 1) := by decide +kernel
theorem d_SeriesVaultLaw_letter_1 : decode method_8_code 1 = .ok (.iconst 0, 1) := by decide +kernel
theorem d_SeriesVaultLaw_letter_2 : decode method_8_code 2 = .ok (.aload_n 0, 1) := by decide +kernel
theorem d_SeriesVaultLaw_letter_3 : decode method_8_code 3 = .ok (.iload_n 1, 1) := by decide +kernel
theorem d_SeriesVaultLaw_letter_4 : decode method_8_code 4 = .ok (.iload_n 2, 1) := by decide +kernel
theorem d_SeriesVaultLaw_letter_5 : decode method_8_code 5 = .ok (.invokevirtual 37, 3) := by decide +kernel
theorem d_SeriesVaultLaw_letter_17 : decode method_8_code 17 = .ok (.astore 4, 2) := by decide +kernel
theorem d_SeriesVaultLaw_letter_19 : decode method_8_code 19 = .ok (.iconst 2, 1) := by decide +kernel
theorem d_SeriesVaultLaw_letter_20 : decode method_8_code 20 = .ok (.ireturn, 1) := by decide +kernel
theorem w368 : Cond.methodLink "SeriesVaultLaw" 37 ⟨"SeriesVault", "letter", "(II)I"⟩ ∈ aW := aw_of (tb_5 (List.mem_of_getElem? (i := 118) rfl)) rfl
theorem w369 : Cond.code ⟨"SeriesVault", "letter", "(II)I"⟩ prog_1_method_26_code 3 (some FieldType.int) ∈ aW := aw_of (tb_5 (List.mem_of_getElem? (i := 121) rfl)) rfl
theorem w370 : Cond.instanceMethod ⟨"SeriesVault", "letter", "(II)I"⟩ ∈ aW := aw_of (tb_5 (List.mem_of_getElem? (i := 119) rfl)) rfl
theorem w371 : Cond.selects "SeriesVault" ⟨"SeriesVault", "letter", "(II)I"⟩ ⟨"SeriesVault", "letter", "(II)I"⟩ ∈ aW := aw_of (tb_5 (List.mem_of_getElem? (i := 120) rfl)) rfl
set_option maxHeartbeats 4000000 in
set_option maxRecDepth 100000 in
theorem c_K_letter_x (l : Launch) (htr : l.stackTraces = false) (D : va_G) (dA : Nat → ClassId) (sz : Nat) (a : Nat) (fs : List Value) (b : Nat) (gs : List Value) (k : Int32) (n : Int32) (i : Int32) (o : Nat) (g : Nat → Int64) (h0 : n < 0 ∨ k ≤ n) (h_fs_powered : fs[5]? = some (.int 1)) (h_fs_now : fs[11]? = some (.ref b)) (hl_fs : fs.length = 18) (h_gs_seriesCount : gs[8]? = some (.int k)) (hl_gs : gs.length = 11) : Met l ⟨"SeriesVaultLaw", "letter", "(LSeriesVault;II[J)I"⟩ [Cond.codeWith ⟨"SeriesVaultLaw", "letter", "(LSeriesVault;II[J)I"⟩ method_8_code 5 (some FieldType.int) [(0, 10, 13, 29), (0, 10, 17, 35)]] { frames := 8, cells := 1, slots := 6, locals := 124 } (pC D dA [.ref a, .int n, .int i, .ref o] [(a, .inr (0, fs)), (b, .inr (3, gs)), (o, .inl (dA 2, 1, .inr (.inl g)))] sz) (va_Qi (fun (r : Int32) (_ : Unit) => r = 2) (fun (u9 : Unit) t9 => bW D (va_A [(a, .inr (0, fs)), (b, .inr (3, gs)), (o, .inl (dA 2, 1, .inr (.inl g)))] sz) [(a, .inr (0, fs)), (b, .inr (3, gs)), (o, .inl (dA 2, 1, .inr (.inl g)))] t9) (va_A [(a, .inr (0, fs)), (b, .inr (3, gs)), (o, .inl (dA 2, 1, .inr (.inl g)))] sz)) 1 6 (va_A [(a, .inr (0, fs)), (b, .inr (3, gs)), (o, .inl (dA 2, 1, .inr (.inl g)))] sz) := by
  refine mkW (Qc := fun A => va_Qi (fun (r : Int32) (_ : Unit) => r = 2) (fun (u9 : Unit) t9 => bW D A [(a, .inr (0, fs)), (b, .inr (3, gs)), (o, .inl (dA 2, 1, .inr (.inl g)))] t9) A) (by decide) (Nat.le_of_ble_eq_true rfl) ?_
  intro A p e s m below meth c ls hsz htab hB
  obtain ⟨hx, hb, hr, hml, hown, hin, hlk, hE, hK, hP, hD, hS, hA, hN, hl⟩ := hB
  have hown : s.vm.findClass "SeriesVaultLaw" = some m.cls := hown
  have hin : meth.name = "letter" := hin
  have hl : lv_has ls 5 [(0, .ref a), (1, .int n), (2, .int i), (3, .ref o)] := hl
  obtain ⟨H, hH⟩ : ∃ z, z = s.heap := ⟨_, rfl⟩
  have hP : va_P D vwCl [(a, .inr (0, fs)), (b, .inr (3, gs)), (o, .inl (dA 2, 1, .inr (.inl g)))] H := by rw [hH]; exact hP
  have hS : va_S A s.heap H [] := by rw [hH]; exact hS
  rw [← hH]
  refine lv_aload_n hx hb d_SeriesVaultLaw_letter_0 rfl (lv_at hl 3 rfl) ?_
  refine lv_iconst (v := 0) hx hb d_SeriesVaultLaw_letter_1 (by decide) ?_
  refine lv_aload_n hx hb d_SeriesVaultLaw_letter_2 rfl (lv_at hl 0 rfl) ?_
  refine lv_iload_n hx hb d_SeriesVaultLaw_letter_3 rfl (lv_at hl 1 rfl) ?_
  refine lv_iload_n hx hb d_SeriesVaultLaw_letter_4 rfl (lv_at hl 2 rfl) ?_
  have hPc := hP.sub (ws' := [(a, .inr (0, fs)), (b, .inr (3, gs))]) [0, 1] rfl
  have hDc := hD.sub (ws' := [(a, .inr (0, fs)), (b, .inr (3, gs))]) [0, 1] (by decide) rfl
  refine xnV (As := [.int n, .int i]) (rest := [.int 0, .ref o]) hx hb hml hown hE hK (hN _ _ hS) hPc hDc (c_V_letter_x l htr D dA H.size a fs b gs k n i h0 h_fs_powered h_fs_now hl_fs h_gs_seriesCount hl_gs) (q0 := 0) rfl rfl w369 w368 w370 w371 w277 rfl rfl ⟨⟨by decide, by decide⟩, rfl⟩ ⟨(Nat.le_of_ble_eq_true rfl), (Nat.le_of_ble_eq_true rfl)⟩ rfl hl.1 rfl (Nat.le_of_ble_eq_true rfl) d_SeriesVaultLaw_letter_5 ⟨(Nat.le_of_ble_eq_true rfl), (Nat.le_of_ble_eq_true rfl)⟩ hP hD hS hA [0, 1] [2] (wr := [(o, .inl (dA 2, 1, .inr (.inl g)))]) rfl rfl (by decide) (by decide) (fun x1 ce H locs hP hD hS hce hcv hcl => ?_)
  have hP : va_P D vwCl [(o, .inl (dA 2, 1, .inr (.inl g))), (a, .inr (0, fs)), (b, .inr (3, gs))] H := hP
  have hD : va_D A [(o, .inl (dA 2, 1, .inr (.inl g))), (a, .inr (0, fs)), (b, .inr (3, gs))] := hD
  refine xCatch (E := "java/lang/IndexOutOfBoundsException") hown hE [⟨0, 10, 13, 29⟩] ⟨0, 10, 17, 35⟩ [] htab (List.forall_mem_cons.mpr ⟨⟨by decide, "java/lang/IllegalStateException", w363, by decide⟩, fun _ h => absurd h List.not_mem_nil⟩) (by decide) (by decide) w354 w222 hce hcv hcl ?_
  refine lv_astore hx hb d_SeriesVaultLaw_letter_17 hl (by decide) rfl (fun ls hl => ?_)
  have hl : lv_has ls 5 [(4, .ref x1), (0, .ref a), (1, .int n), (2, .int i), (3, .ref o)] := hl
  refine lv_iconst (v := 2) hx hb d_SeriesVaultLaw_letter_19 (by decide) ?_
  exact rtI hx hb hr hlk hP hD hS () rfl [1, 2, 0] rfl rfl (by decide) (Nat.le_of_ble_eq_true rfl) (Nat.le_of_ble_eq_true rfl) d_SeriesVaultLaw_letter_20
theorem d_SeriesVaultLaw_last_0 : decode method_22_code 0 = .ok (.aload_n 2, 1) := by decide +kernel
theorem d_SeriesVaultLaw_last_1 : decode method_22_code 1 = .ok (.iconst 0, 1) := by decide +kernel
theorem d_SeriesVaultLaw_last_2 : decode method_22_code 2 = .ok (.aload_n 0, 1) := by decide +kernel
theorem d_SeriesVaultLaw_last_3 : decode method_22_code 3 = .ok (.iload_n 1, 1) := by decide +kernel
theorem d_SeriesVaultLaw_last_4 : decode method_22_code 4 = .ok (.invokevirtual 87, 3) := by decide +kernel
theorem d_SeriesVaultLaw_last_14 : decode method_22_code 14 = .ok (.astore_n 3, 1) := by decide +kernel
theorem d_SeriesVaultLaw_last_15 : decode method_22_code 15 = .ok (.iconst 2, 1) := by decide +kernel
theorem d_SeriesVaultLaw_last_16 : decode method_22_code 16 = .ok (.ireturn, 1) := by decide +kernel
theorem w372 : Cond.methodLink "SeriesVaultLaw" 87 ⟨"SeriesVault", "last", "(I)J"⟩ ∈ aW := aw_of (tb_8 (List.mem_of_getElem? (i := 134) rfl)) rfl
theorem w373 : Cond.code ⟨"SeriesVault", "last", "(I)J"⟩ prog_1_method_27_code 2 (some FieldType.long) ∈ aW := aw_of (tb_8 (List.mem_of_getElem? (i := 137) rfl)) rfl
theorem w374 : Cond.instanceMethod ⟨"SeriesVault", "last", "(I)J"⟩ ∈ aW := aw_of (tb_8 (List.mem_of_getElem? (i := 135) rfl)) rfl
theorem w375 : Cond.selects "SeriesVault" ⟨"SeriesVault", "last", "(I)J"⟩ ⟨"SeriesVault", "last", "(I)J"⟩ ∈ aW := aw_of (tb_8 (List.mem_of_getElem? (i := 136) rfl)) rfl
set_option maxHeartbeats 4000000 in
set_option maxRecDepth 100000 in
theorem c_K_last_x (l : Launch) (htr : l.stackTraces = false) (D : va_G) (dA : Nat → ClassId) (sz : Nat) (a : Nat) (fs : List Value) (b : Nat) (gs : List Value) (k : Int32) (n : Int32) (o : Nat) (g : Nat → Int64) (h0 : n < 0 ∨ k ≤ n) (h_fs_powered : fs[5]? = some (.int 1)) (h_fs_now : fs[11]? = some (.ref b)) (hl_fs : fs.length = 18) (h_gs_seriesCount : gs[8]? = some (.int k)) (hl_gs : gs.length = 11) : Met l ⟨"SeriesVaultLaw", "last", "(LSeriesVault;I[J)I"⟩ [Cond.codeWith ⟨"SeriesVaultLaw", "last", "(LSeriesVault;I[J)I"⟩ method_22_code 4 (some FieldType.int) [(0, 8, 11, 29), (0, 8, 14, 35)]] { frames := 8, cells := 1, slots := 6, locals := 123 } (pC D dA [.ref a, .int n, .ref o] [(a, .inr (0, fs)), (b, .inr (3, gs)), (o, .inl (dA 2, 1, .inr (.inl g)))] sz) (va_Qi (fun (r : Int32) (_ : Unit) => r = 2) (fun (u9 : Unit) t9 => bW D (va_A [(a, .inr (0, fs)), (b, .inr (3, gs)), (o, .inl (dA 2, 1, .inr (.inl g)))] sz) [(a, .inr (0, fs)), (b, .inr (3, gs)), (o, .inl (dA 2, 1, .inr (.inl g)))] t9) (va_A [(a, .inr (0, fs)), (b, .inr (3, gs)), (o, .inl (dA 2, 1, .inr (.inl g)))] sz)) 1 6 (va_A [(a, .inr (0, fs)), (b, .inr (3, gs)), (o, .inl (dA 2, 1, .inr (.inl g)))] sz) := by
  refine mkW (Qc := fun A => va_Qi (fun (r : Int32) (_ : Unit) => r = 2) (fun (u9 : Unit) t9 => bW D A [(a, .inr (0, fs)), (b, .inr (3, gs)), (o, .inl (dA 2, 1, .inr (.inl g)))] t9) A) (by decide) (Nat.le_of_ble_eq_true rfl) ?_
  intro A p e s m below meth c ls hsz htab hB
  obtain ⟨hx, hb, hr, hml, hown, hin, hlk, hE, hK, hP, hD, hS, hA, hN, hl⟩ := hB
  have hown : s.vm.findClass "SeriesVaultLaw" = some m.cls := hown
  have hin : meth.name = "last" := hin
  have hl : lv_has ls 4 [(0, .ref a), (1, .int n), (2, .ref o)] := hl
  obtain ⟨H, hH⟩ : ∃ z, z = s.heap := ⟨_, rfl⟩
  have hP : va_P D vwCl [(a, .inr (0, fs)), (b, .inr (3, gs)), (o, .inl (dA 2, 1, .inr (.inl g)))] H := by rw [hH]; exact hP
  have hS : va_S A s.heap H [] := by rw [hH]; exact hS
  rw [← hH]
  refine lv_aload_n hx hb d_SeriesVaultLaw_last_0 rfl (lv_at hl 2 rfl) ?_
  refine lv_iconst (v := 0) hx hb d_SeriesVaultLaw_last_1 (by decide) ?_
  refine lv_aload_n hx hb d_SeriesVaultLaw_last_2 rfl (lv_at hl 0 rfl) ?_
  refine lv_iload_n hx hb d_SeriesVaultLaw_last_3 rfl (lv_at hl 1 rfl) ?_
  have hPc := hP.sub (ws' := [(a, .inr (0, fs)), (b, .inr (3, gs))]) [0, 1] rfl
  have hDc := hD.sub (ws' := [(a, .inr (0, fs)), (b, .inr (3, gs))]) [0, 1] (by decide) rfl
  refine xnV (As := [.int n]) (rest := [.int 0, .ref o]) hx hb hml hown hE hK (hN _ _ hS) hPc hDc (c_V_last_x l htr D dA H.size a fs b gs k n h0 h_fs_powered h_fs_now hl_fs h_gs_seriesCount hl_gs) (q0 := 0) rfl rfl w373 w372 w374 w375 w277 rfl rfl ⟨⟨by decide, by decide⟩, rfl⟩ ⟨(Nat.le_of_ble_eq_true rfl), (Nat.le_of_ble_eq_true rfl)⟩ rfl hl.1 rfl (Nat.le_of_ble_eq_true rfl) d_SeriesVaultLaw_last_4 ⟨(Nat.le_of_ble_eq_true rfl), (Nat.le_of_ble_eq_true rfl)⟩ hP hD hS hA [0, 1] [2] (wr := [(o, .inl (dA 2, 1, .inr (.inl g)))]) rfl rfl (by decide) (by decide) (fun x1 ce H locs hP hD hS hce hcv hcl => ?_)
  have hP : va_P D vwCl [(o, .inl (dA 2, 1, .inr (.inl g))), (a, .inr (0, fs)), (b, .inr (3, gs))] H := hP
  have hD : va_D A [(o, .inl (dA 2, 1, .inr (.inl g))), (a, .inr (0, fs)), (b, .inr (3, gs))] := hD
  refine xCatch (E := "java/lang/IndexOutOfBoundsException") hown hE [⟨0, 8, 11, 29⟩] ⟨0, 8, 14, 35⟩ [] htab (List.forall_mem_cons.mpr ⟨⟨by decide, "java/lang/IllegalStateException", w363, by decide⟩, fun _ h => absurd h List.not_mem_nil⟩) (by decide) (by decide) w354 w222 hce hcv hcl ?_
  refine lv_astore_n hx hb d_SeriesVaultLaw_last_14 rfl hl (by decide) rfl (fun ls hl => ?_)
  have hl : lv_has ls 4 [(3, .ref x1), (0, .ref a), (1, .int n), (2, .ref o)] := hl
  refine lv_iconst (v := 2) hx hb d_SeriesVaultLaw_last_15 (by decide) ?_
  exact rtI hx hb hr hlk hP hD hS () rfl [1, 2, 0] rfl rfl (by decide) (Nat.le_of_ble_eq_true rfl) (Nat.le_of_ble_eq_true rfl) d_SeriesVaultLaw_last_16
theorem d_SeriesVaultLaw_append_0 : decode method_9_code 0 = .ok (.aload 6, 2) := by decide +kernel
theorem d_SeriesVaultLaw_append_2 : decode method_9_code 2 = .ok (.iconst 0, 1) := by decide +kernel
theorem d_SeriesVaultLaw_append_3 : decode method_9_code 3 = .ok (.aload_n 0, 1) := by decide +kernel
theorem d_SeriesVaultLaw_append_4 : decode method_9_code 4 = .ok (.iload_n 1, 1) := by decide +kernel
theorem d_SeriesVaultLaw_append_5 : decode method_9_code 5 = .ok (.lload_n 2, 1) := by decide +kernel
theorem d_SeriesVaultLaw_append_6 : decode method_9_code 6 = .ok (.lload 4, 2) := by decide +kernel
theorem d_SeriesVaultLaw_append_8 : decode method_9_code 8 = .ok (.invokevirtual 41, 3) := by decide +kernel
theorem d_SeriesVaultLaw_append_20 : decode method_9_code 20 = .ok (.astore 7, 2) := by decide +kernel
theorem d_SeriesVaultLaw_append_22 : decode method_9_code 22 = .ok (.iconst 2, 1) := by decide +kernel
theorem d_SeriesVaultLaw_append_23 : decode method_9_code 23 = .ok (.ireturn, 1) := by decide +kernel
theorem w376 : Cond.methodLink "SeriesVaultLaw" 41 ⟨"SeriesVault", "append", "(IJJ)I"⟩ ∈ aW := aw_of (tb_5 (List.mem_of_getElem? (i := 133) rfl)) rfl
theorem w377 : Cond.code ⟨"SeriesVault", "append", "(IJJ)I"⟩ prog_1_method_28_code 6 (some FieldType.int) ∈ aW := aw_of (tb_5 (List.mem_of_getElem? (i := 136) rfl)) rfl
theorem w378 : Cond.instanceMethod ⟨"SeriesVault", "append", "(IJJ)I"⟩ ∈ aW := aw_of (tb_5 (List.mem_of_getElem? (i := 134) rfl)) rfl
theorem w379 : Cond.selects "SeriesVault" ⟨"SeriesVault", "append", "(IJJ)I"⟩ ⟨"SeriesVault", "append", "(IJJ)I"⟩ ∈ aW := aw_of (tb_5 (List.mem_of_getElem? (i := 135) rfl)) rfl
set_option maxHeartbeats 4000000 in
set_option maxRecDepth 100000 in
theorem c_K_append_x (l : Launch) (htr : l.stackTraces = false) (D : va_G) (dA : Nat → ClassId) (sz : Nat) (a : Nat) (fs : List Value) (b : Nat) (gs : List Value) (k : Int32) (n : Int32) (t : Int64) (v : Int64) (o : Nat) (g : Nat → Int64) (h0 : n < 0 ∨ k ≤ n) (h_fs_powered : fs[5]? = some (.int 1)) (h_fs_now : fs[11]? = some (.ref b)) (hl_fs : fs.length = 18) (h_gs_seriesCount : gs[8]? = some (.int k)) (hl_gs : gs.length = 11) : Met l ⟨"SeriesVaultLaw", "append", "(LSeriesVault;IJJ[J)I"⟩ [Cond.codeWith ⟨"SeriesVaultLaw", "append", "(LSeriesVault;IJJ[J)I"⟩ method_9_code 8 (some FieldType.int) [(0, 13, 16, 29), (0, 13, 20, 35), (0, 13, 24, 19), (0, 13, 28, 13)]] { frames := 8, cells := 1, slots := 6, locals := 127 } (pC D dA [.ref a, .int n, .long t, .long v, .ref o] [(a, .inr (0, fs)), (b, .inr (3, gs)), (o, .inl (dA 2, 1, .inr (.inl g)))] sz) (va_Qi (fun (r : Int32) (_ : Unit) => r = 2) (fun (u9 : Unit) t9 => bW D (va_A [(a, .inr (0, fs)), (b, .inr (3, gs)), (o, .inl (dA 2, 1, .inr (.inl g)))] sz) [(a, .inr (0, fs)), (b, .inr (3, gs)), (o, .inl (dA 2, 1, .inr (.inl g)))] t9) (va_A [(a, .inr (0, fs)), (b, .inr (3, gs)), (o, .inl (dA 2, 1, .inr (.inl g)))] sz)) 1 6 (va_A [(a, .inr (0, fs)), (b, .inr (3, gs)), (o, .inl (dA 2, 1, .inr (.inl g)))] sz) := by
  refine mkW (Qc := fun A => va_Qi (fun (r : Int32) (_ : Unit) => r = 2) (fun (u9 : Unit) t9 => bW D A [(a, .inr (0, fs)), (b, .inr (3, gs)), (o, .inl (dA 2, 1, .inr (.inl g)))] t9) A) (by decide) (Nat.le_of_ble_eq_true rfl) ?_
  intro A p e s m below meth c ls hsz htab hB
  obtain ⟨hx, hb, hr, hml, hown, hin, hlk, hE, hK, hP, hD, hS, hA, hN, hl⟩ := hB
  have hown : s.vm.findClass "SeriesVaultLaw" = some m.cls := hown
  have hin : meth.name = "append" := hin
  have hl : lv_has ls 8 [(0, .ref a), (1, .int n), (2, .long t), (4, .long v), (6, .ref o)] := hl
  obtain ⟨H, hH⟩ : ∃ z, z = s.heap := ⟨_, rfl⟩
  have hP : va_P D vwCl [(a, .inr (0, fs)), (b, .inr (3, gs)), (o, .inl (dA 2, 1, .inr (.inl g)))] H := by rw [hH]; exact hP
  have hS : va_S A s.heap H [] := by rw [hH]; exact hS
  rw [← hH]
  refine lv_aload hx hb d_SeriesVaultLaw_append_0 (lv_at hl 4 rfl) ?_
  refine lv_iconst (v := 0) hx hb d_SeriesVaultLaw_append_2 (by decide) ?_
  refine lv_aload_n hx hb d_SeriesVaultLaw_append_3 rfl (lv_at hl 0 rfl) ?_
  refine lv_iload_n hx hb d_SeriesVaultLaw_append_4 rfl (lv_at hl 1 rfl) ?_
  refine lv_lload_n hx hb d_SeriesVaultLaw_append_5 rfl (lv_at hl 2 rfl) ?_
  refine lv_lload hx hb d_SeriesVaultLaw_append_6 (lv_at hl 3 rfl) ?_
  have hPc := hP.sub (ws' := [(a, .inr (0, fs)), (b, .inr (3, gs))]) [0, 1] rfl
  have hDc := hD.sub (ws' := [(a, .inr (0, fs)), (b, .inr (3, gs))]) [0, 1] (by decide) rfl
  refine xnV (As := [.int n, .long t, .long v]) (rest := [.int 0, .ref o]) hx hb hml hown hE hK (hN _ _ hS) hPc hDc (c_V_append_x l htr D dA H.size a fs b gs k n t v h0 h_fs_powered h_fs_now hl_fs h_gs_seriesCount hl_gs) (q0 := 0) rfl rfl w377 w376 w378 w379 w277 rfl rfl ⟨⟨by decide, by decide⟩, rfl⟩ ⟨(Nat.le_of_ble_eq_true rfl), (Nat.le_of_ble_eq_true rfl)⟩ rfl hl.1 rfl (Nat.le_of_ble_eq_true rfl) d_SeriesVaultLaw_append_8 ⟨(Nat.le_of_ble_eq_true rfl), (Nat.le_of_ble_eq_true rfl)⟩ hP hD hS hA [0, 1] [2] (wr := [(o, .inl (dA 2, 1, .inr (.inl g)))]) rfl rfl (by decide) (by decide) (fun x1 ce H locs hP hD hS hce hcv hcl => ?_)
  have hP : va_P D vwCl [(o, .inl (dA 2, 1, .inr (.inl g))), (a, .inr (0, fs)), (b, .inr (3, gs))] H := hP
  have hD : va_D A [(o, .inl (dA 2, 1, .inr (.inl g))), (a, .inr (0, fs)), (b, .inr (3, gs))] := hD
  refine xCatch (E := "java/lang/IndexOutOfBoundsException") hown hE [⟨0, 13, 16, 29⟩] ⟨0, 13, 20, 35⟩ [⟨0, 13, 24, 19⟩, ⟨0, 13, 28, 13⟩] htab (List.forall_mem_cons.mpr ⟨⟨by decide, "java/lang/IllegalStateException", w363, by decide⟩, fun _ h => absurd h List.not_mem_nil⟩) (by decide) (by decide) w354 w222 hce hcv hcl ?_
  refine lv_astore hx hb d_SeriesVaultLaw_append_20 hl (by decide) rfl (fun ls hl => ?_)
  have hl : lv_has ls 8 [(7, .ref x1), (0, .ref a), (1, .int n), (2, .long t), (4, .long v), (6, .ref o)] := hl
  refine lv_iconst (v := 2) hx hb d_SeriesVaultLaw_append_22 (by decide) ?_
  exact rtI hx hb hr hlk hP hD hS () rfl [1, 2, 0] rfl rfl (by decide) (Nat.le_of_ble_eq_true rfl) (Nat.le_of_ble_eq_true rfl) d_SeriesVaultLaw_append_23
theorem d_SeriesVaultLaw_bulk_0 : decode method_10_code 0 = .ok (.aload_n 2, 1) := by decide +kernel
theorem d_SeriesVaultLaw_bulk_1 : decode method_10_code 1 = .ok (.iconst 0, 1) := by decide +kernel
theorem d_SeriesVaultLaw_bulk_2 : decode method_10_code 2 = .ok (.aload_n 0, 1) := by decide +kernel
theorem d_SeriesVaultLaw_bulk_3 : decode method_10_code 3 = .ok (.iload_n 1, 1) := by decide +kernel
theorem d_SeriesVaultLaw_bulk_4 : decode method_10_code 4 = .ok (.invokevirtual 45, 3) := by decide +kernel
theorem d_SeriesVaultLaw_bulk_15 : decode method_10_code 15 = .ok (.astore_n 3, 1) := by decide +kernel
theorem d_SeriesVaultLaw_bulk_16 : decode method_10_code 16 = .ok (.iconst 2, 1) := by decide +kernel
theorem d_SeriesVaultLaw_bulk_17 : decode method_10_code 17 = .ok (.ireturn, 1) := by decide +kernel
theorem w380 : Cond.methodLink "SeriesVaultLaw" 45 ⟨"SeriesVault", "bulk", "(I)I"⟩ ∈ aW := aw_of (tb_5 (List.mem_of_getElem? (i := 166) rfl)) rfl
theorem w381 : Cond.code ⟨"SeriesVault", "bulk", "(I)I"⟩ prog_1_method_33_code 6 (some FieldType.int) ∈ aW := aw_of (tb_5 (List.mem_of_getElem? (i := 169) rfl)) rfl
theorem w382 : Cond.instanceMethod ⟨"SeriesVault", "bulk", "(I)I"⟩ ∈ aW := aw_of (tb_5 (List.mem_of_getElem? (i := 167) rfl)) rfl
theorem w383 : Cond.selects "SeriesVault" ⟨"SeriesVault", "bulk", "(I)I"⟩ ⟨"SeriesVault", "bulk", "(I)I"⟩ ∈ aW := aw_of (tb_5 (List.mem_of_getElem? (i := 168) rfl)) rfl
set_option maxHeartbeats 4000000 in
set_option maxRecDepth 100000 in
theorem c_K_bulk_x (l : Launch) (htr : l.stackTraces = false) (D : va_G) (dA : Nat → ClassId) (sz : Nat) (a : Nat) (fs : List Value) (b : Nat) (gs : List Value) (k : Int32) (n : Int32) (o : Nat) (g : Nat → Int64) (h0 : n < 0 ∨ k ≤ n) (h_fs_powered : fs[5]? = some (.int 1)) (h_fs_now : fs[11]? = some (.ref b)) (hl_fs : fs.length = 18) (h_gs_seriesCount : gs[8]? = some (.int k)) (hl_gs : gs.length = 11) : Met l ⟨"SeriesVaultLaw", "bulk", "(LSeriesVault;I[J)I"⟩ [Cond.codeWith ⟨"SeriesVaultLaw", "bulk", "(LSeriesVault;I[J)I"⟩ method_10_code 4 (some FieldType.int) [(0, 9, 12, 29), (0, 9, 15, 35)]] { frames := 8, cells := 1, slots := 6, locals := 127 } (pC D dA [.ref a, .int n, .ref o] [(a, .inr (0, fs)), (b, .inr (3, gs)), (o, .inl (dA 2, 1, .inr (.inl g)))] sz) (va_Qi (fun (r : Int32) (_ : Unit) => r = 2) (fun (u9 : Unit) t9 => bW D (va_A [(a, .inr (0, fs)), (b, .inr (3, gs)), (o, .inl (dA 2, 1, .inr (.inl g)))] sz) [(a, .inr (0, fs)), (b, .inr (3, gs)), (o, .inl (dA 2, 1, .inr (.inl g)))] t9) (va_A [(a, .inr (0, fs)), (b, .inr (3, gs)), (o, .inl (dA 2, 1, .inr (.inl g)))] sz)) 1 6 (va_A [(a, .inr (0, fs)), (b, .inr (3, gs)), (o, .inl (dA 2, 1, .inr (.inl g)))] sz) := by
  refine mkW (Qc := fun A => va_Qi (fun (r : Int32) (_ : Unit) => r = 2) (fun (u9 : Unit) t9 => bW D A [(a, .inr (0, fs)), (b, .inr (3, gs)), (o, .inl (dA 2, 1, .inr (.inl g)))] t9) A) (by decide) (Nat.le_of_ble_eq_true rfl) ?_
  intro A p e s m below meth c ls hsz htab hB
  obtain ⟨hx, hb, hr, hml, hown, hin, hlk, hE, hK, hP, hD, hS, hA, hN, hl⟩ := hB
  have hown : s.vm.findClass "SeriesVaultLaw" = some m.cls := hown
  have hin : meth.name = "bulk" := hin
  have hl : lv_has ls 4 [(0, .ref a), (1, .int n), (2, .ref o)] := hl
  obtain ⟨H, hH⟩ : ∃ z, z = s.heap := ⟨_, rfl⟩
  have hP : va_P D vwCl [(a, .inr (0, fs)), (b, .inr (3, gs)), (o, .inl (dA 2, 1, .inr (.inl g)))] H := by rw [hH]; exact hP
  have hS : va_S A s.heap H [] := by rw [hH]; exact hS
  rw [← hH]
  refine lv_aload_n hx hb d_SeriesVaultLaw_bulk_0 rfl (lv_at hl 2 rfl) ?_
  refine lv_iconst (v := 0) hx hb d_SeriesVaultLaw_bulk_1 (by decide) ?_
  refine lv_aload_n hx hb d_SeriesVaultLaw_bulk_2 rfl (lv_at hl 0 rfl) ?_
  refine lv_iload_n hx hb d_SeriesVaultLaw_bulk_3 rfl (lv_at hl 1 rfl) ?_
  have hPc := hP.sub (ws' := [(a, .inr (0, fs)), (b, .inr (3, gs))]) [0, 1] rfl
  have hDc := hD.sub (ws' := [(a, .inr (0, fs)), (b, .inr (3, gs))]) [0, 1] (by decide) rfl
  refine xnV (As := [.int n]) (rest := [.int 0, .ref o]) hx hb hml hown hE hK (hN _ _ hS) hPc hDc (c_V_bulk_x l htr D dA H.size a fs b gs k n h0 h_fs_powered h_fs_now hl_fs h_gs_seriesCount hl_gs) (q0 := 0) rfl rfl w381 w380 w382 w383 w277 rfl rfl ⟨⟨by decide, by decide⟩, rfl⟩ ⟨(Nat.le_of_ble_eq_true rfl), (Nat.le_of_ble_eq_true rfl)⟩ rfl hl.1 rfl (Nat.le_of_ble_eq_true rfl) d_SeriesVaultLaw_bulk_4 ⟨(Nat.le_of_ble_eq_true rfl), (Nat.le_of_ble_eq_true rfl)⟩ hP hD hS hA [0, 1] [2] (wr := [(o, .inl (dA 2, 1, .inr (.inl g)))]) rfl rfl (by decide) (by decide) (fun x1 ce H locs hP hD hS hce hcv hcl => ?_)
  have hP : va_P D vwCl [(o, .inl (dA 2, 1, .inr (.inl g))), (a, .inr (0, fs)), (b, .inr (3, gs))] H := hP
  have hD : va_D A [(o, .inl (dA 2, 1, .inr (.inl g))), (a, .inr (0, fs)), (b, .inr (3, gs))] := hD
  refine xCatch (E := "java/lang/IndexOutOfBoundsException") hown hE [⟨0, 9, 12, 29⟩] ⟨0, 9, 15, 35⟩ [] htab (List.forall_mem_cons.mpr ⟨⟨by decide, "java/lang/IllegalStateException", w363, by decide⟩, fun _ h => absurd h List.not_mem_nil⟩) (by decide) (by decide) w354 w222 hce hcv hcl ?_
  refine lv_astore_n hx hb d_SeriesVaultLaw_bulk_15 rfl hl (by decide) rfl (fun ls hl => ?_)
  have hl : lv_has ls 4 [(3, .ref x1), (0, .ref a), (1, .int n), (2, .ref o)] := hl
  refine lv_iconst (v := 2) hx hb d_SeriesVaultLaw_bulk_16 (by decide) ?_
  exact rtI hx hb hr hlk hP hD hS () rfl [1, 2, 0] rfl rfl (by decide) (Nat.le_of_ble_eq_true rfl) (Nat.le_of_ble_eq_true rfl) d_SeriesVaultLaw_bulk_17
theorem d_SeriesVaultLaw_delete_0 : decode method_11_code 0 = .ok (.aload 6, 2) := by decide +kernel
theorem d_SeriesVaultLaw_delete_2 : decode method_11_code 2 = .ok (.iconst 0, 1) := by decide +kernel
theorem d_SeriesVaultLaw_delete_3 : decode method_11_code 3 = .ok (.aload_n 0, 1) := by decide +kernel
theorem d_SeriesVaultLaw_delete_4 : decode method_11_code 4 = .ok (.iload_n 1, 1) := by decide +kernel
theorem d_SeriesVaultLaw_delete_5 : decode method_11_code 5 = .ok (.lload_n 2, 1) := by decide +kernel
theorem d_SeriesVaultLaw_delete_6 : decode method_11_code 6 = .ok (.lload 4, 2) := by decide +kernel
theorem d_SeriesVaultLaw_delete_8 : decode method_11_code 8 = .ok (.invokevirtual 48, 3) := by decide +kernel
theorem d_SeriesVaultLaw_delete_20 : decode method_11_code 20 = .ok (.astore 7, 2) := by decide +kernel
theorem d_SeriesVaultLaw_delete_22 : decode method_11_code 22 = .ok (.iconst 2, 1) := by decide +kernel
theorem d_SeriesVaultLaw_delete_23 : decode method_11_code 23 = .ok (.ireturn, 1) := by decide +kernel
theorem w384 : Cond.methodLink "SeriesVaultLaw" 48 ⟨"SeriesVault", "delete", "(IJJ)I"⟩ ∈ aW := aw_of (tb_5 (List.mem_of_getElem? (i := 177) rfl)) rfl
theorem w385 : Cond.code ⟨"SeriesVault", "delete", "(IJJ)I"⟩ prog_1_method_34_code 8 (some FieldType.int) ∈ aW := aw_of (tb_5 (List.mem_of_getElem? (i := 180) rfl)) rfl
theorem w386 : Cond.instanceMethod ⟨"SeriesVault", "delete", "(IJJ)I"⟩ ∈ aW := aw_of (tb_5 (List.mem_of_getElem? (i := 178) rfl)) rfl
theorem w387 : Cond.selects "SeriesVault" ⟨"SeriesVault", "delete", "(IJJ)I"⟩ ⟨"SeriesVault", "delete", "(IJJ)I"⟩ ∈ aW := aw_of (tb_5 (List.mem_of_getElem? (i := 179) rfl)) rfl
set_option maxHeartbeats 4000000 in
set_option maxRecDepth 100000 in
theorem c_K_delete_x (l : Launch) (htr : l.stackTraces = false) (D : va_G) (dA : Nat → ClassId) (sz : Nat) (a : Nat) (fs : List Value) (b : Nat) (gs : List Value) (k : Int32) (n : Int32) (t : Int64) (v : Int64) (o : Nat) (g : Nat → Int64) (h0 : n < 0 ∨ k ≤ n) (h_fs_powered : fs[5]? = some (.int 1)) (h_fs_now : fs[11]? = some (.ref b)) (hl_fs : fs.length = 18) (h_gs_seriesCount : gs[8]? = some (.int k)) (hl_gs : gs.length = 11) : Met l ⟨"SeriesVaultLaw", "delete", "(LSeriesVault;IJJ[J)I"⟩ [Cond.codeWith ⟨"SeriesVaultLaw", "delete", "(LSeriesVault;IJJ[J)I"⟩ method_11_code 8 (some FieldType.int) [(0, 13, 16, 29), (0, 13, 20, 35), (0, 13, 24, 19), (0, 13, 28, 13)]] { frames := 8, cells := 1, slots := 6, locals := 129 } (pC D dA [.ref a, .int n, .long t, .long v, .ref o] [(a, .inr (0, fs)), (b, .inr (3, gs)), (o, .inl (dA 2, 1, .inr (.inl g)))] sz) (va_Qi (fun (r : Int32) (_ : Unit) => r = 2) (fun (u9 : Unit) t9 => bW D (va_A [(a, .inr (0, fs)), (b, .inr (3, gs)), (o, .inl (dA 2, 1, .inr (.inl g)))] sz) [(a, .inr (0, fs)), (b, .inr (3, gs)), (o, .inl (dA 2, 1, .inr (.inl g)))] t9) (va_A [(a, .inr (0, fs)), (b, .inr (3, gs)), (o, .inl (dA 2, 1, .inr (.inl g)))] sz)) 1 6 (va_A [(a, .inr (0, fs)), (b, .inr (3, gs)), (o, .inl (dA 2, 1, .inr (.inl g)))] sz) := by
  refine mkW (Qc := fun A => va_Qi (fun (r : Int32) (_ : Unit) => r = 2) (fun (u9 : Unit) t9 => bW D A [(a, .inr (0, fs)), (b, .inr (3, gs)), (o, .inl (dA 2, 1, .inr (.inl g)))] t9) A) (by decide) (Nat.le_of_ble_eq_true rfl) ?_
  intro A p e s m below meth c ls hsz htab hB
  obtain ⟨hx, hb, hr, hml, hown, hin, hlk, hE, hK, hP, hD, hS, hA, hN, hl⟩ := hB
  have hown : s.vm.findClass "SeriesVaultLaw" = some m.cls := hown
  have hin : meth.name = "delete" := hin
  have hl : lv_has ls 8 [(0, .ref a), (1, .int n), (2, .long t), (4, .long v), (6, .ref o)] := hl
  obtain ⟨H, hH⟩ : ∃ z, z = s.heap := ⟨_, rfl⟩
  have hP : va_P D vwCl [(a, .inr (0, fs)), (b, .inr (3, gs)), (o, .inl (dA 2, 1, .inr (.inl g)))] H := by rw [hH]; exact hP
  have hS : va_S A s.heap H [] := by rw [hH]; exact hS
  rw [← hH]
  refine lv_aload hx hb d_SeriesVaultLaw_delete_0 (lv_at hl 4 rfl) ?_
  refine lv_iconst (v := 0) hx hb d_SeriesVaultLaw_delete_2 (by decide) ?_
  refine lv_aload_n hx hb d_SeriesVaultLaw_delete_3 rfl (lv_at hl 0 rfl) ?_
  refine lv_iload_n hx hb d_SeriesVaultLaw_delete_4 rfl (lv_at hl 1 rfl) ?_
  refine lv_lload_n hx hb d_SeriesVaultLaw_delete_5 rfl (lv_at hl 2 rfl) ?_
  refine lv_lload hx hb d_SeriesVaultLaw_delete_6 (lv_at hl 3 rfl) ?_
  have hPc := hP.sub (ws' := [(a, .inr (0, fs)), (b, .inr (3, gs))]) [0, 1] rfl
  have hDc := hD.sub (ws' := [(a, .inr (0, fs)), (b, .inr (3, gs))]) [0, 1] (by decide) rfl
  refine xnV (As := [.int n, .long t, .long v]) (rest := [.int 0, .ref o]) hx hb hml hown hE hK (hN _ _ hS) hPc hDc (c_V_delete_x l htr D dA H.size a fs b gs k n t v h0 h_fs_powered h_fs_now hl_fs h_gs_seriesCount hl_gs) (q0 := 0) rfl rfl w385 w384 w386 w387 w277 rfl rfl ⟨⟨by decide, by decide⟩, rfl⟩ ⟨(Nat.le_of_ble_eq_true rfl), (Nat.le_of_ble_eq_true rfl)⟩ rfl hl.1 rfl (Nat.le_of_ble_eq_true rfl) d_SeriesVaultLaw_delete_8 ⟨(Nat.le_of_ble_eq_true rfl), (Nat.le_of_ble_eq_true rfl)⟩ hP hD hS hA [0, 1] [2] (wr := [(o, .inl (dA 2, 1, .inr (.inl g)))]) rfl rfl (by decide) (by decide) (fun x1 ce H locs hP hD hS hce hcv hcl => ?_)
  have hP : va_P D vwCl [(o, .inl (dA 2, 1, .inr (.inl g))), (a, .inr (0, fs)), (b, .inr (3, gs))] H := hP
  have hD : va_D A [(o, .inl (dA 2, 1, .inr (.inl g))), (a, .inr (0, fs)), (b, .inr (3, gs))] := hD
  refine xCatch (E := "java/lang/IndexOutOfBoundsException") hown hE [⟨0, 13, 16, 29⟩] ⟨0, 13, 20, 35⟩ [⟨0, 13, 24, 19⟩, ⟨0, 13, 28, 13⟩] htab (List.forall_mem_cons.mpr ⟨⟨by decide, "java/lang/IllegalStateException", w363, by decide⟩, fun _ h => absurd h List.not_mem_nil⟩) (by decide) (by decide) w354 w222 hce hcv hcl ?_
  refine lv_astore hx hb d_SeriesVaultLaw_delete_20 hl (by decide) rfl (fun ls hl => ?_)
  have hl : lv_has ls 8 [(7, .ref x1), (0, .ref a), (1, .int n), (2, .long t), (4, .long v), (6, .ref o)] := hl
  refine lv_iconst (v := 2) hx hb d_SeriesVaultLaw_delete_22 (by decide) ?_
  exact rtI hx hb hr hlk hP hD hS () rfl [1, 2, 0] rfl rfl (by decide) (Nat.le_of_ble_eq_true rfl) (Nat.le_of_ble_eq_true rfl) d_SeriesVaultLaw_delete_23
theorem d_SeriesVaultLaw_compact_0 : decode method_14_code 0 = .ok (.aload_n 2, 1) := by decide +kernel
theorem d_SeriesVaultLaw_compact_1 : decode method_14_code 1 = .ok (.iconst 0, 1) := by decide +kernel
theorem d_SeriesVaultLaw_compact_2 : decode method_14_code 2 = .ok (.aload_n 0, 1) := by decide +kernel
theorem d_SeriesVaultLaw_compact_3 : decode method_14_code 3 = .ok (.iload_n 1, 1) := by decide +kernel
theorem d_SeriesVaultLaw_compact_4 : decode method_14_code 4 = .ok (.invokevirtual 58, 3) := by decide +kernel
theorem d_SeriesVaultLaw_compact_15 : decode method_14_code 15 = .ok (.astore_n 3, 1) := by decide +kernel
theorem d_SeriesVaultLaw_compact_16 : decode method_14_code 16 = .ok (.iconst 2, 1) := by decide +kernel
theorem d_SeriesVaultLaw_compact_17 : decode method_14_code 17 = .ok (.ireturn, 1) := by decide +kernel
theorem w388 : Cond.methodLink "SeriesVaultLaw" 58 ⟨"SeriesVault", "compact", "(I)I"⟩ ∈ aW := aw_of (tb_6 (List.mem_of_getElem? (i := 119) rfl)) rfl
theorem w389 : Cond.code ⟨"SeriesVault", "compact", "(I)I"⟩ prog_1_method_40_code 4 (some FieldType.int) ∈ aW := aw_of (tb_6 (List.mem_of_getElem? (i := 122) rfl)) rfl
theorem w390 : Cond.instanceMethod ⟨"SeriesVault", "compact", "(I)I"⟩ ∈ aW := aw_of (tb_6 (List.mem_of_getElem? (i := 120) rfl)) rfl
theorem w391 : Cond.selects "SeriesVault" ⟨"SeriesVault", "compact", "(I)I"⟩ ⟨"SeriesVault", "compact", "(I)I"⟩ ∈ aW := aw_of (tb_6 (List.mem_of_getElem? (i := 121) rfl)) rfl
set_option maxHeartbeats 4000000 in
set_option maxRecDepth 100000 in
theorem c_K_compact_x (l : Launch) (htr : l.stackTraces = false) (D : va_G) (dA : Nat → ClassId) (sz : Nat) (a : Nat) (fs : List Value) (b : Nat) (gs : List Value) (k : Int32) (n : Int32) (o : Nat) (g : Nat → Int64) (h0 : n < 0 ∨ k - 1 ≤ n) (h_fs_powered : fs[5]? = some (.int 1)) (h_fs_now : fs[11]? = some (.ref b)) (hl_fs : fs.length = 18) (h_gs_parcelCount : gs[1]? = some (.int k)) (hl_gs : gs.length = 11) : Met l ⟨"SeriesVaultLaw", "compact", "(LSeriesVault;I[J)I"⟩ [Cond.codeWith ⟨"SeriesVaultLaw", "compact", "(LSeriesVault;I[J)I"⟩ method_14_code 4 (some FieldType.int) [(0, 9, 12, 29), (0, 9, 15, 35), (0, 9, 18, 13)]] { frames := 7, cells := 1, slots := 6, locals := 104 } (pC D dA [.ref a, .int n, .ref o] [(a, .inr (0, fs)), (b, .inr (3, gs)), (o, .inl (dA 2, 1, .inr (.inl g)))] sz) (va_Qi (fun (r : Int32) (_ : Unit) => r = 2) (fun (u9 : Unit) t9 => bW D (va_A [(a, .inr (0, fs)), (b, .inr (3, gs)), (o, .inl (dA 2, 1, .inr (.inl g)))] sz) [(b, .inr (3, gs)), (a, .inr (0, fs)), (o, .inl (dA 2, 1, .inr (.inl g)))] t9) (va_A [(a, .inr (0, fs)), (b, .inr (3, gs)), (o, .inl (dA 2, 1, .inr (.inl g)))] sz)) 1 6 (va_A [(a, .inr (0, fs)), (b, .inr (3, gs)), (o, .inl (dA 2, 1, .inr (.inl g)))] sz) := by
  refine mkW (Qc := fun A => va_Qi (fun (r : Int32) (_ : Unit) => r = 2) (fun (u9 : Unit) t9 => bW D A [(b, .inr (3, gs)), (a, .inr (0, fs)), (o, .inl (dA 2, 1, .inr (.inl g)))] t9) A) (by decide) (Nat.le_of_ble_eq_true rfl) ?_
  intro A p e s m below meth c ls hsz htab hB
  obtain ⟨hx, hb, hr, hml, hown, hin, hlk, hE, hK, hP, hD, hS, hA, hN, hl⟩ := hB
  have hown : s.vm.findClass "SeriesVaultLaw" = some m.cls := hown
  have hin : meth.name = "compact" := hin
  have hl : lv_has ls 4 [(0, .ref a), (1, .int n), (2, .ref o)] := hl
  obtain ⟨H, hH⟩ : ∃ z, z = s.heap := ⟨_, rfl⟩
  have hP : va_P D vwCl [(a, .inr (0, fs)), (b, .inr (3, gs)), (o, .inl (dA 2, 1, .inr (.inl g)))] H := by rw [hH]; exact hP
  have hS : va_S A s.heap H [] := by rw [hH]; exact hS
  rw [← hH]
  refine lv_aload_n hx hb d_SeriesVaultLaw_compact_0 rfl (lv_at hl 2 rfl) ?_
  refine lv_iconst (v := 0) hx hb d_SeriesVaultLaw_compact_1 (by decide) ?_
  refine lv_aload_n hx hb d_SeriesVaultLaw_compact_2 rfl (lv_at hl 0 rfl) ?_
  refine lv_iload_n hx hb d_SeriesVaultLaw_compact_3 rfl (lv_at hl 1 rfl) ?_
  have hPc := hP.sub (ws' := [(a, .inr (0, fs)), (b, .inr (3, gs))]) [0, 1] rfl
  have hDc := hD.sub (ws' := [(a, .inr (0, fs)), (b, .inr (3, gs))]) [0, 1] (by decide) rfl
  refine xnV (As := [.int n]) (rest := [.int 0, .ref o]) hx hb hml hown hE hK (hN _ _ hS) hPc hDc (c_V_compact_x l htr D dA H.size a fs b gs k n h0 h_fs_powered h_fs_now hl_fs h_gs_parcelCount hl_gs) (q0 := 0) rfl rfl w389 w388 w390 w391 w277 rfl rfl ⟨⟨by decide, by decide⟩, rfl⟩ ⟨(Nat.le_of_ble_eq_true rfl), (Nat.le_of_ble_eq_true rfl)⟩ rfl hl.1 rfl (Nat.le_of_ble_eq_true rfl) d_SeriesVaultLaw_compact_4 ⟨(Nat.le_of_ble_eq_true rfl), (Nat.le_of_ble_eq_true rfl)⟩ hP hD hS hA [0, 1] [2] (wr := [(o, .inl (dA 2, 1, .inr (.inl g)))]) rfl rfl (by decide) (by decide) (fun x1 ce H locs hP hD hS hce hcv hcl => ?_)
  have hP : va_P D vwCl [(o, .inl (dA 2, 1, .inr (.inl g))), (b, .inr (3, gs)), (a, .inr (0, fs))] H := hP
  have hD : va_D A [(o, .inl (dA 2, 1, .inr (.inl g))), (b, .inr (3, gs)), (a, .inr (0, fs))] := hD
  refine xCatch (E := "java/lang/IndexOutOfBoundsException") hown hE [⟨0, 9, 12, 29⟩] ⟨0, 9, 15, 35⟩ [⟨0, 9, 18, 13⟩] htab (List.forall_mem_cons.mpr ⟨⟨by decide, "java/lang/IllegalStateException", w363, by decide⟩, fun _ h => absurd h List.not_mem_nil⟩) (by decide) (by decide) w354 w222 hce hcv hcl ?_
  refine lv_astore_n hx hb d_SeriesVaultLaw_compact_15 rfl hl (by decide) rfl (fun ls hl => ?_)
  have hl : lv_has ls 4 [(3, .ref x1), (0, .ref a), (1, .int n), (2, .ref o)] := hl
  refine lv_iconst (v := 2) hx hb d_SeriesVaultLaw_compact_16 (by decide) ?_
  exact rtI hx hb hr hlk hP hD hS () rfl [1, 2, 0] rfl rfl (by decide) (Nat.le_of_ble_eq_true rfl) (Nat.le_of_ble_eq_true rfl) d_SeriesVaultLaw_compact_17
theorem d_SeriesVaultLaw_parcel_0 : decode method_21_code 0 = .ok (.aload_n 3, 1) := by decide +kernel
theorem d_SeriesVaultLaw_parcel_1 : decode method_21_code 1 = .ok (.iconst 0, 1) := by decide +kernel
theorem d_SeriesVaultLaw_parcel_2 : decode method_21_code 2 = .ok (.aload_n 0, 1) := by decide +kernel
theorem d_SeriesVaultLaw_parcel_3 : decode method_21_code 3 = .ok (.iload_n 1, 1) := by decide +kernel
theorem d_SeriesVaultLaw_parcel_4 : decode method_21_code 4 = .ok (.iload_n 2, 1) := by decide +kernel
theorem d_SeriesVaultLaw_parcel_5 : decode method_21_code 5 = .ok (.invokevirtual 84, 3) := by decide +kernel
theorem d_SeriesVaultLaw_parcel_17 : decode method_21_code 17 = .ok (.astore 4, 2) := by decide +kernel
theorem d_SeriesVaultLaw_parcel_19 : decode method_21_code 19 = .ok (.iconst 2, 1) := by decide +kernel
theorem d_SeriesVaultLaw_parcel_20 : decode method_21_code 20 = .ok (.ireturn, 1) := by decide +kernel
theorem w392 : Cond.methodLink "SeriesVaultLaw" 84 ⟨"SeriesVault", "parcel", "(II)I"⟩ ∈ aW := aw_of (tb_8 (List.mem_of_getElem? (i := 122) rfl)) rfl
theorem w393 : Cond.code ⟨"SeriesVault", "parcel", "(II)I"⟩ prog_1_method_44_code 4 (some FieldType.int) ∈ aW := aw_of (tb_8 (List.mem_of_getElem? (i := 125) rfl)) rfl
theorem w394 : Cond.instanceMethod ⟨"SeriesVault", "parcel", "(II)I"⟩ ∈ aW := aw_of (tb_8 (List.mem_of_getElem? (i := 123) rfl)) rfl
theorem w395 : Cond.selects "SeriesVault" ⟨"SeriesVault", "parcel", "(II)I"⟩ ⟨"SeriesVault", "parcel", "(II)I"⟩ ∈ aW := aw_of (tb_8 (List.mem_of_getElem? (i := 124) rfl)) rfl
set_option maxHeartbeats 4000000 in
set_option maxRecDepth 100000 in
theorem c_K_parcel_x (l : Launch) (htr : l.stackTraces = false) (D : va_G) (dA : Nat → ClassId) (sz : Nat) (a : Nat) (fs : List Value) (b : Nat) (gs : List Value) (k : Int32) (n : Int32) (i : Int32) (o : Nat) (g : Nat → Int64) (h0 : n < 0 ∨ k ≤ n) (h_fs_powered : fs[5]? = some (.int 1)) (h_fs_now : fs[11]? = some (.ref b)) (hl_fs : fs.length = 18) (h_gs_parcelCount : gs[1]? = some (.int k)) (hl_gs : gs.length = 11) : Met l ⟨"SeriesVaultLaw", "parcel", "(LSeriesVault;II[J)I"⟩ [Cond.codeWith ⟨"SeriesVaultLaw", "parcel", "(LSeriesVault;II[J)I"⟩ method_21_code 5 (some FieldType.int) [(0, 10, 13, 29), (0, 10, 17, 35), (0, 10, 21, 19)]] { frames := 7, cells := 1, slots := 6, locals := 104 } (pC D dA [.ref a, .int n, .int i, .ref o] [(a, .inr (0, fs)), (b, .inr (3, gs)), (o, .inl (dA 2, 1, .inr (.inl g)))] sz) (va_Qi (fun (r : Int32) (_ : Unit) => r = 2) (fun (u9 : Unit) t9 => bW D (va_A [(a, .inr (0, fs)), (b, .inr (3, gs)), (o, .inl (dA 2, 1, .inr (.inl g)))] sz) [(b, .inr (3, gs)), (a, .inr (0, fs)), (o, .inl (dA 2, 1, .inr (.inl g)))] t9) (va_A [(a, .inr (0, fs)), (b, .inr (3, gs)), (o, .inl (dA 2, 1, .inr (.inl g)))] sz)) 1 6 (va_A [(a, .inr (0, fs)), (b, .inr (3, gs)), (o, .inl (dA 2, 1, .inr (.inl g)))] sz) := by
  refine mkW (Qc := fun A => va_Qi (fun (r : Int32) (_ : Unit) => r = 2) (fun (u9 : Unit) t9 => bW D A [(b, .inr (3, gs)), (a, .inr (0, fs)), (o, .inl (dA 2, 1, .inr (.inl g)))] t9) A) (by decide) (Nat.le_of_ble_eq_true rfl) ?_
  intro A p e s m below meth c ls hsz htab hB
  obtain ⟨hx, hb, hr, hml, hown, hin, hlk, hE, hK, hP, hD, hS, hA, hN, hl⟩ := hB
  have hown : s.vm.findClass "SeriesVaultLaw" = some m.cls := hown
  have hin : meth.name = "parcel" := hin
  have hl : lv_has ls 5 [(0, .ref a), (1, .int n), (2, .int i), (3, .ref o)] := hl
  obtain ⟨H, hH⟩ : ∃ z, z = s.heap := ⟨_, rfl⟩
  have hP : va_P D vwCl [(a, .inr (0, fs)), (b, .inr (3, gs)), (o, .inl (dA 2, 1, .inr (.inl g)))] H := by rw [hH]; exact hP
  have hS : va_S A s.heap H [] := by rw [hH]; exact hS
  rw [← hH]
  refine lv_aload_n hx hb d_SeriesVaultLaw_parcel_0 rfl (lv_at hl 3 rfl) ?_
  refine lv_iconst (v := 0) hx hb d_SeriesVaultLaw_parcel_1 (by decide) ?_
  refine lv_aload_n hx hb d_SeriesVaultLaw_parcel_2 rfl (lv_at hl 0 rfl) ?_
  refine lv_iload_n hx hb d_SeriesVaultLaw_parcel_3 rfl (lv_at hl 1 rfl) ?_
  refine lv_iload_n hx hb d_SeriesVaultLaw_parcel_4 rfl (lv_at hl 2 rfl) ?_
  have hPc := hP.sub (ws' := [(a, .inr (0, fs)), (b, .inr (3, gs))]) [0, 1] rfl
  have hDc := hD.sub (ws' := [(a, .inr (0, fs)), (b, .inr (3, gs))]) [0, 1] (by decide) rfl
  refine xnV (As := [.int n, .int i]) (rest := [.int 0, .ref o]) hx hb hml hown hE hK (hN _ _ hS) hPc hDc (c_V_parcel_x l htr D dA H.size a fs b gs k n i h0 h_fs_powered h_fs_now hl_fs h_gs_parcelCount hl_gs) (q0 := 0) rfl rfl w393 w392 w394 w395 w277 rfl rfl ⟨⟨by decide, by decide⟩, rfl⟩ ⟨(Nat.le_of_ble_eq_true rfl), (Nat.le_of_ble_eq_true rfl)⟩ rfl hl.1 rfl (Nat.le_of_ble_eq_true rfl) d_SeriesVaultLaw_parcel_5 ⟨(Nat.le_of_ble_eq_true rfl), (Nat.le_of_ble_eq_true rfl)⟩ hP hD hS hA [0, 1] [2] (wr := [(o, .inl (dA 2, 1, .inr (.inl g)))]) rfl rfl (by decide) (by decide) (fun x1 ce H locs hP hD hS hce hcv hcl => ?_)
  have hP : va_P D vwCl [(o, .inl (dA 2, 1, .inr (.inl g))), (b, .inr (3, gs)), (a, .inr (0, fs))] H := hP
  have hD : va_D A [(o, .inl (dA 2, 1, .inr (.inl g))), (b, .inr (3, gs)), (a, .inr (0, fs))] := hD
  refine xCatch (E := "java/lang/IndexOutOfBoundsException") hown hE [⟨0, 10, 13, 29⟩] ⟨0, 10, 17, 35⟩ [⟨0, 10, 21, 19⟩] htab (List.forall_mem_cons.mpr ⟨⟨by decide, "java/lang/IllegalStateException", w363, by decide⟩, fun _ h => absurd h List.not_mem_nil⟩) (by decide) (by decide) w354 w222 hce hcv hcl ?_
  refine lv_astore hx hb d_SeriesVaultLaw_parcel_17 hl (by decide) rfl (fun ls hl => ?_)
  have hl : lv_has ls 5 [(4, .ref x1), (0, .ref a), (1, .int n), (2, .int i), (3, .ref o)] := hl
  refine lv_iconst (v := 2) hx hb d_SeriesVaultLaw_parcel_19 (by decide) ?_
  exact rtI hx hb hr hlk hP hD hS () rfl [1, 2, 0] rfl rfl (by decide) (Nat.le_of_ble_eq_true rfl) (Nat.le_of_ble_eq_true rfl) d_SeriesVaultLaw_parcel_20
theorem d_SeriesVaultLaw_text_0 : decode method_17_code 0 = .ok (.aload 4, 2) := by decide +kernel
theorem d_SeriesVaultLaw_text_2 : decode method_17_code 2 = .ok (.iconst 0, 1) := by decide +kernel
theorem d_SeriesVaultLaw_text_3 : decode method_17_code 3 = .ok (.aload_n 0, 1) := by decide +kernel
theorem d_SeriesVaultLaw_text_4 : decode method_17_code 4 = .ok (.iload_n 1, 1) := by decide +kernel
theorem d_SeriesVaultLaw_text_5 : decode method_17_code 5 = .ok (.iload_n 2, 1) := by decide +kernel
theorem d_SeriesVaultLaw_text_6 : decode method_17_code 6 = .ok (.iload_n 3, 1) := by decide +kernel
theorem d_SeriesVaultLaw_text_7 : decode method_17_code 7 = .ok (.invokevirtual 69, 3) := by decide +kernel
theorem d_SeriesVaultLaw_text_15 : decode method_17_code 15 = .ok (.astore 5, 2) := by decide +kernel
theorem d_SeriesVaultLaw_text_17 : decode method_17_code 17 = .ok (.iconst 1, 1) := by decide +kernel
theorem d_SeriesVaultLaw_text_18 : decode method_17_code 18 = .ok (.ireturn, 1) := by decide +kernel
theorem w396 : Cond.methodLink "SeriesVaultLaw" 69 ⟨"SeriesVault", "text", "(III)I"⟩ ∈ aW := aw_of (tb_8 (List.mem_of_getElem? (i := 74) rfl)) rfl
theorem w397 : Cond.code ⟨"SeriesVault", "text", "(III)I"⟩ prog_1_method_47_code 5 (some FieldType.int) ∈ aW := aw_of (tb_8 (List.mem_of_getElem? (i := 77) rfl)) rfl
theorem w398 : Cond.instanceMethod ⟨"SeriesVault", "text", "(III)I"⟩ ∈ aW := aw_of (tb_8 (List.mem_of_getElem? (i := 75) rfl)) rfl
theorem w399 : Cond.selects "SeriesVault" ⟨"SeriesVault", "text", "(III)I"⟩ ⟨"SeriesVault", "text", "(III)I"⟩ ∈ aW := aw_of (tb_8 (List.mem_of_getElem? (i := 76) rfl)) rfl
set_option maxHeartbeats 4000000 in
set_option maxRecDepth 100000 in
theorem c_K_text_x (l : Launch) (htr : l.stackTraces = false) (D : va_G) (dA : Nat → ClassId) (sz : Nat) (a : Nat) (fs : List Value) (n : Int32) (i : Int32) (j : Int32) (o : Nat) (g : Nat → Int64) (h_fs_hasTable : fs[17]? = some (.int 0)) (hl_fs : fs.length = 18) : Met l ⟨"SeriesVaultLaw", "text", "(LSeriesVault;III[J)I"⟩ [Cond.codeWith ⟨"SeriesVaultLaw", "text", "(LSeriesVault;III[J)I"⟩ method_17_code 6 (some FieldType.int) [(0, 12, 15, 35)]] { frames := 8, cells := 1, slots := 6, locals := 126 } (pC D dA [.ref a, .int n, .int i, .int j, .ref o] [(a, .inr (0, fs)), (o, .inl (dA 2, 1, .inr (.inl g)))] sz) (va_Qi (fun (r : Int32) (_ : Unit) => r = 1) (fun (u9 : Unit) t9 => bW D (va_A [(a, .inr (0, fs)), (o, .inl (dA 2, 1, .inr (.inl g)))] sz) [(a, .inr (0, fs)), (o, .inl (dA 2, 1, .inr (.inl g)))] t9) (va_A [(a, .inr (0, fs)), (o, .inl (dA 2, 1, .inr (.inl g)))] sz)) 1 6 (va_A [(a, .inr (0, fs)), (o, .inl (dA 2, 1, .inr (.inl g)))] sz) := by
  refine mkW (Qc := fun A => va_Qi (fun (r : Int32) (_ : Unit) => r = 1) (fun (u9 : Unit) t9 => bW D A [(a, .inr (0, fs)), (o, .inl (dA 2, 1, .inr (.inl g)))] t9) A) (by decide) (Nat.le_of_ble_eq_true rfl) ?_
  intro A p e s m below meth c ls hsz htab hB
  obtain ⟨hx, hb, hr, hml, hown, hin, hlk, hE, hK, hP, hD, hS, hA, hN, hl⟩ := hB
  have hown : s.vm.findClass "SeriesVaultLaw" = some m.cls := hown
  have hin : meth.name = "text" := hin
  have hl : lv_has ls 6 [(0, .ref a), (1, .int n), (2, .int i), (3, .int j), (4, .ref o)] := hl
  obtain ⟨H, hH⟩ : ∃ z, z = s.heap := ⟨_, rfl⟩
  have hP : va_P D vwCl [(a, .inr (0, fs)), (o, .inl (dA 2, 1, .inr (.inl g)))] H := by rw [hH]; exact hP
  have hS : va_S A s.heap H [] := by rw [hH]; exact hS
  rw [← hH]
  refine lv_aload hx hb d_SeriesVaultLaw_text_0 (lv_at hl 4 rfl) ?_
  refine lv_iconst (v := 0) hx hb d_SeriesVaultLaw_text_2 (by decide) ?_
  refine lv_aload_n hx hb d_SeriesVaultLaw_text_3 rfl (lv_at hl 0 rfl) ?_
  refine lv_iload_n hx hb d_SeriesVaultLaw_text_4 rfl (lv_at hl 1 rfl) ?_
  refine lv_iload_n hx hb d_SeriesVaultLaw_text_5 rfl (lv_at hl 2 rfl) ?_
  refine lv_iload_n hx hb d_SeriesVaultLaw_text_6 rfl (lv_at hl 3 rfl) ?_
  have hPc := hP.sub (ws' := [(a, .inr (0, fs))]) [0] rfl
  have hDc := hD.sub (ws' := [(a, .inr (0, fs))]) [0] (by decide) rfl
  refine xnV (As := [.int n, .int i, .int j]) (rest := [.int 0, .ref o]) hx hb hml hown hE hK (hN _ _ hS) hPc hDc (c_V_text_x l htr D dA H.size a fs n i j h_fs_hasTable hl_fs) (q0 := 0) rfl rfl w397 w396 w398 w399 w277 rfl rfl ⟨⟨by decide, by decide⟩, rfl⟩ ⟨(Nat.le_of_ble_eq_true rfl), (Nat.le_of_ble_eq_true rfl)⟩ rfl hl.1 rfl (Nat.le_of_ble_eq_true rfl) d_SeriesVaultLaw_text_7 ⟨(Nat.le_of_ble_eq_true rfl), (Nat.le_of_ble_eq_true rfl)⟩ hP hD hS hA [0] [1] (wr := [(o, .inl (dA 2, 1, .inr (.inl g)))]) rfl rfl (by decide) (by decide) (fun x1 ce H locs hP hD hS hce hcv hcl => ?_)
  have hP : va_P D vwCl [(o, .inl (dA 2, 1, .inr (.inl g))), (a, .inr (0, fs))] H := hP
  have hD : va_D A [(o, .inl (dA 2, 1, .inr (.inl g))), (a, .inr (0, fs))] := hD
  refine xCatch (E := "java/lang/IndexOutOfBoundsException") hown hE [] ⟨0, 12, 15, 35⟩ [] htab (fun _ h => absurd h List.not_mem_nil) (by decide) (by decide) w354 w222 hce hcv hcl ?_
  refine lv_astore hx hb d_SeriesVaultLaw_text_15 hl (by decide) rfl (fun ls hl => ?_)
  have hl : lv_has ls 6 [(5, .ref x1), (0, .ref a), (1, .int n), (2, .int i), (3, .int j), (4, .ref o)] := hl
  refine lv_iconst (v := 1) hx hb d_SeriesVaultLaw_text_17 (by decide) ?_
  exact rtI hx hb hr hlk hP hD hS () rfl [1, 0] rfl rfl (by decide) (Nat.le_of_ble_eq_true rfl) (Nat.le_of_ble_eq_true rfl) d_SeriesVaultLaw_text_18
theorem d_SeriesVaultLaw_isThere_0 : decode method_18_code 0 = .ok (.aload_n 3, 1) := by decide +kernel
theorem d_SeriesVaultLaw_isThere_1 : decode method_18_code 1 = .ok (.iconst 0, 1) := by decide +kernel
theorem d_SeriesVaultLaw_isThere_2 : decode method_18_code 2 = .ok (.aload_n 0, 1) := by decide +kernel
theorem d_SeriesVaultLaw_isThere_3 : decode method_18_code 3 = .ok (.iload_n 1, 1) := by decide +kernel
theorem d_SeriesVaultLaw_isThere_4 : decode method_18_code 4 = .ok (.iload_n 2, 1) := by decide +kernel
theorem d_SeriesVaultLaw_isThere_5 : decode method_18_code 5 = .ok (.invokevirtual 73, 3) := by decide +kernel
theorem d_SeriesVaultLaw_isThere_20 : decode method_18_code 20 = .ok (.astore 4, 2) := by decide +kernel
theorem d_SeriesVaultLaw_isThere_22 : decode method_18_code 22 = .ok (.iconst 1, 1) := by decide +kernel
theorem d_SeriesVaultLaw_isThere_23 : decode method_18_code 23 = .ok (.ireturn, 1) := by decide +kernel
theorem w400 : Cond.methodLink "SeriesVaultLaw" 73 ⟨"SeriesVault", "isThere", "(II)Z"⟩ ∈ aW := aw_of (tb_8 (List.mem_of_getElem? (i := 89) rfl)) rfl
theorem w401 : Cond.code ⟨"SeriesVault", "isThere", "(II)Z"⟩ prog_1_method_48_code 3 (some FieldType.boolean) ∈ aW := aw_of (tb_8 (List.mem_of_getElem? (i := 92) rfl)) rfl
theorem w402 : Cond.instanceMethod ⟨"SeriesVault", "isThere", "(II)Z"⟩ ∈ aW := aw_of (tb_8 (List.mem_of_getElem? (i := 90) rfl)) rfl
theorem w403 : Cond.selects "SeriesVault" ⟨"SeriesVault", "isThere", "(II)Z"⟩ ⟨"SeriesVault", "isThere", "(II)Z"⟩ ∈ aW := aw_of (tb_8 (List.mem_of_getElem? (i := 91) rfl)) rfl
set_option maxHeartbeats 4000000 in
set_option maxRecDepth 100000 in
theorem c_K_isThere_x (l : Launch) (htr : l.stackTraces = false) (D : va_G) (dA : Nat → ClassId) (sz : Nat) (a : Nat) (fs : List Value) (n : Int32) (i : Int32) (o : Nat) (g : Nat → Int64) (h_fs_hasTable : fs[17]? = some (.int 0)) (hl_fs : fs.length = 18) : Met l ⟨"SeriesVaultLaw", "isThere", "(LSeriesVault;II[J)I"⟩ [Cond.codeWith ⟨"SeriesVaultLaw", "isThere", "(LSeriesVault;II[J)I"⟩ method_18_code 5 (some FieldType.int) [(0, 17, 20, 35)]] { frames := 9, cells := 1, slots := 6, locals := 146 } (pC D dA [.ref a, .int n, .int i, .ref o] [(a, .inr (0, fs)), (o, .inl (dA 2, 1, .inr (.inl g)))] sz) (va_Qi (fun (r : Int32) (_ : Unit) => r = 1) (fun (u9 : Unit) t9 => bW D (va_A [(a, .inr (0, fs)), (o, .inl (dA 2, 1, .inr (.inl g)))] sz) [(a, .inr (0, fs)), (o, .inl (dA 2, 1, .inr (.inl g)))] t9) (va_A [(a, .inr (0, fs)), (o, .inl (dA 2, 1, .inr (.inl g)))] sz)) 1 6 (va_A [(a, .inr (0, fs)), (o, .inl (dA 2, 1, .inr (.inl g)))] sz) := by
  refine mkW (Qc := fun A => va_Qi (fun (r : Int32) (_ : Unit) => r = 1) (fun (u9 : Unit) t9 => bW D A [(a, .inr (0, fs)), (o, .inl (dA 2, 1, .inr (.inl g)))] t9) A) (by decide) (Nat.le_of_ble_eq_true rfl) ?_
  intro A p e s m below meth c ls hsz htab hB
  obtain ⟨hx, hb, hr, hml, hown, hin, hlk, hE, hK, hP, hD, hS, hA, hN, hl⟩ := hB
  have hown : s.vm.findClass "SeriesVaultLaw" = some m.cls := hown
  have hin : meth.name = "isThere" := hin
  have hl : lv_has ls 5 [(0, .ref a), (1, .int n), (2, .int i), (3, .ref o)] := hl
  obtain ⟨H, hH⟩ : ∃ z, z = s.heap := ⟨_, rfl⟩
  have hP : va_P D vwCl [(a, .inr (0, fs)), (o, .inl (dA 2, 1, .inr (.inl g)))] H := by rw [hH]; exact hP
  have hS : va_S A s.heap H [] := by rw [hH]; exact hS
  rw [← hH]
  refine lv_aload_n hx hb d_SeriesVaultLaw_isThere_0 rfl (lv_at hl 3 rfl) ?_
  refine lv_iconst (v := 0) hx hb d_SeriesVaultLaw_isThere_1 (by decide) ?_
  refine lv_aload_n hx hb d_SeriesVaultLaw_isThere_2 rfl (lv_at hl 0 rfl) ?_
  refine lv_iload_n hx hb d_SeriesVaultLaw_isThere_3 rfl (lv_at hl 1 rfl) ?_
  refine lv_iload_n hx hb d_SeriesVaultLaw_isThere_4 rfl (lv_at hl 2 rfl) ?_
  have hPc := hP.sub (ws' := [(a, .inr (0, fs))]) [0] rfl
  have hDc := hD.sub (ws' := [(a, .inr (0, fs))]) [0] (by decide) rfl
  refine xnV (As := [.int n, .int i]) (rest := [.int 0, .ref o]) hx hb hml hown hE hK (hN _ _ hS) hPc hDc (c_V_isThere_x l htr D dA H.size a fs n i h_fs_hasTable hl_fs) (q0 := 0) rfl rfl w401 w400 w402 w403 w277 rfl rfl ⟨⟨by decide, by decide⟩, rfl⟩ ⟨(Nat.le_of_ble_eq_true rfl), (Nat.le_of_ble_eq_true rfl)⟩ rfl hl.1 rfl (Nat.le_of_ble_eq_true rfl) d_SeriesVaultLaw_isThere_5 ⟨(Nat.le_of_ble_eq_true rfl), (Nat.le_of_ble_eq_true rfl)⟩ hP hD hS hA [0] [1] (wr := [(o, .inl (dA 2, 1, .inr (.inl g)))]) rfl rfl (by decide) (by decide) (fun x1 ce H locs hP hD hS hce hcv hcl => ?_)
  have hP : va_P D vwCl [(o, .inl (dA 2, 1, .inr (.inl g))), (a, .inr (0, fs))] H := hP
  have hD : va_D A [(o, .inl (dA 2, 1, .inr (.inl g))), (a, .inr (0, fs))] := hD
  refine xCatch (E := "java/lang/IndexOutOfBoundsException") hown hE [] ⟨0, 17, 20, 35⟩ [] htab (fun _ h => absurd h List.not_mem_nil) (by decide) (by decide) w354 w222 hce hcv hcl ?_
  refine lv_astore hx hb d_SeriesVaultLaw_isThere_20 hl (by decide) rfl (fun ls hl => ?_)
  have hl : lv_has ls 5 [(4, .ref x1), (0, .ref a), (1, .int n), (2, .int i), (3, .ref o)] := hl
  refine lv_iconst (v := 1) hx hb d_SeriesVaultLaw_isThere_22 (by decide) ?_
  exact rtI hx hb hr hlk hP hD hS () rfl [1, 0] rfl rfl (by decide) (Nat.le_of_ble_eq_true rfl) (Nat.le_of_ble_eq_true rfl) d_SeriesVaultLaw_isThere_23
theorem d_SeriesVaultLaw_cell_0 : decode method_19_code 0 = .ok (.aload_n 3, 1) := by decide +kernel
theorem d_SeriesVaultLaw_cell_1 : decode method_19_code 1 = .ok (.iconst 0, 1) := by decide +kernel
theorem d_SeriesVaultLaw_cell_2 : decode method_19_code 2 = .ok (.aload_n 0, 1) := by decide +kernel
theorem d_SeriesVaultLaw_cell_3 : decode method_19_code 3 = .ok (.iload_n 1, 1) := by decide +kernel
theorem d_SeriesVaultLaw_cell_4 : decode method_19_code 4 = .ok (.iload_n 2, 1) := by decide +kernel
theorem d_SeriesVaultLaw_cell_5 : decode method_19_code 5 = .ok (.invokevirtual 77, 3) := by decide +kernel
theorem d_SeriesVaultLaw_cell_12 : decode method_19_code 12 = .ok (.astore 4, 2) := by decide +kernel
theorem d_SeriesVaultLaw_cell_14 : decode method_19_code 14 = .ok (.iconst 1, 1) := by decide +kernel
theorem d_SeriesVaultLaw_cell_15 : decode method_19_code 15 = .ok (.ireturn, 1) := by decide +kernel
theorem w404 : Cond.methodLink "SeriesVaultLaw" 77 ⟨"SeriesVault", "cell", "(II)J"⟩ ∈ aW := aw_of (tb_8 (List.mem_of_getElem? (i := 101) rfl)) rfl
theorem w405 : Cond.code ⟨"SeriesVault", "cell", "(II)J"⟩ prog_1_method_49_code 4 (some FieldType.long) ∈ aW := aw_of (tb_8 (List.mem_of_getElem? (i := 104) rfl)) rfl
theorem w406 : Cond.instanceMethod ⟨"SeriesVault", "cell", "(II)J"⟩ ∈ aW := aw_of (tb_8 (List.mem_of_getElem? (i := 102) rfl)) rfl
theorem w407 : Cond.selects "SeriesVault" ⟨"SeriesVault", "cell", "(II)J"⟩ ⟨"SeriesVault", "cell", "(II)J"⟩ ∈ aW := aw_of (tb_8 (List.mem_of_getElem? (i := 103) rfl)) rfl
set_option maxHeartbeats 4000000 in
set_option maxRecDepth 100000 in
theorem c_K_cell_x (l : Launch) (htr : l.stackTraces = false) (D : va_G) (dA : Nat → ClassId) (sz : Nat) (a : Nat) (fs : List Value) (n : Int32) (i : Int32) (o : Nat) (g : Nat → Int64) (h_fs_hasTable : fs[17]? = some (.int 0)) (hl_fs : fs.length = 18) : Met l ⟨"SeriesVaultLaw", "cell", "(LSeriesVault;II[J)I"⟩ [Cond.codeWith ⟨"SeriesVaultLaw", "cell", "(LSeriesVault;II[J)I"⟩ method_19_code 5 (some FieldType.int) [(0, 9, 12, 35)]] { frames := 9, cells := 1, slots := 6, locals := 147 } (pC D dA [.ref a, .int n, .int i, .ref o] [(a, .inr (0, fs)), (o, .inl (dA 2, 1, .inr (.inl g)))] sz) (va_Qi (fun (r : Int32) (_ : Unit) => r = 1) (fun (u9 : Unit) t9 => bW D (va_A [(a, .inr (0, fs)), (o, .inl (dA 2, 1, .inr (.inl g)))] sz) [(a, .inr (0, fs)), (o, .inl (dA 2, 1, .inr (.inl g)))] t9) (va_A [(a, .inr (0, fs)), (o, .inl (dA 2, 1, .inr (.inl g)))] sz)) 1 6 (va_A [(a, .inr (0, fs)), (o, .inl (dA 2, 1, .inr (.inl g)))] sz) := by
  refine mkW (Qc := fun A => va_Qi (fun (r : Int32) (_ : Unit) => r = 1) (fun (u9 : Unit) t9 => bW D A [(a, .inr (0, fs)), (o, .inl (dA 2, 1, .inr (.inl g)))] t9) A) (by decide) (Nat.le_of_ble_eq_true rfl) ?_
  intro A p e s m below meth c ls hsz htab hB
  obtain ⟨hx, hb, hr, hml, hown, hin, hlk, hE, hK, hP, hD, hS, hA, hN, hl⟩ := hB
  have hown : s.vm.findClass "SeriesVaultLaw" = some m.cls := hown
  have hin : meth.name = "cell" := hin
  have hl : lv_has ls 5 [(0, .ref a), (1, .int n), (2, .int i), (3, .ref o)] := hl
  obtain ⟨H, hH⟩ : ∃ z, z = s.heap := ⟨_, rfl⟩
  have hP : va_P D vwCl [(a, .inr (0, fs)), (o, .inl (dA 2, 1, .inr (.inl g)))] H := by rw [hH]; exact hP
  have hS : va_S A s.heap H [] := by rw [hH]; exact hS
  rw [← hH]
  refine lv_aload_n hx hb d_SeriesVaultLaw_cell_0 rfl (lv_at hl 3 rfl) ?_
  refine lv_iconst (v := 0) hx hb d_SeriesVaultLaw_cell_1 (by decide) ?_
  refine lv_aload_n hx hb d_SeriesVaultLaw_cell_2 rfl (lv_at hl 0 rfl) ?_
  refine lv_iload_n hx hb d_SeriesVaultLaw_cell_3 rfl (lv_at hl 1 rfl) ?_
  refine lv_iload_n hx hb d_SeriesVaultLaw_cell_4 rfl (lv_at hl 2 rfl) ?_
  have hPc := hP.sub (ws' := [(a, .inr (0, fs))]) [0] rfl
  have hDc := hD.sub (ws' := [(a, .inr (0, fs))]) [0] (by decide) rfl
  refine xnV (As := [.int n, .int i]) (rest := [.int 0, .ref o]) hx hb hml hown hE hK (hN _ _ hS) hPc hDc (c_V_cell_x l htr D dA H.size a fs n i h_fs_hasTable hl_fs) (q0 := 0) rfl rfl w405 w404 w406 w407 w277 rfl rfl ⟨⟨by decide, by decide⟩, rfl⟩ ⟨(Nat.le_of_ble_eq_true rfl), (Nat.le_of_ble_eq_true rfl)⟩ rfl hl.1 rfl (Nat.le_of_ble_eq_true rfl) d_SeriesVaultLaw_cell_5 ⟨(Nat.le_of_ble_eq_true rfl), (Nat.le_of_ble_eq_true rfl)⟩ hP hD hS hA [0] [1] (wr := [(o, .inl (dA 2, 1, .inr (.inl g)))]) rfl rfl (by decide) (by decide) (fun x1 ce H locs hP hD hS hce hcv hcl => ?_)
  have hP : va_P D vwCl [(o, .inl (dA 2, 1, .inr (.inl g))), (a, .inr (0, fs))] H := hP
  have hD : va_D A [(o, .inl (dA 2, 1, .inr (.inl g))), (a, .inr (0, fs))] := hD
  refine xCatch (E := "java/lang/IndexOutOfBoundsException") hown hE [] ⟨0, 9, 12, 35⟩ [] htab (fun _ h => absurd h List.not_mem_nil) (by decide) (by decide) w354 w222 hce hcv hcl ?_
  refine lv_astore hx hb d_SeriesVaultLaw_cell_12 hl (by decide) rfl (fun ls hl => ?_)
  have hl : lv_has ls 5 [(4, .ref x1), (0, .ref a), (1, .int n), (2, .int i), (3, .ref o)] := hl
  refine lv_iconst (v := 1) hx hb d_SeriesVaultLaw_cell_14 (by decide) ?_
  exact rtI hx hb hr hlk hP hD hS () rfl [1, 0] rfl rfl (by decide) (Nat.le_of_ble_eq_true rfl) (Nat.le_of_ble_eq_true rfl) d_SeriesVaultLaw_cell_15
theorem d_SeriesVaultLaw_sync_0 : decode method_12_code 0 = .ok (.aload_n 1, 1) := by decide +kernel
theorem d_SeriesVaultLaw_sync_1 : decode method_12_code 1 = .ok (.iconst 0, 1) := by decide +kernel
theorem d_SeriesVaultLaw_sync_2 : decode method_12_code 2 = .ok (.aload_n 0, 1) := by decide +kernel
theorem d_SeriesVaultLaw_sync_3 : decode method_12_code 3 = .ok (.invokevirtual 51, 3) := by decide +kernel
theorem d_SeriesVaultLaw_sync_6 : decode method_12_code 6 = .ok (.ifCond .eq 7, 3) := by decide +kernel
theorem d_SeriesVaultLaw_sync_13 : decode method_12_code 13 = .ok (.lconst 0, 1) := by decide +kernel
theorem d_SeriesVaultLaw_sync_14 : decode method_12_code 14 = .ok (.lastore, 1) := by decide +kernel
theorem d_SeriesVaultLaw_sync_15 : decode method_12_code 15 = .ok (.goto 6, 3) := by decide +kernel
theorem d_SeriesVaultLaw_sync_21 : decode method_12_code 21 = .ok (.iconst 0, 1) := by decide +kernel
theorem d_SeriesVaultLaw_sync_22 : decode method_12_code 22 = .ok (.ireturn, 1) := by decide +kernel
theorem w408 : Cond.methodLink "SeriesVaultLaw" 51 ⟨"SeriesVault", "sync", "()Z"⟩ ∈ aW := aw_of (tb_5 (List.mem_of_getElem? (i := 226) rfl)) rfl
theorem w409 : Cond.code ⟨"SeriesVault", "sync", "()Z"⟩ prog_1_method_22_code 1 (some FieldType.boolean) ∈ aW := aw_of (tb_5 (List.mem_of_getElem? (i := 229) rfl)) rfl
theorem w410 : Cond.instanceMethod ⟨"SeriesVault", "sync", "()Z"⟩ ∈ aW := aw_of (tb_5 (List.mem_of_getElem? (i := 227) rfl)) rfl
theorem w411 : Cond.selects "SeriesVault" ⟨"SeriesVault", "sync", "()Z"⟩ ⟨"SeriesVault", "sync", "()Z"⟩ ∈ aW := aw_of (tb_5 (List.mem_of_getElem? (i := 228) rfl)) rfl
set_option maxHeartbeats 4000000 in
set_option maxRecDepth 100000 in
theorem c_K_sync_0 (l : Launch) (htr : l.stackTraces = false) (D : va_G) (dA : Nat → ClassId) (sz : Nat) (a : Nat) (fs : List Value) (b : Nat) (gs : List Value) (o : Nat) (g : Nat → Int64) (h_fs_powered : fs[5]? = some (.int 1)) (h_fs_journal : fs[8]? = some (.ref b)) (hl_fs : fs.length = 18) (h_gs_changed : gs[12]? = some (.int 0)) (hl_gs : gs.length = 13) : Met l ⟨"SeriesVaultLaw", "sync", "(LSeriesVault;[J)I"⟩ [Cond.codeWith ⟨"SeriesVaultLaw", "sync", "(LSeriesVault;[J)I"⟩ method_12_code 3 (some FieldType.int) [(0, 15, 18, 29)]] { frames := 3, cells := 0, slots := 0, locals := 40 } (pC D dA [.ref a, .ref o] [(a, .inr (0, fs)), (b, .inr (1, gs)), (o, .inl (dA 2, 1, .inr (.inl g)))] sz) (va_Qi (fun (r : Int32) (_ : Unit) => r = 0) (fun (u9 : Unit) t9 => bW D (va_A [(a, .inr (0, fs)), (b, .inr (1, gs)), (o, .inl (dA 2, 1, .inr (.inl g)))] sz) [(a, .inr (0, fs)), (b, .inr (1, gs)), (o, .inl (dA 2, 1, .inr (.inl (vp_updL g 0 0))))] t9) (va_A [(a, .inr (0, fs)), (b, .inr (1, gs)), (o, .inl (dA 2, 1, .inr (.inl g)))] sz)) 0 0 (va_A [(a, .inr (0, fs)), (b, .inr (1, gs)), (o, .inl (dA 2, 1, .inr (.inl g)))] sz) := by
  refine mkW (Qc := fun A => va_Qi (fun (r : Int32) (_ : Unit) => r = 0) (fun (u9 : Unit) t9 => bW D A [(a, .inr (0, fs)), (b, .inr (1, gs)), (o, .inl (dA 2, 1, .inr (.inl (vp_updL g 0 0))))] t9) A) (by decide) (Nat.le_of_ble_eq_true rfl) ?_
  intro A p e s m below meth c ls hsz htab hB
  obtain ⟨hx, hb, hr, hml, hown, hin, hlk, hE, hK, hP, hD, hS, hA, hN, hl⟩ := hB
  have hown : s.vm.findClass "SeriesVaultLaw" = some m.cls := hown
  have hin : meth.name = "sync" := hin
  have hl : lv_has ls 3 [(0, .ref a), (1, .ref o)] := hl
  obtain ⟨H, hH⟩ : ∃ z, z = s.heap := ⟨_, rfl⟩
  have hP : va_P D vwCl [(a, .inr (0, fs)), (b, .inr (1, gs)), (o, .inl (dA 2, 1, .inr (.inl g)))] H := by rw [hH]; exact hP
  have hS : va_S A s.heap H [] := by rw [hH]; exact hS
  rw [← hH]
  refine lv_aload_n hx hb d_SeriesVaultLaw_sync_0 rfl (lv_at hl 1 rfl) ?_
  refine lv_iconst (v := 0) hx hb d_SeriesVaultLaw_sync_1 (by decide) ?_
  refine lv_aload_n hx hb d_SeriesVaultLaw_sync_2 rfl (lv_at hl 0 rfl) ?_
  have hPc := hP.sub (ws' := [(a, .inr (0, fs)), (b, .inr (1, gs))]) [0, 1] rfl
  have hDc := hD.sub (ws' := [(a, .inr (0, fs)), (b, .inr (1, gs))]) [0, 1] (by decide) rfl
  refine jnI (rnV (As := []) (rest := [.int 0, .ref o]) hx hb hml hown hE hK (hN _ _ hS) hPc hDc (c_V_sync_0 l D dA H.size a fs b gs h_fs_powered h_fs_journal hl_fs h_gs_changed hl_gs) (q0 := 0) rfl rfl w409 w408 w410 w411 w277 rfl rfl ⟨⟨by decide, by decide⟩, rfl⟩ ⟨(Nat.le_of_ble_eq_true rfl), (Nat.le_of_ble_eq_true rfl)⟩ rfl hl.1 rfl (Nat.le_of_ble_eq_true rfl) d_SeriesVaultLaw_sync_3 ⟨(Nat.le_of_ble_eq_true rfl), (Nat.le_of_ble_eq_true rfl)⟩) hP hD hS hA [0, 1] [2] (wr := [(o, .inl (dA 2, 1, .inr (.inl g)))]) rfl rfl (by decide) (by decide) (fun r1 u9 H locs hp9 hP hD hS => ?_)
  have hP : va_P D vwCl [(o, .inl (dA 2, 1, .inr (.inl g))), (a, .inr (0, fs)), (b, .inr (1, gs))] H := hP
  have hD : va_D A [(o, .inl (dA 2, 1, .inr (.inl g))), (a, .inr (0, fs)), (b, .inr (1, gs))] := hD
  have hp9 : 0 = r1 := Eq.symm hp9
  subst hp9
  refine lv_if_eq hx hb d_SeriesVaultLaw_sync_6 (tgt := 13) rfl (fun _ => ?_) (fun h9 => absurd (by decide) h9)
  refine lv_lconst (v := 0) hx hb d_SeriesVaultLaw_sync_13 (by decide) ?_
  refine va_last hx hb hK hP hD hS 0 2 rfl rfl (by unfold vp_in; decide) d_SeriesVaultLaw_sync_14 (fun H locs hP hD hS => ?_)
  have hP : va_P D vwCl [(o, .inl (dA 2, 1, .inr (.inl (vp_updL g 0 0)))), (a, .inr (0, fs)), (b, .inr (1, gs))] H := hP
  have hD : va_D A [(o, .inl (dA 2, 1, .inr (.inl (vp_updL g 0 0)))), (a, .inr (0, fs)), (b, .inr (1, gs))] := hD
  refine lv_goto hx hb d_SeriesVaultLaw_sync_15 (tgt := 21) rfl ?_
  refine lv_iconst (v := 0) hx hb d_SeriesVaultLaw_sync_21 (by decide) ?_
  exact rtI hx hb hr hlk hP hD hS () rfl [1, 2, 0] rfl rfl (by decide) (Nat.le_of_ble_eq_true rfl) (Nat.le_of_ble_eq_true rfl) d_SeriesVaultLaw_sync_22
theorem d_SeriesVaultLaw_flush_0 : decode method_13_code 0 = .ok (.aload_n 1, 1) := by decide +kernel
theorem d_SeriesVaultLaw_flush_1 : decode method_13_code 1 = .ok (.iconst 0, 1) := by decide +kernel
theorem d_SeriesVaultLaw_flush_2 : decode method_13_code 2 = .ok (.aload_n 0, 1) := by decide +kernel
theorem d_SeriesVaultLaw_flush_3 : decode method_13_code 3 = .ok (.invokevirtual 55, 3) := by decide +kernel
theorem d_SeriesVaultLaw_flush_6 : decode method_13_code 6 = .ok (.i2l, 1) := by decide +kernel
theorem d_SeriesVaultLaw_flush_7 : decode method_13_code 7 = .ok (.lastore, 1) := by decide +kernel
theorem d_SeriesVaultLaw_flush_8 : decode method_13_code 8 = .ok (.goto 9, 3) := by decide +kernel
theorem d_SeriesVaultLaw_flush_17 : decode method_13_code 17 = .ok (.iconst 0, 1) := by decide +kernel
theorem d_SeriesVaultLaw_flush_18 : decode method_13_code 18 = .ok (.ireturn, 1) := by decide +kernel
theorem w412 : Cond.methodLink "SeriesVaultLaw" 55 ⟨"SeriesVault", "flush", "()I"⟩ ∈ aW := aw_of (tb_5 (List.mem_of_getElem? (i := 233) rfl)) rfl
theorem w413 : Cond.code ⟨"SeriesVault", "flush", "()I"⟩ prog_1_method_36_code 4 (some FieldType.int) ∈ aW := aw_of (tb_5 (List.mem_of_getElem? (i := 236) rfl)) rfl
theorem w414 : Cond.instanceMethod ⟨"SeriesVault", "flush", "()I"⟩ ∈ aW := aw_of (tb_5 (List.mem_of_getElem? (i := 234) rfl)) rfl
theorem w415 : Cond.selects "SeriesVault" ⟨"SeriesVault", "flush", "()I"⟩ ⟨"SeriesVault", "flush", "()I"⟩ ∈ aW := aw_of (tb_5 (List.mem_of_getElem? (i := 235) rfl)) rfl
set_option maxHeartbeats 4000000 in
set_option maxRecDepth 100000 in
theorem c_K_flush_0 (l : Launch) (htr : l.stackTraces = false) (D : va_G) (dA : Nat → ClassId) (sz : Nat) (a : Nat) (fs : List Value) (b : Nat) (gs : List Value) (o : Nat) (g : Nat → Int64) (h_fs_powered : fs[5]? = some (.int 1)) (h_fs_journal : fs[8]? = some (.ref b)) (hl_fs : fs.length = 18) (h_gs_size : gs[6]? = some (.int 0)) (hl_gs : gs.length = 13) : Met l ⟨"SeriesVaultLaw", "flush", "(LSeriesVault;[J)I"⟩ [Cond.codeWith ⟨"SeriesVaultLaw", "flush", "(LSeriesVault;[J)I"⟩ method_13_code 3 (some FieldType.int) [(0, 8, 11, 29), (0, 8, 14, 13)]] { frames := 3, cells := 0, slots := 0, locals := 43 } (pC D dA [.ref a, .ref o] [(a, .inr (0, fs)), (b, .inr (1, gs)), (o, .inl (dA 2, 1, .inr (.inl g)))] sz) (va_Qi (fun (r : Int32) (_ : Unit) => r = 0) (fun (u9 : Unit) t9 => bW D (va_A [(a, .inr (0, fs)), (b, .inr (1, gs)), (o, .inl (dA 2, 1, .inr (.inl g)))] sz) [(a, .inr (0, fs)), (b, .inr (1, gs)), (o, .inl (dA 2, 1, .inr (.inl (vp_updL g 0 0))))] t9) (va_A [(a, .inr (0, fs)), (b, .inr (1, gs)), (o, .inl (dA 2, 1, .inr (.inl g)))] sz)) 0 0 (va_A [(a, .inr (0, fs)), (b, .inr (1, gs)), (o, .inl (dA 2, 1, .inr (.inl g)))] sz) := by
  refine mkW (Qc := fun A => va_Qi (fun (r : Int32) (_ : Unit) => r = 0) (fun (u9 : Unit) t9 => bW D A [(a, .inr (0, fs)), (b, .inr (1, gs)), (o, .inl (dA 2, 1, .inr (.inl (vp_updL g 0 0))))] t9) A) (by decide) (Nat.le_of_ble_eq_true rfl) ?_
  intro A p e s m below meth c ls hsz htab hB
  obtain ⟨hx, hb, hr, hml, hown, hin, hlk, hE, hK, hP, hD, hS, hA, hN, hl⟩ := hB
  have hown : s.vm.findClass "SeriesVaultLaw" = some m.cls := hown
  have hin : meth.name = "flush" := hin
  have hl : lv_has ls 3 [(0, .ref a), (1, .ref o)] := hl
  obtain ⟨H, hH⟩ : ∃ z, z = s.heap := ⟨_, rfl⟩
  have hP : va_P D vwCl [(a, .inr (0, fs)), (b, .inr (1, gs)), (o, .inl (dA 2, 1, .inr (.inl g)))] H := by rw [hH]; exact hP
  have hS : va_S A s.heap H [] := by rw [hH]; exact hS
  rw [← hH]
  refine lv_aload_n hx hb d_SeriesVaultLaw_flush_0 rfl (lv_at hl 1 rfl) ?_
  refine lv_iconst (v := 0) hx hb d_SeriesVaultLaw_flush_1 (by decide) ?_
  refine lv_aload_n hx hb d_SeriesVaultLaw_flush_2 rfl (lv_at hl 0 rfl) ?_
  have hPc := hP.sub (ws' := [(a, .inr (0, fs)), (b, .inr (1, gs))]) [0, 1] rfl
  have hDc := hD.sub (ws' := [(a, .inr (0, fs)), (b, .inr (1, gs))]) [0, 1] (by decide) rfl
  refine jnI (rnV (As := []) (rest := [.int 0, .ref o]) hx hb hml hown hE hK (hN _ _ hS) hPc hDc (c_V_flush_0 l D dA H.size a fs b gs h_fs_powered h_fs_journal hl_fs h_gs_size hl_gs) (q0 := 0) rfl rfl w413 w412 w414 w415 w277 rfl rfl ⟨⟨by decide, by decide⟩, rfl⟩ ⟨(Nat.le_of_ble_eq_true rfl), (Nat.le_of_ble_eq_true rfl)⟩ rfl hl.1 rfl (Nat.le_of_ble_eq_true rfl) d_SeriesVaultLaw_flush_3 ⟨(Nat.le_of_ble_eq_true rfl), (Nat.le_of_ble_eq_true rfl)⟩) hP hD hS hA [0, 1] [2] (wr := [(o, .inl (dA 2, 1, .inr (.inl g)))]) rfl rfl (by decide) (by decide) (fun r1 u9 H locs hp9 hP hD hS => ?_)
  have hP : va_P D vwCl [(o, .inl (dA 2, 1, .inr (.inl g))), (a, .inr (0, fs)), (b, .inr (1, gs))] H := hP
  have hD : va_D A [(o, .inl (dA 2, 1, .inr (.inl g))), (a, .inr (0, fs)), (b, .inr (1, gs))] := hD
  have hp9 : 0 = r1 := Eq.symm hp9
  subst hp9
  refine lv_i2l (v := 0) hx hb d_SeriesVaultLaw_flush_6 (by decide) ?_
  refine va_last hx hb hK hP hD hS 0 2 rfl rfl (by unfold vp_in; decide) d_SeriesVaultLaw_flush_7 (fun H locs hP hD hS => ?_)
  have hP : va_P D vwCl [(o, .inl (dA 2, 1, .inr (.inl (vp_updL g 0 0)))), (a, .inr (0, fs)), (b, .inr (1, gs))] H := hP
  have hD : va_D A [(o, .inl (dA 2, 1, .inr (.inl (vp_updL g 0 0)))), (a, .inr (0, fs)), (b, .inr (1, gs))] := hD
  refine lv_goto hx hb d_SeriesVaultLaw_flush_8 (tgt := 17) rfl ?_
  refine lv_iconst (v := 0) hx hb d_SeriesVaultLaw_flush_17 (by decide) ?_
  exact rtI hx hb hr hlk hP hD hS () rfl [1, 2, 0] rfl rfl (by decide) (Nat.le_of_ble_eq_true rfl) (Nat.le_of_ble_eq_true rfl) d_SeriesVaultLaw_flush_18
end
