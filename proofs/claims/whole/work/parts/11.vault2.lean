theorem d_V_checkSeries_0 : decode prog_1_method_14_code 0 = .ok (.iload_n 1, 1) := by decide +kernel
theorem d_V_checkSeries_1 : decode prog_1_method_14_code 1 = .ok (.ifCond .lt 14, 3) := by decide +kernel
theorem d_V_checkSeries_15 : decode prog_1_method_14_code 15 = .ok (.new 92, 3) := by decide +kernel
theorem d_V_checkSeries_18 : decode prog_1_method_14_code 18 = .ok (.dup, 1) := by decide +kernel
theorem d_V_checkSeries_19 : decode prog_1_method_14_code 19 = .ok (.invokespecial 94, 3) := by decide +kernel
theorem d_V_checkSeries_22 : decode prog_1_method_14_code 22 = .ok (.athrow, 1) := by decide +kernel
theorem d_V_checkSeries_4 : decode prog_1_method_14_code 4 = .ok (.iload_n 1, 1) := by decide +kernel
theorem d_V_checkSeries_5 : decode prog_1_method_14_code 5 = .ok (.aload_n 0, 1) := by decide +kernel
theorem d_V_checkSeries_6 : decode prog_1_method_14_code 6 = .ok (.getfield 33, 3) := by decide +kernel
theorem d_V_checkSeries_9 : decode prog_1_method_14_code 9 = .ok (.getfield 130, 3) := by decide +kernel
theorem d_V_checkSeries_12 : decode prog_1_method_14_code 12 = .ok (.if_icmp .lt 11, 3) := by decide +kernel
theorem w297 : Cond.fieldLink "SeriesVault" 33 "SeriesVault" "now" "LSeriesVault$Shelf;" ∈ aW := aw_of (tb_2 (List.mem_of_getElem? (i := 216) rfl)) rfl
theorem w298 : Cond.fieldLinkNest "SeriesVault" 130 "SeriesVault$Shelf" "seriesCount" "I" "SeriesVault" ∈ aW := aw_of (tb_1 (List.mem_of_getElem? (i := 156) rfl)) rfl
set_option maxHeartbeats 4000000 in
set_option maxRecDepth 100000 in
theorem c_V_checkSeries_x (l : Launch) (htr : l.stackTraces = false) (D : va_G) (dA : Nat → ClassId) (sz : Nat) (a : Nat) (fs : List Value) (b : Nat) (gs : List Value) (k : Int32) (n : Int32) (h0 : n < 0 ∨ k ≤ n) (h_fs_now : fs[11]? = some (.ref b)) (hl_fs : fs.length = 18) (h_gs_seriesCount : gs[8]? = some (.int k)) (hl_gs : gs.length = 11) : mX l ⟨"SeriesVault", "checkSeries", "(I)V"⟩ [Cond.code ⟨"SeriesVault", "checkSeries", "(I)V"⟩ prog_1_method_14_code 2 none] { frames := 6, cells := 1, slots := 6, locals := 81 } (pC D dA [.ref a, .int n] [(a, .inr (0, fs)), (b, .inr (3, gs))] sz) "java/lang/IndexOutOfBoundsException" (fun st9 t9 => va_F (va_A [(a, .inr (0, fs)), (b, .inr (3, gs))] sz) st9 t9 ∧ bW D (va_A [(a, .inr (0, fs)), (b, .inr (3, gs))] sz) [(a, .inr (0, fs)), (b, .inr (3, gs))] t9) 1 6 (va_A [(a, .inr (0, fs)), (b, .inr (3, gs))] sz) := by
  refine mkX (B := fun A => fun st9 t9 => va_F A st9 t9 ∧ bW D A [(a, .inr (0, fs)), (b, .inr (3, gs))] t9) (by decide) (Nat.le_of_ble_eq_true rfl) ?_
  intro A p e s m below meth c ls hsz hno hB
  obtain ⟨hx, hb, hr, hml, hown, hin, hlk, hE, hK, hP, hD, hS, hA, hN, hl⟩ := hB
  have hown : s.vm.findClass "SeriesVault" = some m.cls := hown
  have hin : meth.name = "checkSeries" := hin
  have hl : lv_has ls 2 [(0, .ref a), (1, .int n)] := hl
  obtain ⟨H, hH⟩ : ∃ z, z = s.heap := ⟨_, rfl⟩
  have hP : va_P D vwCl [(a, .inr (0, fs)), (b, .inr (3, gs))] H := by rw [hH]; exact hP
  have hS : va_S A s.heap H [] := by rw [hH]; exact hS
  rw [← hH]
  refine lv_iload_n hx hb d_V_checkSeries_0 rfl (lv_at hl 1 rfl) ?_
  refine lv_if_lt hx hb d_V_checkSeries_1 (tgt := 15) rfl (fun hc => ?_) (fun hc => ?_)
  · exact xNew (E := "java/lang/IndexOutOfBoundsException") (names := ["java/lang/RuntimeException", "java/lang/Exception"]) hx hb htr hown (by decide) (by decide) hE w257 w258 (fun U hU => at_V_IOOBE hU) (hN _ _ hS) (hl.1.trans hml.symm) d_V_checkSeries_15 d_V_checkSeries_18 d_V_checkSeries_19 d_V_checkSeries_22 hno (by decide) (Nat.le_of_ble_eq_true rfl) (Nat.le_of_ble_eq_true rfl) (Nat.le_of_ble_eq_true rfl) hlk (fun t h1 h2 => xEnd hP hD hS [0, 1] rfl rfl (by decide) t h1 h2) hS.2.2 (Nat.le_of_ble_eq_true rfl) (Nat.le_of_ble_eq_true rfl)
  · refine lv_iload_n hx hb d_V_checkSeries_4 rfl (lv_at hl 1 rfl) ?_
    refine lv_aload_n hx hb d_V_checkSeries_5 rfl (lv_at hl 0 rfl) ?_
    refine gF (v := .ref b) hx hb hown hE hK hP 0 rfl rfl layV 11 (by decide) w297 h_fs_now d_V_checkSeries_6 ?_
    refine gFN (v := .int k) hx hb hown hE hK hP 1 rfl rfl layH 8 (by decide) w298 h_gs_seriesCount d_V_checkSeries_9 ?_
    refine lv_icmp_lt hx hb d_V_checkSeries_12 (tgt := 23) rfl (fun h9 => absurd h9 (Int32.not_lt.mpr (h0.resolve_left hc))) (fun _ => ?_)
    exact xNew (E := "java/lang/IndexOutOfBoundsException") (names := ["java/lang/RuntimeException", "java/lang/Exception"]) hx hb htr hown (by decide) (by decide) hE w257 w258 (fun U hU => at_V_IOOBE hU) (hN _ _ hS) (hl.1.trans hml.symm) d_V_checkSeries_15 d_V_checkSeries_18 d_V_checkSeries_19 d_V_checkSeries_22 hno (by decide) (Nat.le_of_ble_eq_true rfl) (Nat.le_of_ble_eq_true rfl) (Nat.le_of_ble_eq_true rfl) hlk (fun t h1 h2 => xEnd hP hD hS [0, 1] rfl rfl (by decide) t h1 h2) hS.2.2 (Nat.le_of_ble_eq_true rfl) (Nat.le_of_ble_eq_true rfl)
theorem d_V_letter_0 : decode prog_1_method_26_code 0 = .ok (.aload_n 0, 1) := by decide +kernel
theorem d_V_letter_1 : decode prog_1_method_26_code 1 = .ok (.invokevirtual 124, 3) := by decide +kernel
theorem d_V_letter_4 : decode prog_1_method_26_code 4 = .ok (.aload_n 0, 1) := by decide +kernel
theorem d_V_letter_5 : decode prog_1_method_26_code 5 = .ok (.iload_n 1, 1) := by decide +kernel
theorem d_V_letter_6 : decode prog_1_method_26_code 6 = .ok (.invokevirtual 244, 3) := by decide +kernel
theorem w299 : Cond.methodLink "SeriesVault" 244 ⟨"SeriesVault", "checkSeries", "(I)V"⟩ ∈ aW := aw_of (tb_5 (List.mem_of_getElem? (i := 122) rfl)) rfl
theorem w300 : Cond.code ⟨"SeriesVault", "checkSeries", "(I)V"⟩ prog_1_method_14_code 2 none ∈ aW := aw_of (tb_5 (List.mem_of_getElem? (i := 125) rfl)) rfl
theorem w301 : Cond.instanceMethod ⟨"SeriesVault", "checkSeries", "(I)V"⟩ ∈ aW := aw_of (tb_5 (List.mem_of_getElem? (i := 124) rfl)) rfl
theorem w302 : Cond.selects "SeriesVault" ⟨"SeriesVault", "checkSeries", "(I)V"⟩ ⟨"SeriesVault", "checkSeries", "(I)V"⟩ ∈ aW := aw_pr (List.mem_map.mpr ⟨_, pv_2 (List.mem_of_getElem? (i := 1) rfl), rfl⟩) rfl
set_option maxHeartbeats 4000000 in
set_option maxRecDepth 100000 in
theorem c_V_letter_x (l : Launch) (htr : l.stackTraces = false) (D : va_G) (dA : Nat → ClassId) (sz : Nat) (a : Nat) (fs : List Value) (b : Nat) (gs : List Value) (k : Int32) (n : Int32) (i : Int32) (h0 : n < 0 ∨ k ≤ n) (h_fs_powered : fs[5]? = some (.int 1)) (h_fs_now : fs[11]? = some (.ref b)) (hl_fs : fs.length = 18) (h_gs_seriesCount : gs[8]? = some (.int k)) (hl_gs : gs.length = 11) : mX l ⟨"SeriesVault", "letter", "(II)I"⟩ [Cond.code ⟨"SeriesVault", "letter", "(II)I"⟩ prog_1_method_26_code 3 (some FieldType.int)] { frames := 7, cells := 1, slots := 6, locals := 102 } (pC D dA [.ref a, .int n, .int i] [(a, .inr (0, fs)), (b, .inr (3, gs))] sz) "java/lang/IndexOutOfBoundsException" (fun st9 t9 => va_F (va_A [(a, .inr (0, fs)), (b, .inr (3, gs))] sz) st9 t9 ∧ bW D (va_A [(a, .inr (0, fs)), (b, .inr (3, gs))] sz) [(a, .inr (0, fs)), (b, .inr (3, gs))] t9) 1 6 (va_A [(a, .inr (0, fs)), (b, .inr (3, gs))] sz) := by
  refine mkX (B := fun A => fun st9 t9 => va_F A st9 t9 ∧ bW D A [(a, .inr (0, fs)), (b, .inr (3, gs))] t9) (by decide) (Nat.le_of_ble_eq_true rfl) ?_
  intro A p e s m below meth c ls hsz hno hB
  obtain ⟨hx, hb, hr, hml, hown, hin, hlk, hE, hK, hP, hD, hS, hA, hN, hl⟩ := hB
  have hown : s.vm.findClass "SeriesVault" = some m.cls := hown
  have hin : meth.name = "letter" := hin
  have hl : lv_has ls 3 [(0, .ref a), (1, .int n), (2, .int i)] := hl
  obtain ⟨H, hH⟩ : ∃ z, z = s.heap := ⟨_, rfl⟩
  have hP : va_P D vwCl [(a, .inr (0, fs)), (b, .inr (3, gs))] H := by rw [hH]; exact hP
  have hS : va_S A s.heap H [] := by rw [hH]; exact hS
  rw [← hH]
  refine lv_aload_n hx hb d_V_letter_0 rfl (lv_at hl 0 rfl) ?_
  have hPc := hP.sub (ws' := [(a, .inr (0, fs))]) [0] rfl
  have hDc := hD.sub (ws' := [(a, .inr (0, fs))]) [0] (by decide) rfl
  refine jnV (rnV (As := []) (rest := []) hx hb hml hown hE hK (hN _ _ hS) hPc hDc (c_V_checkPower l D dA H.size a fs h_fs_powered hl_fs) (q0 := 0) rfl rfl w278 w276 w279 w280 w277 rfl rfl ⟨⟨by decide, by decide⟩, rfl⟩ ⟨(Nat.le_of_ble_eq_true rfl), (Nat.le_of_ble_eq_true rfl)⟩ rfl hl.1 rfl (Nat.le_of_ble_eq_true rfl) d_V_letter_1 ⟨(Nat.le_of_ble_eq_true rfl), (Nat.le_of_ble_eq_true rfl)⟩) hP hD hS hA [0] [1] (wr := [(b, .inr (3, gs))]) rfl rfl (by decide) (by decide) (fun u9 H locs hp9 hP hD hS => ?_)
  have hP : va_P D vwCl [(b, .inr (3, gs)), (a, .inr (0, fs))] H := hP
  have hD : va_D A [(b, .inr (3, gs)), (a, .inr (0, fs))] := hD
  refine lv_aload_n hx hb d_V_letter_4 rfl (lv_at hl 0 rfl) ?_
  refine lv_iload_n hx hb d_V_letter_5 rfl (lv_at hl 1 rfl) ?_
  have hPc := hP.sub (ws' := [(a, .inr (0, fs)), (b, .inr (3, gs))]) [1, 0] rfl
  have hDc := hD.sub (ws' := [(a, .inr (0, fs)), (b, .inr (3, gs))]) [1, 0] (by decide) rfl
  refine xnV (As := [.int n]) (rest := []) hx hb hml hown hE hK (hN _ _ hS) hPc hDc (c_V_checkSeries_x l htr D dA H.size a fs b gs k n h0 h_fs_now hl_fs h_gs_seriesCount hl_gs) (q0 := 0) rfl rfl w300 w299 w301 w302 w277 rfl rfl ⟨⟨by decide, by decide⟩, rfl⟩ ⟨(Nat.le_of_ble_eq_true rfl), (Nat.le_of_ble_eq_true rfl)⟩ rfl hl.1 rfl (Nat.le_of_ble_eq_true rfl) d_V_letter_6 ⟨(Nat.le_of_ble_eq_true rfl), (Nat.le_of_ble_eq_true rfl)⟩ hP hD hS hA [1, 0] [] (wr := []) rfl rfl (by decide) (by decide) (fun x2 ce H locs hP hD hS hce hcv hcl => ?_)
  have hP : va_P D vwCl [(a, .inr (0, fs)), (b, .inr (3, gs))] H := hP
  have hD : va_D A [(a, .inr (0, fs)), (b, .inr (3, gs))] := hD
  exact xOut hno hlk hce hcv hcl (fun t ht => xEnd hP hD hS [0, 1] rfl rfl (by decide) t (by rw [ht]; exact Nat.le_refl _) (fun q _ => by rw [ht])) hS.2.2 (Nat.le_of_ble_eq_true rfl) (Nat.le_of_ble_eq_true rfl)
theorem d_V_last_0 : decode prog_1_method_27_code 0 = .ok (.aload_n 0, 1) := by decide +kernel
theorem d_V_last_1 : decode prog_1_method_27_code 1 = .ok (.invokevirtual 124, 3) := by decide +kernel
theorem d_V_last_4 : decode prog_1_method_27_code 4 = .ok (.aload_n 0, 1) := by decide +kernel
theorem d_V_last_5 : decode prog_1_method_27_code 5 = .ok (.iload_n 1, 1) := by decide +kernel
theorem d_V_last_6 : decode prog_1_method_27_code 6 = .ok (.invokevirtual 244, 3) := by decide +kernel
set_option maxHeartbeats 4000000 in
set_option maxRecDepth 100000 in
theorem c_V_last_x (l : Launch) (htr : l.stackTraces = false) (D : va_G) (dA : Nat → ClassId) (sz : Nat) (a : Nat) (fs : List Value) (b : Nat) (gs : List Value) (k : Int32) (n : Int32) (h0 : n < 0 ∨ k ≤ n) (h_fs_powered : fs[5]? = some (.int 1)) (h_fs_now : fs[11]? = some (.ref b)) (hl_fs : fs.length = 18) (h_gs_seriesCount : gs[8]? = some (.int k)) (hl_gs : gs.length = 11) : mX l ⟨"SeriesVault", "last", "(I)J"⟩ [Cond.code ⟨"SeriesVault", "last", "(I)J"⟩ prog_1_method_27_code 2 (some FieldType.long)] { frames := 7, cells := 1, slots := 6, locals := 102 } (pC D dA [.ref a, .int n] [(a, .inr (0, fs)), (b, .inr (3, gs))] sz) "java/lang/IndexOutOfBoundsException" (fun st9 t9 => va_F (va_A [(a, .inr (0, fs)), (b, .inr (3, gs))] sz) st9 t9 ∧ bW D (va_A [(a, .inr (0, fs)), (b, .inr (3, gs))] sz) [(a, .inr (0, fs)), (b, .inr (3, gs))] t9) 1 6 (va_A [(a, .inr (0, fs)), (b, .inr (3, gs))] sz) := by
  refine mkX (B := fun A => fun st9 t9 => va_F A st9 t9 ∧ bW D A [(a, .inr (0, fs)), (b, .inr (3, gs))] t9) (by decide) (Nat.le_of_ble_eq_true rfl) ?_
  intro A p e s m below meth c ls hsz hno hB
  obtain ⟨hx, hb, hr, hml, hown, hin, hlk, hE, hK, hP, hD, hS, hA, hN, hl⟩ := hB
  have hown : s.vm.findClass "SeriesVault" = some m.cls := hown
  have hin : meth.name = "last" := hin
  have hl : lv_has ls 2 [(0, .ref a), (1, .int n)] := hl
  obtain ⟨H, hH⟩ : ∃ z, z = s.heap := ⟨_, rfl⟩
  have hP : va_P D vwCl [(a, .inr (0, fs)), (b, .inr (3, gs))] H := by rw [hH]; exact hP
  have hS : va_S A s.heap H [] := by rw [hH]; exact hS
  rw [← hH]
  refine lv_aload_n hx hb d_V_last_0 rfl (lv_at hl 0 rfl) ?_
  have hPc := hP.sub (ws' := [(a, .inr (0, fs))]) [0] rfl
  have hDc := hD.sub (ws' := [(a, .inr (0, fs))]) [0] (by decide) rfl
  refine jnV (rnV (As := []) (rest := []) hx hb hml hown hE hK (hN _ _ hS) hPc hDc (c_V_checkPower l D dA H.size a fs h_fs_powered hl_fs) (q0 := 0) rfl rfl w278 w276 w279 w280 w277 rfl rfl ⟨⟨by decide, by decide⟩, rfl⟩ ⟨(Nat.le_of_ble_eq_true rfl), (Nat.le_of_ble_eq_true rfl)⟩ rfl hl.1 rfl (Nat.le_of_ble_eq_true rfl) d_V_last_1 ⟨(Nat.le_of_ble_eq_true rfl), (Nat.le_of_ble_eq_true rfl)⟩) hP hD hS hA [0] [1] (wr := [(b, .inr (3, gs))]) rfl rfl (by decide) (by decide) (fun u9 H locs hp9 hP hD hS => ?_)
  have hP : va_P D vwCl [(b, .inr (3, gs)), (a, .inr (0, fs))] H := hP
  have hD : va_D A [(b, .inr (3, gs)), (a, .inr (0, fs))] := hD
  refine lv_aload_n hx hb d_V_last_4 rfl (lv_at hl 0 rfl) ?_
  refine lv_iload_n hx hb d_V_last_5 rfl (lv_at hl 1 rfl) ?_
  have hPc := hP.sub (ws' := [(a, .inr (0, fs)), (b, .inr (3, gs))]) [1, 0] rfl
  have hDc := hD.sub (ws' := [(a, .inr (0, fs)), (b, .inr (3, gs))]) [1, 0] (by decide) rfl
  refine xnV (As := [.int n]) (rest := []) hx hb hml hown hE hK (hN _ _ hS) hPc hDc (c_V_checkSeries_x l htr D dA H.size a fs b gs k n h0 h_fs_now hl_fs h_gs_seriesCount hl_gs) (q0 := 0) rfl rfl w300 w299 w301 w302 w277 rfl rfl ⟨⟨by decide, by decide⟩, rfl⟩ ⟨(Nat.le_of_ble_eq_true rfl), (Nat.le_of_ble_eq_true rfl)⟩ rfl hl.1 rfl (Nat.le_of_ble_eq_true rfl) d_V_last_6 ⟨(Nat.le_of_ble_eq_true rfl), (Nat.le_of_ble_eq_true rfl)⟩ hP hD hS hA [1, 0] [] (wr := []) rfl rfl (by decide) (by decide) (fun x2 ce H locs hP hD hS hce hcv hcl => ?_)
  have hP : va_P D vwCl [(a, .inr (0, fs)), (b, .inr (3, gs))] H := hP
  have hD : va_D A [(a, .inr (0, fs)), (b, .inr (3, gs))] := hD
  exact xOut hno hlk hce hcv hcl (fun t ht => xEnd hP hD hS [0, 1] rfl rfl (by decide) t (by rw [ht]; exact Nat.le_refl _) (fun q _ => by rw [ht])) hS.2.2 (Nat.le_of_ble_eq_true rfl) (Nat.le_of_ble_eq_true rfl)
theorem d_V_append_0 : decode prog_1_method_28_code 0 = .ok (.aload_n 0, 1) := by decide +kernel
theorem d_V_append_1 : decode prog_1_method_28_code 1 = .ok (.invokevirtual 124, 3) := by decide +kernel
theorem d_V_append_4 : decode prog_1_method_28_code 4 = .ok (.aload_n 0, 1) := by decide +kernel
theorem d_V_append_5 : decode prog_1_method_28_code 5 = .ok (.iload_n 1, 1) := by decide +kernel
theorem d_V_append_6 : decode prog_1_method_28_code 6 = .ok (.invokevirtual 244, 3) := by decide +kernel
set_option maxHeartbeats 4000000 in
set_option maxRecDepth 100000 in
theorem c_V_append_x (l : Launch) (htr : l.stackTraces = false) (D : va_G) (dA : Nat → ClassId) (sz : Nat) (a : Nat) (fs : List Value) (b : Nat) (gs : List Value) (k : Int32) (n : Int32) (t : Int64) (v : Int64) (h0 : n < 0 ∨ k ≤ n) (h_fs_powered : fs[5]? = some (.int 1)) (h_fs_now : fs[11]? = some (.ref b)) (hl_fs : fs.length = 18) (h_gs_seriesCount : gs[8]? = some (.int k)) (hl_gs : gs.length = 11) : mX l ⟨"SeriesVault", "append", "(IJJ)I"⟩ [Cond.code ⟨"SeriesVault", "append", "(IJJ)I"⟩ prog_1_method_28_code 6 (some FieldType.int)] { frames := 7, cells := 1, slots := 6, locals := 102 } (pC D dA [.ref a, .int n, .long t, .long v] [(a, .inr (0, fs)), (b, .inr (3, gs))] sz) "java/lang/IndexOutOfBoundsException" (fun st9 t9 => va_F (va_A [(a, .inr (0, fs)), (b, .inr (3, gs))] sz) st9 t9 ∧ bW D (va_A [(a, .inr (0, fs)), (b, .inr (3, gs))] sz) [(a, .inr (0, fs)), (b, .inr (3, gs))] t9) 1 6 (va_A [(a, .inr (0, fs)), (b, .inr (3, gs))] sz) := by
  refine mkX (B := fun A => fun st9 t9 => va_F A st9 t9 ∧ bW D A [(a, .inr (0, fs)), (b, .inr (3, gs))] t9) (by decide) (Nat.le_of_ble_eq_true rfl) ?_
  intro A p e s m below meth c ls hsz hno hB
  obtain ⟨hx, hb, hr, hml, hown, hin, hlk, hE, hK, hP, hD, hS, hA, hN, hl⟩ := hB
  have hown : s.vm.findClass "SeriesVault" = some m.cls := hown
  have hin : meth.name = "append" := hin
  have hl : lv_has ls 6 [(0, .ref a), (1, .int n), (2, .long t), (4, .long v)] := hl
  obtain ⟨H, hH⟩ : ∃ z, z = s.heap := ⟨_, rfl⟩
  have hP : va_P D vwCl [(a, .inr (0, fs)), (b, .inr (3, gs))] H := by rw [hH]; exact hP
  have hS : va_S A s.heap H [] := by rw [hH]; exact hS
  rw [← hH]
  refine lv_aload_n hx hb d_V_append_0 rfl (lv_at hl 0 rfl) ?_
  have hPc := hP.sub (ws' := [(a, .inr (0, fs))]) [0] rfl
  have hDc := hD.sub (ws' := [(a, .inr (0, fs))]) [0] (by decide) rfl
  refine jnV (rnV (As := []) (rest := []) hx hb hml hown hE hK (hN _ _ hS) hPc hDc (c_V_checkPower l D dA H.size a fs h_fs_powered hl_fs) (q0 := 0) rfl rfl w278 w276 w279 w280 w277 rfl rfl ⟨⟨by decide, by decide⟩, rfl⟩ ⟨(Nat.le_of_ble_eq_true rfl), (Nat.le_of_ble_eq_true rfl)⟩ rfl hl.1 rfl (Nat.le_of_ble_eq_true rfl) d_V_append_1 ⟨(Nat.le_of_ble_eq_true rfl), (Nat.le_of_ble_eq_true rfl)⟩) hP hD hS hA [0] [1] (wr := [(b, .inr (3, gs))]) rfl rfl (by decide) (by decide) (fun u9 H locs hp9 hP hD hS => ?_)
  have hP : va_P D vwCl [(b, .inr (3, gs)), (a, .inr (0, fs))] H := hP
  have hD : va_D A [(b, .inr (3, gs)), (a, .inr (0, fs))] := hD
  refine lv_aload_n hx hb d_V_append_4 rfl (lv_at hl 0 rfl) ?_
  refine lv_iload_n hx hb d_V_append_5 rfl (lv_at hl 1 rfl) ?_
  have hPc := hP.sub (ws' := [(a, .inr (0, fs)), (b, .inr (3, gs))]) [1, 0] rfl
  have hDc := hD.sub (ws' := [(a, .inr (0, fs)), (b, .inr (3, gs))]) [1, 0] (by decide) rfl
  refine xnV (As := [.int n]) (rest := []) hx hb hml hown hE hK (hN _ _ hS) hPc hDc (c_V_checkSeries_x l htr D dA H.size a fs b gs k n h0 h_fs_now hl_fs h_gs_seriesCount hl_gs) (q0 := 0) rfl rfl w300 w299 w301 w302 w277 rfl rfl ⟨⟨by decide, by decide⟩, rfl⟩ ⟨(Nat.le_of_ble_eq_true rfl), (Nat.le_of_ble_eq_true rfl)⟩ rfl hl.1 rfl (Nat.le_of_ble_eq_true rfl) d_V_append_6 ⟨(Nat.le_of_ble_eq_true rfl), (Nat.le_of_ble_eq_true rfl)⟩ hP hD hS hA [1, 0] [] (wr := []) rfl rfl (by decide) (by decide) (fun x2 ce H locs hP hD hS hce hcv hcl => ?_)
  have hP : va_P D vwCl [(a, .inr (0, fs)), (b, .inr (3, gs))] H := hP
  have hD : va_D A [(a, .inr (0, fs)), (b, .inr (3, gs))] := hD
  exact xOut hno hlk hce hcv hcl (fun t ht => xEnd hP hD hS [0, 1] rfl rfl (by decide) t (by rw [ht]; exact Nat.le_refl _) (fun q _ => by rw [ht])) hS.2.2 (Nat.le_of_ble_eq_true rfl) (Nat.le_of_ble_eq_true rfl)
theorem d_V_bulk_0 : decode prog_1_method_33_code 0 = .ok (.aload_n 0, 1) := by decide +kernel
theorem d_V_bulk_1 : decode prog_1_method_33_code 1 = .ok (.invokevirtual 124, 3) := by decide +kernel
theorem d_V_bulk_4 : decode prog_1_method_33_code 4 = .ok (.aload_n 0, 1) := by decide +kernel
theorem d_V_bulk_5 : decode prog_1_method_33_code 5 = .ok (.iload_n 1, 1) := by decide +kernel
theorem d_V_bulk_6 : decode prog_1_method_33_code 6 = .ok (.invokevirtual 244, 3) := by decide +kernel
set_option maxHeartbeats 4000000 in
set_option maxRecDepth 100000 in
theorem c_V_bulk_x (l : Launch) (htr : l.stackTraces = false) (D : va_G) (dA : Nat → ClassId) (sz : Nat) (a : Nat) (fs : List Value) (b : Nat) (gs : List Value) (k : Int32) (n : Int32) (h0 : n < 0 ∨ k ≤ n) (h_fs_powered : fs[5]? = some (.int 1)) (h_fs_now : fs[11]? = some (.ref b)) (hl_fs : fs.length = 18) (h_gs_seriesCount : gs[8]? = some (.int k)) (hl_gs : gs.length = 11) : mX l ⟨"SeriesVault", "bulk", "(I)I"⟩ [Cond.code ⟨"SeriesVault", "bulk", "(I)I"⟩ prog_1_method_33_code 6 (some FieldType.int)] { frames := 7, cells := 1, slots := 6, locals := 102 } (pC D dA [.ref a, .int n] [(a, .inr (0, fs)), (b, .inr (3, gs))] sz) "java/lang/IndexOutOfBoundsException" (fun st9 t9 => va_F (va_A [(a, .inr (0, fs)), (b, .inr (3, gs))] sz) st9 t9 ∧ bW D (va_A [(a, .inr (0, fs)), (b, .inr (3, gs))] sz) [(a, .inr (0, fs)), (b, .inr (3, gs))] t9) 1 6 (va_A [(a, .inr (0, fs)), (b, .inr (3, gs))] sz) := by
  refine mkX (B := fun A => fun st9 t9 => va_F A st9 t9 ∧ bW D A [(a, .inr (0, fs)), (b, .inr (3, gs))] t9) (by decide) (Nat.le_of_ble_eq_true rfl) ?_
  intro A p e s m below meth c ls hsz hno hB
  obtain ⟨hx, hb, hr, hml, hown, hin, hlk, hE, hK, hP, hD, hS, hA, hN, hl⟩ := hB
  have hown : s.vm.findClass "SeriesVault" = some m.cls := hown
  have hin : meth.name = "bulk" := hin
  have hl : lv_has ls 6 [(0, .ref a), (1, .int n)] := hl
  obtain ⟨H, hH⟩ : ∃ z, z = s.heap := ⟨_, rfl⟩
  have hP : va_P D vwCl [(a, .inr (0, fs)), (b, .inr (3, gs))] H := by rw [hH]; exact hP
  have hS : va_S A s.heap H [] := by rw [hH]; exact hS
  rw [← hH]
  refine lv_aload_n hx hb d_V_bulk_0 rfl (lv_at hl 0 rfl) ?_
  have hPc := hP.sub (ws' := [(a, .inr (0, fs))]) [0] rfl
  have hDc := hD.sub (ws' := [(a, .inr (0, fs))]) [0] (by decide) rfl
  refine jnV (rnV (As := []) (rest := []) hx hb hml hown hE hK (hN _ _ hS) hPc hDc (c_V_checkPower l D dA H.size a fs h_fs_powered hl_fs) (q0 := 0) rfl rfl w278 w276 w279 w280 w277 rfl rfl ⟨⟨by decide, by decide⟩, rfl⟩ ⟨(Nat.le_of_ble_eq_true rfl), (Nat.le_of_ble_eq_true rfl)⟩ rfl hl.1 rfl (Nat.le_of_ble_eq_true rfl) d_V_bulk_1 ⟨(Nat.le_of_ble_eq_true rfl), (Nat.le_of_ble_eq_true rfl)⟩) hP hD hS hA [0] [1] (wr := [(b, .inr (3, gs))]) rfl rfl (by decide) (by decide) (fun u9 H locs hp9 hP hD hS => ?_)
  have hP : va_P D vwCl [(b, .inr (3, gs)), (a, .inr (0, fs))] H := hP
  have hD : va_D A [(b, .inr (3, gs)), (a, .inr (0, fs))] := hD
  refine lv_aload_n hx hb d_V_bulk_4 rfl (lv_at hl 0 rfl) ?_
  refine lv_iload_n hx hb d_V_bulk_5 rfl (lv_at hl 1 rfl) ?_
  have hPc := hP.sub (ws' := [(a, .inr (0, fs)), (b, .inr (3, gs))]) [1, 0] rfl
  have hDc := hD.sub (ws' := [(a, .inr (0, fs)), (b, .inr (3, gs))]) [1, 0] (by decide) rfl
  refine xnV (As := [.int n]) (rest := []) hx hb hml hown hE hK (hN _ _ hS) hPc hDc (c_V_checkSeries_x l htr D dA H.size a fs b gs k n h0 h_fs_now hl_fs h_gs_seriesCount hl_gs) (q0 := 0) rfl rfl w300 w299 w301 w302 w277 rfl rfl ⟨⟨by decide, by decide⟩, rfl⟩ ⟨(Nat.le_of_ble_eq_true rfl), (Nat.le_of_ble_eq_true rfl)⟩ rfl hl.1 rfl (Nat.le_of_ble_eq_true rfl) d_V_bulk_6 ⟨(Nat.le_of_ble_eq_true rfl), (Nat.le_of_ble_eq_true rfl)⟩ hP hD hS hA [1, 0] [] (wr := []) rfl rfl (by decide) (by decide) (fun x2 ce H locs hP hD hS hce hcv hcl => ?_)
  have hP : va_P D vwCl [(a, .inr (0, fs)), (b, .inr (3, gs))] H := hP
  have hD : va_D A [(a, .inr (0, fs)), (b, .inr (3, gs))] := hD
  exact xOut hno hlk hce hcv hcl (fun t ht => xEnd hP hD hS [0, 1] rfl rfl (by decide) t (by rw [ht]; exact Nat.le_refl _) (fun q _ => by rw [ht])) hS.2.2 (Nat.le_of_ble_eq_true rfl) (Nat.le_of_ble_eq_true rfl)
theorem d_V_delete_0 : decode prog_1_method_34_code 0 = .ok (.aload_n 0, 1) := by decide +kernel
theorem d_V_delete_1 : decode prog_1_method_34_code 1 = .ok (.invokevirtual 124, 3) := by decide +kernel
theorem d_V_delete_4 : decode prog_1_method_34_code 4 = .ok (.aload_n 0, 1) := by decide +kernel
theorem d_V_delete_5 : decode prog_1_method_34_code 5 = .ok (.iload_n 1, 1) := by decide +kernel
theorem d_V_delete_6 : decode prog_1_method_34_code 6 = .ok (.invokevirtual 244, 3) := by decide +kernel
set_option maxHeartbeats 4000000 in
set_option maxRecDepth 100000 in
theorem c_V_delete_x (l : Launch) (htr : l.stackTraces = false) (D : va_G) (dA : Nat → ClassId) (sz : Nat) (a : Nat) (fs : List Value) (b : Nat) (gs : List Value) (k : Int32) (n : Int32) (t : Int64) (v : Int64) (h0 : n < 0 ∨ k ≤ n) (h_fs_powered : fs[5]? = some (.int 1)) (h_fs_now : fs[11]? = some (.ref b)) (hl_fs : fs.length = 18) (h_gs_seriesCount : gs[8]? = some (.int k)) (hl_gs : gs.length = 11) : mX l ⟨"SeriesVault", "delete", "(IJJ)I"⟩ [Cond.code ⟨"SeriesVault", "delete", "(IJJ)I"⟩ prog_1_method_34_code 8 (some FieldType.int)] { frames := 7, cells := 1, slots := 6, locals := 102 } (pC D dA [.ref a, .int n, .long t, .long v] [(a, .inr (0, fs)), (b, .inr (3, gs))] sz) "java/lang/IndexOutOfBoundsException" (fun st9 t9 => va_F (va_A [(a, .inr (0, fs)), (b, .inr (3, gs))] sz) st9 t9 ∧ bW D (va_A [(a, .inr (0, fs)), (b, .inr (3, gs))] sz) [(a, .inr (0, fs)), (b, .inr (3, gs))] t9) 1 6 (va_A [(a, .inr (0, fs)), (b, .inr (3, gs))] sz) := by
  refine mkX (B := fun A => fun st9 t9 => va_F A st9 t9 ∧ bW D A [(a, .inr (0, fs)), (b, .inr (3, gs))] t9) (by decide) (Nat.le_of_ble_eq_true rfl) ?_
  intro A p e s m below meth c ls hsz hno hB
  obtain ⟨hx, hb, hr, hml, hown, hin, hlk, hE, hK, hP, hD, hS, hA, hN, hl⟩ := hB
  have hown : s.vm.findClass "SeriesVault" = some m.cls := hown
  have hin : meth.name = "delete" := hin
  have hl : lv_has ls 8 [(0, .ref a), (1, .int n), (2, .long t), (4, .long v)] := hl
  obtain ⟨H, hH⟩ : ∃ z, z = s.heap := ⟨_, rfl⟩
  have hP : va_P D vwCl [(a, .inr (0, fs)), (b, .inr (3, gs))] H := by rw [hH]; exact hP
  have hS : va_S A s.heap H [] := by rw [hH]; exact hS
  rw [← hH]
  refine lv_aload_n hx hb d_V_delete_0 rfl (lv_at hl 0 rfl) ?_
  have hPc := hP.sub (ws' := [(a, .inr (0, fs))]) [0] rfl
  have hDc := hD.sub (ws' := [(a, .inr (0, fs))]) [0] (by decide) rfl
  refine jnV (rnV (As := []) (rest := []) hx hb hml hown hE hK (hN _ _ hS) hPc hDc (c_V_checkPower l D dA H.size a fs h_fs_powered hl_fs) (q0 := 0) rfl rfl w278 w276 w279 w280 w277 rfl rfl ⟨⟨by decide, by decide⟩, rfl⟩ ⟨(Nat.le_of_ble_eq_true rfl), (Nat.le_of_ble_eq_true rfl)⟩ rfl hl.1 rfl (Nat.le_of_ble_eq_true rfl) d_V_delete_1 ⟨(Nat.le_of_ble_eq_true rfl), (Nat.le_of_ble_eq_true rfl)⟩) hP hD hS hA [0] [1] (wr := [(b, .inr (3, gs))]) rfl rfl (by decide) (by decide) (fun u9 H locs hp9 hP hD hS => ?_)
  have hP : va_P D vwCl [(b, .inr (3, gs)), (a, .inr (0, fs))] H := hP
  have hD : va_D A [(b, .inr (3, gs)), (a, .inr (0, fs))] := hD
  refine lv_aload_n hx hb d_V_delete_4 rfl (lv_at hl 0 rfl) ?_
  refine lv_iload_n hx hb d_V_delete_5 rfl (lv_at hl 1 rfl) ?_
  have hPc := hP.sub (ws' := [(a, .inr (0, fs)), (b, .inr (3, gs))]) [1, 0] rfl
  have hDc := hD.sub (ws' := [(a, .inr (0, fs)), (b, .inr (3, gs))]) [1, 0] (by decide) rfl
  refine xnV (As := [.int n]) (rest := []) hx hb hml hown hE hK (hN _ _ hS) hPc hDc (c_V_checkSeries_x l htr D dA H.size a fs b gs k n h0 h_fs_now hl_fs h_gs_seriesCount hl_gs) (q0 := 0) rfl rfl w300 w299 w301 w302 w277 rfl rfl ⟨⟨by decide, by decide⟩, rfl⟩ ⟨(Nat.le_of_ble_eq_true rfl), (Nat.le_of_ble_eq_true rfl)⟩ rfl hl.1 rfl (Nat.le_of_ble_eq_true rfl) d_V_delete_6 ⟨(Nat.le_of_ble_eq_true rfl), (Nat.le_of_ble_eq_true rfl)⟩ hP hD hS hA [1, 0] [] (wr := []) rfl rfl (by decide) (by decide) (fun x2 ce H locs hP hD hS hce hcv hcl => ?_)
  have hP : va_P D vwCl [(a, .inr (0, fs)), (b, .inr (3, gs))] H := hP
  have hD : va_D A [(a, .inr (0, fs)), (b, .inr (3, gs))] := hD
  exact xOut hno hlk hce hcv hcl (fun t ht => xEnd hP hD hS [0, 1] rfl rfl (by decide) t (by rw [ht]; exact Nat.le_refl _) (fun q _ => by rw [ht])) hS.2.2 (Nat.le_of_ble_eq_true rfl) (Nat.le_of_ble_eq_true rfl)
theorem d_V_compact_0 : decode prog_1_method_40_code 0 = .ok (.aload_n 0, 1) := by decide +kernel
theorem d_V_compact_1 : decode prog_1_method_40_code 1 = .ok (.invokevirtual 124, 3) := by decide +kernel
theorem d_V_compact_4 : decode prog_1_method_40_code 4 = .ok (.iload_n 1, 1) := by decide +kernel
theorem d_V_compact_5 : decode prog_1_method_40_code 5 = .ok (.ifCond .lt 16, 3) := by decide +kernel
theorem d_V_compact_21 : decode prog_1_method_40_code 21 = .ok (.new 92, 3) := by decide +kernel
theorem d_V_compact_24 : decode prog_1_method_40_code 24 = .ok (.dup, 1) := by decide +kernel
theorem d_V_compact_25 : decode prog_1_method_40_code 25 = .ok (.invokespecial 94, 3) := by decide +kernel
theorem d_V_compact_28 : decode prog_1_method_40_code 28 = .ok (.athrow, 1) := by decide +kernel
theorem d_V_compact_8 : decode prog_1_method_40_code 8 = .ok (.iload_n 1, 1) := by decide +kernel
theorem d_V_compact_9 : decode prog_1_method_40_code 9 = .ok (.aload_n 0, 1) := by decide +kernel
theorem d_V_compact_10 : decode prog_1_method_40_code 10 = .ok (.getfield 33, 3) := by decide +kernel
theorem d_V_compact_13 : decode prog_1_method_40_code 13 = .ok (.getfield 305, 3) := by decide +kernel
theorem d_V_compact_16 : decode prog_1_method_40_code 16 = .ok (.iconst 1, 1) := by decide +kernel
theorem d_V_compact_17 : decode prog_1_method_40_code 17 = .ok (.isub, 1) := by decide +kernel
theorem d_V_compact_18 : decode prog_1_method_40_code 18 = .ok (.if_icmp .lt 11, 3) := by decide +kernel
theorem w303 : Cond.fieldLinkNest "SeriesVault" 305 "SeriesVault$Shelf" "parcelCount" "I" "SeriesVault" ∈ aW := aw_of (tb_1 (List.mem_of_getElem? (i := 145) rfl)) rfl
set_option maxHeartbeats 4000000 in
set_option maxRecDepth 100000 in
theorem c_V_compact_x (l : Launch) (htr : l.stackTraces = false) (D : va_G) (dA : Nat → ClassId) (sz : Nat) (a : Nat) (fs : List Value) (b : Nat) (gs : List Value) (k : Int32) (n : Int32) (h0 : n < 0 ∨ k - 1 ≤ n) (h_fs_powered : fs[5]? = some (.int 1)) (h_fs_now : fs[11]? = some (.ref b)) (hl_fs : fs.length = 18) (h_gs_parcelCount : gs[1]? = some (.int k)) (hl_gs : gs.length = 11) : mX l ⟨"SeriesVault", "compact", "(I)I"⟩ [Cond.code ⟨"SeriesVault", "compact", "(I)I"⟩ prog_1_method_40_code 4 (some FieldType.int)] { frames := 6, cells := 1, slots := 6, locals := 81 } (pC D dA [.ref a, .int n] [(a, .inr (0, fs)), (b, .inr (3, gs))] sz) "java/lang/IndexOutOfBoundsException" (fun st9 t9 => va_F (va_A [(a, .inr (0, fs)), (b, .inr (3, gs))] sz) st9 t9 ∧ bW D (va_A [(a, .inr (0, fs)), (b, .inr (3, gs))] sz) [(b, .inr (3, gs)), (a, .inr (0, fs))] t9) 1 6 (va_A [(a, .inr (0, fs)), (b, .inr (3, gs))] sz) := by
  refine mkX (B := fun A => fun st9 t9 => va_F A st9 t9 ∧ bW D A [(b, .inr (3, gs)), (a, .inr (0, fs))] t9) (by decide) (Nat.le_of_ble_eq_true rfl) ?_
  intro A p e s m below meth c ls hsz hno hB
  obtain ⟨hx, hb, hr, hml, hown, hin, hlk, hE, hK, hP, hD, hS, hA, hN, hl⟩ := hB
  have hown : s.vm.findClass "SeriesVault" = some m.cls := hown
  have hin : meth.name = "compact" := hin
  have hl : lv_has ls 4 [(0, .ref a), (1, .int n)] := hl
  obtain ⟨H, hH⟩ : ∃ z, z = s.heap := ⟨_, rfl⟩
  have hP : va_P D vwCl [(a, .inr (0, fs)), (b, .inr (3, gs))] H := by rw [hH]; exact hP
  have hS : va_S A s.heap H [] := by rw [hH]; exact hS
  rw [← hH]
  refine lv_aload_n hx hb d_V_compact_0 rfl (lv_at hl 0 rfl) ?_
  have hPc := hP.sub (ws' := [(a, .inr (0, fs))]) [0] rfl
  have hDc := hD.sub (ws' := [(a, .inr (0, fs))]) [0] (by decide) rfl
  refine jnV (rnV (As := []) (rest := []) hx hb hml hown hE hK (hN _ _ hS) hPc hDc (c_V_checkPower l D dA H.size a fs h_fs_powered hl_fs) (q0 := 0) rfl rfl w278 w276 w279 w280 w277 rfl rfl ⟨⟨by decide, by decide⟩, rfl⟩ ⟨(Nat.le_of_ble_eq_true rfl), (Nat.le_of_ble_eq_true rfl)⟩ rfl hl.1 rfl (Nat.le_of_ble_eq_true rfl) d_V_compact_1 ⟨(Nat.le_of_ble_eq_true rfl), (Nat.le_of_ble_eq_true rfl)⟩) hP hD hS hA [0] [1] (wr := [(b, .inr (3, gs))]) rfl rfl (by decide) (by decide) (fun u9 H locs hp9 hP hD hS => ?_)
  have hP : va_P D vwCl [(b, .inr (3, gs)), (a, .inr (0, fs))] H := hP
  have hD : va_D A [(b, .inr (3, gs)), (a, .inr (0, fs))] := hD
  refine lv_iload_n hx hb d_V_compact_4 rfl (lv_at hl 1 rfl) ?_
  refine lv_if_lt hx hb d_V_compact_5 (tgt := 21) rfl (fun hc => ?_) (fun hc => ?_)
  · exact xNew (E := "java/lang/IndexOutOfBoundsException") (names := ["java/lang/RuntimeException", "java/lang/Exception"]) hx hb htr hown (by decide) (by decide) hE w257 w258 (fun U hU => at_V_IOOBE hU) (hN _ _ hS) (hl.1.trans hml.symm) d_V_compact_21 d_V_compact_24 d_V_compact_25 d_V_compact_28 hno (by decide) (Nat.le_of_ble_eq_true rfl) (Nat.le_of_ble_eq_true rfl) (Nat.le_of_ble_eq_true rfl) hlk (fun t h1 h2 => xEnd hP hD hS [0, 1] rfl rfl (by decide) t h1 h2) hS.2.2 (Nat.le_of_ble_eq_true rfl) (Nat.le_of_ble_eq_true rfl)
  · refine lv_iload_n hx hb d_V_compact_8 rfl (lv_at hl 1 rfl) ?_
    refine lv_aload_n hx hb d_V_compact_9 rfl (lv_at hl 0 rfl) ?_
    refine gF (v := .ref b) hx hb hown hE hK hP 1 rfl rfl layV 11 (by decide) w297 h_fs_now d_V_compact_10 ?_
    refine gFN (v := .int k) hx hb hown hE hK hP 0 rfl rfl layH 1 (by decide) w303 h_gs_parcelCount d_V_compact_13 ?_
    refine lv_iconst (v := 1) hx hb d_V_compact_16 (by decide) ?_
    refine lv_isub hx hb d_V_compact_17 ?_
    refine lv_icmp_lt hx hb d_V_compact_18 (tgt := 29) rfl (fun h9 => absurd h9 (Int32.not_lt.mpr (h0.resolve_left hc))) (fun _ => ?_)
    exact xNew (E := "java/lang/IndexOutOfBoundsException") (names := ["java/lang/RuntimeException", "java/lang/Exception"]) hx hb htr hown (by decide) (by decide) hE w257 w258 (fun U hU => at_V_IOOBE hU) (hN _ _ hS) (hl.1.trans hml.symm) d_V_compact_21 d_V_compact_24 d_V_compact_25 d_V_compact_28 hno (by decide) (Nat.le_of_ble_eq_true rfl) (Nat.le_of_ble_eq_true rfl) (Nat.le_of_ble_eq_true rfl) hlk (fun t h1 h2 => xEnd hP hD hS [0, 1] rfl rfl (by decide) t h1 h2) hS.2.2 (Nat.le_of_ble_eq_true rfl) (Nat.le_of_ble_eq_true rfl)
theorem d_V_parcel_0 : decode prog_1_method_44_code 0 = .ok (.aload_n 0, 1) := by decide +kernel
theorem d_V_parcel_1 : decode prog_1_method_44_code 1 = .ok (.invokevirtual 124, 3) := by decide +kernel
theorem d_V_parcel_4 : decode prog_1_method_44_code 4 = .ok (.iload_n 1, 1) := by decide +kernel
theorem d_V_parcel_5 : decode prog_1_method_44_code 5 = .ok (.ifCond .lt 14, 3) := by decide +kernel
theorem d_V_parcel_19 : decode prog_1_method_44_code 19 = .ok (.new 92, 3) := by decide +kernel
theorem d_V_parcel_22 : decode prog_1_method_44_code 22 = .ok (.dup, 1) := by decide +kernel
theorem d_V_parcel_23 : decode prog_1_method_44_code 23 = .ok (.invokespecial 94, 3) := by decide +kernel
theorem d_V_parcel_26 : decode prog_1_method_44_code 26 = .ok (.athrow, 1) := by decide +kernel
theorem d_V_parcel_8 : decode prog_1_method_44_code 8 = .ok (.iload_n 1, 1) := by decide +kernel
theorem d_V_parcel_9 : decode prog_1_method_44_code 9 = .ok (.aload_n 0, 1) := by decide +kernel
theorem d_V_parcel_10 : decode prog_1_method_44_code 10 = .ok (.getfield 33, 3) := by decide +kernel
theorem d_V_parcel_13 : decode prog_1_method_44_code 13 = .ok (.getfield 305, 3) := by decide +kernel
theorem d_V_parcel_16 : decode prog_1_method_44_code 16 = .ok (.if_icmp .lt 11, 3) := by decide +kernel
set_option maxHeartbeats 4000000 in
set_option maxRecDepth 100000 in
theorem c_V_parcel_x (l : Launch) (htr : l.stackTraces = false) (D : va_G) (dA : Nat → ClassId) (sz : Nat) (a : Nat) (fs : List Value) (b : Nat) (gs : List Value) (k : Int32) (n : Int32) (i : Int32) (h0 : n < 0 ∨ k ≤ n) (h_fs_powered : fs[5]? = some (.int 1)) (h_fs_now : fs[11]? = some (.ref b)) (hl_fs : fs.length = 18) (h_gs_parcelCount : gs[1]? = some (.int k)) (hl_gs : gs.length = 11) : mX l ⟨"SeriesVault", "parcel", "(II)I"⟩ [Cond.code ⟨"SeriesVault", "parcel", "(II)I"⟩ prog_1_method_44_code 4 (some FieldType.int)] { frames := 6, cells := 1, slots := 6, locals := 81 } (pC D dA [.ref a, .int n, .int i] [(a, .inr (0, fs)), (b, .inr (3, gs))] sz) "java/lang/IndexOutOfBoundsException" (fun st9 t9 => va_F (va_A [(a, .inr (0, fs)), (b, .inr (3, gs))] sz) st9 t9 ∧ bW D (va_A [(a, .inr (0, fs)), (b, .inr (3, gs))] sz) [(b, .inr (3, gs)), (a, .inr (0, fs))] t9) 1 6 (va_A [(a, .inr (0, fs)), (b, .inr (3, gs))] sz) := by
  refine mkX (B := fun A => fun st9 t9 => va_F A st9 t9 ∧ bW D A [(b, .inr (3, gs)), (a, .inr (0, fs))] t9) (by decide) (Nat.le_of_ble_eq_true rfl) ?_
  intro A p e s m below meth c ls hsz hno hB
  obtain ⟨hx, hb, hr, hml, hown, hin, hlk, hE, hK, hP, hD, hS, hA, hN, hl⟩ := hB
  have hown : s.vm.findClass "SeriesVault" = some m.cls := hown
  have hin : meth.name = "parcel" := hin
  have hl : lv_has ls 4 [(0, .ref a), (1, .int n), (2, .int i)] := hl
  obtain ⟨H, hH⟩ : ∃ z, z = s.heap := ⟨_, rfl⟩
  have hP : va_P D vwCl [(a, .inr (0, fs)), (b, .inr (3, gs))] H := by rw [hH]; exact hP
  have hS : va_S A s.heap H [] := by rw [hH]; exact hS
  rw [← hH]
  refine lv_aload_n hx hb d_V_parcel_0 rfl (lv_at hl 0 rfl) ?_
  have hPc := hP.sub (ws' := [(a, .inr (0, fs))]) [0] rfl
  have hDc := hD.sub (ws' := [(a, .inr (0, fs))]) [0] (by decide) rfl
  refine jnV (rnV (As := []) (rest := []) hx hb hml hown hE hK (hN _ _ hS) hPc hDc (c_V_checkPower l D dA H.size a fs h_fs_powered hl_fs) (q0 := 0) rfl rfl w278 w276 w279 w280 w277 rfl rfl ⟨⟨by decide, by decide⟩, rfl⟩ ⟨(Nat.le_of_ble_eq_true rfl), (Nat.le_of_ble_eq_true rfl)⟩ rfl hl.1 rfl (Nat.le_of_ble_eq_true rfl) d_V_parcel_1 ⟨(Nat.le_of_ble_eq_true rfl), (Nat.le_of_ble_eq_true rfl)⟩) hP hD hS hA [0] [1] (wr := [(b, .inr (3, gs))]) rfl rfl (by decide) (by decide) (fun u9 H locs hp9 hP hD hS => ?_)
  have hP : va_P D vwCl [(b, .inr (3, gs)), (a, .inr (0, fs))] H := hP
  have hD : va_D A [(b, .inr (3, gs)), (a, .inr (0, fs))] := hD
  refine lv_iload_n hx hb d_V_parcel_4 rfl (lv_at hl 1 rfl) ?_
  refine lv_if_lt hx hb d_V_parcel_5 (tgt := 19) rfl (fun hc => ?_) (fun hc => ?_)
  · exact xNew (E := "java/lang/IndexOutOfBoundsException") (names := ["java/lang/RuntimeException", "java/lang/Exception"]) hx hb htr hown (by decide) (by decide) hE w257 w258 (fun U hU => at_V_IOOBE hU) (hN _ _ hS) (hl.1.trans hml.symm) d_V_parcel_19 d_V_parcel_22 d_V_parcel_23 d_V_parcel_26 hno (by decide) (Nat.le_of_ble_eq_true rfl) (Nat.le_of_ble_eq_true rfl) (Nat.le_of_ble_eq_true rfl) hlk (fun t h1 h2 => xEnd hP hD hS [0, 1] rfl rfl (by decide) t h1 h2) hS.2.2 (Nat.le_of_ble_eq_true rfl) (Nat.le_of_ble_eq_true rfl)
  · refine lv_iload_n hx hb d_V_parcel_8 rfl (lv_at hl 1 rfl) ?_
    refine lv_aload_n hx hb d_V_parcel_9 rfl (lv_at hl 0 rfl) ?_
    refine gF (v := .ref b) hx hb hown hE hK hP 1 rfl rfl layV 11 (by decide) w297 h_fs_now d_V_parcel_10 ?_
    refine gFN (v := .int k) hx hb hown hE hK hP 0 rfl rfl layH 1 (by decide) w303 h_gs_parcelCount d_V_parcel_13 ?_
    refine lv_icmp_lt hx hb d_V_parcel_16 (tgt := 27) rfl (fun h9 => absurd h9 (Int32.not_lt.mpr (h0.resolve_left hc))) (fun _ => ?_)
    exact xNew (E := "java/lang/IndexOutOfBoundsException") (names := ["java/lang/RuntimeException", "java/lang/Exception"]) hx hb htr hown (by decide) (by decide) hE w257 w258 (fun U hU => at_V_IOOBE hU) (hN _ _ hS) (hl.1.trans hml.symm) d_V_parcel_19 d_V_parcel_22 d_V_parcel_23 d_V_parcel_26 hno (by decide) (Nat.le_of_ble_eq_true rfl) (Nat.le_of_ble_eq_true rfl) (Nat.le_of_ble_eq_true rfl) hlk (fun t h1 h2 => xEnd hP hD hS [0, 1] rfl rfl (by decide) t h1 h2) hS.2.2 (Nat.le_of_ble_eq_true rfl) (Nat.le_of_ble_eq_true rfl)
theorem d_V_checkRow_0 : decode prog_1_method_50_code 0 = .ok (.aload_n 0, 1) := by decide +kernel
theorem d_V_checkRow_1 : decode prog_1_method_50_code 1 = .ok (.getfield 114, 3) := by decide +kernel
theorem d_V_checkRow_4 : decode prog_1_method_50_code 4 = .ok (.ifCond .eq 21, 3) := by decide +kernel
theorem d_V_checkRow_25 : decode prog_1_method_50_code 25 = .ok (.new 92, 3) := by decide +kernel
theorem d_V_checkRow_28 : decode prog_1_method_50_code 28 = .ok (.dup, 1) := by decide +kernel
theorem d_V_checkRow_29 : decode prog_1_method_50_code 29 = .ok (.invokespecial 94, 3) := by decide +kernel
theorem d_V_checkRow_32 : decode prog_1_method_50_code 32 = .ok (.athrow, 1) := by decide +kernel
set_option maxHeartbeats 4000000 in
set_option maxRecDepth 100000 in
theorem c_V_checkRow_x (l : Launch) (htr : l.stackTraces = false) (D : va_G) (dA : Nat → ClassId) (sz : Nat) (a : Nat) (fs : List Value) (n : Int32) (h_fs_hasTable : fs[17]? = some (.int 0)) (hl_fs : fs.length = 18) : mX l ⟨"SeriesVault", "checkRow", "(I)V"⟩ [Cond.code ⟨"SeriesVault", "checkRow", "(I)V"⟩ prog_1_method_50_code 2 none] { frames := 6, cells := 1, slots := 6, locals := 81 } (pC D dA [.ref a, .int n] [(a, .inr (0, fs))] sz) "java/lang/IndexOutOfBoundsException" (fun st9 t9 => va_F (va_A [(a, .inr (0, fs))] sz) st9 t9 ∧ bW D (va_A [(a, .inr (0, fs))] sz) [(a, .inr (0, fs))] t9) 1 6 (va_A [(a, .inr (0, fs))] sz) := by
  refine mkX (B := fun A => fun st9 t9 => va_F A st9 t9 ∧ bW D A [(a, .inr (0, fs))] t9) (by decide) (Nat.le_of_ble_eq_true rfl) ?_
  intro A p e s m below meth c ls hsz hno hB
  obtain ⟨hx, hb, hr, hml, hown, hin, hlk, hE, hK, hP, hD, hS, hA, hN, hl⟩ := hB
  have hown : s.vm.findClass "SeriesVault" = some m.cls := hown
  have hin : meth.name = "checkRow" := hin
  have hl : lv_has ls 2 [(0, .ref a), (1, .int n)] := hl
  obtain ⟨H, hH⟩ : ∃ z, z = s.heap := ⟨_, rfl⟩
  have hP : va_P D vwCl [(a, .inr (0, fs))] H := by rw [hH]; exact hP
  have hS : va_S A s.heap H [] := by rw [hH]; exact hS
  rw [← hH]
  refine lv_aload_n hx hb d_V_checkRow_0 rfl (lv_at hl 0 rfl) ?_
  refine gF (v := .int 0) hx hb hown hE hK hP 0 rfl rfl layV 17 (by decide) w210 h_fs_hasTable d_V_checkRow_1 ?_
  refine lv_if_eq hx hb d_V_checkRow_4 (tgt := 25) rfl (fun _ => ?_) (fun h9 => absurd (by decide) h9)
  exact xNew (E := "java/lang/IndexOutOfBoundsException") (names := ["java/lang/RuntimeException", "java/lang/Exception"]) hx hb htr hown (by decide) (by decide) hE w257 w258 (fun U hU => at_V_IOOBE hU) (hN _ _ hS) (hl.1.trans hml.symm) d_V_checkRow_25 d_V_checkRow_28 d_V_checkRow_29 d_V_checkRow_32 hno (by decide) (Nat.le_of_ble_eq_true rfl) (Nat.le_of_ble_eq_true rfl) (Nat.le_of_ble_eq_true rfl) hlk (fun t h1 h2 => xEnd hP hD hS [0] rfl rfl (by decide) t h1 h2) hS.2.2 (Nat.le_of_ble_eq_true rfl) (Nat.le_of_ble_eq_true rfl)
theorem d_V_text_0 : decode prog_1_method_47_code 0 = .ok (.aload_n 0, 1) := by decide +kernel
theorem d_V_text_1 : decode prog_1_method_47_code 1 = .ok (.iload_n 1, 1) := by decide +kernel
theorem d_V_text_2 : decode prog_1_method_47_code 2 = .ok (.invokevirtual 398, 3) := by decide +kernel
theorem w304 : Cond.methodLink "SeriesVault" 398 ⟨"SeriesVault", "checkRow", "(I)V"⟩ ∈ aW := aw_of (tb_8 (List.mem_of_getElem? (i := 78) rfl)) rfl
theorem w305 : Cond.code ⟨"SeriesVault", "checkRow", "(I)V"⟩ prog_1_method_50_code 2 none ∈ aW := aw_of (tb_8 (List.mem_of_getElem? (i := 81) rfl)) rfl
theorem w306 : Cond.instanceMethod ⟨"SeriesVault", "checkRow", "(I)V"⟩ ∈ aW := aw_of (tb_8 (List.mem_of_getElem? (i := 80) rfl)) rfl
theorem w307 : Cond.selects "SeriesVault" ⟨"SeriesVault", "checkRow", "(I)V"⟩ ⟨"SeriesVault", "checkRow", "(I)V"⟩ ∈ aW := aw_pr (List.mem_map.mpr ⟨_, pv_5 (List.mem_of_getElem? (i := 0) rfl), rfl⟩) rfl
set_option maxHeartbeats 4000000 in
set_option maxRecDepth 100000 in
theorem c_V_text_x (l : Launch) (htr : l.stackTraces = false) (D : va_G) (dA : Nat → ClassId) (sz : Nat) (a : Nat) (fs : List Value) (n : Int32) (i : Int32) (j : Int32) (h_fs_hasTable : fs[17]? = some (.int 0)) (hl_fs : fs.length = 18) : mX l ⟨"SeriesVault", "text", "(III)I"⟩ [Cond.code ⟨"SeriesVault", "text", "(III)I"⟩ prog_1_method_47_code 5 (some FieldType.int)] { frames := 7, cells := 1, slots := 6, locals := 102 } (pC D dA [.ref a, .int n, .int i, .int j] [(a, .inr (0, fs))] sz) "java/lang/IndexOutOfBoundsException" (fun st9 t9 => va_F (va_A [(a, .inr (0, fs))] sz) st9 t9 ∧ bW D (va_A [(a, .inr (0, fs))] sz) [(a, .inr (0, fs))] t9) 1 6 (va_A [(a, .inr (0, fs))] sz) := by
  refine mkX (B := fun A => fun st9 t9 => va_F A st9 t9 ∧ bW D A [(a, .inr (0, fs))] t9) (by decide) (Nat.le_of_ble_eq_true rfl) ?_
  intro A p e s m below meth c ls hsz hno hB
  obtain ⟨hx, hb, hr, hml, hown, hin, hlk, hE, hK, hP, hD, hS, hA, hN, hl⟩ := hB
  have hown : s.vm.findClass "SeriesVault" = some m.cls := hown
  have hin : meth.name = "text" := hin
  have hl : lv_has ls 5 [(0, .ref a), (1, .int n), (2, .int i), (3, .int j)] := hl
  obtain ⟨H, hH⟩ : ∃ z, z = s.heap := ⟨_, rfl⟩
  have hP : va_P D vwCl [(a, .inr (0, fs))] H := by rw [hH]; exact hP
  have hS : va_S A s.heap H [] := by rw [hH]; exact hS
  rw [← hH]
  refine lv_aload_n hx hb d_V_text_0 rfl (lv_at hl 0 rfl) ?_
  refine lv_iload_n hx hb d_V_text_1 rfl (lv_at hl 1 rfl) ?_
  have hPc := hP.sub (ws' := [(a, .inr (0, fs))]) [0] rfl
  have hDc := hD.sub (ws' := [(a, .inr (0, fs))]) [0] (by decide) rfl
  refine xnV (As := [.int n]) (rest := []) hx hb hml hown hE hK (hN _ _ hS) hPc hDc (c_V_checkRow_x l htr D dA H.size a fs n h_fs_hasTable hl_fs) (q0 := 0) rfl rfl w305 w304 w306 w307 w277 rfl rfl ⟨⟨by decide, by decide⟩, rfl⟩ ⟨(Nat.le_of_ble_eq_true rfl), (Nat.le_of_ble_eq_true rfl)⟩ rfl hl.1 rfl (Nat.le_of_ble_eq_true rfl) d_V_text_2 ⟨(Nat.le_of_ble_eq_true rfl), (Nat.le_of_ble_eq_true rfl)⟩ hP hD hS hA [0] [] (wr := []) rfl rfl (by decide) (by decide) (fun x1 ce H locs hP hD hS hce hcv hcl => ?_)
  have hP : va_P D vwCl [(a, .inr (0, fs))] H := hP
  have hD : va_D A [(a, .inr (0, fs))] := hD
  exact xOut hno hlk hce hcv hcl (fun t ht => xEnd hP hD hS [0] rfl rfl (by decide) t (by rw [ht]; exact Nat.le_refl _) (fun q _ => by rw [ht])) hS.2.2 (Nat.le_of_ble_eq_true rfl) (Nat.le_of_ble_eq_true rfl)
theorem d_V_checkCell_0 : decode prog_1_method_51_code 0 = .ok (.aload_n 0, 1) := by decide +kernel
theorem d_V_checkCell_1 : decode prog_1_method_51_code 1 = .ok (.iload_n 1, 1) := by decide +kernel
theorem d_V_checkCell_2 : decode prog_1_method_51_code 2 = .ok (.invokevirtual 398, 3) := by decide +kernel
set_option maxHeartbeats 4000000 in
set_option maxRecDepth 100000 in
theorem c_V_checkCell_x (l : Launch) (htr : l.stackTraces = false) (D : va_G) (dA : Nat → ClassId) (sz : Nat) (a : Nat) (fs : List Value) (n : Int32) (i : Int32) (h_fs_hasTable : fs[17]? = some (.int 0)) (hl_fs : fs.length = 18) : mX l ⟨"SeriesVault", "checkCell", "(II)V"⟩ [Cond.code ⟨"SeriesVault", "checkCell", "(II)V"⟩ prog_1_method_51_code 3 none] { frames := 7, cells := 1, slots := 6, locals := 102 } (pC D dA [.ref a, .int n, .int i] [(a, .inr (0, fs))] sz) "java/lang/IndexOutOfBoundsException" (fun st9 t9 => va_F (va_A [(a, .inr (0, fs))] sz) st9 t9 ∧ bW D (va_A [(a, .inr (0, fs))] sz) [(a, .inr (0, fs))] t9) 1 6 (va_A [(a, .inr (0, fs))] sz) := by
  refine mkX (B := fun A => fun st9 t9 => va_F A st9 t9 ∧ bW D A [(a, .inr (0, fs))] t9) (by decide) (Nat.le_of_ble_eq_true rfl) ?_
  intro A p e s m below meth c ls hsz hno hB
  obtain ⟨hx, hb, hr, hml, hown, hin, hlk, hE, hK, hP, hD, hS, hA, hN, hl⟩ := hB
  have hown : s.vm.findClass "SeriesVault" = some m.cls := hown
  have hin : meth.name = "checkCell" := hin
  have hl : lv_has ls 3 [(0, .ref a), (1, .int n), (2, .int i)] := hl
  obtain ⟨H, hH⟩ : ∃ z, z = s.heap := ⟨_, rfl⟩
  have hP : va_P D vwCl [(a, .inr (0, fs))] H := by rw [hH]; exact hP
  have hS : va_S A s.heap H [] := by rw [hH]; exact hS
  rw [← hH]
  refine lv_aload_n hx hb d_V_checkCell_0 rfl (lv_at hl 0 rfl) ?_
  refine lv_iload_n hx hb d_V_checkCell_1 rfl (lv_at hl 1 rfl) ?_
  have hPc := hP.sub (ws' := [(a, .inr (0, fs))]) [0] rfl
  have hDc := hD.sub (ws' := [(a, .inr (0, fs))]) [0] (by decide) rfl
  refine xnV (As := [.int n]) (rest := []) hx hb hml hown hE hK (hN _ _ hS) hPc hDc (c_V_checkRow_x l htr D dA H.size a fs n h_fs_hasTable hl_fs) (q0 := 0) rfl rfl w305 w304 w306 w307 w277 rfl rfl ⟨⟨by decide, by decide⟩, rfl⟩ ⟨(Nat.le_of_ble_eq_true rfl), (Nat.le_of_ble_eq_true rfl)⟩ rfl hl.1 rfl (Nat.le_of_ble_eq_true rfl) d_V_checkCell_2 ⟨(Nat.le_of_ble_eq_true rfl), (Nat.le_of_ble_eq_true rfl)⟩ hP hD hS hA [0] [] (wr := []) rfl rfl (by decide) (by decide) (fun x1 ce H locs hP hD hS hce hcv hcl => ?_)
  have hP : va_P D vwCl [(a, .inr (0, fs))] H := hP
  have hD : va_D A [(a, .inr (0, fs))] := hD
  exact xOut hno hlk hce hcv hcl (fun t ht => xEnd hP hD hS [0] rfl rfl (by decide) t (by rw [ht]; exact Nat.le_refl _) (fun q _ => by rw [ht])) hS.2.2 (Nat.le_of_ble_eq_true rfl) (Nat.le_of_ble_eq_true rfl)
theorem d_V_isThere_0 : decode prog_1_method_48_code 0 = .ok (.aload_n 0, 1) := by decide +kernel
theorem d_V_isThere_1 : decode prog_1_method_48_code 1 = .ok (.iload_n 1, 1) := by decide +kernel
theorem d_V_isThere_2 : decode prog_1_method_48_code 2 = .ok (.iload_n 2, 1) := by decide +kernel
theorem d_V_isThere_3 : decode prog_1_method_48_code 3 = .ok (.invokevirtual 405, 3) := by decide +kernel
theorem w308 : Cond.methodLink "SeriesVault" 405 ⟨"SeriesVault", "checkCell", "(II)V"⟩ ∈ aW := aw_of (tb_8 (List.mem_of_getElem? (i := 93) rfl)) rfl
theorem w309 : Cond.code ⟨"SeriesVault", "checkCell", "(II)V"⟩ prog_1_method_51_code 3 none ∈ aW := aw_of (tb_8 (List.mem_of_getElem? (i := 96) rfl)) rfl
theorem w310 : Cond.instanceMethod ⟨"SeriesVault", "checkCell", "(II)V"⟩ ∈ aW := aw_of (tb_8 (List.mem_of_getElem? (i := 95) rfl)) rfl
theorem w311 : Cond.selects "SeriesVault" ⟨"SeriesVault", "checkCell", "(II)V"⟩ ⟨"SeriesVault", "checkCell", "(II)V"⟩ ∈ aW := aw_pr (List.mem_map.mpr ⟨_, pv_5 (List.mem_of_getElem? (i := 1) rfl), rfl⟩) rfl
set_option maxHeartbeats 4000000 in
set_option maxRecDepth 100000 in
theorem c_V_isThere_x (l : Launch) (htr : l.stackTraces = false) (D : va_G) (dA : Nat → ClassId) (sz : Nat) (a : Nat) (fs : List Value) (n : Int32) (i : Int32) (h_fs_hasTable : fs[17]? = some (.int 0)) (hl_fs : fs.length = 18) : mX l ⟨"SeriesVault", "isThere", "(II)Z"⟩ [Cond.code ⟨"SeriesVault", "isThere", "(II)Z"⟩ prog_1_method_48_code 3 (some FieldType.boolean)] { frames := 8, cells := 1, slots := 6, locals := 124 } (pC D dA [.ref a, .int n, .int i] [(a, .inr (0, fs))] sz) "java/lang/IndexOutOfBoundsException" (fun st9 t9 => va_F (va_A [(a, .inr (0, fs))] sz) st9 t9 ∧ bW D (va_A [(a, .inr (0, fs))] sz) [(a, .inr (0, fs))] t9) 1 6 (va_A [(a, .inr (0, fs))] sz) := by
  refine mkX (B := fun A => fun st9 t9 => va_F A st9 t9 ∧ bW D A [(a, .inr (0, fs))] t9) (by decide) (Nat.le_of_ble_eq_true rfl) ?_
  intro A p e s m below meth c ls hsz hno hB
  obtain ⟨hx, hb, hr, hml, hown, hin, hlk, hE, hK, hP, hD, hS, hA, hN, hl⟩ := hB
  have hown : s.vm.findClass "SeriesVault" = some m.cls := hown
  have hin : meth.name = "isThere" := hin
  have hl : lv_has ls 3 [(0, .ref a), (1, .int n), (2, .int i)] := hl
  obtain ⟨H, hH⟩ : ∃ z, z = s.heap := ⟨_, rfl⟩
  have hP : va_P D vwCl [(a, .inr (0, fs))] H := by rw [hH]; exact hP
  have hS : va_S A s.heap H [] := by rw [hH]; exact hS
  rw [← hH]
  refine lv_aload_n hx hb d_V_isThere_0 rfl (lv_at hl 0 rfl) ?_
  refine lv_iload_n hx hb d_V_isThere_1 rfl (lv_at hl 1 rfl) ?_
  refine lv_iload_n hx hb d_V_isThere_2 rfl (lv_at hl 2 rfl) ?_
  have hPc := hP.sub (ws' := [(a, .inr (0, fs))]) [0] rfl
  have hDc := hD.sub (ws' := [(a, .inr (0, fs))]) [0] (by decide) rfl
  refine xnV (As := [.int n, .int i]) (rest := []) hx hb hml hown hE hK (hN _ _ hS) hPc hDc (c_V_checkCell_x l htr D dA H.size a fs n i h_fs_hasTable hl_fs) (q0 := 0) rfl rfl w309 w308 w310 w311 w277 rfl rfl ⟨⟨by decide, by decide⟩, rfl⟩ ⟨(Nat.le_of_ble_eq_true rfl), (Nat.le_of_ble_eq_true rfl)⟩ rfl hl.1 rfl (Nat.le_of_ble_eq_true rfl) d_V_isThere_3 ⟨(Nat.le_of_ble_eq_true rfl), (Nat.le_of_ble_eq_true rfl)⟩ hP hD hS hA [0] [] (wr := []) rfl rfl (by decide) (by decide) (fun x1 ce H locs hP hD hS hce hcv hcl => ?_)
  have hP : va_P D vwCl [(a, .inr (0, fs))] H := hP
  have hD : va_D A [(a, .inr (0, fs))] := hD
  exact xOut hno hlk hce hcv hcl (fun t ht => xEnd hP hD hS [0] rfl rfl (by decide) t (by rw [ht]; exact Nat.le_refl _) (fun q _ => by rw [ht])) hS.2.2 (Nat.le_of_ble_eq_true rfl) (Nat.le_of_ble_eq_true rfl)
theorem d_V_cell_0 : decode prog_1_method_49_code 0 = .ok (.aload_n 0, 1) := by decide +kernel
theorem d_V_cell_1 : decode prog_1_method_49_code 1 = .ok (.iload_n 1, 1) := by decide +kernel
theorem d_V_cell_2 : decode prog_1_method_49_code 2 = .ok (.iload_n 2, 1) := by decide +kernel
theorem d_V_cell_3 : decode prog_1_method_49_code 3 = .ok (.invokevirtual 405, 3) := by decide +kernel
set_option maxHeartbeats 4000000 in
set_option maxRecDepth 100000 in
theorem c_V_cell_x (l : Launch) (htr : l.stackTraces = false) (D : va_G) (dA : Nat → ClassId) (sz : Nat) (a : Nat) (fs : List Value) (n : Int32) (i : Int32) (h_fs_hasTable : fs[17]? = some (.int 0)) (hl_fs : fs.length = 18) : mX l ⟨"SeriesVault", "cell", "(II)J"⟩ [Cond.code ⟨"SeriesVault", "cell", "(II)J"⟩ prog_1_method_49_code 4 (some FieldType.long)] { frames := 8, cells := 1, slots := 6, locals := 124 } (pC D dA [.ref a, .int n, .int i] [(a, .inr (0, fs))] sz) "java/lang/IndexOutOfBoundsException" (fun st9 t9 => va_F (va_A [(a, .inr (0, fs))] sz) st9 t9 ∧ bW D (va_A [(a, .inr (0, fs))] sz) [(a, .inr (0, fs))] t9) 1 6 (va_A [(a, .inr (0, fs))] sz) := by
  refine mkX (B := fun A => fun st9 t9 => va_F A st9 t9 ∧ bW D A [(a, .inr (0, fs))] t9) (by decide) (Nat.le_of_ble_eq_true rfl) ?_
  intro A p e s m below meth c ls hsz hno hB
  obtain ⟨hx, hb, hr, hml, hown, hin, hlk, hE, hK, hP, hD, hS, hA, hN, hl⟩ := hB
  have hown : s.vm.findClass "SeriesVault" = some m.cls := hown
  have hin : meth.name = "cell" := hin
  have hl : lv_has ls 4 [(0, .ref a), (1, .int n), (2, .int i)] := hl
  obtain ⟨H, hH⟩ : ∃ z, z = s.heap := ⟨_, rfl⟩
  have hP : va_P D vwCl [(a, .inr (0, fs))] H := by rw [hH]; exact hP
  have hS : va_S A s.heap H [] := by rw [hH]; exact hS
  rw [← hH]
  refine lv_aload_n hx hb d_V_cell_0 rfl (lv_at hl 0 rfl) ?_
  refine lv_iload_n hx hb d_V_cell_1 rfl (lv_at hl 1 rfl) ?_
  refine lv_iload_n hx hb d_V_cell_2 rfl (lv_at hl 2 rfl) ?_
  have hPc := hP.sub (ws' := [(a, .inr (0, fs))]) [0] rfl
  have hDc := hD.sub (ws' := [(a, .inr (0, fs))]) [0] (by decide) rfl
  refine xnV (As := [.int n, .int i]) (rest := []) hx hb hml hown hE hK (hN _ _ hS) hPc hDc (c_V_checkCell_x l htr D dA H.size a fs n i h_fs_hasTable hl_fs) (q0 := 0) rfl rfl w309 w308 w310 w311 w277 rfl rfl ⟨⟨by decide, by decide⟩, rfl⟩ ⟨(Nat.le_of_ble_eq_true rfl), (Nat.le_of_ble_eq_true rfl)⟩ rfl hl.1 rfl (Nat.le_of_ble_eq_true rfl) d_V_cell_3 ⟨(Nat.le_of_ble_eq_true rfl), (Nat.le_of_ble_eq_true rfl)⟩ hP hD hS hA [0] [] (wr := []) rfl rfl (by decide) (by decide) (fun x1 ce H locs hP hD hS hce hcv hcl => ?_)
  have hP : va_P D vwCl [(a, .inr (0, fs))] H := hP
  have hD : va_D A [(a, .inr (0, fs))] := hD
  exact xOut hno hlk hce hcv hcl (fun t ht => xEnd hP hD hS [0] rfl rfl (by decide) t (by rw [ht]; exact Nat.le_refl _) (fun q _ => by rw [ht])) hS.2.2 (Nat.le_of_ble_eq_true rfl) (Nat.le_of_ble_eq_true rfl)
theorem d_V_writeJournalBlock_0 : decode prog_1_method_21_code 0 = .ok (.aload_n 0, 1) := by decide +kernel
theorem d_V_writeJournalBlock_1 : decode prog_1_method_21_code 1 = .ok (.getfield 16, 3) := by decide +kernel
theorem d_V_writeJournalBlock_4 : decode prog_1_method_21_code 4 = .ok (.getfield 198, 3) := by decide +kernel
theorem d_V_writeJournalBlock_7 : decode prog_1_method_21_code 7 = .ok (.ifCond .ne 5, 3) := by decide +kernel
theorem d_V_writeJournalBlock_10 : decode prog_1_method_21_code 10 = .ok (.iconst 0, 1) := by decide +kernel
theorem d_V_writeJournalBlock_11 : decode prog_1_method_21_code 11 = .ok (.ireturn, 1) := by decide +kernel
theorem w312 : Cond.fieldLink "SeriesVault" 16 "SeriesVault" "journal" "LSeriesVault$Journal;" ∈ aW := aw_of (tb_2 (List.mem_of_getElem? (i := 213) rfl)) rfl
theorem w313 : Cond.fieldLinkNest "SeriesVault" 198 "SeriesVault$Journal" "changed" "Z" "SeriesVault" ∈ aW := aw_of (tb_1 (List.mem_of_getElem? (i := 73) rfl)) rfl
set_option maxHeartbeats 4000000 in
set_option maxRecDepth 100000 in
theorem c_V_writeJournalBlock_0 (l : Launch) (D : va_G) (dA : Nat → ClassId) (sz : Nat) (a : Nat) (fs : List Value) (b : Nat) (gs : List Value) (h_fs_journal : fs[8]? = some (.ref b)) (hl_fs : fs.length = 18) (h_gs_changed : gs[12]? = some (.int 0)) (hl_gs : gs.length = 13) : Met l ⟨"SeriesVault", "writeJournalBlock", "()Z"⟩ [Cond.code ⟨"SeriesVault", "writeJournalBlock", "()Z"⟩ prog_1_method_21_code 1 (some FieldType.boolean)] { frames := 1, cells := 0, slots := 0, locals := 0 } (pC D dA [.ref a] [(a, .inr (0, fs)), (b, .inr (1, gs))] sz) (va_Qi (fun (r : Int32) (_ : Unit) => r = 0) (fun (u9 : Unit) t9 => bW D (va_A [(a, .inr (0, fs)), (b, .inr (1, gs))] sz) [(a, .inr (0, fs)), (b, .inr (1, gs))] t9) (va_A [(a, .inr (0, fs)), (b, .inr (1, gs))] sz)) 0 0 (va_A [(a, .inr (0, fs)), (b, .inr (1, gs))] sz) := by
  refine mkC (Qc := fun A => va_Qi (fun (r : Int32) (_ : Unit) => r = 0) (fun (u9 : Unit) t9 => bW D A [(a, .inr (0, fs)), (b, .inr (1, gs))] t9) A) (by decide) (Nat.le_of_ble_eq_true rfl) ?_
  intro A p e s m below meth c ls hsz hB
  obtain ⟨hx, hb, hr, hml, hown, hin, hlk, hE, hK, hP, hD, hS, hA, hN, hl⟩ := hB
  have hown : s.vm.findClass "SeriesVault" = some m.cls := hown
  have hin : meth.name = "writeJournalBlock" := hin
  have hl : lv_has ls 1 [(0, .ref a)] := hl
  obtain ⟨H, hH⟩ : ∃ z, z = s.heap := ⟨_, rfl⟩
  have hP : va_P D vwCl [(a, .inr (0, fs)), (b, .inr (1, gs))] H := by rw [hH]; exact hP
  have hS : va_S A s.heap H [] := by rw [hH]; exact hS
  rw [← hH]
  refine lv_aload_n hx hb d_V_writeJournalBlock_0 rfl (lv_at hl 0 rfl) ?_
  refine gF (v := .ref b) hx hb hown hE hK hP 0 rfl rfl layV 8 (by decide) w312 h_fs_journal d_V_writeJournalBlock_1 ?_
  refine gFN (v := .int 0) hx hb hown hE hK hP 1 rfl rfl layJ 12 (by decide) w313 h_gs_changed d_V_writeJournalBlock_4 ?_
  refine lv_if_ne hx hb d_V_writeJournalBlock_7 (tgt := 12) rfl (fun h9 => absurd (by decide) h9) (fun _ => ?_)
  refine lv_iconst (v := 0) hx hb d_V_writeJournalBlock_10 (by decide) ?_
  exact rtZ hx hb hr (by decide) hlk hP hD hS () rfl [0, 1] rfl rfl (by decide) (Nat.le_of_ble_eq_true rfl) (Nat.le_of_ble_eq_true rfl) d_V_writeJournalBlock_11
theorem d_V_sync_0 : decode prog_1_method_22_code 0 = .ok (.aload_n 0, 1) := by decide +kernel
theorem d_V_sync_1 : decode prog_1_method_22_code 1 = .ok (.invokevirtual 124, 3) := by decide +kernel
theorem d_V_sync_4 : decode prog_1_method_22_code 4 = .ok (.aload_n 0, 1) := by decide +kernel
theorem d_V_sync_5 : decode prog_1_method_22_code 5 = .ok (.invokevirtual 187, 3) := by decide +kernel
theorem d_V_sync_8 : decode prog_1_method_22_code 8 = .ok (.ireturn, 1) := by decide +kernel
theorem w314 : Cond.methodLink "SeriesVault" 187 ⟨"SeriesVault", "writeJournalBlock", "()Z"⟩ ∈ aW := aw_of (tb_5 (List.mem_of_getElem? (i := 47) rfl)) rfl
theorem w315 : Cond.code ⟨"SeriesVault", "writeJournalBlock", "()Z"⟩ prog_1_method_21_code 1 (some FieldType.boolean) ∈ aW := aw_of (tb_5 (List.mem_of_getElem? (i := 50) rfl)) rfl
theorem w316 : Cond.instanceMethod ⟨"SeriesVault", "writeJournalBlock", "()Z"⟩ ∈ aW := aw_of (tb_5 (List.mem_of_getElem? (i := 49) rfl)) rfl
theorem w317 : Cond.selects "SeriesVault" ⟨"SeriesVault", "writeJournalBlock", "()Z"⟩ ⟨"SeriesVault", "writeJournalBlock", "()Z"⟩ ∈ aW := aw_pr (List.mem_map.mpr ⟨_, pv_1 (List.mem_of_getElem? (i := 14) rfl), rfl⟩) rfl
set_option maxHeartbeats 4000000 in
set_option maxRecDepth 100000 in
theorem c_V_sync_0 (l : Launch) (D : va_G) (dA : Nat → ClassId) (sz : Nat) (a : Nat) (fs : List Value) (b : Nat) (gs : List Value) (h_fs_powered : fs[5]? = some (.int 1)) (h_fs_journal : fs[8]? = some (.ref b)) (hl_fs : fs.length = 18) (h_gs_changed : gs[12]? = some (.int 0)) (hl_gs : gs.length = 13) : Met l ⟨"SeriesVault", "sync", "()Z"⟩ [Cond.code ⟨"SeriesVault", "sync", "()Z"⟩ prog_1_method_22_code 1 (some FieldType.boolean)] { frames := 2, cells := 0, slots := 0, locals := 20 } (pC D dA [.ref a] [(a, .inr (0, fs)), (b, .inr (1, gs))] sz) (va_Qi (fun (r : Int32) (_ : Unit) => r = 0) (fun (u9 : Unit) t9 => bW D (va_A [(a, .inr (0, fs)), (b, .inr (1, gs))] sz) [(a, .inr (0, fs)), (b, .inr (1, gs))] t9) (va_A [(a, .inr (0, fs)), (b, .inr (1, gs))] sz)) 0 0 (va_A [(a, .inr (0, fs)), (b, .inr (1, gs))] sz) := by
  refine mkC (Qc := fun A => va_Qi (fun (r : Int32) (_ : Unit) => r = 0) (fun (u9 : Unit) t9 => bW D A [(a, .inr (0, fs)), (b, .inr (1, gs))] t9) A) (by decide) (Nat.le_of_ble_eq_true rfl) ?_
  intro A p e s m below meth c ls hsz hB
  obtain ⟨hx, hb, hr, hml, hown, hin, hlk, hE, hK, hP, hD, hS, hA, hN, hl⟩ := hB
  have hown : s.vm.findClass "SeriesVault" = some m.cls := hown
  have hin : meth.name = "sync" := hin
  have hl : lv_has ls 1 [(0, .ref a)] := hl
  obtain ⟨H, hH⟩ : ∃ z, z = s.heap := ⟨_, rfl⟩
  have hP : va_P D vwCl [(a, .inr (0, fs)), (b, .inr (1, gs))] H := by rw [hH]; exact hP
  have hS : va_S A s.heap H [] := by rw [hH]; exact hS
  rw [← hH]
  refine lv_aload_n hx hb d_V_sync_0 rfl (lv_at hl 0 rfl) ?_
  have hPc := hP.sub (ws' := [(a, .inr (0, fs))]) [0] rfl
  have hDc := hD.sub (ws' := [(a, .inr (0, fs))]) [0] (by decide) rfl
  refine jnV (rnV (As := []) (rest := []) hx hb hml hown hE hK (hN _ _ hS) hPc hDc (c_V_checkPower l D dA H.size a fs h_fs_powered hl_fs) (q0 := 0) rfl rfl w278 w276 w279 w280 w277 rfl rfl ⟨⟨by decide, by decide⟩, rfl⟩ ⟨(Nat.le_of_ble_eq_true rfl), (Nat.le_of_ble_eq_true rfl)⟩ rfl hl.1 rfl (Nat.le_of_ble_eq_true rfl) d_V_sync_1 ⟨(Nat.le_of_ble_eq_true rfl), (Nat.le_of_ble_eq_true rfl)⟩) hP hD hS hA [0] [1] (wr := [(b, .inr (1, gs))]) rfl rfl (by decide) (by decide) (fun u9 H locs hp9 hP hD hS => ?_)
  have hP : va_P D vwCl [(b, .inr (1, gs)), (a, .inr (0, fs))] H := hP
  have hD : va_D A [(b, .inr (1, gs)), (a, .inr (0, fs))] := hD
  refine lv_aload_n hx hb d_V_sync_4 rfl (lv_at hl 0 rfl) ?_
  have hPc := hP.sub (ws' := [(a, .inr (0, fs)), (b, .inr (1, gs))]) [1, 0] rfl
  have hDc := hD.sub (ws' := [(a, .inr (0, fs)), (b, .inr (1, gs))]) [1, 0] (by decide) rfl
  refine jnI (rnV (As := []) (rest := []) hx hb hml hown hE hK (hN _ _ hS) hPc hDc (c_V_writeJournalBlock_0 l D dA H.size a fs b gs h_fs_journal hl_fs h_gs_changed hl_gs) (q0 := 0) rfl rfl w315 w314 w316 w317 w277 rfl rfl ⟨⟨by decide, by decide⟩, rfl⟩ ⟨(Nat.le_of_ble_eq_true rfl), (Nat.le_of_ble_eq_true rfl)⟩ rfl hl.1 rfl (Nat.le_of_ble_eq_true rfl) d_V_sync_5 ⟨(Nat.le_of_ble_eq_true rfl), (Nat.le_of_ble_eq_true rfl)⟩) hP hD hS hA [1, 0] [] (wr := []) rfl rfl (by decide) (by decide) (fun r2 u9 H locs hp9 hP hD hS => ?_)
  have hP : va_P D vwCl [(a, .inr (0, fs)), (b, .inr (1, gs))] H := hP
  have hD : va_D A [(a, .inr (0, fs)), (b, .inr (1, gs))] := hD
  have hp9 : 0 = r2 := Eq.symm hp9
  subst hp9
  exact rtZ hx hb hr (by decide) hlk hP hD hS () rfl [0, 1] rfl rfl (by decide) (Nat.le_of_ble_eq_true rfl) (Nat.le_of_ble_eq_true rfl) d_V_sync_8
theorem d_V_flush_0 : decode prog_1_method_36_code 0 = .ok (.aload_n 0, 1) := by decide +kernel
theorem d_V_flush_1 : decode prog_1_method_36_code 1 = .ok (.invokevirtual 124, 3) := by decide +kernel
theorem d_V_flush_4 : decode prog_1_method_36_code 4 = .ok (.aload_n 0, 1) := by decide +kernel
theorem d_V_flush_5 : decode prog_1_method_36_code 5 = .ok (.getfield 16, 3) := by decide +kernel
theorem d_V_flush_8 : decode prog_1_method_36_code 8 = .ok (.getfield 153, 3) := by decide +kernel
theorem d_V_flush_11 : decode prog_1_method_36_code 11 = .ok (.ifCond .ne 5, 3) := by decide +kernel
theorem d_V_flush_14 : decode prog_1_method_36_code 14 = .ok (.iconst 0, 1) := by decide +kernel
theorem d_V_flush_15 : decode prog_1_method_36_code 15 = .ok (.ireturn, 1) := by decide +kernel
theorem w318 : Cond.fieldLinkNest "SeriesVault" 153 "SeriesVault$Journal" "size" "I" "SeriesVault" ∈ aW := aw_of (tb_1 (List.mem_of_getElem? (i := 63) rfl)) rfl
set_option maxHeartbeats 4000000 in
set_option maxRecDepth 100000 in
theorem c_V_flush_0 (l : Launch) (D : va_G) (dA : Nat → ClassId) (sz : Nat) (a : Nat) (fs : List Value) (b : Nat) (gs : List Value) (h_fs_powered : fs[5]? = some (.int 1)) (h_fs_journal : fs[8]? = some (.ref b)) (hl_fs : fs.length = 18) (h_gs_size : gs[6]? = some (.int 0)) (hl_gs : gs.length = 13) : Met l ⟨"SeriesVault", "flush", "()I"⟩ [Cond.code ⟨"SeriesVault", "flush", "()I"⟩ prog_1_method_36_code 4 (some FieldType.int)] { frames := 2, cells := 0, slots := 0, locals := 20 } (pC D dA [.ref a] [(a, .inr (0, fs)), (b, .inr (1, gs))] sz) (va_Qi (fun (r : Int32) (_ : Unit) => r = 0) (fun (u9 : Unit) t9 => bW D (va_A [(a, .inr (0, fs)), (b, .inr (1, gs))] sz) [(a, .inr (0, fs)), (b, .inr (1, gs))] t9) (va_A [(a, .inr (0, fs)), (b, .inr (1, gs))] sz)) 0 0 (va_A [(a, .inr (0, fs)), (b, .inr (1, gs))] sz) := by
  refine mkC (Qc := fun A => va_Qi (fun (r : Int32) (_ : Unit) => r = 0) (fun (u9 : Unit) t9 => bW D A [(a, .inr (0, fs)), (b, .inr (1, gs))] t9) A) (by decide) (Nat.le_of_ble_eq_true rfl) ?_
  intro A p e s m below meth c ls hsz hB
  obtain ⟨hx, hb, hr, hml, hown, hin, hlk, hE, hK, hP, hD, hS, hA, hN, hl⟩ := hB
  have hown : s.vm.findClass "SeriesVault" = some m.cls := hown
  have hin : meth.name = "flush" := hin
  have hl : lv_has ls 4 [(0, .ref a)] := hl
  obtain ⟨H, hH⟩ : ∃ z, z = s.heap := ⟨_, rfl⟩
  have hP : va_P D vwCl [(a, .inr (0, fs)), (b, .inr (1, gs))] H := by rw [hH]; exact hP
  have hS : va_S A s.heap H [] := by rw [hH]; exact hS
  rw [← hH]
  refine lv_aload_n hx hb d_V_flush_0 rfl (lv_at hl 0 rfl) ?_
  have hPc := hP.sub (ws' := [(a, .inr (0, fs))]) [0] rfl
  have hDc := hD.sub (ws' := [(a, .inr (0, fs))]) [0] (by decide) rfl
  refine jnV (rnV (As := []) (rest := []) hx hb hml hown hE hK (hN _ _ hS) hPc hDc (c_V_checkPower l D dA H.size a fs h_fs_powered hl_fs) (q0 := 0) rfl rfl w278 w276 w279 w280 w277 rfl rfl ⟨⟨by decide, by decide⟩, rfl⟩ ⟨(Nat.le_of_ble_eq_true rfl), (Nat.le_of_ble_eq_true rfl)⟩ rfl hl.1 rfl (Nat.le_of_ble_eq_true rfl) d_V_flush_1 ⟨(Nat.le_of_ble_eq_true rfl), (Nat.le_of_ble_eq_true rfl)⟩) hP hD hS hA [0] [1] (wr := [(b, .inr (1, gs))]) rfl rfl (by decide) (by decide) (fun u9 H locs hp9 hP hD hS => ?_)
  have hP : va_P D vwCl [(b, .inr (1, gs)), (a, .inr (0, fs))] H := hP
  have hD : va_D A [(b, .inr (1, gs)), (a, .inr (0, fs))] := hD
  refine lv_aload_n hx hb d_V_flush_4 rfl (lv_at hl 0 rfl) ?_
  refine gF (v := .ref b) hx hb hown hE hK hP 1 rfl rfl layV 8 (by decide) w312 h_fs_journal d_V_flush_5 ?_
  refine gFN (v := .int 0) hx hb hown hE hK hP 0 rfl rfl layJ 6 (by decide) w318 h_gs_size d_V_flush_8 ?_
  refine lv_if_ne hx hb d_V_flush_11 (tgt := 16) rfl (fun h9 => absurd (by decide) h9) (fun _ => ?_)
  refine lv_iconst (v := 0) hx hb d_V_flush_14 (by decide) ?_
  exact rtI hx hb hr hlk hP hD hS () rfl [1, 0] rfl rfl (by decide) (Nat.le_of_ble_eq_true rfl) (Nat.le_of_ble_eq_true rfl) d_V_flush_15
