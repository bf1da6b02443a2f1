set_option maxHeartbeats 4000000 in
set_option maxRecDepth 100000 in
theorem v_checkRow_xa (l : Launch) (htr : l.stackTraces = false) (D : va_G) (dA : Nat → ClassId) (sz : Nat) (h : Nat) (ad : Nat → Nat) (x : VS) (r : Int32) (ht : x.hasTable = false) : mX l ⟨"SeriesVault", "checkRow", "(I)V"⟩ [Cond.code ⟨"SeriesVault", "checkRow", "(I)V"⟩ prog_1_method_50_code 2 none] { frames := 6, cells := 1, slots := 6, locals := 81 } (pC D dA [.ref h, .int r] (VW dA h ad x) sz) "java/lang/IndexOutOfBoundsException" (fun st9 t9 => va_F (va_A (VW dA h ad x) sz) st9 t9 ∧ ∃ u9 : Unit, (True) ∧ bW D (va_A (VW dA h ad x) sz) (VW dA h ad x) t9) 1 6 (va_A (VW dA h ad x) sz) := by
  refine mkX (y := ⟨"SeriesVault", "checkRow", "(I)V"⟩) (cc := prog_1_method_50_code) (maxL := 2) (av := [.ref h, .int r]) (ws := VW dA h ad x) (sz := sz) (B := fun A => (fun st9 t9 => va_F A st9 t9 ∧ ∃ u9 : Unit, (True) ∧ bW D A (VW dA h ad x) t9)) (by decide) (Nat.le_of_ble_eq_true rfl) ?_
  intro A p e s m below meth c ls hsz hno hB
  obtain ⟨hx, hb, hr, hml, hown, hin, hlk, hE, hK, hP, hD, hS, hA, hN, hl⟩ := hB
  have hown : s.vm.findClass "SeriesVault" = some m.cls := hown
  have hl : lv_has ls 2 [(0, .ref h), (1, .int r)] := hl
  obtain ⟨H, hH⟩ : ∃ z, z = s.heap := ⟨_, rfl⟩
  have hP : va_P D vwCl (VW dA h ad x) H := by rw [hH]; exact hP
  have hS : va_S A s.heap H [] := by rw [hH]; exact hS
  rw [← hH]
  refine lv_aload_n hx hb d_V_checkRow_0 rfl (lv_at hl 0 rfl) ?_
  refine gF (v := .int (bI x.hasTable)) hx hb hown hE hK hP 0 rfl rfl layV 17 (by decide) w210 rfl d_V_checkRow_1 ?_
  refine lv_if_eq hx hb d_V_checkRow_4 (tgt := 25) rfl (fun _ => ?_) (fun h9 => absurd (by rw [ht]; decide) h9)
  exact xNew (E := "java/lang/IndexOutOfBoundsException") (names := ["java/lang/RuntimeException", "java/lang/Exception"]) hx hb htr hown (by decide) (by decide) hE w257 w258 (fun U hU => at_V_IOOBE hU) (hN _ _ hS) (hl.1.trans hml.symm) d_V_checkRow_25 d_V_checkRow_28 d_V_checkRow_29 d_V_checkRow_32 hno (by decide) (Nat.le_of_ble_eq_true rfl) (show 0 + 1 ≤ 1 by omega) (show 0 + 6 ≤ 6 by omega) hlk (fun t h1 h2 => xkE () trivial hP hD hS t h1 h2) hS.2.2 (show 0 + 1 ≤ 1 by omega) (show 0 + 6 ≤ 6 by omega)
set_option maxHeartbeats 4000000 in
set_option maxRecDepth 100000 in
theorem v_checkCell_xa (l : Launch) (htr : l.stackTraces = false) (D : va_G) (dA : Nat → ClassId) (sz : Nat) (h : Nat) (ad : Nat → Nat) (x : VS) (r : Int32) (w : Int32) (ht : x.hasTable = false) : mX l ⟨"SeriesVault", "checkCell", "(II)V"⟩ [Cond.code ⟨"SeriesVault", "checkCell", "(II)V"⟩ prog_1_method_51_code 3 none] { frames := 7, cells := 1, slots := 6, locals := 102 } (pC D dA [.ref h, .int r, .int w] (VW dA h ad x) sz) "java/lang/IndexOutOfBoundsException" (fun st9 t9 => va_F (va_A (VW dA h ad x) sz) st9 t9 ∧ ∃ u9 : Unit, (True) ∧ bW D (va_A (VW dA h ad x) sz) (VW dA h ad x) t9) 1 6 (va_A (VW dA h ad x) sz) := by
  refine mkX (y := ⟨"SeriesVault", "checkCell", "(II)V"⟩) (cc := prog_1_method_51_code) (maxL := 3) (av := [.ref h, .int r, .int w]) (ws := VW dA h ad x) (sz := sz) (B := fun A => (fun st9 t9 => va_F A st9 t9 ∧ ∃ u9 : Unit, (True) ∧ bW D A (VW dA h ad x) t9)) (by decide) (Nat.le_of_ble_eq_true rfl) ?_
  intro A p e s m below meth c ls hsz hno hB
  obtain ⟨hx, hb, hr, hml, hown, hin, hlk, hE, hK, hP, hD, hS, hA, hN, hl⟩ := hB
  have hown : s.vm.findClass "SeriesVault" = some m.cls := hown
  have hl : lv_has ls 3 [(0, .ref h), (1, .int r), (2, .int w)] := hl
  obtain ⟨H, hH⟩ : ∃ z, z = s.heap := ⟨_, rfl⟩
  have hP : va_P D vwCl (VW dA h ad x) H := by rw [hH]; exact hP
  have hS : va_S A s.heap H [] := by rw [hH]; exact hS
  rw [← hH]
  refine lv_aload_n hx hb d_V_checkCell_0 rfl (lv_at hl 0 rfl) ?_
  refine lv_iload_n hx hb d_V_checkCell_1 rfl (lv_at hl 1 rfl) ?_
  refine xkV (wr := []) (As := [.int r]) (rest := []) hx hb hml hown hE hK (hN _ _ hS) (v_checkRow_xa l htr D dA H.size h ad x r ht) (q0 := 0) rfl rfl w305 w304 w306 w307 w277 rfl rfl ⟨⟨by decide, by decide⟩, rfl⟩ ⟨(Nat.le_of_ble_eq_true rfl), (Nat.le_of_ble_eq_true rfl)⟩ rfl hl.1 rfl (Nat.le_of_ble_eq_true rfl) d_V_checkCell_2 ⟨(show 0 + 1 ≤ 1 by omega), (show 0 + 6 ≤ 6 by omega)⟩ hP hD hS hA (fun u2 xa1 ce H locs hp9 hP hD hS hce hcv hcl => ?_)
  have hP : va_P D vwCl (VW dA h ad x) H := hP
  have hD : va_D A (VW dA h ad x) := hD
  exact xOut hno hlk hce hcv hcl (fun t ht => xkE () trivial hP hD hS t (by rw [ht]; exact Nat.le_refl _) (fun q _ => by rw [ht])) hS.2.2 (show 0 + 1 ≤ 1 by omega) (show 0 + 6 ≤ 6 by omega)
set_option maxHeartbeats 4000000 in
set_option maxRecDepth 100000 in
theorem v_text_xa (l : Launch) (htr : l.stackTraces = false) (D : va_G) (dA : Nat → ClassId) (sz : Nat) (h : Nat) (ad : Nat → Nat) (x : VS) (r : Int32) (k : Int32) (i : Int32) (ht : x.hasTable = false) : mX l ⟨"SeriesVault", "text", "(III)I"⟩ [Cond.code ⟨"SeriesVault", "text", "(III)I"⟩ prog_1_method_47_code 5 (some FieldType.int)] { frames := 7, cells := 1, slots := 6, locals := 102 } (pC D dA [.ref h, .int r, .int k, .int i] (VW dA h ad x) sz) "java/lang/IndexOutOfBoundsException" (fun st9 t9 => va_F (va_A (VW dA h ad x) sz) st9 t9 ∧ ∃ u9 : Unit, (True) ∧ bW D (va_A (VW dA h ad x) sz) (VW dA h ad x) t9) 1 6 (va_A (VW dA h ad x) sz) := by
  refine mkX (y := ⟨"SeriesVault", "text", "(III)I"⟩) (cc := prog_1_method_47_code) (maxL := 5) (av := [.ref h, .int r, .int k, .int i]) (ws := VW dA h ad x) (sz := sz) (B := fun A => (fun st9 t9 => va_F A st9 t9 ∧ ∃ u9 : Unit, (True) ∧ bW D A (VW dA h ad x) t9)) (by decide) (Nat.le_of_ble_eq_true rfl) ?_
  intro A p e s m below meth c ls hsz hno hB
  obtain ⟨hx, hb, hr, hml, hown, hin, hlk, hE, hK, hP, hD, hS, hA, hN, hl⟩ := hB
  have hown : s.vm.findClass "SeriesVault" = some m.cls := hown
  have hl : lv_has ls 5 [(0, .ref h), (1, .int r), (2, .int k), (3, .int i)] := hl
  obtain ⟨H, hH⟩ : ∃ z, z = s.heap := ⟨_, rfl⟩
  have hP : va_P D vwCl (VW dA h ad x) H := by rw [hH]; exact hP
  have hS : va_S A s.heap H [] := by rw [hH]; exact hS
  rw [← hH]
  refine lv_aload_n hx hb d_V_text_0 rfl (lv_at hl 0 rfl) ?_
  refine lv_iload_n hx hb d_V_text_1 rfl (lv_at hl 1 rfl) ?_
  refine xkV (wr := []) (As := [.int r]) (rest := []) hx hb hml hown hE hK (hN _ _ hS) (v_checkRow_xa l htr D dA H.size h ad x r ht) (q0 := 0) rfl rfl w305 w304 w306 w307 w277 rfl rfl ⟨⟨by decide, by decide⟩, rfl⟩ ⟨(Nat.le_of_ble_eq_true rfl), (Nat.le_of_ble_eq_true rfl)⟩ rfl hl.1 rfl (Nat.le_of_ble_eq_true rfl) d_V_text_2 ⟨(show 0 + 1 ≤ 1 by omega), (show 0 + 6 ≤ 6 by omega)⟩ hP hD hS hA (fun u2 xa1 ce H locs hp9 hP hD hS hce hcv hcl => ?_)
  have hP : va_P D vwCl (VW dA h ad x) H := hP
  have hD : va_D A (VW dA h ad x) := hD
  exact xOut hno hlk hce hcv hcl (fun t ht => xkE () trivial hP hD hS t (by rw [ht]; exact Nat.le_refl _) (fun q _ => by rw [ht])) hS.2.2 (show 0 + 1 ≤ 1 by omega) (show 0 + 6 ≤ 6 by omega)
set_option maxHeartbeats 4000000 in
set_option maxRecDepth 100000 in
theorem v_isThere_xa (l : Launch) (htr : l.stackTraces = false) (D : va_G) (dA : Nat → ClassId) (sz : Nat) (h : Nat) (ad : Nat → Nat) (x : VS) (r : Int32) (w : Int32) (ht : x.hasTable = false) : mX l ⟨"SeriesVault", "isThere", "(II)Z"⟩ [Cond.code ⟨"SeriesVault", "isThere", "(II)Z"⟩ prog_1_method_48_code 3 (some FieldType.boolean)] { frames := 8, cells := 1, slots := 6, locals := 124 } (pC D dA [.ref h, .int r, .int w] (VW dA h ad x) sz) "java/lang/IndexOutOfBoundsException" (fun st9 t9 => va_F (va_A (VW dA h ad x) sz) st9 t9 ∧ ∃ u9 : Unit, (True) ∧ bW D (va_A (VW dA h ad x) sz) (VW dA h ad x) t9) 1 6 (va_A (VW dA h ad x) sz) := by
  refine mkX (y := ⟨"SeriesVault", "isThere", "(II)Z"⟩) (cc := prog_1_method_48_code) (maxL := 3) (av := [.ref h, .int r, .int w]) (ws := VW dA h ad x) (sz := sz) (B := fun A => (fun st9 t9 => va_F A st9 t9 ∧ ∃ u9 : Unit, (True) ∧ bW D A (VW dA h ad x) t9)) (by decide) (Nat.le_of_ble_eq_true rfl) ?_
  intro A p e s m below meth c ls hsz hno hB
  obtain ⟨hx, hb, hr, hml, hown, hin, hlk, hE, hK, hP, hD, hS, hA, hN, hl⟩ := hB
  have hown : s.vm.findClass "SeriesVault" = some m.cls := hown
  have hl : lv_has ls 3 [(0, .ref h), (1, .int r), (2, .int w)] := hl
  obtain ⟨H, hH⟩ : ∃ z, z = s.heap := ⟨_, rfl⟩
  have hP : va_P D vwCl (VW dA h ad x) H := by rw [hH]; exact hP
  have hS : va_S A s.heap H [] := by rw [hH]; exact hS
  rw [← hH]
  refine lv_aload_n hx hb d_V_isThere_0 rfl (lv_at hl 0 rfl) ?_
  refine lv_iload_n hx hb d_V_isThere_1 rfl (lv_at hl 1 rfl) ?_
  refine lv_iload_n hx hb d_V_isThere_2 rfl (lv_at hl 2 rfl) ?_
  refine xkV (wr := []) (As := [.int r, .int w]) (rest := []) hx hb hml hown hE hK (hN _ _ hS) (v_checkCell_xa l htr D dA H.size h ad x r w ht) (q0 := 0) rfl rfl w309 w308 w310 w311 w277 rfl rfl ⟨⟨by decide, by decide⟩, rfl⟩ ⟨(Nat.le_of_ble_eq_true rfl), (Nat.le_of_ble_eq_true rfl)⟩ rfl hl.1 rfl (Nat.le_of_ble_eq_true rfl) d_V_isThere_3 ⟨(show 0 + 1 ≤ 1 by omega), (show 0 + 6 ≤ 6 by omega)⟩ hP hD hS hA (fun u2 xa1 ce H locs hp9 hP hD hS hce hcv hcl => ?_)
  have hP : va_P D vwCl (VW dA h ad x) H := hP
  have hD : va_D A (VW dA h ad x) := hD
  exact xOut hno hlk hce hcv hcl (fun t ht => xkE () trivial hP hD hS t (by rw [ht]; exact Nat.le_refl _) (fun q _ => by rw [ht])) hS.2.2 (show 0 + 1 ≤ 1 by omega) (show 0 + 6 ≤ 6 by omega)
set_option maxHeartbeats 4000000 in
set_option maxRecDepth 100000 in
theorem v_cell_xa (l : Launch) (htr : l.stackTraces = false) (D : va_G) (dA : Nat → ClassId) (sz : Nat) (h : Nat) (ad : Nat → Nat) (x : VS) (r : Int32) (w : Int32) (ht : x.hasTable = false) : mX l ⟨"SeriesVault", "cell", "(II)J"⟩ [Cond.code ⟨"SeriesVault", "cell", "(II)J"⟩ prog_1_method_49_code 4 (some FieldType.long)] { frames := 8, cells := 1, slots := 6, locals := 124 } (pC D dA [.ref h, .int r, .int w] (VW dA h ad x) sz) "java/lang/IndexOutOfBoundsException" (fun st9 t9 => va_F (va_A (VW dA h ad x) sz) st9 t9 ∧ ∃ u9 : Unit, (True) ∧ bW D (va_A (VW dA h ad x) sz) (VW dA h ad x) t9) 1 6 (va_A (VW dA h ad x) sz) := by
  refine mkX (y := ⟨"SeriesVault", "cell", "(II)J"⟩) (cc := prog_1_method_49_code) (maxL := 4) (av := [.ref h, .int r, .int w]) (ws := VW dA h ad x) (sz := sz) (B := fun A => (fun st9 t9 => va_F A st9 t9 ∧ ∃ u9 : Unit, (True) ∧ bW D A (VW dA h ad x) t9)) (by decide) (Nat.le_of_ble_eq_true rfl) ?_
  intro A p e s m below meth c ls hsz hno hB
  obtain ⟨hx, hb, hr, hml, hown, hin, hlk, hE, hK, hP, hD, hS, hA, hN, hl⟩ := hB
  have hown : s.vm.findClass "SeriesVault" = some m.cls := hown
  have hl : lv_has ls 4 [(0, .ref h), (1, .int r), (2, .int w)] := hl
  obtain ⟨H, hH⟩ : ∃ z, z = s.heap := ⟨_, rfl⟩
  have hP : va_P D vwCl (VW dA h ad x) H := by rw [hH]; exact hP
  have hS : va_S A s.heap H [] := by rw [hH]; exact hS
  rw [← hH]
  refine lv_aload_n hx hb d_V_cell_0 rfl (lv_at hl 0 rfl) ?_
  refine lv_iload_n hx hb d_V_cell_1 rfl (lv_at hl 1 rfl) ?_
  refine lv_iload_n hx hb d_V_cell_2 rfl (lv_at hl 2 rfl) ?_
  refine xkV (wr := []) (As := [.int r, .int w]) (rest := []) hx hb hml hown hE hK (hN _ _ hS) (v_checkCell_xa l htr D dA H.size h ad x r w ht) (q0 := 0) rfl rfl w309 w308 w310 w311 w277 rfl rfl ⟨⟨by decide, by decide⟩, rfl⟩ ⟨(Nat.le_of_ble_eq_true rfl), (Nat.le_of_ble_eq_true rfl)⟩ rfl hl.1 rfl (Nat.le_of_ble_eq_true rfl) d_V_cell_3 ⟨(show 0 + 1 ≤ 1 by omega), (show 0 + 6 ≤ 6 by omega)⟩ hP hD hS hA (fun u2 xa1 ce H locs hp9 hP hD hS hce hcv hcl => ?_)
  have hP : va_P D vwCl (VW dA h ad x) H := hP
  have hD : va_D A (VW dA h ad x) := hD
  exact xOut hno hlk hce hcv hcl (fun t ht => xkE () trivial hP hD hS t (by rw [ht]; exact Nat.le_refl _) (fun q _ => by rw [ht])) hS.2.2 (show 0 + 1 ≤ 1 by omega) (show 0 + 6 ≤ 6 by omega)
set_option maxHeartbeats 4000000 in
set_option maxRecDepth 100000 in
theorem v_checkRow_xb (l : Launch) (htr : l.stackTraces = false) (D : va_G) (dA : Nat → ClassId) (sz : Nat) (h : Nat) (ad : Nat → Nat) (x : VS) (r : Int32) (ht : x.hasTable = true) (hr0 : r < 0) : mX l ⟨"SeriesVault", "checkRow", "(I)V"⟩ [Cond.code ⟨"SeriesVault", "checkRow", "(I)V"⟩ prog_1_method_50_code 2 none] { frames := 6, cells := 1, slots := 6, locals := 81 } (pC D dA [.ref h, .int r] (VW dA h ad x) sz) "java/lang/IndexOutOfBoundsException" (fun st9 t9 => va_F (va_A (VW dA h ad x) sz) st9 t9 ∧ ∃ u9 : Unit, (True) ∧ bW D (va_A (VW dA h ad x) sz) (VW dA h ad x) t9) 1 6 (va_A (VW dA h ad x) sz) := by
  refine mkX (y := ⟨"SeriesVault", "checkRow", "(I)V"⟩) (cc := prog_1_method_50_code) (maxL := 2) (av := [.ref h, .int r]) (ws := VW dA h ad x) (sz := sz) (B := fun A => (fun st9 t9 => va_F A st9 t9 ∧ ∃ u9 : Unit, (True) ∧ bW D A (VW dA h ad x) t9)) (by decide) (Nat.le_of_ble_eq_true rfl) ?_
  intro A p e s m below meth c ls hsz hno hB
  obtain ⟨hx, hb, hr, hml, hown, hin, hlk, hE, hK, hP, hD, hS, hA, hN, hl⟩ := hB
  have hown : s.vm.findClass "SeriesVault" = some m.cls := hown
  have hl : lv_has ls 2 [(0, .ref h), (1, .int r)] := hl
  obtain ⟨H, hH⟩ : ∃ z, z = s.heap := ⟨_, rfl⟩
  have hP : va_P D vwCl (VW dA h ad x) H := by rw [hH]; exact hP
  have hS : va_S A s.heap H [] := by rw [hH]; exact hS
  rw [← hH]
  refine lv_aload_n hx hb d_V_checkRow_0 rfl (lv_at hl 0 rfl) ?_
  refine gF (v := .int (bI x.hasTable)) hx hb hown hE hK hP 0 rfl rfl layV 17 (by decide) w210 rfl d_V_checkRow_1 ?_
  refine lv_if_eq hx hb d_V_checkRow_4 (tgt := 25) rfl (fun h9 => absurd h9 (by rw [ht]; decide)) (fun _ => ?_)
  refine lv_iload_n hx hb d_V_checkRow_7 rfl (lv_at hl 1 rfl) ?_
  refine lv_if_lt hx hb d_V_checkRow_8 (tgt := 25) rfl (fun _ => ?_) (fun h9 => absurd hr0 h9)
  exact xNew (E := "java/lang/IndexOutOfBoundsException") (names := ["java/lang/RuntimeException", "java/lang/Exception"]) hx hb htr hown (by decide) (by decide) hE w257 w258 (fun U hU => at_V_IOOBE hU) (hN _ _ hS) (hl.1.trans hml.symm) d_V_checkRow_25 d_V_checkRow_28 d_V_checkRow_29 d_V_checkRow_32 hno (by decide) (Nat.le_of_ble_eq_true rfl) (show 0 + 1 ≤ 1 by omega) (show 0 + 6 ≤ 6 by omega) hlk (fun t h1 h2 => xkE () trivial hP hD hS t h1 h2) hS.2.2 (show 0 + 1 ≤ 1 by omega) (show 0 + 6 ≤ 6 by omega)
set_option maxHeartbeats 4000000 in
set_option maxRecDepth 100000 in
theorem v_checkCell_xb (l : Launch) (htr : l.stackTraces = false) (D : va_G) (dA : Nat → ClassId) (sz : Nat) (h : Nat) (ad : Nat → Nat) (x : VS) (r : Int32) (w : Int32) (ht : x.hasTable = true) (hr0 : r < 0) : mX l ⟨"SeriesVault", "checkCell", "(II)V"⟩ [Cond.code ⟨"SeriesVault", "checkCell", "(II)V"⟩ prog_1_method_51_code 3 none] { frames := 7, cells := 1, slots := 6, locals := 102 } (pC D dA [.ref h, .int r, .int w] (VW dA h ad x) sz) "java/lang/IndexOutOfBoundsException" (fun st9 t9 => va_F (va_A (VW dA h ad x) sz) st9 t9 ∧ ∃ u9 : Unit, (True) ∧ bW D (va_A (VW dA h ad x) sz) (VW dA h ad x) t9) 1 6 (va_A (VW dA h ad x) sz) := by
  refine mkX (y := ⟨"SeriesVault", "checkCell", "(II)V"⟩) (cc := prog_1_method_51_code) (maxL := 3) (av := [.ref h, .int r, .int w]) (ws := VW dA h ad x) (sz := sz) (B := fun A => (fun st9 t9 => va_F A st9 t9 ∧ ∃ u9 : Unit, (True) ∧ bW D A (VW dA h ad x) t9)) (by decide) (Nat.le_of_ble_eq_true rfl) ?_
  intro A p e s m below meth c ls hsz hno hB
  obtain ⟨hx, hb, hr, hml, hown, hin, hlk, hE, hK, hP, hD, hS, hA, hN, hl⟩ := hB
  have hown : s.vm.findClass "SeriesVault" = some m.cls := hown
  have hl : lv_has ls 3 [(0, .ref h), (1, .int r), (2, .int w)] := hl
  obtain ⟨H, hH⟩ : ∃ z, z = s.heap := ⟨_, rfl⟩
  have hP : va_P D vwCl (VW dA h ad x) H := by rw [hH]; exact hP
  have hS : va_S A s.heap H [] := by rw [hH]; exact hS
  rw [← hH]
  refine lv_aload_n hx hb d_V_checkCell_0 rfl (lv_at hl 0 rfl) ?_
  refine lv_iload_n hx hb d_V_checkCell_1 rfl (lv_at hl 1 rfl) ?_
  refine xkV (wr := []) (As := [.int r]) (rest := []) hx hb hml hown hE hK (hN _ _ hS) (v_checkRow_xb l htr D dA H.size h ad x r ht hr0) (q0 := 0) rfl rfl w305 w304 w306 w307 w277 rfl rfl ⟨⟨by decide, by decide⟩, rfl⟩ ⟨(Nat.le_of_ble_eq_true rfl), (Nat.le_of_ble_eq_true rfl)⟩ rfl hl.1 rfl (Nat.le_of_ble_eq_true rfl) d_V_checkCell_2 ⟨(show 0 + 1 ≤ 1 by omega), (show 0 + 6 ≤ 6 by omega)⟩ hP hD hS hA (fun u2 xa1 ce H locs hp9 hP hD hS hce hcv hcl => ?_)
  have hP : va_P D vwCl (VW dA h ad x) H := hP
  have hD : va_D A (VW dA h ad x) := hD
  exact xOut hno hlk hce hcv hcl (fun t ht => xkE () trivial hP hD hS t (by rw [ht]; exact Nat.le_refl _) (fun q _ => by rw [ht])) hS.2.2 (show 0 + 1 ≤ 1 by omega) (show 0 + 6 ≤ 6 by omega)
set_option maxHeartbeats 4000000 in
set_option maxRecDepth 100000 in
theorem v_text_xb (l : Launch) (htr : l.stackTraces = false) (D : va_G) (dA : Nat → ClassId) (sz : Nat) (h : Nat) (ad : Nat → Nat) (x : VS) (r : Int32) (k : Int32) (i : Int32) (ht : x.hasTable = true) (hr0 : r < 0) : mX l ⟨"SeriesVault", "text", "(III)I"⟩ [Cond.code ⟨"SeriesVault", "text", "(III)I"⟩ prog_1_method_47_code 5 (some FieldType.int)] { frames := 7, cells := 1, slots := 6, locals := 102 } (pC D dA [.ref h, .int r, .int k, .int i] (VW dA h ad x) sz) "java/lang/IndexOutOfBoundsException" (fun st9 t9 => va_F (va_A (VW dA h ad x) sz) st9 t9 ∧ ∃ u9 : Unit, (True) ∧ bW D (va_A (VW dA h ad x) sz) (VW dA h ad x) t9) 1 6 (va_A (VW dA h ad x) sz) := by
  refine mkX (y := ⟨"SeriesVault", "text", "(III)I"⟩) (cc := prog_1_method_47_code) (maxL := 5) (av := [.ref h, .int r, .int k, .int i]) (ws := VW dA h ad x) (sz := sz) (B := fun A => (fun st9 t9 => va_F A st9 t9 ∧ ∃ u9 : Unit, (True) ∧ bW D A (VW dA h ad x) t9)) (by decide) (Nat.le_of_ble_eq_true rfl) ?_
  intro A p e s m below meth c ls hsz hno hB
  obtain ⟨hx, hb, hr, hml, hown, hin, hlk, hE, hK, hP, hD, hS, hA, hN, hl⟩ := hB
  have hown : s.vm.findClass "SeriesVault" = some m.cls := hown
  have hl : lv_has ls 5 [(0, .ref h), (1, .int r), (2, .int k), (3, .int i)] := hl
  obtain ⟨H, hH⟩ : ∃ z, z = s.heap := ⟨_, rfl⟩
  have hP : va_P D vwCl (VW dA h ad x) H := by rw [hH]; exact hP
  have hS : va_S A s.heap H [] := by rw [hH]; exact hS
  rw [← hH]
  refine lv_aload_n hx hb d_V_text_0 rfl (lv_at hl 0 rfl) ?_
  refine lv_iload_n hx hb d_V_text_1 rfl (lv_at hl 1 rfl) ?_
  refine xkV (wr := []) (As := [.int r]) (rest := []) hx hb hml hown hE hK (hN _ _ hS) (v_checkRow_xb l htr D dA H.size h ad x r ht hr0) (q0 := 0) rfl rfl w305 w304 w306 w307 w277 rfl rfl ⟨⟨by decide, by decide⟩, rfl⟩ ⟨(Nat.le_of_ble_eq_true rfl), (Nat.le_of_ble_eq_true rfl)⟩ rfl hl.1 rfl (Nat.le_of_ble_eq_true rfl) d_V_text_2 ⟨(show 0 + 1 ≤ 1 by omega), (show 0 + 6 ≤ 6 by omega)⟩ hP hD hS hA (fun u2 xa1 ce H locs hp9 hP hD hS hce hcv hcl => ?_)
  have hP : va_P D vwCl (VW dA h ad x) H := hP
  have hD : va_D A (VW dA h ad x) := hD
  exact xOut hno hlk hce hcv hcl (fun t ht => xkE () trivial hP hD hS t (by rw [ht]; exact Nat.le_refl _) (fun q _ => by rw [ht])) hS.2.2 (show 0 + 1 ≤ 1 by omega) (show 0 + 6 ≤ 6 by omega)
set_option maxHeartbeats 4000000 in
set_option maxRecDepth 100000 in
theorem v_isThere_xb (l : Launch) (htr : l.stackTraces = false) (D : va_G) (dA : Nat → ClassId) (sz : Nat) (h : Nat) (ad : Nat → Nat) (x : VS) (r : Int32) (w : Int32) (ht : x.hasTable = true) (hr0 : r < 0) : mX l ⟨"SeriesVault", "isThere", "(II)Z"⟩ [Cond.code ⟨"SeriesVault", "isThere", "(II)Z"⟩ prog_1_method_48_code 3 (some FieldType.boolean)] { frames := 8, cells := 1, slots := 6, locals := 124 } (pC D dA [.ref h, .int r, .int w] (VW dA h ad x) sz) "java/lang/IndexOutOfBoundsException" (fun st9 t9 => va_F (va_A (VW dA h ad x) sz) st9 t9 ∧ ∃ u9 : Unit, (True) ∧ bW D (va_A (VW dA h ad x) sz) (VW dA h ad x) t9) 1 6 (va_A (VW dA h ad x) sz) := by
  refine mkX (y := ⟨"SeriesVault", "isThere", "(II)Z"⟩) (cc := prog_1_method_48_code) (maxL := 3) (av := [.ref h, .int r, .int w]) (ws := VW dA h ad x) (sz := sz) (B := fun A => (fun st9 t9 => va_F A st9 t9 ∧ ∃ u9 : Unit, (True) ∧ bW D A (VW dA h ad x) t9)) (by decide) (Nat.le_of_ble_eq_true rfl) ?_
  intro A p e s m below meth c ls hsz hno hB
  obtain ⟨hx, hb, hr, hml, hown, hin, hlk, hE, hK, hP, hD, hS, hA, hN, hl⟩ := hB
  have hown : s.vm.findClass "SeriesVault" = some m.cls := hown
  have hl : lv_has ls 3 [(0, .ref h), (1, .int r), (2, .int w)] := hl
  obtain ⟨H, hH⟩ : ∃ z, z = s.heap := ⟨_, rfl⟩
  have hP : va_P D vwCl (VW dA h ad x) H := by rw [hH]; exact hP
  have hS : va_S A s.heap H [] := by rw [hH]; exact hS
  rw [← hH]
  refine lv_aload_n hx hb d_V_isThere_0 rfl (lv_at hl 0 rfl) ?_
  refine lv_iload_n hx hb d_V_isThere_1 rfl (lv_at hl 1 rfl) ?_
  refine lv_iload_n hx hb d_V_isThere_2 rfl (lv_at hl 2 rfl) ?_
  refine xkV (wr := []) (As := [.int r, .int w]) (rest := []) hx hb hml hown hE hK (hN _ _ hS) (v_checkCell_xb l htr D dA H.size h ad x r w ht hr0) (q0 := 0) rfl rfl w309 w308 w310 w311 w277 rfl rfl ⟨⟨by decide, by decide⟩, rfl⟩ ⟨(Nat.le_of_ble_eq_true rfl), (Nat.le_of_ble_eq_true rfl)⟩ rfl hl.1 rfl (Nat.le_of_ble_eq_true rfl) d_V_isThere_3 ⟨(show 0 + 1 ≤ 1 by omega), (show 0 + 6 ≤ 6 by omega)⟩ hP hD hS hA (fun u2 xa1 ce H locs hp9 hP hD hS hce hcv hcl => ?_)
  have hP : va_P D vwCl (VW dA h ad x) H := hP
  have hD : va_D A (VW dA h ad x) := hD
  exact xOut hno hlk hce hcv hcl (fun t ht => xkE () trivial hP hD hS t (by rw [ht]; exact Nat.le_refl _) (fun q _ => by rw [ht])) hS.2.2 (show 0 + 1 ≤ 1 by omega) (show 0 + 6 ≤ 6 by omega)
set_option maxHeartbeats 4000000 in
set_option maxRecDepth 100000 in
theorem v_cell_xb (l : Launch) (htr : l.stackTraces = false) (D : va_G) (dA : Nat → ClassId) (sz : Nat) (h : Nat) (ad : Nat → Nat) (x : VS) (r : Int32) (w : Int32) (ht : x.hasTable = true) (hr0 : r < 0) : mX l ⟨"SeriesVault", "cell", "(II)J"⟩ [Cond.code ⟨"SeriesVault", "cell", "(II)J"⟩ prog_1_method_49_code 4 (some FieldType.long)] { frames := 8, cells := 1, slots := 6, locals := 124 } (pC D dA [.ref h, .int r, .int w] (VW dA h ad x) sz) "java/lang/IndexOutOfBoundsException" (fun st9 t9 => va_F (va_A (VW dA h ad x) sz) st9 t9 ∧ ∃ u9 : Unit, (True) ∧ bW D (va_A (VW dA h ad x) sz) (VW dA h ad x) t9) 1 6 (va_A (VW dA h ad x) sz) := by
  refine mkX (y := ⟨"SeriesVault", "cell", "(II)J"⟩) (cc := prog_1_method_49_code) (maxL := 4) (av := [.ref h, .int r, .int w]) (ws := VW dA h ad x) (sz := sz) (B := fun A => (fun st9 t9 => va_F A st9 t9 ∧ ∃ u9 : Unit, (True) ∧ bW D A (VW dA h ad x) t9)) (by decide) (Nat.le_of_ble_eq_true rfl) ?_
  intro A p e s m below meth c ls hsz hno hB
  obtain ⟨hx, hb, hr, hml, hown, hin, hlk, hE, hK, hP, hD, hS, hA, hN, hl⟩ := hB
  have hown : s.vm.findClass "SeriesVault" = some m.cls := hown
  have hl : lv_has ls 4 [(0, .ref h), (1, .int r), (2, .int w)] := hl
  obtain ⟨H, hH⟩ : ∃ z, z = s.heap := ⟨_, rfl⟩
  have hP : va_P D vwCl (VW dA h ad x) H := by rw [hH]; exact hP
  have hS : va_S A s.heap H [] := by rw [hH]; exact hS
  rw [← hH]
  refine lv_aload_n hx hb d_V_cell_0 rfl (lv_at hl 0 rfl) ?_
  refine lv_iload_n hx hb d_V_cell_1 rfl (lv_at hl 1 rfl) ?_
  refine lv_iload_n hx hb d_V_cell_2 rfl (lv_at hl 2 rfl) ?_
  refine xkV (wr := []) (As := [.int r, .int w]) (rest := []) hx hb hml hown hE hK (hN _ _ hS) (v_checkCell_xb l htr D dA H.size h ad x r w ht hr0) (q0 := 0) rfl rfl w309 w308 w310 w311 w277 rfl rfl ⟨⟨by decide, by decide⟩, rfl⟩ ⟨(Nat.le_of_ble_eq_true rfl), (Nat.le_of_ble_eq_true rfl)⟩ rfl hl.1 rfl (Nat.le_of_ble_eq_true rfl) d_V_cell_3 ⟨(show 0 + 1 ≤ 1 by omega), (show 0 + 6 ≤ 6 by omega)⟩ hP hD hS hA (fun u2 xa1 ce H locs hp9 hP hD hS hce hcv hcl => ?_)
  have hP : va_P D vwCl (VW dA h ad x) H := hP
  have hD : va_D A (VW dA h ad x) := hD
  exact xOut hno hlk hce hcv hcl (fun t ht => xkE () trivial hP hD hS t (by rw [ht]; exact Nat.le_refl _) (fun q _ => by rw [ht])) hS.2.2 (show 0 + 1 ≤ 1 by omega) (show 0 + 6 ≤ 6 by omega)
