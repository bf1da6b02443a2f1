set_option maxHeartbeats 4000000 in
set_option maxRecDepth 100000 in
theorem v_ask_2a (l : Launch) (htr : l.stackTraces = false) (D : va_G) (dA : Nat → ClassId) (sz : Nat) (h : Nat) (ad : Nat → Nat) (x : VS) (a : Int64) (b : Int64) (n : Int32) (ho : x.powered = true) (t1 : isTm a = false) : mX l ⟨"SeriesVault", "ask", "(JJI)I"⟩ [Cond.code ⟨"SeriesVault", "ask", "(JJI)I"⟩ prog_1_method_45_code 8 (some FieldType.int)] { frames := 6, cells := 1, slots := 6, locals := 81 } (pC D dA [.ref h, .long a, .long b, .int n] (VW dA h ad x) sz) "java/lang/IllegalArgumentException" (fun st9 t9 => va_F (va_A (VW dA h ad x) sz) st9 t9 ∧ bW D (va_A (VW dA h ad x) sz) (VW dA h ad x) t9) 1 6 (va_A (VW dA h ad x) sz) := by
  refine mkX (y := ⟨"SeriesVault", "ask", "(JJI)I"⟩) (cc := prog_1_method_45_code) (maxL := 8) (av := [.ref h, .long a, .long b, .int n]) (ws := VW dA h ad x) (sz := sz) (B := fun A => (fun st9 t9 => va_F A st9 t9 ∧ bW D A (VW dA h ad x) t9)) (by decide) (Nat.le_of_ble_eq_true rfl) ?_
  intro A p e s m below meth c ls hsz hno hB
  obtain ⟨hx, hb, hr, hml, hown, hin, hlk, hE, hK, hP, hD, hS, hA, hN, hl⟩ := hB
  have hown : s.vm.findClass "SeriesVault" = some m.cls := hown
  have hl : lv_has ls 8 [(0, .ref h), (1, .long a), (3, .long b), (5, .int n)] := hl
  obtain ⟨H, hH⟩ : ∃ z, z = s.heap := ⟨_, rfl⟩
  have hP : va_P D vwCl (VW dA h ad x) H := by rw [hH]; exact hP
  have hS : va_S A s.heap H [] := by rw [hH]; exact hS
  rw [← hH]
  refine lv_aload_n hx hb d_V_ask_0 rfl (lv_at hl 0 rfl) ?_
  refine jfV (rnV (As := []) (rest := []) hx hb hml hown hE hK (hN _ _ hS) hP hD (v_checkPower l D dA H.size h ad x ho) (q0 := 0) rfl rfl w278 w276 w279 w280 w277 rfl rfl ⟨⟨by decide, by decide⟩, rfl⟩ ⟨(Nat.le_of_ble_eq_true rfl), (Nat.le_of_ble_eq_true rfl)⟩ rfl hl.1 rfl (Nat.le_of_ble_eq_true rfl) d_V_ask_1 ⟨(Nat.le_of_ble_eq_true rfl), (Nat.le_of_ble_eq_true rfl)⟩) hP hD hS hA (fun u2 H locs hp9 hP hD hS => ?_)
  have hP : va_P D vwCl (VW dA h ad x) H := hP
  have hD : va_D A (VW dA h ad x) := hD
  refine lv_lload_n hx hb d_V_ask_4 rfl (lv_at hl 1 rfl) ?_
  have hPc := hP.sub (ws' := []) [] rfl
  have hDc := hD.sub (ws' := []) [] (by decide) rfl
  refine jpI (rnS (As := [.long a]) (rest := []) hx hb hml hown hE hK (hN _ _ hS) hPc hDc (v_isTime l D dA H.size a) w693 w692 w694 w277 rfl rfl ⟨⟨by decide, by decide⟩, rfl⟩ ⟨(Nat.le_of_ble_eq_true rfl), (Nat.le_of_ble_eq_true rfl)⟩ rfl hl.1 rfl (Nat.le_of_ble_eq_true rfl) d_V_ask_5 ⟨(Nat.le_of_ble_eq_true rfl), (Nat.le_of_ble_eq_true rfl)⟩) hP hD hS hA (fun r3 u9 H locs hp9 hP hD hS => ?_)
  have hP : va_P D vwCl (VW dA h ad x) H := hP
  have hD : va_D A (VW dA h ad x) := hD
  replace hp9 : bI (isTm a) = r3 := Eq.symm hp9
  subst hp9
  refine lv_if_eq hx hb d_V_ask_8 (tgt := 38) rfl (fun _ => ?_) (fun h9 => absurd (by rw [t1]; rfl) h9)
  exact xNew (E := "java/lang/IllegalArgumentException") (names := ["java/lang/RuntimeException", "java/lang/Exception"]) hx hb htr hown (by decide) (by decide) hE w273 w274 (fun U hU => at_V_IAE hU) (hN _ _ hS) (hl.1.trans hml.symm) d_V_ask_38 d_V_ask_41 d_V_ask_42 d_V_ask_45 hno (by decide) (Nat.le_of_ble_eq_true rfl) (Nat.le_of_ble_eq_true rfl) (Nat.le_of_ble_eq_true rfl) hlk (fun t h1 h2 => xEndV hP hD hS t h1 h2) hS.2.2 (Nat.le_of_ble_eq_true rfl) (Nat.le_of_ble_eq_true rfl)
set_option maxHeartbeats 4000000 in
set_option maxRecDepth 100000 in
theorem v_ask_2b (l : Launch) (htr : l.stackTraces = false) (D : va_G) (dA : Nat → ClassId) (sz : Nat) (h : Nat) (ad : Nat → Nat) (x : VS) (a : Int64) (b : Int64) (n : Int32) (ho : x.powered = true) (t1 : isTm a = true) (t0 : b < 1) : mX l ⟨"SeriesVault", "ask", "(JJI)I"⟩ [Cond.code ⟨"SeriesVault", "ask", "(JJI)I"⟩ prog_1_method_45_code 8 (some FieldType.int)] { frames := 6, cells := 1, slots := 6, locals := 81 } (pC D dA [.ref h, .long a, .long b, .int n] (VW dA h ad x) sz) "java/lang/IllegalArgumentException" (fun st9 t9 => va_F (va_A (VW dA h ad x) sz) st9 t9 ∧ bW D (va_A (VW dA h ad x) sz) (VW dA h ad x) t9) 1 6 (va_A (VW dA h ad x) sz) := by
  refine mkX (y := ⟨"SeriesVault", "ask", "(JJI)I"⟩) (cc := prog_1_method_45_code) (maxL := 8) (av := [.ref h, .long a, .long b, .int n]) (ws := VW dA h ad x) (sz := sz) (B := fun A => (fun st9 t9 => va_F A st9 t9 ∧ bW D A (VW dA h ad x) t9)) (by decide) (Nat.le_of_ble_eq_true rfl) ?_
  intro A p e s m below meth c ls hsz hno hB
  obtain ⟨hx, hb, hr, hml, hown, hin, hlk, hE, hK, hP, hD, hS, hA, hN, hl⟩ := hB
  have hown : s.vm.findClass "SeriesVault" = some m.cls := hown
  have hl : lv_has ls 8 [(0, .ref h), (1, .long a), (3, .long b), (5, .int n)] := hl
  obtain ⟨H, hH⟩ : ∃ z, z = s.heap := ⟨_, rfl⟩
  have hP : va_P D vwCl (VW dA h ad x) H := by rw [hH]; exact hP
  have hS : va_S A s.heap H [] := by rw [hH]; exact hS
  rw [← hH]
  refine lv_aload_n hx hb d_V_ask_0 rfl (lv_at hl 0 rfl) ?_
  refine jfV (rnV (As := []) (rest := []) hx hb hml hown hE hK (hN _ _ hS) hP hD (v_checkPower l D dA H.size h ad x ho) (q0 := 0) rfl rfl w278 w276 w279 w280 w277 rfl rfl ⟨⟨by decide, by decide⟩, rfl⟩ ⟨(Nat.le_of_ble_eq_true rfl), (Nat.le_of_ble_eq_true rfl)⟩ rfl hl.1 rfl (Nat.le_of_ble_eq_true rfl) d_V_ask_1 ⟨(Nat.le_of_ble_eq_true rfl), (Nat.le_of_ble_eq_true rfl)⟩) hP hD hS hA (fun u2 H locs hp9 hP hD hS => ?_)
  have hP : va_P D vwCl (VW dA h ad x) H := hP
  have hD : va_D A (VW dA h ad x) := hD
  refine lv_lload_n hx hb d_V_ask_4 rfl (lv_at hl 1 rfl) ?_
  have hPc := hP.sub (ws' := []) [] rfl
  have hDc := hD.sub (ws' := []) [] (by decide) rfl
  refine jpI (rnS (As := [.long a]) (rest := []) hx hb hml hown hE hK (hN _ _ hS) hPc hDc (v_isTime l D dA H.size a) w693 w692 w694 w277 rfl rfl ⟨⟨by decide, by decide⟩, rfl⟩ ⟨(Nat.le_of_ble_eq_true rfl), (Nat.le_of_ble_eq_true rfl)⟩ rfl hl.1 rfl (Nat.le_of_ble_eq_true rfl) d_V_ask_5 ⟨(Nat.le_of_ble_eq_true rfl), (Nat.le_of_ble_eq_true rfl)⟩) hP hD hS hA (fun r3 u9 H locs hp9 hP hD hS => ?_)
  have hP : va_P D vwCl (VW dA h ad x) H := hP
  have hD : va_D A (VW dA h ad x) := hD
  replace hp9 : bI (isTm a) = r3 := Eq.symm hp9
  subst hp9
  refine lv_if_eq hx hb d_V_ask_8 (tgt := 38) rfl (fun h9 => absurd h9 (by rw [t1]; decide)) (fun _ => ?_)
  refine lv_lload_n hx hb d_V_ask_11 rfl (lv_at hl 2 rfl) ?_
  refine lv_lconst (v := 1) hx hb d_V_ask_12 (by decide) ?_
  refine W.lcmp hx hb d_V_ask_13 ?_
  refine lv_if_lt hx hb d_V_ask_14 (tgt := 38) rfl (fun _ => ?_) (fun h9 => absurd ((lg_cmp_lt _ _).mpr t0) h9)
  exact xNew (E := "java/lang/IllegalArgumentException") (names := ["java/lang/RuntimeException", "java/lang/Exception"]) hx hb htr hown (by decide) (by decide) hE w273 w274 (fun U hU => at_V_IAE hU) (hN _ _ hS) (hl.1.trans hml.symm) d_V_ask_38 d_V_ask_41 d_V_ask_42 d_V_ask_45 hno (by decide) (Nat.le_of_ble_eq_true rfl) (Nat.le_of_ble_eq_true rfl) (Nat.le_of_ble_eq_true rfl) hlk (fun t h1 h2 => xEndV hP hD hS t h1 h2) hS.2.2 (Nat.le_of_ble_eq_true rfl) (Nat.le_of_ble_eq_true rfl)
set_option maxHeartbeats 4000000 in
set_option maxRecDepth 100000 in
theorem v_ask_2c (l : Launch) (htr : l.stackTraces = false) (D : va_G) (dA : Nat → ClassId) (sz : Nat) (h : Nat) (ad : Nat → Nat) (x : VS) (a : Int64) (b : Int64) (n : Int32) (ho : x.powered = true) (t1 : isTm a = true) (t2 : 1 ≤ b) (t0 : 1099511627775 < b) : mX l ⟨"SeriesVault", "ask", "(JJI)I"⟩ [Cond.code ⟨"SeriesVault", "ask", "(JJI)I"⟩ prog_1_method_45_code 8 (some FieldType.int)] { frames := 6, cells := 1, slots := 6, locals := 81 } (pC D dA [.ref h, .long a, .long b, .int n] (VW dA h ad x) sz) "java/lang/IllegalArgumentException" (fun st9 t9 => va_F (va_A (VW dA h ad x) sz) st9 t9 ∧ bW D (va_A (VW dA h ad x) sz) (VW dA h ad x) t9) 1 6 (va_A (VW dA h ad x) sz) := by
  refine mkX (y := ⟨"SeriesVault", "ask", "(JJI)I"⟩) (cc := prog_1_method_45_code) (maxL := 8) (av := [.ref h, .long a, .long b, .int n]) (ws := VW dA h ad x) (sz := sz) (B := fun A => (fun st9 t9 => va_F A st9 t9 ∧ bW D A (VW dA h ad x) t9)) (by decide) (Nat.le_of_ble_eq_true rfl) ?_
  intro A p e s m below meth c ls hsz hno hB
  obtain ⟨hx, hb, hr, hml, hown, hin, hlk, hE, hK, hP, hD, hS, hA, hN, hl⟩ := hB
  have hown : s.vm.findClass "SeriesVault" = some m.cls := hown
  have hl : lv_has ls 8 [(0, .ref h), (1, .long a), (3, .long b), (5, .int n)] := hl
  obtain ⟨H, hH⟩ : ∃ z, z = s.heap := ⟨_, rfl⟩
  have hP : va_P D vwCl (VW dA h ad x) H := by rw [hH]; exact hP
  have hS : va_S A s.heap H [] := by rw [hH]; exact hS
  rw [← hH]
  refine lv_aload_n hx hb d_V_ask_0 rfl (lv_at hl 0 rfl) ?_
  refine jfV (rnV (As := []) (rest := []) hx hb hml hown hE hK (hN _ _ hS) hP hD (v_checkPower l D dA H.size h ad x ho) (q0 := 0) rfl rfl w278 w276 w279 w280 w277 rfl rfl ⟨⟨by decide, by decide⟩, rfl⟩ ⟨(Nat.le_of_ble_eq_true rfl), (Nat.le_of_ble_eq_true rfl)⟩ rfl hl.1 rfl (Nat.le_of_ble_eq_true rfl) d_V_ask_1 ⟨(Nat.le_of_ble_eq_true rfl), (Nat.le_of_ble_eq_true rfl)⟩) hP hD hS hA (fun u2 H locs hp9 hP hD hS => ?_)
  have hP : va_P D vwCl (VW dA h ad x) H := hP
  have hD : va_D A (VW dA h ad x) := hD
  refine lv_lload_n hx hb d_V_ask_4 rfl (lv_at hl 1 rfl) ?_
  have hPc := hP.sub (ws' := []) [] rfl
  have hDc := hD.sub (ws' := []) [] (by decide) rfl
  refine jpI (rnS (As := [.long a]) (rest := []) hx hb hml hown hE hK (hN _ _ hS) hPc hDc (v_isTime l D dA H.size a) w693 w692 w694 w277 rfl rfl ⟨⟨by decide, by decide⟩, rfl⟩ ⟨(Nat.le_of_ble_eq_true rfl), (Nat.le_of_ble_eq_true rfl)⟩ rfl hl.1 rfl (Nat.le_of_ble_eq_true rfl) d_V_ask_5 ⟨(Nat.le_of_ble_eq_true rfl), (Nat.le_of_ble_eq_true rfl)⟩) hP hD hS hA (fun r3 u9 H locs hp9 hP hD hS => ?_)
  have hP : va_P D vwCl (VW dA h ad x) H := hP
  have hD : va_D A (VW dA h ad x) := hD
  replace hp9 : bI (isTm a) = r3 := Eq.symm hp9
  subst hp9
  refine lv_if_eq hx hb d_V_ask_8 (tgt := 38) rfl (fun h9 => absurd h9 (by rw [t1]; decide)) (fun _ => ?_)
  refine lv_lload_n hx hb d_V_ask_11 rfl (lv_at hl 2 rfl) ?_
  refine lv_lconst (v := 1) hx hb d_V_ask_12 (by decide) ?_
  refine W.lcmp hx hb d_V_ask_13 ?_
  refine lv_if_lt hx hb d_V_ask_14 (tgt := 38) rfl (fun h9 => absurd h9 (mt (lg_cmp_lt _ _).mp (Int64.not_lt.mpr t2))) (fun _ => ?_)
  refine lv_lload_n hx hb d_V_ask_17 rfl (lv_at hl 2 rfl) ?_
  refine lv_ldc2 (v := 1099511627775) hx hb hown (hE.t w653 rfl) d_V_ask_18 ?_
  refine W.lcmp hx hb d_V_ask_21 ?_
  refine lv_if_gt hx hb d_V_ask_22 (tgt := 38) rfl (fun _ => ?_) (fun h9 => absurd ((lg_cmp_gt _ _).mpr t0) h9)
  exact xNew (E := "java/lang/IllegalArgumentException") (names := ["java/lang/RuntimeException", "java/lang/Exception"]) hx hb htr hown (by decide) (by decide) hE w273 w274 (fun U hU => at_V_IAE hU) (hN _ _ hS) (hl.1.trans hml.symm) d_V_ask_38 d_V_ask_41 d_V_ask_42 d_V_ask_45 hno (by decide) (Nat.le_of_ble_eq_true rfl) (Nat.le_of_ble_eq_true rfl) (Nat.le_of_ble_eq_true rfl) hlk (fun t h1 h2 => xEndV hP hD hS t h1 h2) hS.2.2 (Nat.le_of_ble_eq_true rfl) (Nat.le_of_ble_eq_true rfl)
set_option maxHeartbeats 4000000 in
set_option maxRecDepth 100000 in
theorem v_ask_2d (l : Launch) (htr : l.stackTraces = false) (D : va_G) (dA : Nat → ClassId) (sz : Nat) (h : Nat) (ad : Nat → Nat) (x : VS) (a : Int64) (b : Int64) (n : Int32) (ho : x.powered = true) (t1 : isTm a = true) (t2 : 1 ≤ b) (t3 : b ≤ 1099511627775) (t0 : n < 1) : mX l ⟨"SeriesVault", "ask", "(JJI)I"⟩ [Cond.code ⟨"SeriesVault", "ask", "(JJI)I"⟩ prog_1_method_45_code 8 (some FieldType.int)] { frames := 6, cells := 1, slots := 6, locals := 81 } (pC D dA [.ref h, .long a, .long b, .int n] (VW dA h ad x) sz) "java/lang/IllegalArgumentException" (fun st9 t9 => va_F (va_A (VW dA h ad x) sz) st9 t9 ∧ bW D (va_A (VW dA h ad x) sz) (VW dA h ad x) t9) 1 6 (va_A (VW dA h ad x) sz) := by
  refine mkX (y := ⟨"SeriesVault", "ask", "(JJI)I"⟩) (cc := prog_1_method_45_code) (maxL := 8) (av := [.ref h, .long a, .long b, .int n]) (ws := VW dA h ad x) (sz := sz) (B := fun A => (fun st9 t9 => va_F A st9 t9 ∧ bW D A (VW dA h ad x) t9)) (by decide) (Nat.le_of_ble_eq_true rfl) ?_
  intro A p e s m below meth c ls hsz hno hB
  obtain ⟨hx, hb, hr, hml, hown, hin, hlk, hE, hK, hP, hD, hS, hA, hN, hl⟩ := hB
  have hown : s.vm.findClass "SeriesVault" = some m.cls := hown
  have hl : lv_has ls 8 [(0, .ref h), (1, .long a), (3, .long b), (5, .int n)] := hl
  obtain ⟨H, hH⟩ : ∃ z, z = s.heap := ⟨_, rfl⟩
  have hP : va_P D vwCl (VW dA h ad x) H := by rw [hH]; exact hP
  have hS : va_S A s.heap H [] := by rw [hH]; exact hS
  rw [← hH]
  refine lv_aload_n hx hb d_V_ask_0 rfl (lv_at hl 0 rfl) ?_
  refine jfV (rnV (As := []) (rest := []) hx hb hml hown hE hK (hN _ _ hS) hP hD (v_checkPower l D dA H.size h ad x ho) (q0 := 0) rfl rfl w278 w276 w279 w280 w277 rfl rfl ⟨⟨by decide, by decide⟩, rfl⟩ ⟨(Nat.le_of_ble_eq_true rfl), (Nat.le_of_ble_eq_true rfl)⟩ rfl hl.1 rfl (Nat.le_of_ble_eq_true rfl) d_V_ask_1 ⟨(Nat.le_of_ble_eq_true rfl), (Nat.le_of_ble_eq_true rfl)⟩) hP hD hS hA (fun u2 H locs hp9 hP hD hS => ?_)
  have hP : va_P D vwCl (VW dA h ad x) H := hP
  have hD : va_D A (VW dA h ad x) := hD
  refine lv_lload_n hx hb d_V_ask_4 rfl (lv_at hl 1 rfl) ?_
  have hPc := hP.sub (ws' := []) [] rfl
  have hDc := hD.sub (ws' := []) [] (by decide) rfl
  refine jpI (rnS (As := [.long a]) (rest := []) hx hb hml hown hE hK (hN _ _ hS) hPc hDc (v_isTime l D dA H.size a) w693 w692 w694 w277 rfl rfl ⟨⟨by decide, by decide⟩, rfl⟩ ⟨(Nat.le_of_ble_eq_true rfl), (Nat.le_of_ble_eq_true rfl)⟩ rfl hl.1 rfl (Nat.le_of_ble_eq_true rfl) d_V_ask_5 ⟨(Nat.le_of_ble_eq_true rfl), (Nat.le_of_ble_eq_true rfl)⟩) hP hD hS hA (fun r3 u9 H locs hp9 hP hD hS => ?_)
  have hP : va_P D vwCl (VW dA h ad x) H := hP
  have hD : va_D A (VW dA h ad x) := hD
  replace hp9 : bI (isTm a) = r3 := Eq.symm hp9
  subst hp9
  refine lv_if_eq hx hb d_V_ask_8 (tgt := 38) rfl (fun h9 => absurd h9 (by rw [t1]; decide)) (fun _ => ?_)
  refine lv_lload_n hx hb d_V_ask_11 rfl (lv_at hl 2 rfl) ?_
  refine lv_lconst (v := 1) hx hb d_V_ask_12 (by decide) ?_
  refine W.lcmp hx hb d_V_ask_13 ?_
  refine lv_if_lt hx hb d_V_ask_14 (tgt := 38) rfl (fun h9 => absurd h9 (mt (lg_cmp_lt _ _).mp (Int64.not_lt.mpr t2))) (fun _ => ?_)
  refine lv_lload_n hx hb d_V_ask_17 rfl (lv_at hl 2 rfl) ?_
  refine lv_ldc2 (v := 1099511627775) hx hb hown (hE.t w653 rfl) d_V_ask_18 ?_
  refine W.lcmp hx hb d_V_ask_21 ?_
  refine lv_if_gt hx hb d_V_ask_22 (tgt := 38) rfl (fun h9 => absurd h9 (mt (lg_cmp_gt _ _).mp (Int64.not_lt.mpr t3))) (fun _ => ?_)
  refine lv_iload hx hb d_V_ask_25 (lv_at hl 3 rfl) ?_
  refine lv_iconst (v := 1) hx hb d_V_ask_27 (by decide) ?_
  refine lv_icmp_lt hx hb d_V_ask_28 (tgt := 38) rfl (fun _ => ?_) (fun h9 => absurd t0 h9)
  exact xNew (E := "java/lang/IllegalArgumentException") (names := ["java/lang/RuntimeException", "java/lang/Exception"]) hx hb htr hown (by decide) (by decide) hE w273 w274 (fun U hU => at_V_IAE hU) (hN _ _ hS) (hl.1.trans hml.symm) d_V_ask_38 d_V_ask_41 d_V_ask_42 d_V_ask_45 hno (by decide) (Nat.le_of_ble_eq_true rfl) (Nat.le_of_ble_eq_true rfl) (Nat.le_of_ble_eq_true rfl) hlk (fun t h1 h2 => xEndV hP hD hS t h1 h2) hS.2.2 (Nat.le_of_ble_eq_true rfl) (Nat.le_of_ble_eq_true rfl)
set_option maxHeartbeats 4000000 in
set_option maxRecDepth 100000 in
theorem v_ask_2e (l : Launch) (htr : l.stackTraces = false) (D : va_G) (dA : Nat → ClassId) (sz : Nat) (h : Nat) (ad : Nat → Nat) (x : VS) (a : Int64) (b : Int64) (n : Int32) (ho : x.powered = true) (t1 : isTm a = true) (t2 : 1 ≤ b) (t3 : b ≤ 1099511627775) (t4 : 1 ≤ n) (t0 : 64 < n) : mX l ⟨"SeriesVault", "ask", "(JJI)I"⟩ [Cond.code ⟨"SeriesVault", "ask", "(JJI)I"⟩ prog_1_method_45_code 8 (some FieldType.int)] { frames := 6, cells := 1, slots := 6, locals := 81 } (pC D dA [.ref h, .long a, .long b, .int n] (VW dA h ad x) sz) "java/lang/IllegalArgumentException" (fun st9 t9 => va_F (va_A (VW dA h ad x) sz) st9 t9 ∧ bW D (va_A (VW dA h ad x) sz) (VW dA h ad x) t9) 1 6 (va_A (VW dA h ad x) sz) := by
  refine mkX (y := ⟨"SeriesVault", "ask", "(JJI)I"⟩) (cc := prog_1_method_45_code) (maxL := 8) (av := [.ref h, .long a, .long b, .int n]) (ws := VW dA h ad x) (sz := sz) (B := fun A => (fun st9 t9 => va_F A st9 t9 ∧ bW D A (VW dA h ad x) t9)) (by decide) (Nat.le_of_ble_eq_true rfl) ?_
  intro A p e s m below meth c ls hsz hno hB
  obtain ⟨hx, hb, hr, hml, hown, hin, hlk, hE, hK, hP, hD, hS, hA, hN, hl⟩ := hB
  have hown : s.vm.findClass "SeriesVault" = some m.cls := hown
  have hl : lv_has ls 8 [(0, .ref h), (1, .long a), (3, .long b), (5, .int n)] := hl
  obtain ⟨H, hH⟩ : ∃ z, z = s.heap := ⟨_, rfl⟩
  have hP : va_P D vwCl (VW dA h ad x) H := by rw [hH]; exact hP
  have hS : va_S A s.heap H [] := by rw [hH]; exact hS
  rw [← hH]
  refine lv_aload_n hx hb d_V_ask_0 rfl (lv_at hl 0 rfl) ?_
  refine jfV (rnV (As := []) (rest := []) hx hb hml hown hE hK (hN _ _ hS) hP hD (v_checkPower l D dA H.size h ad x ho) (q0 := 0) rfl rfl w278 w276 w279 w280 w277 rfl rfl ⟨⟨by decide, by decide⟩, rfl⟩ ⟨(Nat.le_of_ble_eq_true rfl), (Nat.le_of_ble_eq_true rfl)⟩ rfl hl.1 rfl (Nat.le_of_ble_eq_true rfl) d_V_ask_1 ⟨(Nat.le_of_ble_eq_true rfl), (Nat.le_of_ble_eq_true rfl)⟩) hP hD hS hA (fun u2 H locs hp9 hP hD hS => ?_)
  have hP : va_P D vwCl (VW dA h ad x) H := hP
  have hD : va_D A (VW dA h ad x) := hD
  refine lv_lload_n hx hb d_V_ask_4 rfl (lv_at hl 1 rfl) ?_
  have hPc := hP.sub (ws' := []) [] rfl
  have hDc := hD.sub (ws' := []) [] (by decide) rfl
  refine jpI (rnS (As := [.long a]) (rest := []) hx hb hml hown hE hK (hN _ _ hS) hPc hDc (v_isTime l D dA H.size a) w693 w692 w694 w277 rfl rfl ⟨⟨by decide, by decide⟩, rfl⟩ ⟨(Nat.le_of_ble_eq_true rfl), (Nat.le_of_ble_eq_true rfl)⟩ rfl hl.1 rfl (Nat.le_of_ble_eq_true rfl) d_V_ask_5 ⟨(Nat.le_of_ble_eq_true rfl), (Nat.le_of_ble_eq_true rfl)⟩) hP hD hS hA (fun r3 u9 H locs hp9 hP hD hS => ?_)
  have hP : va_P D vwCl (VW dA h ad x) H := hP
  have hD : va_D A (VW dA h ad x) := hD
  replace hp9 : bI (isTm a) = r3 := Eq.symm hp9
  subst hp9
  refine lv_if_eq hx hb d_V_ask_8 (tgt := 38) rfl (fun h9 => absurd h9 (by rw [t1]; decide)) (fun _ => ?_)
  refine lv_lload_n hx hb d_V_ask_11 rfl (lv_at hl 2 rfl) ?_
  refine lv_lconst (v := 1) hx hb d_V_ask_12 (by decide) ?_
  refine W.lcmp hx hb d_V_ask_13 ?_
  refine lv_if_lt hx hb d_V_ask_14 (tgt := 38) rfl (fun h9 => absurd h9 (mt (lg_cmp_lt _ _).mp (Int64.not_lt.mpr t2))) (fun _ => ?_)
  refine lv_lload_n hx hb d_V_ask_17 rfl (lv_at hl 2 rfl) ?_
  refine lv_ldc2 (v := 1099511627775) hx hb hown (hE.t w653 rfl) d_V_ask_18 ?_
  refine W.lcmp hx hb d_V_ask_21 ?_
  refine lv_if_gt hx hb d_V_ask_22 (tgt := 38) rfl (fun h9 => absurd h9 (mt (lg_cmp_gt _ _).mp (Int64.not_lt.mpr t3))) (fun _ => ?_)
  refine lv_iload hx hb d_V_ask_25 (lv_at hl 3 rfl) ?_
  refine lv_iconst (v := 1) hx hb d_V_ask_27 (by decide) ?_
  refine lv_icmp_lt hx hb d_V_ask_28 (tgt := 38) rfl (fun h9 => absurd h9 (Int32.not_lt.mpr t4)) (fun _ => ?_)
  refine lv_iload hx hb d_V_ask_31 (lv_at hl 3 rfl) ?_
  refine lv_bipush (v := 64) hx hb d_V_ask_33 (by decide) ?_
  refine lv_icmp_le hx hb d_V_ask_35 (tgt := 46) rfl (fun h9 => absurd h9 (Int32.not_le.mpr t0)) (fun _ => ?_)
  exact xNew (E := "java/lang/IllegalArgumentException") (names := ["java/lang/RuntimeException", "java/lang/Exception"]) hx hb htr hown (by decide) (by decide) hE w273 w274 (fun U hU => at_V_IAE hU) (hN _ _ hS) (hl.1.trans hml.symm) d_V_ask_38 d_V_ask_41 d_V_ask_42 d_V_ask_45 hno (by decide) (Nat.le_of_ble_eq_true rfl) (Nat.le_of_ble_eq_true rfl) (Nat.le_of_ble_eq_true rfl) hlk (fun t h1 h2 => xEndV hP hD hS t h1 h2) hS.2.2 (Nat.le_of_ble_eq_true rfl) (Nat.le_of_ble_eq_true rfl)
theorem d_V_parcel_101 : decode prog_1_method_44_code 101 = .ok (.new 89, 3) := by decide +kernel
theorem d_V_parcel_104 : decode prog_1_method_44_code 104 = .ok (.dup, 1) := by decide +kernel
theorem d_V_parcel_105 : decode prog_1_method_44_code 105 = .ok (.invokespecial 91, 3) := by decide +kernel
theorem d_V_parcel_108 : decode prog_1_method_44_code 108 = .ok (.athrow, 1) := by decide +kernel
set_option maxHeartbeats 4000000 in
set_option maxRecDepth 100000 in
theorem v_parcel_z (l : Launch) (htr : l.stackTraces = false) (D : va_G) (dA : Nat → ClassId) (sz : Nat) (h : Nat) (ad : Nat → Nat) (x : VS) (PS : Nat → PT) (k : Nat) (j : Int32) (ho : x.powered = true) (hk : k < x.npc) (hps : psOk dA x.nP x.npc x.pl PS) (hpn : x.npc ≤ 32) (h0 : j < 0 ∨ 4 < j) : mX l ⟨"SeriesVault", "parcel", "(II)I"⟩ [Cond.code ⟨"SeriesVault", "parcel", "(II)I"⟩ prog_1_method_44_code 4 (some FieldType.int)] { frames := 6, cells := 1, slots := 6, locals := 81 } (pC D dA [.ref h, .int (nI k), .int j] (VW dA h ad x) sz) "java/lang/IllegalArgumentException" (fun st9 t9 => va_F (va_A (VW dA h ad x) sz) st9 t9 ∧ ∃ u9 : Unit, (True) ∧ bW D (va_A (VW dA h ad x) sz) (VW dA h ad x) t9) 1 6 (va_A (VW dA h ad x) sz) := by
  refine mkX (y := ⟨"SeriesVault", "parcel", "(II)I"⟩) (cc := prog_1_method_44_code) (maxL := 4) (av := [.ref h, .int (nI k), .int j]) (ws := VW dA h ad x) (sz := sz) (B := fun A => (fun st9 t9 => va_F A st9 t9 ∧ ∃ u9 : Unit, (True) ∧ bW D A (VW dA h ad x) t9)) (by decide) (Nat.le_of_ble_eq_true rfl) ?_
  intro A p e s m below meth c ls hsz hno hB
  obtain ⟨hx, hb, hr, hml, hown, hin, hlk, hE, hK, hP, hD, hS, hA, hN, hl⟩ := hB
  have hown : s.vm.findClass "SeriesVault" = some m.cls := hown
  have hl : lv_has ls 4 [(0, .ref h), (1, .int (nI k)), (2, .int j)] := hl
  obtain ⟨H, hH⟩ : ∃ z, z = s.heap := ⟨_, rfl⟩
  have hP : va_P D vwCl (VW dA h ad x) H := by rw [hH]; exact hP
  have hS : va_S A s.heap H [] := by rw [hH]; exact hS
  rw [← hH]
  refine lv_aload_n hx hb d_V_parcel_0 rfl (lv_at hl 0 rfl) ?_
  refine jkV (wr := []) (rnV (As := []) (rest := []) hx hb hml hown hE hK (hN _ _ hS) hP hD (v_checkPower l D dA H.size h ad x ho) (q0 := 0) rfl rfl w278 w276 w279 w280 w277 rfl rfl ⟨⟨by decide, by decide⟩, rfl⟩ ⟨(Nat.le_of_ble_eq_true rfl), (Nat.le_of_ble_eq_true rfl)⟩ rfl hl.1 rfl (Nat.le_of_ble_eq_true rfl) d_V_parcel_1 ⟨(show 0 + 0 ≤ 1 by omega), (show 0 + 0 ≤ 6 by omega)⟩) hP hD hS hA (fun u2 H locs hp9 hP hD hS => ?_)
  have hP : va_P D vwCl (VW dA h ad x) H := hP
  have hD : va_D A (VW dA h ad x) := hD
  refine lv_iload_n hx hb d_V_parcel_4 rfl (lv_at hl 1 rfl) ?_
  refine lv_if_lt hx hb d_V_parcel_5 (tgt := 19) rfl (fun h9 => absurd h9 (nI_pos (n := k) (by omega))) (fun _ => ?_)
  refine lv_iload_n hx hb d_V_parcel_8 rfl (lv_at hl 1 rfl) ?_
  refine lv_aload_n hx hb d_V_parcel_9 rfl (lv_at hl 0 rfl) ?_
  refine gF (v := .ref (ad 3)) hx hb hown hE hK hP 0 rfl rfl layV 11 (by decide) w297 rfl d_V_parcel_10 ?_
  refine gFN (v := .int (nI x.npc)) hx hb hown hE hK hP 17 rfl rfl layH 1 (by decide) w303 rfl d_V_parcel_13 ?_
  refine lv_icmp_lt hx hb d_V_parcel_16 (tgt := 27) rfl (fun _ => ?_) (fun h9 => absurd ((nI_ltI (a := k) (b := x.npc) (by omega) (by omega)).mpr hk) h9)
  obtain ⟨pp, ke, hpp, hpk⟩ := hps k (by omega)
  have hpp0 := hpp
  obtain ⟨po, pt, pv, m1, m2, m3, m4⟩ := hpp
  have pk1 := hpk.1
  refine lv_aload_n hx hb d_V_parcel_27 rfl (lv_at hl 0 rfl) ?_
  refine gF (v := .ref (ad 3)) hx hb hown hE hK hP 0 rfl rfl layV 11 (by decide) w297 rfl d_V_parcel_28 ?_
  refine gFN (v := .ref (ad 4)) hx hb hown hE hK hP 17 rfl rfl layH 0 (by decide) w1347 rfl d_V_parcel_31 ?_
  refine lv_iload_n hx hb d_V_parcel_34 rfl (lv_at hl 1 rfl) ?_
  refine nqld (f := x.nP) (n := 32) hx hb hK hP (18) 4 rfl rfl (k) (by omega) (by decide) ke d_V_parcel_35 ?_
  refine lv_astore_n hx hb d_V_parcel_36 rfl hl (by decide) rfl (fun ls hl => ?_)
  have hl : lv_has ls 4 [(3, .ref pp), (0, .ref h), (1, .int (nI k)), (2, .int j)] := hl
  refine lv_iload_n hx hb d_V_parcel_37 rfl (lv_at hl 3 rfl) ?_
  refine lv_tableOut (tgt := 101) hx hb d_V_parcel_38 (tsw (k := 4) (by decide) h0) rfl ?_
  exact xNew (E := "java/lang/IllegalArgumentException") (names := ["java/lang/RuntimeException", "java/lang/Exception"]) hx hb htr hown (by decide) (by decide) hE w273 w274 (fun U hU => at_V_IAE hU) (hN _ _ hS) (hl.1.trans hml.symm) d_V_parcel_101 d_V_parcel_104 d_V_parcel_105 d_V_parcel_108 hno (by decide) (Nat.le_of_ble_eq_true rfl) (show 0 + 0 + 1 ≤ 1 by omega) (show 0 + 0 + 6 ≤ 6 by omega) hlk (fun t h1 h2 => xkE () trivial hP hD hS t h1 h2) hS.2.2 (show 0 + 0 + 1 ≤ 1 by omega) (show 0 + 0 + 6 ≤ 6 by omega)
