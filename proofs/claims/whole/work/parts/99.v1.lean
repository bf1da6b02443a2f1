def maxL (a b : Int64) : Int64 := if b < a then a else b
def minL (a b : Int64) : Int64 := if b < a then b else a
set_option maxHeartbeats 4000000 in
set_option maxRecDepth 100000 in
theorem v_written (l : Launch) (D : va_G) (dA : Nat → ClassId) (sz : Nat) (h : Nat) (ad : Nat → Nat) (x : VS) : Met l ⟨"SeriesVault", "written", "()I"⟩ [Cond.code ⟨"SeriesVault", "written", "()I"⟩ prog_1_method_10_code 1 (some FieldType.int)] { frames := 1, cells := 0, slots := 0, locals := 0 } (pC D dA [.ref h] (VW dA h ad x) sz) (va_Qi (fun (r9 : Int32) (u9 : Unit) => r9 = nI x.writes) (fun (u9 : Unit) t9 => bW D (va_A (VW dA h ad x) sz) (VW dA h ad x) t9) (va_A (VW dA h ad x) sz)) 0 0 (va_A (VW dA h ad x) sz) := by
  refine mkC (y := ⟨"SeriesVault", "written", "()I"⟩) (cc := prog_1_method_10_code) (maxL := 1) (av := [.ref h]) (ws := VW dA h ad x) (sz := sz) (Qc := fun A => va_Qi (fun (r9 : Int32) (u9 : Unit) => r9 = nI x.writes) (fun (u9 : Unit) t9 => bW D A (VW dA h ad x) t9) A) (by decide) (Nat.le_of_ble_eq_true rfl) ?_
  intro A p e s m below meth c ls hsz hB
  obtain ⟨hx, hb, hr, hml, hown, hin, hlk, hE, hK, hP, hD, hS, hA, hN, hl⟩ := hB
  have hown : s.vm.findClass "SeriesVault" = some m.cls := hown
  have hl : lv_has ls 1 [(0, .ref h)] := hl
  obtain ⟨H, hH⟩ : ∃ z, z = s.heap := ⟨_, rfl⟩
  have hP : va_P D vwCl (VW dA h ad x) H := by rw [hH]; exact hP
  have hS : va_S A s.heap H [] := by rw [hH]; exact hS
  rw [← hH]
  refine lv_aload_n hx hb d_V_written_0 rfl (lv_at hl 0 rfl) ?_
  refine gF (v := .int (nI x.writes)) hx hb hown hE hK hP 0 rfl rfl layV 7 (by decide) w209 rfl d_V_written_1 ?_
  exact rfI hx hb hr hlk hS () rfl hP hD (Nat.le_of_ble_eq_true rfl) (Nat.le_of_ble_eq_true rfl) d_V_written_4
set_option maxHeartbeats 4000000 in
set_option maxRecDepth 100000 in
theorem v_setFault (l : Launch) (D : va_G) (dA : Nat → ClassId) (sz : Nat) (h : Nat) (ad : Nat → Nat) (x : VS) (a : Int32) (b : Int32) : Met l ⟨"SeriesVault", "setFault", "(II)V"⟩ [Cond.code ⟨"SeriesVault", "setFault", "(II)V"⟩ prog_1_method_7_code 3 none] { frames := 1, cells := 0, slots := 0, locals := 0 } (pC D dA [.ref h, .int a, .int b] (VW dA h ad x) sz) (va_Qv (fun (u9 : Unit) => True) (fun (u9 : Unit) t9 => bW D (va_A (VW dA h ad x) sz) (VW dA h ad (VS.s_faultPlace (VS.s_faultCode x a) b)) t9) (va_A (VW dA h ad x) sz)) 0 0 (va_A (VW dA h ad x) sz) := by
  refine mkC (y := ⟨"SeriesVault", "setFault", "(II)V"⟩) (cc := prog_1_method_7_code) (maxL := 3) (av := [.ref h, .int a, .int b]) (ws := VW dA h ad x) (sz := sz) (Qc := fun A => va_Qv (fun (u9 : Unit) => True) (fun (u9 : Unit) t9 => bW D A (VW dA h ad (VS.s_faultPlace (VS.s_faultCode x a) b)) t9) A) (by decide) (Nat.le_of_ble_eq_true rfl) ?_
  intro A p e s m below meth c ls hsz hB
  obtain ⟨hx, hb, hr, hml, hown, hin, hlk, hE, hK, hP, hD, hS, hA, hN, hl⟩ := hB
  have hown : s.vm.findClass "SeriesVault" = some m.cls := hown
  have hl : lv_has ls 3 [(0, .ref h), (1, .int a), (2, .int b)] := hl
  obtain ⟨H, hH⟩ : ∃ z, z = s.heap := ⟨_, rfl⟩
  have hP : va_P D vwCl (VW dA h ad x) H := by rw [hH]; exact hP
  have hS : va_S A s.heap H [] := by rw [hH]; exact hS
  rw [← hH]
  refine lv_aload_n hx hb d_V_setFault_0 rfl (lv_at hl 0 rfl) ?_
  refine lv_iload_n hx hb d_V_setFault_1 rfl (lv_at hl 1 rfl) ?_
  refine pF (v := .int a) hx hb hown hE hK hP hD hS 0 rfl rfl layV tyV tokV nmV 2 (by decide) w211 rfl rfl rfl (Nat.le_of_ble_eq_true rfl) d_V_setFault_2 (fun H locs hP hD hS => ?_)
  have hP : va_P D vwCl (VW dA h ad (VS.s_faultCode x a)) H := hP
  have hD : va_D A (VW dA h ad (VS.s_faultCode x a)) := hD
  refine lv_aload_n hx hb d_V_setFault_5 rfl (lv_at hl 0 rfl) ?_
  refine lv_iload_n hx hb d_V_setFault_6 rfl (lv_at hl 2 rfl) ?_
  refine pF (v := .int b) hx hb hown hE hK hP hD hS 0 rfl rfl layV tyV tokV nmV 3 (by decide) w212 rfl rfl rfl (Nat.le_of_ble_eq_true rfl) d_V_setFault_7 (fun H locs hP hD hS => ?_)
  have hP : va_P D vwCl (VW dA h ad (VS.s_faultPlace (VS.s_faultCode x a) b)) H := hP
  have hD : va_D A (VW dA h ad (VS.s_faultPlace (VS.s_faultCode x a) b)) := hD
  exact rfV hx hb hr hlk hS () trivial hP hD (Nat.le_of_ble_eq_true rfl) (Nat.le_of_ble_eq_true rfl) d_V_setFault_10
def isTm (a : Int64) : Bool := !decide (a < 0) && !decide (1099511627775 < a)
set_option maxHeartbeats 4000000 in
set_option maxRecDepth 100000 in
theorem v_isTime (l : Launch) (D : va_G) (dA : Nat → ClassId) (sz : Nat) (a : Int64) : Met l ⟨"SeriesVault", "isTime", "(J)Z"⟩ [Cond.code ⟨"SeriesVault", "isTime", "(J)Z"⟩ prog_1_method_30_code 2 (some FieldType.boolean)] { frames := 1, cells := 0, slots := 0, locals := 0 } (pC D dA [.long a] ([]) sz) (va_Qi (fun (r9 : Int32) (u9 : Unit) => r9 = bI (isTm a)) (fun (u9 : Unit) t9 => bW D (va_A ([]) sz) ([]) t9) (va_A ([]) sz)) 0 0 (va_A ([]) sz) := by
  refine mkC (y := ⟨"SeriesVault", "isTime", "(J)Z"⟩) (cc := prog_1_method_30_code) (maxL := 2) (av := [.long a]) (ws := []) (sz := sz) (Qc := fun A => va_Qi (fun (r9 : Int32) (u9 : Unit) => r9 = bI (isTm a)) (fun (u9 : Unit) t9 => bW D A ([]) t9) A) (by decide) (Nat.le_of_ble_eq_true rfl) ?_
  intro A p e s m below meth c ls hsz hB
  obtain ⟨hx, hb, hr, hml, hown, hin, hlk, hE, hK, hP, hD, hS, hA, hN, hl⟩ := hB
  have hown : s.vm.findClass "SeriesVault" = some m.cls := hown
  have hl : lv_has ls 2 [(0, .long a)] := hl
  obtain ⟨H, hH⟩ : ∃ z, z = s.heap := ⟨_, rfl⟩
  have hP : va_P D vwCl ([]) H := by rw [hH]; exact hP
  have hS : va_S A s.heap H [] := by rw [hH]; exact hS
  rw [← hH]
  refine lv_lload_n hx hb d_V_isTime_0 rfl (lv_at hl 0 rfl) ?_
  refine lv_lconst (v := 0) hx hb d_V_isTime_1 (by decide) ?_
  refine W.lcmp hx hb d_V_isTime_2 ?_
  refine lv_if_lt hx hb d_V_isTime_3 (tgt := 18) rfl (fun g1 => ?_) (fun g1 => ?_)
  · have g1 := (lg_cmp_lt _ _).mp g1
    refine lv_iconst (v := 0) hx hb d_V_isTime_18 (by decide) ?_
    exact rfZ hx hb hr (bI_nar false) hlk hS () (by simp [isTm, bI, *]) hP hD (Nat.le_of_ble_eq_true rfl) (Nat.le_of_ble_eq_true rfl) d_V_isTime_19
  · have g1 := mt (lg_cmp_lt _ _).mpr g1
    refine lv_lload_n hx hb d_V_isTime_6 rfl (lv_at hl 0 rfl) ?_
    refine lv_ldc2 (v := 1099511627775) hx hb hown (hE.t w653 rfl) d_V_isTime_7 ?_
    refine W.lcmp hx hb d_V_isTime_10 ?_
    refine lv_if_gt hx hb d_V_isTime_11 (tgt := 18) rfl (fun g2 => ?_) (fun g2 => ?_)
    · have g2 := (lg_cmp_gt _ _).mp g2
      refine lv_iconst (v := 0) hx hb d_V_isTime_18 (by decide) ?_
      exact rfZ hx hb hr (bI_nar false) hlk hS () (by simp [isTm, bI, *]) hP hD (Nat.le_of_ble_eq_true rfl) (Nat.le_of_ble_eq_true rfl) d_V_isTime_19
    · have g2 := mt (lg_cmp_gt _ _).mpr g2
      refine lv_iconst (v := 1) hx hb d_V_isTime_14 (by decide) ?_
      refine lv_goto hx hb d_V_isTime_15 (tgt := 19) rfl ?_
      exact rfZ hx hb hr (bI_nar true) hlk hS () (by simp [isTm, bI, *]) hP hD (Nat.le_of_ble_eq_true rfl) (Nat.le_of_ble_eq_true rfl) d_V_isTime_19
set_option maxHeartbeats 4000000 in
set_option maxRecDepth 100000 in
theorem v_fault_0 (l : Launch) (D : va_G) (dA : Nat → ClassId) (sz : Nat) (h : Nat) (ad : Nat → Nat) (x : VS) : Met l ⟨"SeriesVault", "fault", "(I)I"⟩ [Cond.code ⟨"SeriesVault", "fault", "(I)I"⟩ prog_1_method_6_code 2 (some FieldType.int)] { frames := 1, cells := 0, slots := 0, locals := 0 } (pC D dA [.ref h, .int 0] (VW dA h ad x) sz) (va_Qi (fun (r9 : Int32) (u9 : Unit) => r9 = x.faultCode) (fun (u9 : Unit) t9 => bW D (va_A (VW dA h ad x) sz) (VW dA h ad x) t9) (va_A (VW dA h ad x) sz)) 0 0 (va_A (VW dA h ad x) sz) := by
  refine mkC (y := ⟨"SeriesVault", "fault", "(I)I"⟩) (cc := prog_1_method_6_code) (maxL := 2) (av := [.ref h, .int 0]) (ws := VW dA h ad x) (sz := sz) (Qc := fun A => va_Qi (fun (r9 : Int32) (u9 : Unit) => r9 = x.faultCode) (fun (u9 : Unit) t9 => bW D A (VW dA h ad x) t9) A) (by decide) (Nat.le_of_ble_eq_true rfl) ?_
  intro A p e s m below meth c ls hsz hB
  obtain ⟨hx, hb, hr, hml, hown, hin, hlk, hE, hK, hP, hD, hS, hA, hN, hl⟩ := hB
  have hown : s.vm.findClass "SeriesVault" = some m.cls := hown
  have hl : lv_has ls 2 [(0, .ref h), (1, .int 0)] := hl
  obtain ⟨H, hH⟩ : ∃ z, z = s.heap := ⟨_, rfl⟩
  have hP : va_P D vwCl (VW dA h ad x) H := by rw [hH]; exact hP
  have hS : va_S A s.heap H [] := by rw [hH]; exact hS
  rw [← hH]
  refine lv_iload_n hx hb d_V_fault_0 rfl (lv_at hl 1 rfl) ?_
  refine lv_if_lt hx hb d_V_fault_1 (tgt := 9) rfl (fun h9 => absurd h9 (by decide)) (fun _ => ?_)
  refine lv_iload_n hx hb d_V_fault_4 rfl (lv_at hl 1 rfl) ?_
  refine lv_iconst (v := 1) hx hb d_V_fault_5 (by decide) ?_
  refine lv_icmp_le hx hb d_V_fault_6 (tgt := 17) rfl (fun _ => ?_) (fun h9 => absurd (by decide) h9)
  refine lv_iload_n hx hb d_V_fault_17 rfl (lv_at hl 1 rfl) ?_
  refine lv_if_ne hx hb d_V_fault_18 (tgt := 28) rfl (fun h9 => absurd (by decide) h9) (fun _ => ?_)
  refine lv_aload_n hx hb d_V_fault_21 rfl (lv_at hl 0 rfl) ?_
  refine gF (v := .int x.faultCode) hx hb hown hE hK hP 0 rfl rfl layV 2 (by decide) w211 rfl d_V_fault_22 ?_
  refine lv_goto hx hb d_V_fault_25 (tgt := 32) rfl ?_
  exact rfI hx hb hr hlk hS () rfl hP hD (Nat.le_of_ble_eq_true rfl) (Nat.le_of_ble_eq_true rfl) d_V_fault_32
set_option maxHeartbeats 4000000 in
set_option maxRecDepth 100000 in
theorem v_fault_1 (l : Launch) (D : va_G) (dA : Nat → ClassId) (sz : Nat) (h : Nat) (ad : Nat → Nat) (x : VS) : Met l ⟨"SeriesVault", "fault", "(I)I"⟩ [Cond.code ⟨"SeriesVault", "fault", "(I)I"⟩ prog_1_method_6_code 2 (some FieldType.int)] { frames := 1, cells := 0, slots := 0, locals := 0 } (pC D dA [.ref h, .int 1] (VW dA h ad x) sz) (va_Qi (fun (r9 : Int32) (u9 : Unit) => r9 = x.faultPlace) (fun (u9 : Unit) t9 => bW D (va_A (VW dA h ad x) sz) (VW dA h ad x) t9) (va_A (VW dA h ad x) sz)) 0 0 (va_A (VW dA h ad x) sz) := by
  refine mkC (y := ⟨"SeriesVault", "fault", "(I)I"⟩) (cc := prog_1_method_6_code) (maxL := 2) (av := [.ref h, .int 1]) (ws := VW dA h ad x) (sz := sz) (Qc := fun A => va_Qi (fun (r9 : Int32) (u9 : Unit) => r9 = x.faultPlace) (fun (u9 : Unit) t9 => bW D A (VW dA h ad x) t9) A) (by decide) (Nat.le_of_ble_eq_true rfl) ?_
  intro A p e s m below meth c ls hsz hB
  obtain ⟨hx, hb, hr, hml, hown, hin, hlk, hE, hK, hP, hD, hS, hA, hN, hl⟩ := hB
  have hown : s.vm.findClass "SeriesVault" = some m.cls := hown
  have hl : lv_has ls 2 [(0, .ref h), (1, .int 1)] := hl
  obtain ⟨H, hH⟩ : ∃ z, z = s.heap := ⟨_, rfl⟩
  have hP : va_P D vwCl (VW dA h ad x) H := by rw [hH]; exact hP
  have hS : va_S A s.heap H [] := by rw [hH]; exact hS
  rw [← hH]
  refine lv_iload_n hx hb d_V_fault_0 rfl (lv_at hl 1 rfl) ?_
  refine lv_if_lt hx hb d_V_fault_1 (tgt := 9) rfl (fun h9 => absurd h9 (by decide)) (fun _ => ?_)
  refine lv_iload_n hx hb d_V_fault_4 rfl (lv_at hl 1 rfl) ?_
  refine lv_iconst (v := 1) hx hb d_V_fault_5 (by decide) ?_
  refine lv_icmp_le hx hb d_V_fault_6 (tgt := 17) rfl (fun _ => ?_) (fun h9 => absurd (by decide) h9)
  refine lv_iload_n hx hb d_V_fault_17 rfl (lv_at hl 1 rfl) ?_
  refine lv_if_ne hx hb d_V_fault_18 (tgt := 28) rfl (fun _ => ?_) (fun h9 => absurd h9 (by decide))
  refine lv_aload_n hx hb d_V_fault_28 rfl (lv_at hl 0 rfl) ?_
  refine gF (v := .int x.faultPlace) hx hb hown hE hK hP 0 rfl rfl layV 3 (by decide) w212 rfl d_V_fault_29 ?_
  exact rfI hx hb hr hlk hS () rfl hP hD (Nat.le_of_ble_eq_true rfl) (Nat.le_of_ble_eq_true rfl) d_V_fault_32
set_option maxHeartbeats 4000000 in
set_option maxRecDepth 100000 in
theorem v_end (l : Launch) (D : va_G) (dA : Nat → ClassId) (sz : Nat) (h : Nat) (ad : Nat → Nat) (x : VS) (j : Nat) (h1 : j ≤ x.tapeLength) (h2 : x.tapeLength ≤ 65536) : Met l ⟨"SeriesVault", "end", "(I)V"⟩ [Cond.code ⟨"SeriesVault", "end", "(I)V"⟩ prog_1_method_4_code 2 none] { frames := 1, cells := 0, slots := 0, locals := 0 } (pC D dA [.ref h, .int (nI j)] (VW dA h ad x) sz) (va_Qv (fun (u9 : Unit) => True) (fun (u9 : Unit) t9 => bW D (va_A (VW dA h ad x) sz) (VW dA h ad (VS.s_tapeLength x j)) t9) (va_A (VW dA h ad x) sz)) 0 0 (va_A (VW dA h ad x) sz) := by
  refine mkC (y := ⟨"SeriesVault", "end", "(I)V"⟩) (cc := prog_1_method_4_code) (maxL := 2) (av := [.ref h, .int (nI j)]) (ws := VW dA h ad x) (sz := sz) (Qc := fun A => va_Qv (fun (u9 : Unit) => True) (fun (u9 : Unit) t9 => bW D A (VW dA h ad (VS.s_tapeLength x j)) t9) A) (by decide) (Nat.le_of_ble_eq_true rfl) ?_
  intro A p e s m below meth c ls hsz hB
  obtain ⟨hx, hb, hr, hml, hown, hin, hlk, hE, hK, hP, hD, hS, hA, hN, hl⟩ := hB
  have hown : s.vm.findClass "SeriesVault" = some m.cls := hown
  have hl : lv_has ls 2 [(0, .ref h), (1, .int (nI j))] := hl
  obtain ⟨H, hH⟩ : ∃ z, z = s.heap := ⟨_, rfl⟩
  have hP : va_P D vwCl (VW dA h ad x) H := by rw [hH]; exact hP
  have hS : va_S A s.heap H [] := by rw [hH]; exact hS
  rw [← hH]
  refine lv_iload_n hx hb d_V_end_0 rfl (lv_at hl 1 rfl) ?_
  refine lv_if_lt hx hb d_V_end_1 (tgt := 12) rfl (fun h9 => absurd h9 (nI_pos (n := j) (by omega))) (fun _ => ?_)
  refine lv_iload_n hx hb d_V_end_4 rfl (lv_at hl 1 rfl) ?_
  refine lv_aload_n hx hb d_V_end_5 rfl (lv_at hl 0 rfl) ?_
  refine gF (v := .int (nI x.tapeLength)) hx hb hown hE hK hP 0 rfl rfl layV 1 (by decide) w259 rfl d_V_end_6 ?_
  refine lv_icmp_le hx hb d_V_end_9 (tgt := 20) rfl (fun _ => ?_) (fun h9 => absurd ((nI_leI (a := j) (b := x.tapeLength) (by omega) (by omega)).mpr h1) h9)
  refine lv_aload_n hx hb d_V_end_20 rfl (lv_at hl 0 rfl) ?_
  refine lv_iload_n hx hb d_V_end_21 rfl (lv_at hl 1 rfl) ?_
  refine pF (v := .int (nI j)) hx hb hown hE hK hP hD hS 0 rfl rfl layV tyV tokV nmV 1 (by decide) w259 rfl rfl rfl (Nat.le_of_ble_eq_true rfl) d_V_end_22 (fun H locs hP hD hS => ?_)
  have hP : va_P D vwCl (VW dA h ad (VS.s_tapeLength x j)) H := hP
  have hD : va_D A (VW dA h ad (VS.s_tapeLength x j)) := hD
  exact rfV hx hb hr hlk hS () trivial hP hD (Nat.le_of_ble_eq_true rfl) (Nat.le_of_ble_eq_true rfl) d_V_end_25
/-- a number laid on the tape -/
def ptT (a : Int32) (f : Nat → Int32) (n : Nat) : Nat → Int32 := va_up (va_up (va_up (va_up f n (a >>> (24 &&& 31)).toInt8.toInt32) (n + 1) (a >>> (16 &&& 31)).toInt8.toInt32) (n + 1 + 1) (a >>> (8 &&& 31)).toInt8.toInt32) (n + 1 + 1 + 1) (a >>> (0 &&& 31)).toInt8.toInt32
set_option maxHeartbeats 4000000 in
set_option maxRecDepth 100000 in
theorem v_putOnTape (l : Launch) (D : va_G) (dA : Nat → ClassId) (sz : Nat) (h : Nat) (ad : Nat → Nat) (x : VS) (a : Int32) (h1 : x.tapeLength + 4 ≤ x.tpN) (h2 : x.tpN ≤ 131072) : Met l ⟨"SeriesVault", "putOnTape", "(I)V"⟩ [Cond.code ⟨"SeriesVault", "putOnTape", "(I)V"⟩ prog_1_method_3_code 3 none] { frames := 1, cells := 0, slots := 0, locals := 0 } (pC D dA [.ref h, .int a] (VW dA h ad x) sz) (va_Qv (fun (u9 : Unit) => True) (fun (u9 : Unit) t9 => bW D (va_A (VW dA h ad x) sz) (VW dA h ad (VS.s_tapeLength (VS.s_tape x (ptT a x.tape x.tapeLength)) (x.tapeLength + 1 + 1 + 1 + 1))) t9) (va_A (VW dA h ad x) sz)) 0 0 (va_A (VW dA h ad x) sz) := by
  refine mkC (y := ⟨"SeriesVault", "putOnTape", "(I)V"⟩) (cc := prog_1_method_3_code) (maxL := 3) (av := [.ref h, .int a]) (ws := VW dA h ad x) (sz := sz) (Qc := fun A => va_Qv (fun (u9 : Unit) => True) (fun (u9 : Unit) t9 => bW D A (VW dA h ad (VS.s_tapeLength (VS.s_tape x (ptT a x.tape x.tapeLength)) (x.tapeLength + 1 + 1 + 1 + 1))) t9) A) (by decide) (Nat.le_of_ble_eq_true rfl) ?_
  intro A p e s m below meth c ls hsz hB
  obtain ⟨hx, hb, hr, hml, hown, hin, hlk, hE, hK, hP, hD, hS, hA, hN, hl⟩ := hB
  have hown : s.vm.findClass "SeriesVault" = some m.cls := hown
  have hl : lv_has ls 3 [(0, .ref h), (1, .int a)] := hl
  obtain ⟨H, hH⟩ : ∃ z, z = s.heap := ⟨_, rfl⟩
  have hP : va_P D vwCl (VW dA h ad x) H := by rw [hH]; exact hP
  have hS : va_S A s.heap H [] := by rw [hH]; exact hS
  rw [← hH]
  refine lv_bipush (v := 24) hx hb d_V_putOnTape_0 (by decide) ?_
  refine lv_istore_n hx hb d_V_putOnTape_2 rfl hl (by decide) rfl (fun ls hl => ?_)
  have hl : lv_has ls 3 [(2, .int 24), (0, .ref h), (1, .int a)] := hl
  refine lv_iload_n hx hb d_V_putOnTape_3 rfl (lv_at hl 0 rfl) ?_
  refine lv_if_lt hx hb d_V_putOnTape_4 (tgt := 36) rfl (fun h9 => absurd h9 (by decide)) (fun _ => ?_)
  refine lv_aload_n hx hb d_V_putOnTape_7 rfl (lv_at hl 1 rfl) ?_
  refine gF (v := .ref x.tpA) hx hb hown hE hK hP 0 rfl rfl layV 0 (by decide) w539 rfl d_V_putOnTape_8 ?_
  refine lv_aload_n hx hb d_V_putOnTape_11 rfl (lv_at hl 1 rfl) ?_
  refine gF (v := .int (nI x.tapeLength)) hx hb hown hE hK hP 0 rfl rfl layV 1 (by decide) w259 rfl d_V_putOnTape_12 ?_
  refine lv_iload_n hx hb d_V_putOnTape_15 rfl (lv_at hl 2 rfl) ?_
  refine lv_iload_n hx hb d_V_putOnTape_16 rfl (lv_at hl 0 rfl) ?_
  refine lv_ishr hx hb d_V_putOnTape_17 ?_
  refine lv_i2b hx hb d_V_putOnTape_18 rfl ?_
  refine nbst (n := x.tpN) hx hb hK hP hD hS 1 0 rfl rfl (x.tapeLength) (by omega) (by omega) ((a >>> (24 &&& 31)).toInt8.toInt32) (pk_vb _) d_V_putOnTape_19 (fun H locs hP hD hS => ?_)
  have hP : va_P D vwCl (VW dA h ad (VS.s_tape x (va_up x.tape x.tapeLength ((a >>> (24 &&& 31)).toInt8.toInt32)))) H := hP
  have hD : va_D A (VW dA h ad (VS.s_tape x (va_up x.tape x.tapeLength ((a >>> (24 &&& 31)).toInt8.toInt32)))) := hD
  refine lv_aload_n hx hb d_V_putOnTape_20 rfl (lv_at hl 1 rfl) ?_
  refine lv_dup hx hb d_V_putOnTape_21 rfl ?_
  refine gF (v := .int (nI x.tapeLength)) hx hb hown hE hK hP 0 rfl rfl layV 1 (by decide) w259 rfl d_V_putOnTape_22 ?_
  refine lv_iconst (v := 1) hx hb d_V_putOnTape_25 (by decide) ?_
  refine lv_iadd hx hb d_V_putOnTape_26 (tpi (y := nI (x.tapeLength + 1)) (nI_add (x.tapeLength) (1)) ?_)
  refine pF (v := .int (nI (x.tapeLength + 1))) hx hb hown hE hK hP hD hS 0 rfl rfl layV tyV tokV nmV 1 (by decide) w259 rfl rfl rfl (Nat.le_of_ble_eq_true rfl) d_V_putOnTape_27 (fun H locs hP hD hS => ?_)
  have hP : va_P D vwCl (VW dA h ad (VS.s_tapeLength (VS.s_tape x (va_up x.tape x.tapeLength ((a >>> (24 &&& 31)).toInt8.toInt32))) (x.tapeLength + 1))) H := hP
  have hD : va_D A (VW dA h ad (VS.s_tapeLength (VS.s_tape x (va_up x.tape x.tapeLength ((a >>> (24 &&& 31)).toInt8.toInt32))) (x.tapeLength + 1))) := hD
  refine lv_iinc (k := 0) (v := 16) hx hb d_V_putOnTape_30 hl rfl (by decide) (by decide) rfl (fun ls hl => ?_)
  have hl : lv_has ls 3 [(2, .int 16), (0, .ref h), (1, .int a)] := hl
  refine lv_goto hx hb d_V_putOnTape_33 (tgt := 3) rfl ?_
  refine lv_iload_n hx hb d_V_putOnTape_3 rfl (lv_at hl 0 rfl) ?_
  refine lv_if_lt hx hb d_V_putOnTape_4 (tgt := 36) rfl (fun h9 => absurd h9 (by decide)) (fun _ => ?_)
  refine lv_aload_n hx hb d_V_putOnTape_7 rfl (lv_at hl 1 rfl) ?_
  refine gF (v := .ref x.tpA) hx hb hown hE hK hP 0 rfl rfl layV 0 (by decide) w539 rfl d_V_putOnTape_8 ?_
  refine lv_aload_n hx hb d_V_putOnTape_11 rfl (lv_at hl 1 rfl) ?_
  refine gF (v := .int (nI (x.tapeLength + 1))) hx hb hown hE hK hP 0 rfl rfl layV 1 (by decide) w259 rfl d_V_putOnTape_12 ?_
  refine lv_iload_n hx hb d_V_putOnTape_15 rfl (lv_at hl 2 rfl) ?_
  refine lv_iload_n hx hb d_V_putOnTape_16 rfl (lv_at hl 0 rfl) ?_
  refine lv_ishr hx hb d_V_putOnTape_17 ?_
  refine lv_i2b hx hb d_V_putOnTape_18 rfl ?_
  refine nbst (n := x.tpN) hx hb hK hP hD hS 1 0 rfl rfl (x.tapeLength + 1) (by omega) (by omega) ((a >>> (16 &&& 31)).toInt8.toInt32) (pk_vb _) d_V_putOnTape_19 (fun H locs hP hD hS => ?_)
  have hP : va_P D vwCl (VW dA h ad (VS.s_tapeLength (VS.s_tape x (va_up (va_up x.tape x.tapeLength ((a >>> (24 &&& 31)).toInt8.toInt32)) (x.tapeLength + 1) ((a >>> (16 &&& 31)).toInt8.toInt32))) (x.tapeLength + 1))) H := hP
  have hD : va_D A (VW dA h ad (VS.s_tapeLength (VS.s_tape x (va_up (va_up x.tape x.tapeLength ((a >>> (24 &&& 31)).toInt8.toInt32)) (x.tapeLength + 1) ((a >>> (16 &&& 31)).toInt8.toInt32))) (x.tapeLength + 1))) := hD
  refine lv_aload_n hx hb d_V_putOnTape_20 rfl (lv_at hl 1 rfl) ?_
  refine lv_dup hx hb d_V_putOnTape_21 rfl ?_
  refine gF (v := .int (nI (x.tapeLength + 1))) hx hb hown hE hK hP 0 rfl rfl layV 1 (by decide) w259 rfl d_V_putOnTape_22 ?_
  refine lv_iconst (v := 1) hx hb d_V_putOnTape_25 (by decide) ?_
  refine lv_iadd hx hb d_V_putOnTape_26 (tpi (y := nI (x.tapeLength + 1 + 1)) (nI_add (x.tapeLength + 1) (1)) ?_)
  refine pF (v := .int (nI (x.tapeLength + 1 + 1))) hx hb hown hE hK hP hD hS 0 rfl rfl layV tyV tokV nmV 1 (by decide) w259 rfl rfl rfl (Nat.le_of_ble_eq_true rfl) d_V_putOnTape_27 (fun H locs hP hD hS => ?_)
  have hP : va_P D vwCl (VW dA h ad (VS.s_tapeLength (VS.s_tape x (va_up (va_up x.tape x.tapeLength ((a >>> (24 &&& 31)).toInt8.toInt32)) (x.tapeLength + 1) ((a >>> (16 &&& 31)).toInt8.toInt32))) (x.tapeLength + 1 + 1))) H := hP
  have hD : va_D A (VW dA h ad (VS.s_tapeLength (VS.s_tape x (va_up (va_up x.tape x.tapeLength ((a >>> (24 &&& 31)).toInt8.toInt32)) (x.tapeLength + 1) ((a >>> (16 &&& 31)).toInt8.toInt32))) (x.tapeLength + 1 + 1))) := hD
  refine lv_iinc (k := 0) (v := 8) hx hb d_V_putOnTape_30 hl rfl (by decide) (by decide) rfl (fun ls hl => ?_)
  have hl : lv_has ls 3 [(2, .int 8), (0, .ref h), (1, .int a)] := hl
  refine lv_goto hx hb d_V_putOnTape_33 (tgt := 3) rfl ?_
  refine lv_iload_n hx hb d_V_putOnTape_3 rfl (lv_at hl 0 rfl) ?_
  refine lv_if_lt hx hb d_V_putOnTape_4 (tgt := 36) rfl (fun h9 => absurd h9 (by decide)) (fun _ => ?_)
  refine lv_aload_n hx hb d_V_putOnTape_7 rfl (lv_at hl 1 rfl) ?_
  refine gF (v := .ref x.tpA) hx hb hown hE hK hP 0 rfl rfl layV 0 (by decide) w539 rfl d_V_putOnTape_8 ?_
  refine lv_aload_n hx hb d_V_putOnTape_11 rfl (lv_at hl 1 rfl) ?_
  refine gF (v := .int (nI (x.tapeLength + 1 + 1))) hx hb hown hE hK hP 0 rfl rfl layV 1 (by decide) w259 rfl d_V_putOnTape_12 ?_
  refine lv_iload_n hx hb d_V_putOnTape_15 rfl (lv_at hl 2 rfl) ?_
  refine lv_iload_n hx hb d_V_putOnTape_16 rfl (lv_at hl 0 rfl) ?_
  refine lv_ishr hx hb d_V_putOnTape_17 ?_
  refine lv_i2b hx hb d_V_putOnTape_18 rfl ?_
  refine nbst (n := x.tpN) hx hb hK hP hD hS 1 0 rfl rfl (x.tapeLength + 1 + 1) (by omega) (by omega) ((a >>> (8 &&& 31)).toInt8.toInt32) (pk_vb _) d_V_putOnTape_19 (fun H locs hP hD hS => ?_)
  have hP : va_P D vwCl (VW dA h ad (VS.s_tapeLength (VS.s_tape x (va_up (va_up (va_up x.tape x.tapeLength ((a >>> (24 &&& 31)).toInt8.toInt32)) (x.tapeLength + 1) ((a >>> (16 &&& 31)).toInt8.toInt32)) (x.tapeLength + 1 + 1) ((a >>> (8 &&& 31)).toInt8.toInt32))) (x.tapeLength + 1 + 1))) H := hP
  have hD : va_D A (VW dA h ad (VS.s_tapeLength (VS.s_tape x (va_up (va_up (va_up x.tape x.tapeLength ((a >>> (24 &&& 31)).toInt8.toInt32)) (x.tapeLength + 1) ((a >>> (16 &&& 31)).toInt8.toInt32)) (x.tapeLength + 1 + 1) ((a >>> (8 &&& 31)).toInt8.toInt32))) (x.tapeLength + 1 + 1))) := hD
  refine lv_aload_n hx hb d_V_putOnTape_20 rfl (lv_at hl 1 rfl) ?_
  refine lv_dup hx hb d_V_putOnTape_21 rfl ?_
  refine gF (v := .int (nI (x.tapeLength + 1 + 1))) hx hb hown hE hK hP 0 rfl rfl layV 1 (by decide) w259 rfl d_V_putOnTape_22 ?_
  refine lv_iconst (v := 1) hx hb d_V_putOnTape_25 (by decide) ?_
  refine lv_iadd hx hb d_V_putOnTape_26 (tpi (y := nI (x.tapeLength + 1 + 1 + 1)) (nI_add (x.tapeLength + 1 + 1) (1)) ?_)
  refine pF (v := .int (nI (x.tapeLength + 1 + 1 + 1))) hx hb hown hE hK hP hD hS 0 rfl rfl layV tyV tokV nmV 1 (by decide) w259 rfl rfl rfl (Nat.le_of_ble_eq_true rfl) d_V_putOnTape_27 (fun H locs hP hD hS => ?_)
  have hP : va_P D vwCl (VW dA h ad (VS.s_tapeLength (VS.s_tape x (va_up (va_up (va_up x.tape x.tapeLength ((a >>> (24 &&& 31)).toInt8.toInt32)) (x.tapeLength + 1) ((a >>> (16 &&& 31)).toInt8.toInt32)) (x.tapeLength + 1 + 1) ((a >>> (8 &&& 31)).toInt8.toInt32))) (x.tapeLength + 1 + 1 + 1))) H := hP
  have hD : va_D A (VW dA h ad (VS.s_tapeLength (VS.s_tape x (va_up (va_up (va_up x.tape x.tapeLength ((a >>> (24 &&& 31)).toInt8.toInt32)) (x.tapeLength + 1) ((a >>> (16 &&& 31)).toInt8.toInt32)) (x.tapeLength + 1 + 1) ((a >>> (8 &&& 31)).toInt8.toInt32))) (x.tapeLength + 1 + 1 + 1))) := hD
  refine lv_iinc (k := 0) (v := 0) hx hb d_V_putOnTape_30 hl rfl (by decide) (by decide) rfl (fun ls hl => ?_)
  have hl : lv_has ls 3 [(2, .int 0), (0, .ref h), (1, .int a)] := hl
  refine lv_goto hx hb d_V_putOnTape_33 (tgt := 3) rfl ?_
  refine lv_iload_n hx hb d_V_putOnTape_3 rfl (lv_at hl 0 rfl) ?_
  refine lv_if_lt hx hb d_V_putOnTape_4 (tgt := 36) rfl (fun h9 => absurd h9 (by decide)) (fun _ => ?_)
  refine lv_aload_n hx hb d_V_putOnTape_7 rfl (lv_at hl 1 rfl) ?_
  refine gF (v := .ref x.tpA) hx hb hown hE hK hP 0 rfl rfl layV 0 (by decide) w539 rfl d_V_putOnTape_8 ?_
  refine lv_aload_n hx hb d_V_putOnTape_11 rfl (lv_at hl 1 rfl) ?_
  refine gF (v := .int (nI (x.tapeLength + 1 + 1 + 1))) hx hb hown hE hK hP 0 rfl rfl layV 1 (by decide) w259 rfl d_V_putOnTape_12 ?_
  refine lv_iload_n hx hb d_V_putOnTape_15 rfl (lv_at hl 2 rfl) ?_
  refine lv_iload_n hx hb d_V_putOnTape_16 rfl (lv_at hl 0 rfl) ?_
  refine lv_ishr hx hb d_V_putOnTape_17 ?_
  refine lv_i2b hx hb d_V_putOnTape_18 rfl ?_
  refine nbst (n := x.tpN) hx hb hK hP hD hS 1 0 rfl rfl (x.tapeLength + 1 + 1 + 1) (by omega) (by omega) ((a >>> (0 &&& 31)).toInt8.toInt32) (pk_vb _) d_V_putOnTape_19 (fun H locs hP hD hS => ?_)
  have hP : va_P D vwCl (VW dA h ad (VS.s_tapeLength (VS.s_tape x (va_up (va_up (va_up (va_up x.tape x.tapeLength ((a >>> (24 &&& 31)).toInt8.toInt32)) (x.tapeLength + 1) ((a >>> (16 &&& 31)).toInt8.toInt32)) (x.tapeLength + 1 + 1) ((a >>> (8 &&& 31)).toInt8.toInt32)) (x.tapeLength + 1 + 1 + 1) ((a >>> (0 &&& 31)).toInt8.toInt32))) (x.tapeLength + 1 + 1 + 1))) H := hP
  have hD : va_D A (VW dA h ad (VS.s_tapeLength (VS.s_tape x (va_up (va_up (va_up (va_up x.tape x.tapeLength ((a >>> (24 &&& 31)).toInt8.toInt32)) (x.tapeLength + 1) ((a >>> (16 &&& 31)).toInt8.toInt32)) (x.tapeLength + 1 + 1) ((a >>> (8 &&& 31)).toInt8.toInt32)) (x.tapeLength + 1 + 1 + 1) ((a >>> (0 &&& 31)).toInt8.toInt32))) (x.tapeLength + 1 + 1 + 1))) := hD
  refine lv_aload_n hx hb d_V_putOnTape_20 rfl (lv_at hl 1 rfl) ?_
  refine lv_dup hx hb d_V_putOnTape_21 rfl ?_
  refine gF (v := .int (nI (x.tapeLength + 1 + 1 + 1))) hx hb hown hE hK hP 0 rfl rfl layV 1 (by decide) w259 rfl d_V_putOnTape_22 ?_
  refine lv_iconst (v := 1) hx hb d_V_putOnTape_25 (by decide) ?_
  refine lv_iadd hx hb d_V_putOnTape_26 (tpi (y := nI (x.tapeLength + 1 + 1 + 1 + 1)) (nI_add (x.tapeLength + 1 + 1 + 1) (1)) ?_)
  refine pF (v := .int (nI (x.tapeLength + 1 + 1 + 1 + 1))) hx hb hown hE hK hP hD hS 0 rfl rfl layV tyV tokV nmV 1 (by decide) w259 rfl rfl rfl (Nat.le_of_ble_eq_true rfl) d_V_putOnTape_27 (fun H locs hP hD hS => ?_)
  have hP : va_P D vwCl (VW dA h ad (VS.s_tapeLength (VS.s_tape x (va_up (va_up (va_up (va_up x.tape x.tapeLength ((a >>> (24 &&& 31)).toInt8.toInt32)) (x.tapeLength + 1) ((a >>> (16 &&& 31)).toInt8.toInt32)) (x.tapeLength + 1 + 1) ((a >>> (8 &&& 31)).toInt8.toInt32)) (x.tapeLength + 1 + 1 + 1) ((a >>> (0 &&& 31)).toInt8.toInt32))) (x.tapeLength + 1 + 1 + 1 + 1))) H := hP
  have hD : va_D A (VW dA h ad (VS.s_tapeLength (VS.s_tape x (va_up (va_up (va_up (va_up x.tape x.tapeLength ((a >>> (24 &&& 31)).toInt8.toInt32)) (x.tapeLength + 1) ((a >>> (16 &&& 31)).toInt8.toInt32)) (x.tapeLength + 1 + 1) ((a >>> (8 &&& 31)).toInt8.toInt32)) (x.tapeLength + 1 + 1 + 1) ((a >>> (0 &&& 31)).toInt8.toInt32))) (x.tapeLength + 1 + 1 + 1 + 1))) := hD
  refine lv_iinc (k := 0) (v := (-8)) hx hb d_V_putOnTape_30 hl rfl (by decide) (by decide) rfl (fun ls hl => ?_)
  have hl : lv_has ls 3 [(2, .int (-8)), (0, .ref h), (1, .int a)] := hl
  refine lv_goto hx hb d_V_putOnTape_33 (tgt := 3) rfl ?_
  refine lv_iload_n hx hb d_V_putOnTape_3 rfl (lv_at hl 0 rfl) ?_
  refine lv_if_lt hx hb d_V_putOnTape_4 (tgt := 36) rfl (fun _ => ?_) (fun h9 => absurd (by decide) h9)
  have e9 : (VS.s_tapeLength (VS.s_tape x (va_up (va_up (va_up (va_up x.tape x.tapeLength ((a >>> (24 &&& 31)).toInt8.toInt32)) (x.tapeLength + 1) ((a >>> (16 &&& 31)).toInt8.toInt32)) (x.tapeLength + 1 + 1) ((a >>> (8 &&& 31)).toInt8.toInt32)) (x.tapeLength + 1 + 1 + 1) ((a >>> (0 &&& 31)).toInt8.toInt32))) (x.tapeLength + 1 + 1 + 1 + 1) : VS) = VS.s_tapeLength (VS.s_tape x (ptT a x.tape x.tapeLength)) (x.tapeLength + 1 + 1 + 1 + 1) := by rw [show (ptT a x.tape x.tapeLength) = (va_up (va_up (va_up (va_up x.tape x.tapeLength ((a >>> (24 &&& 31)).toInt8.toInt32)) (x.tapeLength + 1) ((a >>> (16 &&& 31)).toInt8.toInt32)) (x.tapeLength + 1 + 1) ((a >>> (8 &&& 31)).toInt8.toInt32)) (x.tapeLength + 1 + 1 + 1) ((a >>> (0 &&& 31)).toInt8.toInt32)) from by rfl] <;> rfl
  exact rfV hx hb hr hlk hS () trivial (cvPv e9 hP) (cvDv e9 hD) (Nat.le_of_ble_eq_true rfl) (Nat.le_of_ble_eq_true rfl) d_V_putOnTape_36
theorem d_V_longOnTape_0 : decode prog_1_method_5_code 0 = .ok (.lconst 0, 1) := by decide +kernel
theorem d_V_longOnTape_1 : decode prog_1_method_5_code 1 = .ok (.lstore_n 2, 1) := by decide +kernel
theorem d_V_longOnTape_2 : decode prog_1_method_5_code 2 = .ok (.iconst 0, 1) := by decide +kernel
theorem d_V_longOnTape_3 : decode prog_1_method_5_code 3 = .ok (.istore 4, 2) := by decide +kernel
theorem d_V_longOnTape_5 : decode prog_1_method_5_code 5 = .ok (.iload 4, 2) := by decide +kernel
theorem d_V_longOnTape_7 : decode prog_1_method_5_code 7 = .ok (.bipush 8, 2) := by decide +kernel
theorem d_V_longOnTape_9 : decode prog_1_method_5_code 9 = .ok (.if_icmp .ge 29, 3) := by decide +kernel
theorem d_V_longOnTape_38 : decode prog_1_method_5_code 38 = .ok (.lload_n 2, 1) := by decide +kernel
theorem d_V_longOnTape_39 : decode prog_1_method_5_code 39 = .ok (.lreturn, 1) := by decide +kernel
theorem d_V_longOnTape_12 : decode prog_1_method_5_code 12 = .ok (.lload_n 2, 1) := by decide +kernel
theorem d_V_longOnTape_13 : decode prog_1_method_5_code 13 = .ok (.bipush 8, 2) := by decide +kernel
theorem d_V_longOnTape_15 : decode prog_1_method_5_code 15 = .ok (.lshl, 1) := by decide +kernel
theorem d_V_longOnTape_16 : decode prog_1_method_5_code 16 = .ok (.aload_n 0, 1) := by decide +kernel
theorem d_V_longOnTape_17 : decode prog_1_method_5_code 17 = .ok (.getfield 7, 3) := by decide +kernel
theorem d_V_longOnTape_20 : decode prog_1_method_5_code 20 = .ok (.iload_n 1, 1) := by decide +kernel
theorem d_V_longOnTape_21 : decode prog_1_method_5_code 21 = .ok (.iload 4, 2) := by decide +kernel
theorem d_V_longOnTape_23 : decode prog_1_method_5_code 23 = .ok (.iadd, 1) := by decide +kernel
theorem d_V_longOnTape_24 : decode prog_1_method_5_code 24 = .ok (.baload, 1) := by decide +kernel
theorem d_V_longOnTape_25 : decode prog_1_method_5_code 25 = .ok (.sipush 255, 3) := by decide +kernel
theorem d_V_longOnTape_28 : decode prog_1_method_5_code 28 = .ok (.iand, 1) := by decide +kernel
theorem d_V_longOnTape_29 : decode prog_1_method_5_code 29 = .ok (.i2l, 1) := by decide +kernel
theorem d_V_longOnTape_30 : decode prog_1_method_5_code 30 = .ok (.lor, 1) := by decide +kernel
theorem d_V_longOnTape_31 : decode prog_1_method_5_code 31 = .ok (.lstore_n 2, 1) := by decide +kernel
theorem d_V_longOnTape_32 : decode prog_1_method_5_code 32 = .ok (.iinc 4 1, 3) := by decide +kernel
theorem d_V_longOnTape_35 : decode prog_1_method_5_code 35 = .ok (.goto (-30), 3) := by decide +kernel
set_option maxHeartbeats 4000000 in
set_option maxRecDepth 100000 in
theorem v_longOnTape (l : Launch) (D : va_G) (dA : Nat → ClassId) (sz : Nat) (h : Nat) (ad : Nat → Nat) (x : VS) (q : Nat) (hq : q + 8 ≤ x.tpN) (h2 : x.tpN ≤ 131072) : Met l ⟨"SeriesVault", "longOnTape", "(I)J"⟩ [Cond.code ⟨"SeriesVault", "longOnTape", "(I)J"⟩ prog_1_method_5_code 5 (some FieldType.long)] { frames := 1, cells := 0, slots := 0, locals := 0 } (pC D dA [.ref h, .int (nI q)] (VW dA h ad x) sz) (va_Ql (fun (r9 : Int64) (u9 : Unit) => r9 = numB x.tape q 8) (fun (u9 : Unit) t9 => bW D (va_A (VW dA h ad x) sz) (VW dA h ad x) t9) (va_A (VW dA h ad x) sz)) 0 0 (va_A (VW dA h ad x) sz) := by
  refine mkC (y := ⟨"SeriesVault", "longOnTape", "(I)J"⟩) (cc := prog_1_method_5_code) (maxL := 5) (av := [.ref h, .int (nI q)]) (ws := VW dA h ad x) (sz := sz) (Qc := fun A => va_Ql (fun (r9 : Int64) (u9 : Unit) => r9 = numB x.tape q 8) (fun (u9 : Unit) t9 => bW D A (VW dA h ad x) t9) A) (by decide) (Nat.le_of_ble_eq_true rfl) ?_
  intro A p e s m below meth c ls hsz hB
  obtain ⟨hx, hb, hr, hml, hown, hin, hlk, hE, hK, hP, hD, hS, hA, hN, hl⟩ := hB
  have hown : s.vm.findClass "SeriesVault" = some m.cls := hown
  have hl : lv_has ls 5 [(0, .ref h), (1, .int (nI q))] := hl
  obtain ⟨H, hH⟩ : ∃ z, z = s.heap := ⟨_, rfl⟩
  have hP : va_P D vwCl (VW dA h ad x) H := by rw [hH]; exact hP
  have hS : va_S A s.heap H [] := by rw [hH]; exact hS
  rw [← hH]
  refine lv_lconst (v := 0) hx hb d_V_longOnTape_0 (by decide) ?_
  refine lv_lstore_n hx hb d_V_longOnTape_1 rfl hl (by decide) rfl (fun ls hl => ?_)
  have hl : lv_has ls 5 [(2, .long 0), (0, .ref h), (1, .int (nI q))] := hl
  refine lv_iconst (v := 0) hx hb d_V_longOnTape_2 (by decide) ?_
  refine lv_istore hx hb d_V_longOnTape_3 hl (by decide) rfl (fun ls hl => ?_)
  have hl : lv_has ls 5 [(4, .int 0), (2, .long 0), (0, .ref h), (1, .int (nI q))] := hl
  have L5 : ∀ (k9 : Nat) (k : Nat) (i1 : k ≤ 8) (hk9 : 8 - k = k9), ∀ (H : Heap) (locs : List Loc) (ls : Array Slot) (hP : va_P D vwCl (VW dA h ad x) H) (hD : va_D A (VW dA h ad x)) (hS : va_S A s.heap H locs) (hl : lv_has ls 5 [(4, .int (nI k)), (2, .long (numB x.tape q k)), (1, .int (nI q)), (0, .ref h)]), W p l e ({ frames := 1, cells := 0, slots := 0, locals := 0 } : Room) s m ([.ref h, .int (nI q)] : List Value).toArray below meth c H locs 0 0 (MQ below (va_Ql (fun (r9 : Int64) (u9 : Unit) => r9 = numB x.tape q 8) (fun (u9 : Unit) t9 => bW D A (VW dA h ad x) t9) A) ([.ref h, .int (nI q)] : List Value).toArray s 0 0 A) (F0 m 5 ls []) := by
    intro k9
    induction k9 using Nat.strongRecOn with
    | ind k9 ih5 =>
      intro k i1 hk9 H locs ls hP hD hS hl
      refine lv_iload hx hb d_V_longOnTape_5 (lv_at hl 0 rfl) ?_
      refine lv_bipush (v := 8) hx hb d_V_longOnTape_7 (by decide) ?_
      refine lv_icmp_ge hx hb d_V_longOnTape_9 (tgt := 38) rfl (fun g1 => ?_) (fun g1 => ?_)
      · have g1 := (nI_leI (a := 8) (b := k) (by omega) (by omega)).mp g1
        refine lv_lload_n hx hb d_V_longOnTape_38 rfl (lv_at hl 1 rfl) ?_
        exact rfL hx hb hr hlk hS () (by rw [show k = 8 by omega]) hP hD (Nat.le_of_ble_eq_true rfl) (Nat.le_of_ble_eq_true rfl) d_V_longOnTape_39
      · have g1 := mt (nI_leI (a := 8) (b := k) (by omega) (by omega)).mpr g1
        refine lv_lload_n hx hb d_V_longOnTape_12 rfl (lv_at hl 1 rfl) ?_
        refine lv_bipush (v := 8) hx hb d_V_longOnTape_13 (by decide) ?_
        refine lv_lshl hx hb d_V_longOnTape_15 rfl ?_
        refine lv_aload_n hx hb d_V_longOnTape_16 rfl (lv_at hl 3 rfl) ?_
        refine gF (v := .ref x.tpA) hx hb hown hE hK hP 0 rfl rfl layV 0 (by decide) w539 rfl d_V_longOnTape_17 ?_
        refine lv_iload_n hx hb d_V_longOnTape_20 rfl (lv_at hl 2 rfl) ?_
        refine lv_iload hx hb d_V_longOnTape_21 (lv_at hl 0 rfl) ?_
        refine lv_iadd hx hb d_V_longOnTape_23 (tpi (y := nI (q + k)) (nI_add (q) (k)) ?_)
        refine nbld (f := x.tape) (n := x.tpN) hx hb hK hP 1 0 rfl rfl (q + k) (by omega) (by omega) d_V_longOnTape_24 ?_
        refine lv_sipush (v := 255) hx hb d_V_longOnTape_25 (by decide) ?_
        refine lv_iand hx hb d_V_longOnTape_28 ?_
        refine lv_i2l hx hb d_V_longOnTape_29 rfl ?_
        refine lv_lor hx hb d_V_longOnTape_30 ?_
        refine lv_lstore_n hx hb d_V_longOnTape_31 rfl hl (by decide) rfl (fun ls hl => ?_)
        have hl : lv_has ls 5 [(2, .long (((numB x.tape q k) <<< ((8 : Int32).toInt64 &&& 63)) ||| (((x.tape (q + k)) &&& 255).toInt64))), (4, .int (nI k)), (1, .int (nI q)), (0, .ref h)] := hl
        refine lv_iinc (k := 1) (v := nI (k + 1)) hx hb d_V_longOnTape_32 hl rfl (iincN (k) 1 1 (by decide)) (by decide) rfl (fun ls hl => ?_)
        have hl : lv_has ls 5 [(4, .int (nI (k + 1))), (2, .long (((numB x.tape q k) <<< ((8 : Int32).toInt64 &&& 63)) ||| (((x.tape (q + k)) &&& 255).toInt64))), (1, .int (nI q)), (0, .ref h)] := hl
        refine lv_goto hx hb d_V_longOnTape_35 (tgt := 5) rfl ?_
        exact ih5 _ (by omega) (k + 1) (by omega) rfl H _ ls hP hD hS (lv_sub hl [0, 1, 2, 3] rfl)
  exact L5 _ 0 (by omega) rfl H _ ls hP hD hS (lv_sub hl [0, 1, 3, 2] rfl)
set_option maxHeartbeats 4000000 in
set_option maxRecDepth 100000 in
theorem v_checkPower (l : Launch) (D : va_G) (dA : Nat → ClassId) (sz : Nat) (h : Nat) (ad : Nat → Nat) (x : VS) (ho : x.powered = true) : Met l ⟨"SeriesVault", "checkPower", "()V"⟩ [Cond.code ⟨"SeriesVault", "checkPower", "()V"⟩ prog_1_method_13_code 1 none] { frames := 1, cells := 0, slots := 0, locals := 0 } (pC D dA [.ref h] (VW dA h ad x) sz) (va_Qv (fun (u9 : Unit) => True) (fun (u9 : Unit) t9 => bW D (va_A (VW dA h ad x) sz) (VW dA h ad x) t9) (va_A (VW dA h ad x) sz)) 0 0 (va_A (VW dA h ad x) sz) := by
  refine mkC (y := ⟨"SeriesVault", "checkPower", "()V"⟩) (cc := prog_1_method_13_code) (maxL := 1) (av := [.ref h]) (ws := VW dA h ad x) (sz := sz) (Qc := fun A => va_Qv (fun (u9 : Unit) => True) (fun (u9 : Unit) t9 => bW D A (VW dA h ad x) t9) A) (by decide) (Nat.le_of_ble_eq_true rfl) ?_
  intro A p e s m below meth c ls hsz hB
  obtain ⟨hx, hb, hr, hml, hown, hin, hlk, hE, hK, hP, hD, hS, hA, hN, hl⟩ := hB
  have hown : s.vm.findClass "SeriesVault" = some m.cls := hown
  have hl : lv_has ls 1 [(0, .ref h)] := hl
  obtain ⟨H, hH⟩ : ∃ z, z = s.heap := ⟨_, rfl⟩
  have hP : va_P D vwCl (VW dA h ad x) H := by rw [hH]; exact hP
  have hS : va_S A s.heap H [] := by rw [hH]; exact hS
  rw [← hH]
  refine lv_aload_n hx hb d_V_checkPower_0 rfl (lv_at hl 0 rfl) ?_
  refine gF (v := .int (bI x.powered)) hx hb hown hE hK hP 0 rfl rfl layV 5 (by decide) w275 rfl d_V_checkPower_1 ?_
  refine lv_if_ne hx hb d_V_checkPower_4 (tgt := 15) rfl (fun _ => ?_) (fun h9 => absurd h9 (by rw [ho]; decide))
  exact rfV hx hb hr hlk hS () trivial hP hD (Nat.le_of_ble_eq_true rfl) (Nat.le_of_ble_eq_true rfl) d_V_checkPower_15
theorem d_V_checkSeries_23 : decode prog_1_method_14_code 23 = .ok (.return_, 1) := by decide +kernel
set_option maxHeartbeats 4000000 in
set_option maxRecDepth 100000 in
theorem v_checkSeries (l : Launch) (D : va_G) (dA : Nat → ClassId) (sz : Nat) (h : Nat) (ad : Nat → Nat) (x : VS) (w : Nat) (hw : w < x.nser) (h2 : x.nser ≤ 256) : Met l ⟨"SeriesVault", "checkSeries", "(I)V"⟩ [Cond.code ⟨"SeriesVault", "checkSeries", "(I)V"⟩ prog_1_method_14_code 2 none] { frames := 1, cells := 0, slots := 0, locals := 0 } (pC D dA [.ref h, .int (nI w)] (VW dA h ad x) sz) (va_Qv (fun (u9 : Unit) => True) (fun (u9 : Unit) t9 => bW D (va_A (VW dA h ad x) sz) (VW dA h ad x) t9) (va_A (VW dA h ad x) sz)) 0 0 (va_A (VW dA h ad x) sz) := by
  refine mkC (y := ⟨"SeriesVault", "checkSeries", "(I)V"⟩) (cc := prog_1_method_14_code) (maxL := 2) (av := [.ref h, .int (nI w)]) (ws := VW dA h ad x) (sz := sz) (Qc := fun A => va_Qv (fun (u9 : Unit) => True) (fun (u9 : Unit) t9 => bW D A (VW dA h ad x) t9) A) (by decide) (Nat.le_of_ble_eq_true rfl) ?_
  intro A p e s m below meth c ls hsz hB
  obtain ⟨hx, hb, hr, hml, hown, hin, hlk, hE, hK, hP, hD, hS, hA, hN, hl⟩ := hB
  have hown : s.vm.findClass "SeriesVault" = some m.cls := hown
  have hl : lv_has ls 2 [(0, .ref h), (1, .int (nI w))] := hl
  obtain ⟨H, hH⟩ : ∃ z, z = s.heap := ⟨_, rfl⟩
  have hP : va_P D vwCl (VW dA h ad x) H := by rw [hH]; exact hP
  have hS : va_S A s.heap H [] := by rw [hH]; exact hS
  rw [← hH]
  refine lv_iload_n hx hb d_V_checkSeries_0 rfl (lv_at hl 1 rfl) ?_
  refine lv_if_lt hx hb d_V_checkSeries_1 (tgt := 15) rfl (fun h9 => absurd h9 (nI_pos (n := w) (by omega))) (fun _ => ?_)
  refine lv_iload_n hx hb d_V_checkSeries_4 rfl (lv_at hl 1 rfl) ?_
  refine lv_aload_n hx hb d_V_checkSeries_5 rfl (lv_at hl 0 rfl) ?_
  refine gF (v := .ref (ad 3)) hx hb hown hE hK hP 0 rfl rfl layV 11 (by decide) w297 rfl d_V_checkSeries_6 ?_
  refine gFN (v := .int (nI x.nser)) hx hb hown hE hK hP 17 rfl rfl layH 8 (by decide) w298 rfl d_V_checkSeries_9 ?_
  refine lv_icmp_lt hx hb d_V_checkSeries_12 (tgt := 23) rfl (fun _ => ?_) (fun h9 => absurd ((nI_ltI (a := w) (b := x.nser) (by omega) (by omega)).mpr hw) h9)
  exact rfV hx hb hr hlk hS () trivial hP hD (Nat.le_of_ble_eq_true rfl) (Nat.le_of_ble_eq_true rfl) d_V_checkSeries_23
theorem d_V_writeBlock_32 : decode prog_1_method_15_code 32 = .ok (.aload_n 0, 1) := by decide +kernel
theorem d_V_writeBlock_33 : decode prog_1_method_15_code 33 = .ok (.dup, 1) := by decide +kernel
theorem d_V_writeBlock_34 : decode prog_1_method_15_code 34 = .ok (.getfield 108, 3) := by decide +kernel
theorem d_V_writeBlock_37 : decode prog_1_method_15_code 37 = .ok (.iconst 1, 1) := by decide +kernel
theorem d_V_writeBlock_38 : decode prog_1_method_15_code 38 = .ok (.isub, 1) := by decide +kernel
theorem d_V_writeBlock_39 : decode prog_1_method_15_code 39 = .ok (.putfield 108, 3) := by decide +kernel
set_option maxHeartbeats 4000000 in
set_option maxRecDepth 100000 in
theorem v_writeBlock (l : Launch) (D : va_G) (dA : Nat → ClassId) (sz : Nat) (h : Nat) (ad : Nat → Nat) (x : VS) (hc : ¬ x.cutLeft = 0) : Met l ⟨"SeriesVault", "writeBlock", "()V"⟩ [Cond.code ⟨"SeriesVault", "writeBlock", "()V"⟩ prog_1_method_15_code 1 none] { frames := 1, cells := 0, slots := 0, locals := 0 } (pC D dA [.ref h] (VW dA h ad x) sz) (va_Qv (fun (u9 : Unit) => True) (fun (u9 : Unit) t9 => bW D (va_A (VW dA h ad x) sz) (VW dA h ad (VS.s_writes (VS.s_cutLeft x (cutF x.cutLeft)) (x.writes + 1))) t9) (va_A (VW dA h ad x) sz)) 0 0 (va_A (VW dA h ad x) sz) := by
  refine mkC (y := ⟨"SeriesVault", "writeBlock", "()V"⟩) (cc := prog_1_method_15_code) (maxL := 1) (av := [.ref h]) (ws := VW dA h ad x) (sz := sz) (Qc := fun A => va_Qv (fun (u9 : Unit) => True) (fun (u9 : Unit) t9 => bW D A (VW dA h ad (VS.s_writes (VS.s_cutLeft x (cutF x.cutLeft)) (x.writes + 1))) t9) A) (by decide) (Nat.le_of_ble_eq_true rfl) ?_
  intro A p e s m below meth c ls hsz hB
  obtain ⟨hx, hb, hr, hml, hown, hin, hlk, hE, hK, hP, hD, hS, hA, hN, hl⟩ := hB
  have hown : s.vm.findClass "SeriesVault" = some m.cls := hown
  have hl : lv_has ls 1 [(0, .ref h)] := hl
  obtain ⟨H, hH⟩ : ∃ z, z = s.heap := ⟨_, rfl⟩
  have hP : va_P D vwCl (VW dA h ad x) H := by rw [hH]; exact hP
  have hS : va_S A s.heap H [] := by rw [hH]; exact hS
  rw [← hH]
  refine lv_aload_n hx hb d_V_writeBlock_0 rfl (lv_at hl 0 rfl) ?_
  refine gF (v := .int x.cutLeft) hx hb hown hE hK hP 0 rfl rfl layV 6 (by decide) w281 rfl d_V_writeBlock_1 ?_
  refine lv_if_ne hx hb d_V_writeBlock_4 (tgt := 25) rfl (fun _ => ?_) (fun h9 => absurd h9 hc)
  refine lv_aload_n hx hb d_V_writeBlock_25 rfl (lv_at hl 0 rfl) ?_
  refine gF (v := .int x.cutLeft) hx hb hown hE hK hP 0 rfl rfl layV 6 (by decide) w281 rfl d_V_writeBlock_26 ?_
  refine lv_if_le hx hb d_V_writeBlock_29 (tgt := 42) rfl (fun g1 => ?_) (fun g1 => ?_)
  · have g1 := g1
    refine lv_aload_n hx hb d_V_writeBlock_42 rfl (lv_at hl 0 rfl) ?_
    refine lv_dup hx hb d_V_writeBlock_43 rfl ?_
    refine gF (v := .int (nI x.writes)) hx hb hown hE hK hP 0 rfl rfl layV 7 (by decide) w209 rfl d_V_writeBlock_44 ?_
    refine lv_iconst (v := 1) hx hb d_V_writeBlock_47 (by decide) ?_
    refine lv_iadd hx hb d_V_writeBlock_48 (tpi (y := nI (x.writes + 1)) (nI_add (x.writes) (1)) ?_)
    refine pF (v := .int (nI (x.writes + 1))) hx hb hown hE hK hP hD hS 0 rfl rfl layV tyV tokV nmV 7 (by decide) w209 rfl rfl rfl (Nat.le_of_ble_eq_true rfl) d_V_writeBlock_49 (fun H locs hP hD hS => ?_)
    have hP : va_P D vwCl (VW dA h ad (VS.s_writes x (x.writes + 1))) H := hP
    have hD : va_D A (VW dA h ad (VS.s_writes x (x.writes + 1))) := hD
    have e9 : (VS.s_writes x (x.writes + 1) : VS) = VS.s_writes (VS.s_cutLeft x (cutF x.cutLeft)) (x.writes + 1) := by rw [show (cutF x.cutLeft) = x.cutLeft from by simp [cutF, *]] <;> rfl
    exact rfV hx hb hr hlk hS () trivial (cvPv e9 hP) (cvDv e9 hD) (Nat.le_of_ble_eq_true rfl) (Nat.le_of_ble_eq_true rfl) d_V_writeBlock_52
  · have g1 := g1
    refine lv_aload_n hx hb d_V_writeBlock_32 rfl (lv_at hl 0 rfl) ?_
    refine lv_dup hx hb d_V_writeBlock_33 rfl ?_
    refine gF (v := .int x.cutLeft) hx hb hown hE hK hP 0 rfl rfl layV 6 (by decide) w281 rfl d_V_writeBlock_34 ?_
    refine lv_iconst (v := 1) hx hb d_V_writeBlock_37 (by decide) ?_
    refine lv_isub hx hb d_V_writeBlock_38 ?_
    refine pF (v := .int (x.cutLeft - 1)) hx hb hown hE hK hP hD hS 0 rfl rfl layV tyV tokV nmV 6 (by decide) w281 rfl rfl rfl (Nat.le_of_ble_eq_true rfl) d_V_writeBlock_39 (fun H locs hP hD hS => ?_)
    have hP : va_P D vwCl (VW dA h ad (VS.s_cutLeft x (x.cutLeft - 1))) H := hP
    have hD : va_D A (VW dA h ad (VS.s_cutLeft x (x.cutLeft - 1))) := hD
    refine lv_aload_n hx hb d_V_writeBlock_42 rfl (lv_at hl 0 rfl) ?_
    refine lv_dup hx hb d_V_writeBlock_43 rfl ?_
    refine gF (v := .int (nI x.writes)) hx hb hown hE hK hP 0 rfl rfl layV 7 (by decide) w209 rfl d_V_writeBlock_44 ?_
    refine lv_iconst (v := 1) hx hb d_V_writeBlock_47 (by decide) ?_
    refine lv_iadd hx hb d_V_writeBlock_48 (tpi (y := nI (x.writes + 1)) (nI_add (x.writes) (1)) ?_)
    refine pF (v := .int (nI (x.writes + 1))) hx hb hown hE hK hP hD hS 0 rfl rfl layV tyV tokV nmV 7 (by decide) w209 rfl rfl rfl (Nat.le_of_ble_eq_true rfl) d_V_writeBlock_49 (fun H locs hP hD hS => ?_)
    have hP : va_P D vwCl (VW dA h ad (VS.s_writes (VS.s_cutLeft x (x.cutLeft - 1)) (x.writes + 1))) H := hP
    have hD : va_D A (VW dA h ad (VS.s_writes (VS.s_cutLeft x (x.cutLeft - 1)) (x.writes + 1))) := hD
    have e9 : (VS.s_writes (VS.s_cutLeft x (x.cutLeft - 1)) (x.writes + 1) : VS) = VS.s_writes (VS.s_cutLeft x (cutF x.cutLeft)) (x.writes + 1) := by rw [show (cutF x.cutLeft) = (x.cutLeft - 1) from by simp [cutF, *]] <;> rfl
    exact rfV hx hb hr hlk hS () trivial (cvPv e9 hP) (cvDv e9 hD) (Nat.le_of_ble_eq_true rfl) (Nat.le_of_ble_eq_true rfl) d_V_writeBlock_52
theorem d_V_writeBlocks_0 : decode prog_1_method_16_code 0 = .ok (.iconst 0, 1) := by decide +kernel
theorem d_V_writeBlocks_1 : decode prog_1_method_16_code 1 = .ok (.istore_n 2, 1) := by decide +kernel
theorem d_V_writeBlocks_2 : decode prog_1_method_16_code 2 = .ok (.iload_n 2, 1) := by decide +kernel
theorem d_V_writeBlocks_3 : decode prog_1_method_16_code 3 = .ok (.iload_n 1, 1) := by decide +kernel
theorem d_V_writeBlocks_4 : decode prog_1_method_16_code 4 = .ok (.if_icmp .ge 13, 3) := by decide +kernel
theorem d_V_writeBlocks_17 : decode prog_1_method_16_code 17 = .ok (.return_, 1) := by decide +kernel
theorem d_V_writeBlocks_7 : decode prog_1_method_16_code 7 = .ok (.aload_n 0, 1) := by decide +kernel
theorem d_V_writeBlocks_8 : decode prog_1_method_16_code 8 = .ok (.invokevirtual 133, 3) := by decide +kernel
theorem d_V_writeBlocks_11 : decode prog_1_method_16_code 11 = .ok (.iinc 2 1, 3) := by decide +kernel
theorem d_V_writeBlocks_14 : decode prog_1_method_16_code 14 = .ok (.goto (-12), 3) := by decide +kernel
set_option maxHeartbeats 4000000 in
set_option maxRecDepth 100000 in
theorem v_writeBlocks (l : Launch) (D : va_G) (dA : Nat → ClassId) (sz : Nat) (h : Nat) (ad : Nat → Nat) (x : VS) (n : Nat) (hn : n < 2 ^ 31) (hz : ∀ j : Nat, j < n → ¬ cutN x.cutLeft j = 0) : Met l ⟨"SeriesVault", "writeBlocks", "(I)V"⟩ [Cond.code ⟨"SeriesVault", "writeBlocks", "(I)V"⟩ prog_1_method_16_code 3 none] { frames := 2, cells := 0, slots := 0, locals := 20 } (pC D dA [.ref h, .int (nI n)] (VW dA h ad x) sz) (va_Qv (fun (u9 : Unit) => True) (fun (u9 : Unit) t9 => bW D (va_A (VW dA h ad x) sz) (VW dA h ad (VS.s_writes (VS.s_cutLeft x (cutN x.cutLeft n)) (x.writes + n))) t9) (va_A (VW dA h ad x) sz)) 0 0 (va_A (VW dA h ad x) sz) := by
  refine mkC (y := ⟨"SeriesVault", "writeBlocks", "(I)V"⟩) (cc := prog_1_method_16_code) (maxL := 3) (av := [.ref h, .int (nI n)]) (ws := VW dA h ad x) (sz := sz) (Qc := fun A => va_Qv (fun (u9 : Unit) => True) (fun (u9 : Unit) t9 => bW D A (VW dA h ad (VS.s_writes (VS.s_cutLeft x (cutN x.cutLeft n)) (x.writes + n))) t9) A) (by decide) (Nat.le_of_ble_eq_true rfl) ?_
  intro A p e s m below meth c ls hsz hB
  obtain ⟨hx, hb, hr, hml, hown, hin, hlk, hE, hK, hP, hD, hS, hA, hN, hl⟩ := hB
  have hown : s.vm.findClass "SeriesVault" = some m.cls := hown
  have hl : lv_has ls 3 [(0, .ref h), (1, .int (nI n))] := hl
  obtain ⟨H, hH⟩ : ∃ z, z = s.heap := ⟨_, rfl⟩
  have hP : va_P D vwCl (VW dA h ad x) H := by rw [hH]; exact hP
  have hS : va_S A s.heap H [] := by rw [hH]; exact hS
  rw [← hH]
  refine lv_iconst (v := 0) hx hb d_V_writeBlocks_0 (by decide) ?_
  refine lv_istore_n hx hb d_V_writeBlocks_1 rfl hl (by decide) rfl (fun ls hl => ?_)
  have hl : lv_has ls 3 [(2, .int 0), (0, .ref h), (1, .int (nI n))] := hl
  have L2 : ∀ (k9 : Nat) (k : Nat) (i1 : k ≤ n) (hk9 : n - k = k9), ∀ (H : Heap) (locs : List Loc) (ls : Array Slot) (hP : va_P D vwCl (VW dA h ad (VS.s_writes (VS.s_cutLeft x (cutN x.cutLeft k)) (x.writes + k))) H) (hD : va_D A (VW dA h ad (VS.s_writes (VS.s_cutLeft x (cutN x.cutLeft k)) (x.writes + k)))) (hS : va_S A s.heap H locs) (hl : lv_has ls 3 [(2, .int (nI k)), (1, .int (nI n)), (0, .ref h)]), W p l e ({ frames := 2, cells := 0, slots := 0, locals := 20 } : Room) s m ([.ref h, .int (nI n)] : List Value).toArray below meth c H locs 0 0 (MQ below (va_Qv (fun (u9 : Unit) => True) (fun (u9 : Unit) t9 => bW D A (VW dA h ad (VS.s_writes (VS.s_cutLeft x (cutN x.cutLeft n)) (x.writes + n))) t9) A) ([.ref h, .int (nI n)] : List Value).toArray s 0 0 A) (F0 m 2 ls []) := by
    intro k9
    induction k9 using Nat.strongRecOn with
    | ind k9 ih2 =>
      intro k i1 hk9 H locs ls hP hD hS hl
      refine lv_iload_n hx hb d_V_writeBlocks_2 rfl (lv_at hl 0 rfl) ?_
      refine lv_iload_n hx hb d_V_writeBlocks_3 rfl (lv_at hl 1 rfl) ?_
      refine lv_icmp_ge hx hb d_V_writeBlocks_4 (tgt := 17) rfl (fun g1 => ?_) (fun g1 => ?_)
      · have g1 := (nI_leI (a := n) (b := k) (by omega) (by omega)).mp g1
        have e9 : (VS.s_writes (VS.s_cutLeft x (cutN x.cutLeft k)) (x.writes + k) : VS) = VS.s_writes (VS.s_cutLeft x (cutN x.cutLeft n)) (x.writes + n) := by rw [show (cutN x.cutLeft n) = (cutN x.cutLeft k) from by (rw [show k = n by omega]), show (x.writes + n) = (x.writes + k) from by (rw [show k = n by omega])] <;> rfl
        exact rfV hx hb hr hlk hS () trivial (cvPv e9 hP) (cvDv e9 hD) (Nat.le_of_ble_eq_true rfl) (Nat.le_of_ble_eq_true rfl) d_V_writeBlocks_17
      · have g1 := mt (nI_leI (a := n) (b := k) (by omega) (by omega)).mpr g1
        refine lv_aload_n hx hb d_V_writeBlocks_7 rfl (lv_at hl 2 rfl) ?_
        refine jfV (rnV (As := []) (rest := []) hx hb hml hown hE hK (hN _ _ hS) hP hD (v_writeBlock l D dA H.size h ad (VS.s_writes (VS.s_cutLeft x (cutN x.cutLeft k)) (x.writes + k)) (hz k (by omega))) (q0 := 0) rfl rfl w737 w736 w738 w739 w277 rfl rfl ⟨⟨by decide, by decide⟩, rfl⟩ ⟨(Nat.le_of_ble_eq_true rfl), (Nat.le_of_ble_eq_true rfl)⟩ rfl hl.1 rfl (Nat.le_of_ble_eq_true rfl) d_V_writeBlocks_8 ⟨(Nat.le_of_ble_eq_true rfl), (Nat.le_of_ble_eq_true rfl)⟩) hP hD hS hA (fun u3 H locs hp9 hP hD hS => ?_)
        have hP : va_P D vwCl (VW dA h ad (VS.s_writes (VS.s_cutLeft x (cutF (cutN x.cutLeft k))) ((x.writes + k) + 1))) H := hP
        have hD : va_D A (VW dA h ad (VS.s_writes (VS.s_cutLeft x (cutF (cutN x.cutLeft k))) ((x.writes + k) + 1))) := hD
        refine lv_iinc (k := 0) (v := nI (k + 1)) hx hb d_V_writeBlocks_11 hl rfl (iincN (k) 1 1 (by decide)) (by decide) rfl (fun ls hl => ?_)
        have hl : lv_has ls 3 [(2, .int (nI (k + 1))), (1, .int (nI n)), (0, .ref h)] := hl
        refine lv_goto hx hb d_V_writeBlocks_14 (tgt := 2) rfl ?_
        exact ih2 _ (by omega) (k + 1) (by omega) rfl H _ ls hP hD hS (lv_sub hl [0, 1, 2] rfl)
  exact L2 _ 0 (by omega) rfl H _ ls hP hD hS (lv_sub hl [0, 2, 1] rfl)
