section
theorem d_V_putOnTape_0 : decode prog_1_method_3_code 0 = .ok (.bipush 24, 2) := by decide +kernel
theorem d_V_putOnTape_2 : decode prog_1_method_3_code 2 = .ok (.istore_n 2, 1) := by decide +kernel
theorem d_V_putOnTape_3 : decode prog_1_method_3_code 3 = .ok (.iload_n 2, 1) := by decide +kernel
theorem d_V_putOnTape_4 : decode prog_1_method_3_code 4 = .ok (.ifCond .lt 32, 3) := by decide +kernel
theorem d_V_putOnTape_7 : decode prog_1_method_3_code 7 = .ok (.aload_n 0, 1) := by decide +kernel
theorem d_V_putOnTape_8 : decode prog_1_method_3_code 8 = .ok (.getfield 7, 3) := by decide +kernel
theorem d_V_putOnTape_11 : decode prog_1_method_3_code 11 = .ok (.aload_n 0, 1) := by decide +kernel
theorem d_V_putOnTape_12 : decode prog_1_method_3_code 12 = .ok (.getfield 71, 3) := by decide +kernel
theorem d_V_putOnTape_15 : decode prog_1_method_3_code 15 = .ok (.iload_n 1, 1) := by decide +kernel
theorem d_V_putOnTape_16 : decode prog_1_method_3_code 16 = .ok (.iload_n 2, 1) := by decide +kernel
theorem d_V_putOnTape_17 : decode prog_1_method_3_code 17 = .ok (.ishr, 1) := by decide +kernel
theorem d_V_putOnTape_18 : decode prog_1_method_3_code 18 = .ok (.i2b, 1) := by decide +kernel
theorem d_V_putOnTape_19 : decode prog_1_method_3_code 19 = .ok (.bastore, 1) := by decide +kernel
theorem d_V_putOnTape_20 : decode prog_1_method_3_code 20 = .ok (.aload_n 0, 1) := by decide +kernel
theorem d_V_putOnTape_21 : decode prog_1_method_3_code 21 = .ok (.dup, 1) := by decide +kernel
theorem d_V_putOnTape_22 : decode prog_1_method_3_code 22 = .ok (.getfield 71, 3) := by decide +kernel
theorem d_V_putOnTape_25 : decode prog_1_method_3_code 25 = .ok (.iconst 1, 1) := by decide +kernel
theorem d_V_putOnTape_26 : decode prog_1_method_3_code 26 = .ok (.iadd, 1) := by decide +kernel
theorem d_V_putOnTape_27 : decode prog_1_method_3_code 27 = .ok (.putfield 71, 3) := by decide +kernel
theorem d_V_putOnTape_30 : decode prog_1_method_3_code 30 = .ok (.iinc 2 (-8), 3) := by decide +kernel
theorem d_V_putOnTape_33 : decode prog_1_method_3_code 33 = .ok (.goto (-30), 3) := by decide +kernel
theorem d_V_putOnTape_36 : decode prog_1_method_3_code 36 = .ok (.return_, 1) := by decide +kernel
theorem w539 : Cond.fieldLink "SeriesVault" 7 "SeriesVault" "tape" "[B" ∈ aW := aw_of (tb_2 (List.mem_of_getElem? (i := 205) rfl)) rfl
set_option maxHeartbeats 4000000 in
set_option maxRecDepth 100000 in
theorem c_V_putOnTape_0 (l : Launch) (D : va_G) (dA : Nat → ClassId) (sz : Nat) (a : Nat) (fs : List Value) (b : Nat) (g : Nat → Int32) (n : Int32) (h_fs_tape : fs[0]? = some (.ref b)) (h_fs_tapeLength : fs[1]? = some (.int 0)) (hl_fs : fs.length = 18) : Met l ⟨"SeriesVault", "putOnTape", "(I)V"⟩ [Cond.code ⟨"SeriesVault", "putOnTape", "(I)V"⟩ prog_1_method_3_code 3 none] { frames := 1, cells := 0, slots := 0, locals := 0 } (pC D dA [.ref a, .int n] [(a, .inr (0, fs)), (b, .inl (dA 0, 256, .inl g))] sz) (va_Qv (fun (_ : Unit) => True) (fun (u9 : Unit) t9 => bW D (va_A [(a, .inr (0, fs)), (b, .inl (dA 0, 256, .inl g))] sz) [(a, .inr (0, ((((fs.set 1 (.int 1)).set 1 (.int 2)).set 1 (.int 3)).set 1 (.int 4)))), (b, .inl (dA 0, 256, .inl (upd (upd (upd (upd g 0 (vp_nar .byte ((n >>> (24 &&& 31)).toInt8.toInt32))) 1 (vp_nar .byte ((n >>> (16 &&& 31)).toInt8.toInt32))) 2 (vp_nar .byte ((n >>> (8 &&& 31)).toInt8.toInt32))) 3 (vp_nar .byte ((n >>> (0 &&& 31)).toInt8.toInt32)))))] t9) (va_A [(a, .inr (0, fs)), (b, .inl (dA 0, 256, .inl g))] sz)) 0 0 (va_A [(a, .inr (0, fs)), (b, .inl (dA 0, 256, .inl g))] sz) := by
  refine mkC (y := ⟨"SeriesVault", "putOnTape", "(I)V"⟩) (cc := prog_1_method_3_code) (maxL := 3) (av := [.ref a, .int n]) (ws := [(a, .inr (0, fs)), (b, .inl (dA 0, 256, .inl g))]) (sz := sz) (Qc := fun A => va_Qv (fun (_ : Unit) => True) (fun (u9 : Unit) t9 => bW D A [(a, .inr (0, ((((fs.set 1 (.int 1)).set 1 (.int 2)).set 1 (.int 3)).set 1 (.int 4)))), (b, .inl (dA 0, 256, .inl (upd (upd (upd (upd g 0 (vp_nar .byte ((n >>> (24 &&& 31)).toInt8.toInt32))) 1 (vp_nar .byte ((n >>> (16 &&& 31)).toInt8.toInt32))) 2 (vp_nar .byte ((n >>> (8 &&& 31)).toInt8.toInt32))) 3 (vp_nar .byte ((n >>> (0 &&& 31)).toInt8.toInt32)))))] t9) A) (by decide) (Nat.le_of_ble_eq_true rfl) ?_
  intro A p e s m below meth c ls hsz hB
  obtain ⟨hx, hb, hr, hml, hown, hin, hlk, hE, hK, hP, hD, hS, hA, hN, hl⟩ := hB
  have hown : s.vm.findClass "SeriesVault" = some m.cls := hown
  have hin : meth.name = "putOnTape" := hin
  have hl : lv_has ls 3 [(0, .ref a), (1, .int n)] := hl
  obtain ⟨H, hH⟩ : ∃ z, z = s.heap := ⟨_, rfl⟩
  have hP : va_P D vwCl [(a, .inr (0, fs)), (b, .inl (dA 0, 256, .inl g))] H := by rw [hH]; exact hP
  have hS : va_S A s.heap H [] := by rw [hH]; exact hS
  rw [← hH]
  refine lv_bipush (v := 24) hx hb d_V_putOnTape_0 (by decide) ?_
  refine lv_istore_n hx hb d_V_putOnTape_2 rfl hl (by decide) rfl (fun ls hl => ?_)
  have hl : lv_has ls 3 [(2, .int 24), (0, .ref a), (1, .int n)] := hl
  refine lv_iload_n hx hb d_V_putOnTape_3 rfl (lv_at hl 0 rfl) ?_
  refine lv_if_lt hx hb d_V_putOnTape_4 (tgt := 36) rfl (fun h9 => absurd h9 (by decide)) (fun _ => ?_)
  refine lv_aload_n hx hb d_V_putOnTape_7 rfl (lv_at hl 1 rfl) ?_
  refine gF (v := .ref b) hx hb hown hE hK hP 0 rfl rfl layV 0 (by decide) w539 h_fs_tape d_V_putOnTape_8 ?_
  refine lv_aload_n hx hb d_V_putOnTape_11 rfl (lv_at hl 1 rfl) ?_
  refine gF (v := .int 0) hx hb hown hE hK hP 0 rfl rfl layV 1 (by decide) w259 h_fs_tapeLength d_V_putOnTape_12 ?_
  refine lv_iload_n hx hb d_V_putOnTape_15 rfl (lv_at hl 2 rfl) ?_
  refine lv_iload_n hx hb d_V_putOnTape_16 rfl (lv_at hl 0 rfl) ?_
  refine lv_ishr hx hb d_V_putOnTape_17 ?_
  refine lv_i2b hx hb d_V_putOnTape_18 rfl ?_
  refine va_bast hx hb hK hP hD hS 1 0 rfl rfl (by unfold vp_in; decide) d_V_putOnTape_19 (fun H locs hP hD hS => ?_)
  have hP : va_P D vwCl [(a, .inr (0, fs)), (b, .inl (dA 0, 256, .inl (upd g 0 (vp_nar .byte ((n >>> (24 &&& 31)).toInt8.toInt32)))))] H := hP
  have hD : va_D A [(a, .inr (0, fs)), (b, .inl (dA 0, 256, .inl (upd g 0 (vp_nar .byte ((n >>> (24 &&& 31)).toInt8.toInt32)))))] := hD
  refine lv_aload_n hx hb d_V_putOnTape_20 rfl (lv_at hl 1 rfl) ?_
  refine lv_dup hx hb d_V_putOnTape_21 rfl ?_
  refine gF (v := .int 0) hx hb hown hE hK hP 0 rfl rfl layV 1 (by decide) w259 h_fs_tapeLength d_V_putOnTape_22 ?_
  refine lv_iconst (v := 1) hx hb d_V_putOnTape_25 (by decide) ?_
  refine lv_iadd hx hb d_V_putOnTape_26 (tpi (y := 1) (by decide) ?_)
  refine pF hx hb hown hE hK hP hD hS 0 rfl rfl layV tyV tokV nmV 1 (by decide) w259 rfl rfl rfl (by simp [hl_fs]) d_V_putOnTape_27 (fun H locs hP hD hS => ?_)
  have hP : va_P D vwCl [(a, .inr (0, (fs.set 1 (.int 1)))), (b, .inl (dA 0, 256, .inl (upd g 0 (vp_nar .byte ((n >>> (24 &&& 31)).toInt8.toInt32)))))] H := hP
  have hD : va_D A [(a, .inr (0, (fs.set 1 (.int 1)))), (b, .inl (dA 0, 256, .inl (upd g 0 (vp_nar .byte ((n >>> (24 &&& 31)).toInt8.toInt32)))))] := hD
  refine lv_iinc (k := 0) (v := 16) hx hb d_V_putOnTape_30 hl rfl (by decide) (by decide) rfl (fun ls hl => ?_)
  have hl : lv_has ls 3 [(2, .int 16), (0, .ref a), (1, .int n)] := hl
  refine lv_goto hx hb d_V_putOnTape_33 (tgt := 3) rfl ?_
  refine lv_iload_n hx hb d_V_putOnTape_3 rfl (lv_at hl 0 rfl) ?_
  refine lv_if_lt hx hb d_V_putOnTape_4 (tgt := 36) rfl (fun h9 => absurd h9 (by decide)) (fun _ => ?_)
  refine lv_aload_n hx hb d_V_putOnTape_7 rfl (lv_at hl 1 rfl) ?_
  refine gF (v := .ref b) hx hb hown hE hK hP 0 rfl rfl layV 0 (by decide) w539 (by simp [h_fs_tape]) d_V_putOnTape_8 ?_
  refine lv_aload_n hx hb d_V_putOnTape_11 rfl (lv_at hl 1 rfl) ?_
  refine gF (v := .int 1) hx hb hown hE hK hP 0 rfl rfl layV 1 (by decide) w259 (by simp [hl_fs]) d_V_putOnTape_12 ?_
  refine lv_iload_n hx hb d_V_putOnTape_15 rfl (lv_at hl 2 rfl) ?_
  refine lv_iload_n hx hb d_V_putOnTape_16 rfl (lv_at hl 0 rfl) ?_
  refine lv_ishr hx hb d_V_putOnTape_17 ?_
  refine lv_i2b hx hb d_V_putOnTape_18 rfl ?_
  refine va_bast hx hb hK hP hD hS 1 0 rfl rfl (by unfold vp_in; decide) d_V_putOnTape_19 (fun H locs hP hD hS => ?_)
  have hP : va_P D vwCl [(a, .inr (0, (fs.set 1 (.int 1)))), (b, .inl (dA 0, 256, .inl (upd (upd g 0 (vp_nar .byte ((n >>> (24 &&& 31)).toInt8.toInt32))) 1 (vp_nar .byte ((n >>> (16 &&& 31)).toInt8.toInt32)))))] H := hP
  have hD : va_D A [(a, .inr (0, (fs.set 1 (.int 1)))), (b, .inl (dA 0, 256, .inl (upd (upd g 0 (vp_nar .byte ((n >>> (24 &&& 31)).toInt8.toInt32))) 1 (vp_nar .byte ((n >>> (16 &&& 31)).toInt8.toInt32)))))] := hD
  refine lv_aload_n hx hb d_V_putOnTape_20 rfl (lv_at hl 1 rfl) ?_
  refine lv_dup hx hb d_V_putOnTape_21 rfl ?_
  refine gF (v := .int 1) hx hb hown hE hK hP 0 rfl rfl layV 1 (by decide) w259 (by simp [hl_fs]) d_V_putOnTape_22 ?_
  refine lv_iconst (v := 1) hx hb d_V_putOnTape_25 (by decide) ?_
  refine lv_iadd hx hb d_V_putOnTape_26 (tpi (y := 2) (by decide) ?_)
  refine pF hx hb hown hE hK hP hD hS 0 rfl rfl layV tyV tokV nmV 1 (by decide) w259 rfl rfl rfl (by simp [hl_fs]) d_V_putOnTape_27 (fun H locs hP hD hS => ?_)
  have hP : va_P D vwCl [(a, .inr (0, ((fs.set 1 (.int 1)).set 1 (.int 2)))), (b, .inl (dA 0, 256, .inl (upd (upd g 0 (vp_nar .byte ((n >>> (24 &&& 31)).toInt8.toInt32))) 1 (vp_nar .byte ((n >>> (16 &&& 31)).toInt8.toInt32)))))] H := hP
  have hD : va_D A [(a, .inr (0, ((fs.set 1 (.int 1)).set 1 (.int 2)))), (b, .inl (dA 0, 256, .inl (upd (upd g 0 (vp_nar .byte ((n >>> (24 &&& 31)).toInt8.toInt32))) 1 (vp_nar .byte ((n >>> (16 &&& 31)).toInt8.toInt32)))))] := hD
  refine lv_iinc (k := 0) (v := 8) hx hb d_V_putOnTape_30 hl rfl (by decide) (by decide) rfl (fun ls hl => ?_)
  have hl : lv_has ls 3 [(2, .int 8), (0, .ref a), (1, .int n)] := hl
  refine lv_goto hx hb d_V_putOnTape_33 (tgt := 3) rfl ?_
  refine lv_iload_n hx hb d_V_putOnTape_3 rfl (lv_at hl 0 rfl) ?_
  refine lv_if_lt hx hb d_V_putOnTape_4 (tgt := 36) rfl (fun h9 => absurd h9 (by decide)) (fun _ => ?_)
  refine lv_aload_n hx hb d_V_putOnTape_7 rfl (lv_at hl 1 rfl) ?_
  refine gF (v := .ref b) hx hb hown hE hK hP 0 rfl rfl layV 0 (by decide) w539 (by simp [h_fs_tape]) d_V_putOnTape_8 ?_
  refine lv_aload_n hx hb d_V_putOnTape_11 rfl (lv_at hl 1 rfl) ?_
  refine gF (v := .int 2) hx hb hown hE hK hP 0 rfl rfl layV 1 (by decide) w259 (by simp [hl_fs]) d_V_putOnTape_12 ?_
  refine lv_iload_n hx hb d_V_putOnTape_15 rfl (lv_at hl 2 rfl) ?_
  refine lv_iload_n hx hb d_V_putOnTape_16 rfl (lv_at hl 0 rfl) ?_
  refine lv_ishr hx hb d_V_putOnTape_17 ?_
  refine lv_i2b hx hb d_V_putOnTape_18 rfl ?_
  refine va_bast hx hb hK hP hD hS 1 0 rfl rfl (by unfold vp_in; decide) d_V_putOnTape_19 (fun H locs hP hD hS => ?_)
  have hP : va_P D vwCl [(a, .inr (0, ((fs.set 1 (.int 1)).set 1 (.int 2)))), (b, .inl (dA 0, 256, .inl (upd (upd (upd g 0 (vp_nar .byte ((n >>> (24 &&& 31)).toInt8.toInt32))) 1 (vp_nar .byte ((n >>> (16 &&& 31)).toInt8.toInt32))) 2 (vp_nar .byte ((n >>> (8 &&& 31)).toInt8.toInt32)))))] H := hP
  have hD : va_D A [(a, .inr (0, ((fs.set 1 (.int 1)).set 1 (.int 2)))), (b, .inl (dA 0, 256, .inl (upd (upd (upd g 0 (vp_nar .byte ((n >>> (24 &&& 31)).toInt8.toInt32))) 1 (vp_nar .byte ((n >>> (16 &&& 31)).toInt8.toInt32))) 2 (vp_nar .byte ((n >>> (8 &&& 31)).toInt8.toInt32)))))] := hD
  refine lv_aload_n hx hb d_V_putOnTape_20 rfl (lv_at hl 1 rfl) ?_
  refine lv_dup hx hb d_V_putOnTape_21 rfl ?_
  refine gF (v := .int 2) hx hb hown hE hK hP 0 rfl rfl layV 1 (by decide) w259 (by simp [hl_fs]) d_V_putOnTape_22 ?_
  refine lv_iconst (v := 1) hx hb d_V_putOnTape_25 (by decide) ?_
  refine lv_iadd hx hb d_V_putOnTape_26 (tpi (y := 3) (by decide) ?_)
  refine pF hx hb hown hE hK hP hD hS 0 rfl rfl layV tyV tokV nmV 1 (by decide) w259 rfl rfl rfl (by simp [hl_fs]) d_V_putOnTape_27 (fun H locs hP hD hS => ?_)
  have hP : va_P D vwCl [(a, .inr (0, (((fs.set 1 (.int 1)).set 1 (.int 2)).set 1 (.int 3)))), (b, .inl (dA 0, 256, .inl (upd (upd (upd g 0 (vp_nar .byte ((n >>> (24 &&& 31)).toInt8.toInt32))) 1 (vp_nar .byte ((n >>> (16 &&& 31)).toInt8.toInt32))) 2 (vp_nar .byte ((n >>> (8 &&& 31)).toInt8.toInt32)))))] H := hP
  have hD : va_D A [(a, .inr (0, (((fs.set 1 (.int 1)).set 1 (.int 2)).set 1 (.int 3)))), (b, .inl (dA 0, 256, .inl (upd (upd (upd g 0 (vp_nar .byte ((n >>> (24 &&& 31)).toInt8.toInt32))) 1 (vp_nar .byte ((n >>> (16 &&& 31)).toInt8.toInt32))) 2 (vp_nar .byte ((n >>> (8 &&& 31)).toInt8.toInt32)))))] := hD
  refine lv_iinc (k := 0) (v := 0) hx hb d_V_putOnTape_30 hl rfl (by decide) (by decide) rfl (fun ls hl => ?_)
  have hl : lv_has ls 3 [(2, .int 0), (0, .ref a), (1, .int n)] := hl
  refine lv_goto hx hb d_V_putOnTape_33 (tgt := 3) rfl ?_
  refine lv_iload_n hx hb d_V_putOnTape_3 rfl (lv_at hl 0 rfl) ?_
  refine lv_if_lt hx hb d_V_putOnTape_4 (tgt := 36) rfl (fun h9 => absurd h9 (by decide)) (fun _ => ?_)
  refine lv_aload_n hx hb d_V_putOnTape_7 rfl (lv_at hl 1 rfl) ?_
  refine gF (v := .ref b) hx hb hown hE hK hP 0 rfl rfl layV 0 (by decide) w539 (by simp [h_fs_tape]) d_V_putOnTape_8 ?_
  refine lv_aload_n hx hb d_V_putOnTape_11 rfl (lv_at hl 1 rfl) ?_
  refine gF (v := .int 3) hx hb hown hE hK hP 0 rfl rfl layV 1 (by decide) w259 (by simp [hl_fs]) d_V_putOnTape_12 ?_
  refine lv_iload_n hx hb d_V_putOnTape_15 rfl (lv_at hl 2 rfl) ?_
  refine lv_iload_n hx hb d_V_putOnTape_16 rfl (lv_at hl 0 rfl) ?_
  refine lv_ishr hx hb d_V_putOnTape_17 ?_
  refine lv_i2b hx hb d_V_putOnTape_18 rfl ?_
  refine va_bast hx hb hK hP hD hS 1 0 rfl rfl (by unfold vp_in; decide) d_V_putOnTape_19 (fun H locs hP hD hS => ?_)
  have hP : va_P D vwCl [(a, .inr (0, (((fs.set 1 (.int 1)).set 1 (.int 2)).set 1 (.int 3)))), (b, .inl (dA 0, 256, .inl (upd (upd (upd (upd g 0 (vp_nar .byte ((n >>> (24 &&& 31)).toInt8.toInt32))) 1 (vp_nar .byte ((n >>> (16 &&& 31)).toInt8.toInt32))) 2 (vp_nar .byte ((n >>> (8 &&& 31)).toInt8.toInt32))) 3 (vp_nar .byte ((n >>> (0 &&& 31)).toInt8.toInt32)))))] H := hP
  have hD : va_D A [(a, .inr (0, (((fs.set 1 (.int 1)).set 1 (.int 2)).set 1 (.int 3)))), (b, .inl (dA 0, 256, .inl (upd (upd (upd (upd g 0 (vp_nar .byte ((n >>> (24 &&& 31)).toInt8.toInt32))) 1 (vp_nar .byte ((n >>> (16 &&& 31)).toInt8.toInt32))) 2 (vp_nar .byte ((n >>> (8 &&& 31)).toInt8.toInt32))) 3 (vp_nar .byte ((n >>> (0 &&& 31)).toInt8.toInt32)))))] := hD
  refine lv_aload_n hx hb d_V_putOnTape_20 rfl (lv_at hl 1 rfl) ?_
  refine lv_dup hx hb d_V_putOnTape_21 rfl ?_
  refine gF (v := .int 3) hx hb hown hE hK hP 0 rfl rfl layV 1 (by decide) w259 (by simp [hl_fs]) d_V_putOnTape_22 ?_
  refine lv_iconst (v := 1) hx hb d_V_putOnTape_25 (by decide) ?_
  refine lv_iadd hx hb d_V_putOnTape_26 (tpi (y := 4) (by decide) ?_)
  refine pF hx hb hown hE hK hP hD hS 0 rfl rfl layV tyV tokV nmV 1 (by decide) w259 rfl rfl rfl (by simp [hl_fs]) d_V_putOnTape_27 (fun H locs hP hD hS => ?_)
  have hP : va_P D vwCl [(a, .inr (0, ((((fs.set 1 (.int 1)).set 1 (.int 2)).set 1 (.int 3)).set 1 (.int 4)))), (b, .inl (dA 0, 256, .inl (upd (upd (upd (upd g 0 (vp_nar .byte ((n >>> (24 &&& 31)).toInt8.toInt32))) 1 (vp_nar .byte ((n >>> (16 &&& 31)).toInt8.toInt32))) 2 (vp_nar .byte ((n >>> (8 &&& 31)).toInt8.toInt32))) 3 (vp_nar .byte ((n >>> (0 &&& 31)).toInt8.toInt32)))))] H := hP
  have hD : va_D A [(a, .inr (0, ((((fs.set 1 (.int 1)).set 1 (.int 2)).set 1 (.int 3)).set 1 (.int 4)))), (b, .inl (dA 0, 256, .inl (upd (upd (upd (upd g 0 (vp_nar .byte ((n >>> (24 &&& 31)).toInt8.toInt32))) 1 (vp_nar .byte ((n >>> (16 &&& 31)).toInt8.toInt32))) 2 (vp_nar .byte ((n >>> (8 &&& 31)).toInt8.toInt32))) 3 (vp_nar .byte ((n >>> (0 &&& 31)).toInt8.toInt32)))))] := hD
  refine lv_iinc (k := 0) (v := (-8)) hx hb d_V_putOnTape_30 hl rfl (by decide) (by decide) rfl (fun ls hl => ?_)
  have hl : lv_has ls 3 [(2, .int (-8)), (0, .ref a), (1, .int n)] := hl
  refine lv_goto hx hb d_V_putOnTape_33 (tgt := 3) rfl ?_
  refine lv_iload_n hx hb d_V_putOnTape_3 rfl (lv_at hl 0 rfl) ?_
  refine lv_if_lt hx hb d_V_putOnTape_4 (tgt := 36) rfl (fun _ => ?_) (fun h9 => absurd (by decide) h9)
  exact rtV hx hb hr hlk hP hD hS () trivial [0, 1] rfl rfl (by decide) (Nat.le_of_ble_eq_true rfl) (Nat.le_of_ble_eq_true rfl) d_V_putOnTape_36
set_option maxHeartbeats 4000000 in
set_option maxRecDepth 100000 in
theorem c_V_putOnTape_4 (l : Launch) (D : va_G) (dA : Nat → ClassId) (sz : Nat) (a : Nat) (fs : List Value) (b : Nat) (g : Nat → Int32) (n : Int32) (h_fs_tape : fs[0]? = some (.ref b)) (h_fs_tapeLength : fs[1]? = some (.int 4)) (hl_fs : fs.length = 18) : Met l ⟨"SeriesVault", "putOnTape", "(I)V"⟩ [Cond.code ⟨"SeriesVault", "putOnTape", "(I)V"⟩ prog_1_method_3_code 3 none] { frames := 1, cells := 0, slots := 0, locals := 0 } (pC D dA [.ref a, .int n] [(a, .inr (0, fs)), (b, .inl (dA 0, 256, .inl g))] sz) (va_Qv (fun (_ : Unit) => True) (fun (u9 : Unit) t9 => bW D (va_A [(a, .inr (0, fs)), (b, .inl (dA 0, 256, .inl g))] sz) [(a, .inr (0, ((((fs.set 1 (.int 5)).set 1 (.int 6)).set 1 (.int 7)).set 1 (.int 8)))), (b, .inl (dA 0, 256, .inl (upd (upd (upd (upd g 4 (vp_nar .byte ((n >>> (24 &&& 31)).toInt8.toInt32))) 5 (vp_nar .byte ((n >>> (16 &&& 31)).toInt8.toInt32))) 6 (vp_nar .byte ((n >>> (8 &&& 31)).toInt8.toInt32))) 7 (vp_nar .byte ((n >>> (0 &&& 31)).toInt8.toInt32)))))] t9) (va_A [(a, .inr (0, fs)), (b, .inl (dA 0, 256, .inl g))] sz)) 0 0 (va_A [(a, .inr (0, fs)), (b, .inl (dA 0, 256, .inl g))] sz) := by
  refine mkC (y := ⟨"SeriesVault", "putOnTape", "(I)V"⟩) (cc := prog_1_method_3_code) (maxL := 3) (av := [.ref a, .int n]) (ws := [(a, .inr (0, fs)), (b, .inl (dA 0, 256, .inl g))]) (sz := sz) (Qc := fun A => va_Qv (fun (_ : Unit) => True) (fun (u9 : Unit) t9 => bW D A [(a, .inr (0, ((((fs.set 1 (.int 5)).set 1 (.int 6)).set 1 (.int 7)).set 1 (.int 8)))), (b, .inl (dA 0, 256, .inl (upd (upd (upd (upd g 4 (vp_nar .byte ((n >>> (24 &&& 31)).toInt8.toInt32))) 5 (vp_nar .byte ((n >>> (16 &&& 31)).toInt8.toInt32))) 6 (vp_nar .byte ((n >>> (8 &&& 31)).toInt8.toInt32))) 7 (vp_nar .byte ((n >>> (0 &&& 31)).toInt8.toInt32)))))] t9) A) (by decide) (Nat.le_of_ble_eq_true rfl) ?_
  intro A p e s m below meth c ls hsz hB
  obtain ⟨hx, hb, hr, hml, hown, hin, hlk, hE, hK, hP, hD, hS, hA, hN, hl⟩ := hB
  have hown : s.vm.findClass "SeriesVault" = some m.cls := hown
  have hin : meth.name = "putOnTape" := hin
  have hl : lv_has ls 3 [(0, .ref a), (1, .int n)] := hl
  obtain ⟨H, hH⟩ : ∃ z, z = s.heap := ⟨_, rfl⟩
  have hP : va_P D vwCl [(a, .inr (0, fs)), (b, .inl (dA 0, 256, .inl g))] H := by rw [hH]; exact hP
  have hS : va_S A s.heap H [] := by rw [hH]; exact hS
  rw [← hH]
  refine lv_bipush (v := 24) hx hb d_V_putOnTape_0 (by decide) ?_
  refine lv_istore_n hx hb d_V_putOnTape_2 rfl hl (by decide) rfl (fun ls hl => ?_)
  have hl : lv_has ls 3 [(2, .int 24), (0, .ref a), (1, .int n)] := hl
  refine lv_iload_n hx hb d_V_putOnTape_3 rfl (lv_at hl 0 rfl) ?_
  refine lv_if_lt hx hb d_V_putOnTape_4 (tgt := 36) rfl (fun h9 => absurd h9 (by decide)) (fun _ => ?_)
  refine lv_aload_n hx hb d_V_putOnTape_7 rfl (lv_at hl 1 rfl) ?_
  refine gF (v := .ref b) hx hb hown hE hK hP 0 rfl rfl layV 0 (by decide) w539 h_fs_tape d_V_putOnTape_8 ?_
  refine lv_aload_n hx hb d_V_putOnTape_11 rfl (lv_at hl 1 rfl) ?_
  refine gF (v := .int 4) hx hb hown hE hK hP 0 rfl rfl layV 1 (by decide) w259 h_fs_tapeLength d_V_putOnTape_12 ?_
  refine lv_iload_n hx hb d_V_putOnTape_15 rfl (lv_at hl 2 rfl) ?_
  refine lv_iload_n hx hb d_V_putOnTape_16 rfl (lv_at hl 0 rfl) ?_
  refine lv_ishr hx hb d_V_putOnTape_17 ?_
  refine lv_i2b hx hb d_V_putOnTape_18 rfl ?_
  refine va_bast hx hb hK hP hD hS 1 0 rfl rfl (by unfold vp_in; decide) d_V_putOnTape_19 (fun H locs hP hD hS => ?_)
  have hP : va_P D vwCl [(a, .inr (0, fs)), (b, .inl (dA 0, 256, .inl (upd g 4 (vp_nar .byte ((n >>> (24 &&& 31)).toInt8.toInt32)))))] H := hP
  have hD : va_D A [(a, .inr (0, fs)), (b, .inl (dA 0, 256, .inl (upd g 4 (vp_nar .byte ((n >>> (24 &&& 31)).toInt8.toInt32)))))] := hD
  refine lv_aload_n hx hb d_V_putOnTape_20 rfl (lv_at hl 1 rfl) ?_
  refine lv_dup hx hb d_V_putOnTape_21 rfl ?_
  refine gF (v := .int 4) hx hb hown hE hK hP 0 rfl rfl layV 1 (by decide) w259 h_fs_tapeLength d_V_putOnTape_22 ?_
  refine lv_iconst (v := 1) hx hb d_V_putOnTape_25 (by decide) ?_
  refine lv_iadd hx hb d_V_putOnTape_26 (tpi (y := 5) (by decide) ?_)
  refine pF hx hb hown hE hK hP hD hS 0 rfl rfl layV tyV tokV nmV 1 (by decide) w259 rfl rfl rfl (by simp [hl_fs]) d_V_putOnTape_27 (fun H locs hP hD hS => ?_)
  have hP : va_P D vwCl [(a, .inr (0, (fs.set 1 (.int 5)))), (b, .inl (dA 0, 256, .inl (upd g 4 (vp_nar .byte ((n >>> (24 &&& 31)).toInt8.toInt32)))))] H := hP
  have hD : va_D A [(a, .inr (0, (fs.set 1 (.int 5)))), (b, .inl (dA 0, 256, .inl (upd g 4 (vp_nar .byte ((n >>> (24 &&& 31)).toInt8.toInt32)))))] := hD
  refine lv_iinc (k := 0) (v := 16) hx hb d_V_putOnTape_30 hl rfl (by decide) (by decide) rfl (fun ls hl => ?_)
  have hl : lv_has ls 3 [(2, .int 16), (0, .ref a), (1, .int n)] := hl
  refine lv_goto hx hb d_V_putOnTape_33 (tgt := 3) rfl ?_
  refine lv_iload_n hx hb d_V_putOnTape_3 rfl (lv_at hl 0 rfl) ?_
  refine lv_if_lt hx hb d_V_putOnTape_4 (tgt := 36) rfl (fun h9 => absurd h9 (by decide)) (fun _ => ?_)
  refine lv_aload_n hx hb d_V_putOnTape_7 rfl (lv_at hl 1 rfl) ?_
  refine gF (v := .ref b) hx hb hown hE hK hP 0 rfl rfl layV 0 (by decide) w539 (by simp [h_fs_tape]) d_V_putOnTape_8 ?_
  refine lv_aload_n hx hb d_V_putOnTape_11 rfl (lv_at hl 1 rfl) ?_
  refine gF (v := .int 5) hx hb hown hE hK hP 0 rfl rfl layV 1 (by decide) w259 (by simp [hl_fs]) d_V_putOnTape_12 ?_
  refine lv_iload_n hx hb d_V_putOnTape_15 rfl (lv_at hl 2 rfl) ?_
  refine lv_iload_n hx hb d_V_putOnTape_16 rfl (lv_at hl 0 rfl) ?_
  refine lv_ishr hx hb d_V_putOnTape_17 ?_
  refine lv_i2b hx hb d_V_putOnTape_18 rfl ?_
  refine va_bast hx hb hK hP hD hS 1 0 rfl rfl (by unfold vp_in; decide) d_V_putOnTape_19 (fun H locs hP hD hS => ?_)
  have hP : va_P D vwCl [(a, .inr (0, (fs.set 1 (.int 5)))), (b, .inl (dA 0, 256, .inl (upd (upd g 4 (vp_nar .byte ((n >>> (24 &&& 31)).toInt8.toInt32))) 5 (vp_nar .byte ((n >>> (16 &&& 31)).toInt8.toInt32)))))] H := hP
  have hD : va_D A [(a, .inr (0, (fs.set 1 (.int 5)))), (b, .inl (dA 0, 256, .inl (upd (upd g 4 (vp_nar .byte ((n >>> (24 &&& 31)).toInt8.toInt32))) 5 (vp_nar .byte ((n >>> (16 &&& 31)).toInt8.toInt32)))))] := hD
  refine lv_aload_n hx hb d_V_putOnTape_20 rfl (lv_at hl 1 rfl) ?_
  refine lv_dup hx hb d_V_putOnTape_21 rfl ?_
  refine gF (v := .int 5) hx hb hown hE hK hP 0 rfl rfl layV 1 (by decide) w259 (by simp [hl_fs]) d_V_putOnTape_22 ?_
  refine lv_iconst (v := 1) hx hb d_V_putOnTape_25 (by decide) ?_
  refine lv_iadd hx hb d_V_putOnTape_26 (tpi (y := 6) (by decide) ?_)
  refine pF hx hb hown hE hK hP hD hS 0 rfl rfl layV tyV tokV nmV 1 (by decide) w259 rfl rfl rfl (by simp [hl_fs]) d_V_putOnTape_27 (fun H locs hP hD hS => ?_)
  have hP : va_P D vwCl [(a, .inr (0, ((fs.set 1 (.int 5)).set 1 (.int 6)))), (b, .inl (dA 0, 256, .inl (upd (upd g 4 (vp_nar .byte ((n >>> (24 &&& 31)).toInt8.toInt32))) 5 (vp_nar .byte ((n >>> (16 &&& 31)).toInt8.toInt32)))))] H := hP
  have hD : va_D A [(a, .inr (0, ((fs.set 1 (.int 5)).set 1 (.int 6)))), (b, .inl (dA 0, 256, .inl (upd (upd g 4 (vp_nar .byte ((n >>> (24 &&& 31)).toInt8.toInt32))) 5 (vp_nar .byte ((n >>> (16 &&& 31)).toInt8.toInt32)))))] := hD
  refine lv_iinc (k := 0) (v := 8) hx hb d_V_putOnTape_30 hl rfl (by decide) (by decide) rfl (fun ls hl => ?_)
  have hl : lv_has ls 3 [(2, .int 8), (0, .ref a), (1, .int n)] := hl
  refine lv_goto hx hb d_V_putOnTape_33 (tgt := 3) rfl ?_
  refine lv_iload_n hx hb d_V_putOnTape_3 rfl (lv_at hl 0 rfl) ?_
  refine lv_if_lt hx hb d_V_putOnTape_4 (tgt := 36) rfl (fun h9 => absurd h9 (by decide)) (fun _ => ?_)
  refine lv_aload_n hx hb d_V_putOnTape_7 rfl (lv_at hl 1 rfl) ?_
  refine gF (v := .ref b) hx hb hown hE hK hP 0 rfl rfl layV 0 (by decide) w539 (by simp [h_fs_tape]) d_V_putOnTape_8 ?_
  refine lv_aload_n hx hb d_V_putOnTape_11 rfl (lv_at hl 1 rfl) ?_
  refine gF (v := .int 6) hx hb hown hE hK hP 0 rfl rfl layV 1 (by decide) w259 (by simp [hl_fs]) d_V_putOnTape_12 ?_
  refine lv_iload_n hx hb d_V_putOnTape_15 rfl (lv_at hl 2 rfl) ?_
  refine lv_iload_n hx hb d_V_putOnTape_16 rfl (lv_at hl 0 rfl) ?_
  refine lv_ishr hx hb d_V_putOnTape_17 ?_
  refine lv_i2b hx hb d_V_putOnTape_18 rfl ?_
  refine va_bast hx hb hK hP hD hS 1 0 rfl rfl (by unfold vp_in; decide) d_V_putOnTape_19 (fun H locs hP hD hS => ?_)
  have hP : va_P D vwCl [(a, .inr (0, ((fs.set 1 (.int 5)).set 1 (.int 6)))), (b, .inl (dA 0, 256, .inl (upd (upd (upd g 4 (vp_nar .byte ((n >>> (24 &&& 31)).toInt8.toInt32))) 5 (vp_nar .byte ((n >>> (16 &&& 31)).toInt8.toInt32))) 6 (vp_nar .byte ((n >>> (8 &&& 31)).toInt8.toInt32)))))] H := hP
  have hD : va_D A [(a, .inr (0, ((fs.set 1 (.int 5)).set 1 (.int 6)))), (b, .inl (dA 0, 256, .inl (upd (upd (upd g 4 (vp_nar .byte ((n >>> (24 &&& 31)).toInt8.toInt32))) 5 (vp_nar .byte ((n >>> (16 &&& 31)).toInt8.toInt32))) 6 (vp_nar .byte ((n >>> (8 &&& 31)).toInt8.toInt32)))))] := hD
  refine lv_aload_n hx hb d_V_putOnTape_20 rfl (lv_at hl 1 rfl) ?_
  refine lv_dup hx hb d_V_putOnTape_21 rfl ?_
  refine gF (v := .int 6) hx hb hown hE hK hP 0 rfl rfl layV 1 (by decide) w259 (by simp [hl_fs]) d_V_putOnTape_22 ?_
  refine lv_iconst (v := 1) hx hb d_V_putOnTape_25 (by decide) ?_
  refine lv_iadd hx hb d_V_putOnTape_26 (tpi (y := 7) (by decide) ?_)
  refine pF hx hb hown hE hK hP hD hS 0 rfl rfl layV tyV tokV nmV 1 (by decide) w259 rfl rfl rfl (by simp [hl_fs]) d_V_putOnTape_27 (fun H locs hP hD hS => ?_)
  have hP : va_P D vwCl [(a, .inr (0, (((fs.set 1 (.int 5)).set 1 (.int 6)).set 1 (.int 7)))), (b, .inl (dA 0, 256, .inl (upd (upd (upd g 4 (vp_nar .byte ((n >>> (24 &&& 31)).toInt8.toInt32))) 5 (vp_nar .byte ((n >>> (16 &&& 31)).toInt8.toInt32))) 6 (vp_nar .byte ((n >>> (8 &&& 31)).toInt8.toInt32)))))] H := hP
  have hD : va_D A [(a, .inr (0, (((fs.set 1 (.int 5)).set 1 (.int 6)).set 1 (.int 7)))), (b, .inl (dA 0, 256, .inl (upd (upd (upd g 4 (vp_nar .byte ((n >>> (24 &&& 31)).toInt8.toInt32))) 5 (vp_nar .byte ((n >>> (16 &&& 31)).toInt8.toInt32))) 6 (vp_nar .byte ((n >>> (8 &&& 31)).toInt8.toInt32)))))] := hD
  refine lv_iinc (k := 0) (v := 0) hx hb d_V_putOnTape_30 hl rfl (by decide) (by decide) rfl (fun ls hl => ?_)
  have hl : lv_has ls 3 [(2, .int 0), (0, .ref a), (1, .int n)] := hl
  refine lv_goto hx hb d_V_putOnTape_33 (tgt := 3) rfl ?_
  refine lv_iload_n hx hb d_V_putOnTape_3 rfl (lv_at hl 0 rfl) ?_
  refine lv_if_lt hx hb d_V_putOnTape_4 (tgt := 36) rfl (fun h9 => absurd h9 (by decide)) (fun _ => ?_)
  refine lv_aload_n hx hb d_V_putOnTape_7 rfl (lv_at hl 1 rfl) ?_
  refine gF (v := .ref b) hx hb hown hE hK hP 0 rfl rfl layV 0 (by decide) w539 (by simp [h_fs_tape]) d_V_putOnTape_8 ?_
  refine lv_aload_n hx hb d_V_putOnTape_11 rfl (lv_at hl 1 rfl) ?_
  refine gF (v := .int 7) hx hb hown hE hK hP 0 rfl rfl layV 1 (by decide) w259 (by simp [hl_fs]) d_V_putOnTape_12 ?_
  refine lv_iload_n hx hb d_V_putOnTape_15 rfl (lv_at hl 2 rfl) ?_
  refine lv_iload_n hx hb d_V_putOnTape_16 rfl (lv_at hl 0 rfl) ?_
  refine lv_ishr hx hb d_V_putOnTape_17 ?_
  refine lv_i2b hx hb d_V_putOnTape_18 rfl ?_
  refine va_bast hx hb hK hP hD hS 1 0 rfl rfl (by unfold vp_in; decide) d_V_putOnTape_19 (fun H locs hP hD hS => ?_)
  have hP : va_P D vwCl [(a, .inr (0, (((fs.set 1 (.int 5)).set 1 (.int 6)).set 1 (.int 7)))), (b, .inl (dA 0, 256, .inl (upd (upd (upd (upd g 4 (vp_nar .byte ((n >>> (24 &&& 31)).toInt8.toInt32))) 5 (vp_nar .byte ((n >>> (16 &&& 31)).toInt8.toInt32))) 6 (vp_nar .byte ((n >>> (8 &&& 31)).toInt8.toInt32))) 7 (vp_nar .byte ((n >>> (0 &&& 31)).toInt8.toInt32)))))] H := hP
  have hD : va_D A [(a, .inr (0, (((fs.set 1 (.int 5)).set 1 (.int 6)).set 1 (.int 7)))), (b, .inl (dA 0, 256, .inl (upd (upd (upd (upd g 4 (vp_nar .byte ((n >>> (24 &&& 31)).toInt8.toInt32))) 5 (vp_nar .byte ((n >>> (16 &&& 31)).toInt8.toInt32))) 6 (vp_nar .byte ((n >>> (8 &&& 31)).toInt8.toInt32))) 7 (vp_nar .byte ((n >>> (0 &&& 31)).toInt8.toInt32)))))] := hD
  refine lv_aload_n hx hb d_V_putOnTape_20 rfl (lv_at hl 1 rfl) ?_
  refine lv_dup hx hb d_V_putOnTape_21 rfl ?_
  refine gF (v := .int 7) hx hb hown hE hK hP 0 rfl rfl layV 1 (by decide) w259 (by simp [hl_fs]) d_V_putOnTape_22 ?_
  refine lv_iconst (v := 1) hx hb d_V_putOnTape_25 (by decide) ?_
  refine lv_iadd hx hb d_V_putOnTape_26 (tpi (y := 8) (by decide) ?_)
  refine pF hx hb hown hE hK hP hD hS 0 rfl rfl layV tyV tokV nmV 1 (by decide) w259 rfl rfl rfl (by simp [hl_fs]) d_V_putOnTape_27 (fun H locs hP hD hS => ?_)
  have hP : va_P D vwCl [(a, .inr (0, ((((fs.set 1 (.int 5)).set 1 (.int 6)).set 1 (.int 7)).set 1 (.int 8)))), (b, .inl (dA 0, 256, .inl (upd (upd (upd (upd g 4 (vp_nar .byte ((n >>> (24 &&& 31)).toInt8.toInt32))) 5 (vp_nar .byte ((n >>> (16 &&& 31)).toInt8.toInt32))) 6 (vp_nar .byte ((n >>> (8 &&& 31)).toInt8.toInt32))) 7 (vp_nar .byte ((n >>> (0 &&& 31)).toInt8.toInt32)))))] H := hP
  have hD : va_D A [(a, .inr (0, ((((fs.set 1 (.int 5)).set 1 (.int 6)).set 1 (.int 7)).set 1 (.int 8)))), (b, .inl (dA 0, 256, .inl (upd (upd (upd (upd g 4 (vp_nar .byte ((n >>> (24 &&& 31)).toInt8.toInt32))) 5 (vp_nar .byte ((n >>> (16 &&& 31)).toInt8.toInt32))) 6 (vp_nar .byte ((n >>> (8 &&& 31)).toInt8.toInt32))) 7 (vp_nar .byte ((n >>> (0 &&& 31)).toInt8.toInt32)))))] := hD
  refine lv_iinc (k := 0) (v := (-8)) hx hb d_V_putOnTape_30 hl rfl (by decide) (by decide) rfl (fun ls hl => ?_)
  have hl : lv_has ls 3 [(2, .int (-8)), (0, .ref a), (1, .int n)] := hl
  refine lv_goto hx hb d_V_putOnTape_33 (tgt := 3) rfl ?_
  refine lv_iload_n hx hb d_V_putOnTape_3 rfl (lv_at hl 0 rfl) ?_
  refine lv_if_lt hx hb d_V_putOnTape_4 (tgt := 36) rfl (fun _ => ?_) (fun h9 => absurd (by decide) h9)
  exact rtV hx hb hr hlk hP hD hS () trivial [0, 1] rfl rfl (by decide) (Nat.le_of_ble_eq_true rfl) (Nat.le_of_ble_eq_true rfl) d_V_putOnTape_36
set_option maxHeartbeats 4000000 in
set_option maxRecDepth 100000 in
theorem c_V_putOnTape_8 (l : Launch) (D : va_G) (dA : Nat → ClassId) (sz : Nat) (a : Nat) (fs : List Value) (b : Nat) (g : Nat → Int32) (n : Int32) (h_fs_tape : fs[0]? = some (.ref b)) (h_fs_tapeLength : fs[1]? = some (.int 8)) (hl_fs : fs.length = 18) : Met l ⟨"SeriesVault", "putOnTape", "(I)V"⟩ [Cond.code ⟨"SeriesVault", "putOnTape", "(I)V"⟩ prog_1_method_3_code 3 none] { frames := 1, cells := 0, slots := 0, locals := 0 } (pC D dA [.ref a, .int n] [(a, .inr (0, fs)), (b, .inl (dA 0, 256, .inl g))] sz) (va_Qv (fun (_ : Unit) => True) (fun (u9 : Unit) t9 => bW D (va_A [(a, .inr (0, fs)), (b, .inl (dA 0, 256, .inl g))] sz) [(a, .inr (0, ((((fs.set 1 (.int 9)).set 1 (.int 10)).set 1 (.int 11)).set 1 (.int 12)))), (b, .inl (dA 0, 256, .inl (upd (upd (upd (upd g 8 (vp_nar .byte ((n >>> (24 &&& 31)).toInt8.toInt32))) 9 (vp_nar .byte ((n >>> (16 &&& 31)).toInt8.toInt32))) 10 (vp_nar .byte ((n >>> (8 &&& 31)).toInt8.toInt32))) 11 (vp_nar .byte ((n >>> (0 &&& 31)).toInt8.toInt32)))))] t9) (va_A [(a, .inr (0, fs)), (b, .inl (dA 0, 256, .inl g))] sz)) 0 0 (va_A [(a, .inr (0, fs)), (b, .inl (dA 0, 256, .inl g))] sz) := by
  refine mkC (y := ⟨"SeriesVault", "putOnTape", "(I)V"⟩) (cc := prog_1_method_3_code) (maxL := 3) (av := [.ref a, .int n]) (ws := [(a, .inr (0, fs)), (b, .inl (dA 0, 256, .inl g))]) (sz := sz) (Qc := fun A => va_Qv (fun (_ : Unit) => True) (fun (u9 : Unit) t9 => bW D A [(a, .inr (0, ((((fs.set 1 (.int 9)).set 1 (.int 10)).set 1 (.int 11)).set 1 (.int 12)))), (b, .inl (dA 0, 256, .inl (upd (upd (upd (upd g 8 (vp_nar .byte ((n >>> (24 &&& 31)).toInt8.toInt32))) 9 (vp_nar .byte ((n >>> (16 &&& 31)).toInt8.toInt32))) 10 (vp_nar .byte ((n >>> (8 &&& 31)).toInt8.toInt32))) 11 (vp_nar .byte ((n >>> (0 &&& 31)).toInt8.toInt32)))))] t9) A) (by decide) (Nat.le_of_ble_eq_true rfl) ?_
  intro A p e s m below meth c ls hsz hB
  obtain ⟨hx, hb, hr, hml, hown, hin, hlk, hE, hK, hP, hD, hS, hA, hN, hl⟩ := hB
  have hown : s.vm.findClass "SeriesVault" = some m.cls := hown
  have hin : meth.name = "putOnTape" := hin
  have hl : lv_has ls 3 [(0, .ref a), (1, .int n)] := hl
  obtain ⟨H, hH⟩ : ∃ z, z = s.heap := ⟨_, rfl⟩
  have hP : va_P D vwCl [(a, .inr (0, fs)), (b, .inl (dA 0, 256, .inl g))] H := by rw [hH]; exact hP
  have hS : va_S A s.heap H [] := by rw [hH]; exact hS
  rw [← hH]
  refine lv_bipush (v := 24) hx hb d_V_putOnTape_0 (by decide) ?_
  refine lv_istore_n hx hb d_V_putOnTape_2 rfl hl (by decide) rfl (fun ls hl => ?_)
  have hl : lv_has ls 3 [(2, .int 24), (0, .ref a), (1, .int n)] := hl
  refine lv_iload_n hx hb d_V_putOnTape_3 rfl (lv_at hl 0 rfl) ?_
  refine lv_if_lt hx hb d_V_putOnTape_4 (tgt := 36) rfl (fun h9 => absurd h9 (by decide)) (fun _ => ?_)
  refine lv_aload_n hx hb d_V_putOnTape_7 rfl (lv_at hl 1 rfl) ?_
  refine gF (v := .ref b) hx hb hown hE hK hP 0 rfl rfl layV 0 (by decide) w539 h_fs_tape d_V_putOnTape_8 ?_
  refine lv_aload_n hx hb d_V_putOnTape_11 rfl (lv_at hl 1 rfl) ?_
  refine gF (v := .int 8) hx hb hown hE hK hP 0 rfl rfl layV 1 (by decide) w259 h_fs_tapeLength d_V_putOnTape_12 ?_
  refine lv_iload_n hx hb d_V_putOnTape_15 rfl (lv_at hl 2 rfl) ?_
  refine lv_iload_n hx hb d_V_putOnTape_16 rfl (lv_at hl 0 rfl) ?_
  refine lv_ishr hx hb d_V_putOnTape_17 ?_
  refine lv_i2b hx hb d_V_putOnTape_18 rfl ?_
  refine va_bast hx hb hK hP hD hS 1 0 rfl rfl (by unfold vp_in; decide) d_V_putOnTape_19 (fun H locs hP hD hS => ?_)
  have hP : va_P D vwCl [(a, .inr (0, fs)), (b, .inl (dA 0, 256, .inl (upd g 8 (vp_nar .byte ((n >>> (24 &&& 31)).toInt8.toInt32)))))] H := hP
  have hD : va_D A [(a, .inr (0, fs)), (b, .inl (dA 0, 256, .inl (upd g 8 (vp_nar .byte ((n >>> (24 &&& 31)).toInt8.toInt32)))))] := hD
  refine lv_aload_n hx hb d_V_putOnTape_20 rfl (lv_at hl 1 rfl) ?_
  refine lv_dup hx hb d_V_putOnTape_21 rfl ?_
  refine gF (v := .int 8) hx hb hown hE hK hP 0 rfl rfl layV 1 (by decide) w259 h_fs_tapeLength d_V_putOnTape_22 ?_
  refine lv_iconst (v := 1) hx hb d_V_putOnTape_25 (by decide) ?_
  refine lv_iadd hx hb d_V_putOnTape_26 (tpi (y := 9) (by decide) ?_)
  refine pF hx hb hown hE hK hP hD hS 0 rfl rfl layV tyV tokV nmV 1 (by decide) w259 rfl rfl rfl (by simp [hl_fs]) d_V_putOnTape_27 (fun H locs hP hD hS => ?_)
  have hP : va_P D vwCl [(a, .inr (0, (fs.set 1 (.int 9)))), (b, .inl (dA 0, 256, .inl (upd g 8 (vp_nar .byte ((n >>> (24 &&& 31)).toInt8.toInt32)))))] H := hP
  have hD : va_D A [(a, .inr (0, (fs.set 1 (.int 9)))), (b, .inl (dA 0, 256, .inl (upd g 8 (vp_nar .byte ((n >>> (24 &&& 31)).toInt8.toInt32)))))] := hD
  refine lv_iinc (k := 0) (v := 16) hx hb d_V_putOnTape_30 hl rfl (by decide) (by decide) rfl (fun ls hl => ?_)
  have hl : lv_has ls 3 [(2, .int 16), (0, .ref a), (1, .int n)] := hl
  refine lv_goto hx hb d_V_putOnTape_33 (tgt := 3) rfl ?_
  refine lv_iload_n hx hb d_V_putOnTape_3 rfl (lv_at hl 0 rfl) ?_
  refine lv_if_lt hx hb d_V_putOnTape_4 (tgt := 36) rfl (fun h9 => absurd h9 (by decide)) (fun _ => ?_)
  refine lv_aload_n hx hb d_V_putOnTape_7 rfl (lv_at hl 1 rfl) ?_
  refine gF (v := .ref b) hx hb hown hE hK hP 0 rfl rfl layV 0 (by decide) w539 (by simp [h_fs_tape]) d_V_putOnTape_8 ?_
  refine lv_aload_n hx hb d_V_putOnTape_11 rfl (lv_at hl 1 rfl) ?_
  refine gF (v := .int 9) hx hb hown hE hK hP 0 rfl rfl layV 1 (by decide) w259 (by simp [hl_fs]) d_V_putOnTape_12 ?_
  refine lv_iload_n hx hb d_V_putOnTape_15 rfl (lv_at hl 2 rfl) ?_
  refine lv_iload_n hx hb d_V_putOnTape_16 rfl (lv_at hl 0 rfl) ?_
  refine lv_ishr hx hb d_V_putOnTape_17 ?_
  refine lv_i2b hx hb d_V_putOnTape_18 rfl ?_
  refine va_bast hx hb hK hP hD hS 1 0 rfl rfl (by unfold vp_in; decide) d_V_putOnTape_19 (fun H locs hP hD hS => ?_)
  have hP : va_P D vwCl [(a, .inr (0, (fs.set 1 (.int 9)))), (b, .inl (dA 0, 256, .inl (upd (upd g 8 (vp_nar .byte ((n >>> (24 &&& 31)).toInt8.toInt32))) 9 (vp_nar .byte ((n >>> (16 &&& 31)).toInt8.toInt32)))))] H := hP
  have hD : va_D A [(a, .inr (0, (fs.set 1 (.int 9)))), (b, .inl (dA 0, 256, .inl (upd (upd g 8 (vp_nar .byte ((n >>> (24 &&& 31)).toInt8.toInt32))) 9 (vp_nar .byte ((n >>> (16 &&& 31)).toInt8.toInt32)))))] := hD
  refine lv_aload_n hx hb d_V_putOnTape_20 rfl (lv_at hl 1 rfl) ?_
  refine lv_dup hx hb d_V_putOnTape_21 rfl ?_
  refine gF (v := .int 9) hx hb hown hE hK hP 0 rfl rfl layV 1 (by decide) w259 (by simp [hl_fs]) d_V_putOnTape_22 ?_
  refine lv_iconst (v := 1) hx hb d_V_putOnTape_25 (by decide) ?_
  refine lv_iadd hx hb d_V_putOnTape_26 (tpi (y := 10) (by decide) ?_)
  refine pF hx hb hown hE hK hP hD hS 0 rfl rfl layV tyV tokV nmV 1 (by decide) w259 rfl rfl rfl (by simp [hl_fs]) d_V_putOnTape_27 (fun H locs hP hD hS => ?_)
  have hP : va_P D vwCl [(a, .inr (0, ((fs.set 1 (.int 9)).set 1 (.int 10)))), (b, .inl (dA 0, 256, .inl (upd (upd g 8 (vp_nar .byte ((n >>> (24 &&& 31)).toInt8.toInt32))) 9 (vp_nar .byte ((n >>> (16 &&& 31)).toInt8.toInt32)))))] H := hP
  have hD : va_D A [(a, .inr (0, ((fs.set 1 (.int 9)).set 1 (.int 10)))), (b, .inl (dA 0, 256, .inl (upd (upd g 8 (vp_nar .byte ((n >>> (24 &&& 31)).toInt8.toInt32))) 9 (vp_nar .byte ((n >>> (16 &&& 31)).toInt8.toInt32)))))] := hD
  refine lv_iinc (k := 0) (v := 8) hx hb d_V_putOnTape_30 hl rfl (by decide) (by decide) rfl (fun ls hl => ?_)
  have hl : lv_has ls 3 [(2, .int 8), (0, .ref a), (1, .int n)] := hl
  refine lv_goto hx hb d_V_putOnTape_33 (tgt := 3) rfl ?_
  refine lv_iload_n hx hb d_V_putOnTape_3 rfl (lv_at hl 0 rfl) ?_
  refine lv_if_lt hx hb d_V_putOnTape_4 (tgt := 36) rfl (fun h9 => absurd h9 (by decide)) (fun _ => ?_)
  refine lv_aload_n hx hb d_V_putOnTape_7 rfl (lv_at hl 1 rfl) ?_
  refine gF (v := .ref b) hx hb hown hE hK hP 0 rfl rfl layV 0 (by decide) w539 (by simp [h_fs_tape]) d_V_putOnTape_8 ?_
  refine lv_aload_n hx hb d_V_putOnTape_11 rfl (lv_at hl 1 rfl) ?_
  refine gF (v := .int 10) hx hb hown hE hK hP 0 rfl rfl layV 1 (by decide) w259 (by simp [hl_fs]) d_V_putOnTape_12 ?_
  refine lv_iload_n hx hb d_V_putOnTape_15 rfl (lv_at hl 2 rfl) ?_
  refine lv_iload_n hx hb d_V_putOnTape_16 rfl (lv_at hl 0 rfl) ?_
  refine lv_ishr hx hb d_V_putOnTape_17 ?_
  refine lv_i2b hx hb d_V_putOnTape_18 rfl ?_
  refine va_bast hx hb hK hP hD hS 1 0 rfl rfl (by unfold vp_in; decide) d_V_putOnTape_19 (fun H locs hP hD hS => ?_)
  have hP : va_P D vwCl [(a, .inr (0, ((fs.set 1 (.int 9)).set 1 (.int 10)))), (b, .inl (dA 0, 256, .inl (upd (upd (upd g 8 (vp_nar .byte ((n >>> (24 &&& 31)).toInt8.toInt32))) 9 (vp_nar .byte ((n >>> (16 &&& 31)).toInt8.toInt32))) 10 (vp_nar .byte ((n >>> (8 &&& 31)).toInt8.toInt32)))))] H := hP
  have hD : va_D A [(a, .inr (0, ((fs.set 1 (.int 9)).set 1 (.int 10)))), (b, .inl (dA 0, 256, .inl (upd (upd (upd g 8 (vp_nar .byte ((n >>> (24 &&& 31)).toInt8.toInt32))) 9 (vp_nar .byte ((n >>> (16 &&& 31)).toInt8.toInt32))) 10 (vp_nar .byte ((n >>> (8 &&& 31)).toInt8.toInt32)))))] := hD
  refine lv_aload_n hx hb d_V_putOnTape_20 rfl (lv_at hl 1 rfl) ?_
  refine lv_dup hx hb d_V_putOnTape_21 rfl ?_
  refine gF (v := .int 10) hx hb hown hE hK hP 0 rfl rfl layV 1 (by decide) w259 (by simp [hl_fs]) d_V_putOnTape_22 ?_
  refine lv_iconst (v := 1) hx hb d_V_putOnTape_25 (by decide) ?_
  refine lv_iadd hx hb d_V_putOnTape_26 (tpi (y := 11) (by decide) ?_)
  refine pF hx hb hown hE hK hP hD hS 0 rfl rfl layV tyV tokV nmV 1 (by decide) w259 rfl rfl rfl (by simp [hl_fs]) d_V_putOnTape_27 (fun H locs hP hD hS => ?_)
  have hP : va_P D vwCl [(a, .inr (0, (((fs.set 1 (.int 9)).set 1 (.int 10)).set 1 (.int 11)))), (b, .inl (dA 0, 256, .inl (upd (upd (upd g 8 (vp_nar .byte ((n >>> (24 &&& 31)).toInt8.toInt32))) 9 (vp_nar .byte ((n >>> (16 &&& 31)).toInt8.toInt32))) 10 (vp_nar .byte ((n >>> (8 &&& 31)).toInt8.toInt32)))))] H := hP
  have hD : va_D A [(a, .inr (0, (((fs.set 1 (.int 9)).set 1 (.int 10)).set 1 (.int 11)))), (b, .inl (dA 0, 256, .inl (upd (upd (upd g 8 (vp_nar .byte ((n >>> (24 &&& 31)).toInt8.toInt32))) 9 (vp_nar .byte ((n >>> (16 &&& 31)).toInt8.toInt32))) 10 (vp_nar .byte ((n >>> (8 &&& 31)).toInt8.toInt32)))))] := hD
  refine lv_iinc (k := 0) (v := 0) hx hb d_V_putOnTape_30 hl rfl (by decide) (by decide) rfl (fun ls hl => ?_)
  have hl : lv_has ls 3 [(2, .int 0), (0, .ref a), (1, .int n)] := hl
  refine lv_goto hx hb d_V_putOnTape_33 (tgt := 3) rfl ?_
  refine lv_iload_n hx hb d_V_putOnTape_3 rfl (lv_at hl 0 rfl) ?_
  refine lv_if_lt hx hb d_V_putOnTape_4 (tgt := 36) rfl (fun h9 => absurd h9 (by decide)) (fun _ => ?_)
  refine lv_aload_n hx hb d_V_putOnTape_7 rfl (lv_at hl 1 rfl) ?_
  refine gF (v := .ref b) hx hb hown hE hK hP 0 rfl rfl layV 0 (by decide) w539 (by simp [h_fs_tape]) d_V_putOnTape_8 ?_
  refine lv_aload_n hx hb d_V_putOnTape_11 rfl (lv_at hl 1 rfl) ?_
  refine gF (v := .int 11) hx hb hown hE hK hP 0 rfl rfl layV 1 (by decide) w259 (by simp [hl_fs]) d_V_putOnTape_12 ?_
  refine lv_iload_n hx hb d_V_putOnTape_15 rfl (lv_at hl 2 rfl) ?_
  refine lv_iload_n hx hb d_V_putOnTape_16 rfl (lv_at hl 0 rfl) ?_
  refine lv_ishr hx hb d_V_putOnTape_17 ?_
  refine lv_i2b hx hb d_V_putOnTape_18 rfl ?_
  refine va_bast hx hb hK hP hD hS 1 0 rfl rfl (by unfold vp_in; decide) d_V_putOnTape_19 (fun H locs hP hD hS => ?_)
  have hP : va_P D vwCl [(a, .inr (0, (((fs.set 1 (.int 9)).set 1 (.int 10)).set 1 (.int 11)))), (b, .inl (dA 0, 256, .inl (upd (upd (upd (upd g 8 (vp_nar .byte ((n >>> (24 &&& 31)).toInt8.toInt32))) 9 (vp_nar .byte ((n >>> (16 &&& 31)).toInt8.toInt32))) 10 (vp_nar .byte ((n >>> (8 &&& 31)).toInt8.toInt32))) 11 (vp_nar .byte ((n >>> (0 &&& 31)).toInt8.toInt32)))))] H := hP
  have hD : va_D A [(a, .inr (0, (((fs.set 1 (.int 9)).set 1 (.int 10)).set 1 (.int 11)))), (b, .inl (dA 0, 256, .inl (upd (upd (upd (upd g 8 (vp_nar .byte ((n >>> (24 &&& 31)).toInt8.toInt32))) 9 (vp_nar .byte ((n >>> (16 &&& 31)).toInt8.toInt32))) 10 (vp_nar .byte ((n >>> (8 &&& 31)).toInt8.toInt32))) 11 (vp_nar .byte ((n >>> (0 &&& 31)).toInt8.toInt32)))))] := hD
  refine lv_aload_n hx hb d_V_putOnTape_20 rfl (lv_at hl 1 rfl) ?_
  refine lv_dup hx hb d_V_putOnTape_21 rfl ?_
  refine gF (v := .int 11) hx hb hown hE hK hP 0 rfl rfl layV 1 (by decide) w259 (by simp [hl_fs]) d_V_putOnTape_22 ?_
  refine lv_iconst (v := 1) hx hb d_V_putOnTape_25 (by decide) ?_
  refine lv_iadd hx hb d_V_putOnTape_26 (tpi (y := 12) (by decide) ?_)
  refine pF hx hb hown hE hK hP hD hS 0 rfl rfl layV tyV tokV nmV 1 (by decide) w259 rfl rfl rfl (by simp [hl_fs]) d_V_putOnTape_27 (fun H locs hP hD hS => ?_)
  have hP : va_P D vwCl [(a, .inr (0, ((((fs.set 1 (.int 9)).set 1 (.int 10)).set 1 (.int 11)).set 1 (.int 12)))), (b, .inl (dA 0, 256, .inl (upd (upd (upd (upd g 8 (vp_nar .byte ((n >>> (24 &&& 31)).toInt8.toInt32))) 9 (vp_nar .byte ((n >>> (16 &&& 31)).toInt8.toInt32))) 10 (vp_nar .byte ((n >>> (8 &&& 31)).toInt8.toInt32))) 11 (vp_nar .byte ((n >>> (0 &&& 31)).toInt8.toInt32)))))] H := hP
  have hD : va_D A [(a, .inr (0, ((((fs.set 1 (.int 9)).set 1 (.int 10)).set 1 (.int 11)).set 1 (.int 12)))), (b, .inl (dA 0, 256, .inl (upd (upd (upd (upd g 8 (vp_nar .byte ((n >>> (24 &&& 31)).toInt8.toInt32))) 9 (vp_nar .byte ((n >>> (16 &&& 31)).toInt8.toInt32))) 10 (vp_nar .byte ((n >>> (8 &&& 31)).toInt8.toInt32))) 11 (vp_nar .byte ((n >>> (0 &&& 31)).toInt8.toInt32)))))] := hD
  refine lv_iinc (k := 0) (v := (-8)) hx hb d_V_putOnTape_30 hl rfl (by decide) (by decide) rfl (fun ls hl => ?_)
  have hl : lv_has ls 3 [(2, .int (-8)), (0, .ref a), (1, .int n)] := hl
  refine lv_goto hx hb d_V_putOnTape_33 (tgt := 3) rfl ?_
  refine lv_iload_n hx hb d_V_putOnTape_3 rfl (lv_at hl 0 rfl) ?_
  refine lv_if_lt hx hb d_V_putOnTape_4 (tgt := 36) rfl (fun _ => ?_) (fun h9 => absurd (by decide) h9)
  exact rtV hx hb hr hlk hP hD hS () trivial [0, 1] rfl rfl (by decide) (Nat.le_of_ble_eq_true rfl) (Nat.le_of_ble_eq_true rfl) d_V_putOnTape_36
set_option maxHeartbeats 4000000 in
set_option maxRecDepth 100000 in
theorem c_V_putOnTape_12 (l : Launch) (D : va_G) (dA : Nat → ClassId) (sz : Nat) (a : Nat) (fs : List Value) (b : Nat) (g : Nat → Int32) (n : Int32) (h_fs_tape : fs[0]? = some (.ref b)) (h_fs_tapeLength : fs[1]? = some (.int 12)) (hl_fs : fs.length = 18) : Met l ⟨"SeriesVault", "putOnTape", "(I)V"⟩ [Cond.code ⟨"SeriesVault", "putOnTape", "(I)V"⟩ prog_1_method_3_code 3 none] { frames := 1, cells := 0, slots := 0, locals := 0 } (pC D dA [.ref a, .int n] [(a, .inr (0, fs)), (b, .inl (dA 0, 256, .inl g))] sz) (va_Qv (fun (_ : Unit) => True) (fun (u9 : Unit) t9 => bW D (va_A [(a, .inr (0, fs)), (b, .inl (dA 0, 256, .inl g))] sz) [(a, .inr (0, ((((fs.set 1 (.int 13)).set 1 (.int 14)).set 1 (.int 15)).set 1 (.int 16)))), (b, .inl (dA 0, 256, .inl (upd (upd (upd (upd g 12 (vp_nar .byte ((n >>> (24 &&& 31)).toInt8.toInt32))) 13 (vp_nar .byte ((n >>> (16 &&& 31)).toInt8.toInt32))) 14 (vp_nar .byte ((n >>> (8 &&& 31)).toInt8.toInt32))) 15 (vp_nar .byte ((n >>> (0 &&& 31)).toInt8.toInt32)))))] t9) (va_A [(a, .inr (0, fs)), (b, .inl (dA 0, 256, .inl g))] sz)) 0 0 (va_A [(a, .inr (0, fs)), (b, .inl (dA 0, 256, .inl g))] sz) := by
  refine mkC (y := ⟨"SeriesVault", "putOnTape", "(I)V"⟩) (cc := prog_1_method_3_code) (maxL := 3) (av := [.ref a, .int n]) (ws := [(a, .inr (0, fs)), (b, .inl (dA 0, 256, .inl g))]) (sz := sz) (Qc := fun A => va_Qv (fun (_ : Unit) => True) (fun (u9 : Unit) t9 => bW D A [(a, .inr (0, ((((fs.set 1 (.int 13)).set 1 (.int 14)).set 1 (.int 15)).set 1 (.int 16)))), (b, .inl (dA 0, 256, .inl (upd (upd (upd (upd g 12 (vp_nar .byte ((n >>> (24 &&& 31)).toInt8.toInt32))) 13 (vp_nar .byte ((n >>> (16 &&& 31)).toInt8.toInt32))) 14 (vp_nar .byte ((n >>> (8 &&& 31)).toInt8.toInt32))) 15 (vp_nar .byte ((n >>> (0 &&& 31)).toInt8.toInt32)))))] t9) A) (by decide) (Nat.le_of_ble_eq_true rfl) ?_
  intro A p e s m below meth c ls hsz hB
  obtain ⟨hx, hb, hr, hml, hown, hin, hlk, hE, hK, hP, hD, hS, hA, hN, hl⟩ := hB
  have hown : s.vm.findClass "SeriesVault" = some m.cls := hown
  have hin : meth.name = "putOnTape" := hin
  have hl : lv_has ls 3 [(0, .ref a), (1, .int n)] := hl
  obtain ⟨H, hH⟩ : ∃ z, z = s.heap := ⟨_, rfl⟩
  have hP : va_P D vwCl [(a, .inr (0, fs)), (b, .inl (dA 0, 256, .inl g))] H := by rw [hH]; exact hP
  have hS : va_S A s.heap H [] := by rw [hH]; exact hS
  rw [← hH]
  refine lv_bipush (v := 24) hx hb d_V_putOnTape_0 (by decide) ?_
  refine lv_istore_n hx hb d_V_putOnTape_2 rfl hl (by decide) rfl (fun ls hl => ?_)
  have hl : lv_has ls 3 [(2, .int 24), (0, .ref a), (1, .int n)] := hl
  refine lv_iload_n hx hb d_V_putOnTape_3 rfl (lv_at hl 0 rfl) ?_
  refine lv_if_lt hx hb d_V_putOnTape_4 (tgt := 36) rfl (fun h9 => absurd h9 (by decide)) (fun _ => ?_)
  refine lv_aload_n hx hb d_V_putOnTape_7 rfl (lv_at hl 1 rfl) ?_
  refine gF (v := .ref b) hx hb hown hE hK hP 0 rfl rfl layV 0 (by decide) w539 h_fs_tape d_V_putOnTape_8 ?_
  refine lv_aload_n hx hb d_V_putOnTape_11 rfl (lv_at hl 1 rfl) ?_
  refine gF (v := .int 12) hx hb hown hE hK hP 0 rfl rfl layV 1 (by decide) w259 h_fs_tapeLength d_V_putOnTape_12 ?_
  refine lv_iload_n hx hb d_V_putOnTape_15 rfl (lv_at hl 2 rfl) ?_
  refine lv_iload_n hx hb d_V_putOnTape_16 rfl (lv_at hl 0 rfl) ?_
  refine lv_ishr hx hb d_V_putOnTape_17 ?_
  refine lv_i2b hx hb d_V_putOnTape_18 rfl ?_
  refine va_bast hx hb hK hP hD hS 1 0 rfl rfl (by unfold vp_in; decide) d_V_putOnTape_19 (fun H locs hP hD hS => ?_)
  have hP : va_P D vwCl [(a, .inr (0, fs)), (b, .inl (dA 0, 256, .inl (upd g 12 (vp_nar .byte ((n >>> (24 &&& 31)).toInt8.toInt32)))))] H := hP
  have hD : va_D A [(a, .inr (0, fs)), (b, .inl (dA 0, 256, .inl (upd g 12 (vp_nar .byte ((n >>> (24 &&& 31)).toInt8.toInt32)))))] := hD
  refine lv_aload_n hx hb d_V_putOnTape_20 rfl (lv_at hl 1 rfl) ?_
  refine lv_dup hx hb d_V_putOnTape_21 rfl ?_
  refine gF (v := .int 12) hx hb hown hE hK hP 0 rfl rfl layV 1 (by decide) w259 h_fs_tapeLength d_V_putOnTape_22 ?_
  refine lv_iconst (v := 1) hx hb d_V_putOnTape_25 (by decide) ?_
  refine lv_iadd hx hb d_V_putOnTape_26 (tpi (y := 13) (by decide) ?_)
  refine pF hx hb hown hE hK hP hD hS 0 rfl rfl layV tyV tokV nmV 1 (by decide) w259 rfl rfl rfl (by simp [hl_fs]) d_V_putOnTape_27 (fun H locs hP hD hS => ?_)
  have hP : va_P D vwCl [(a, .inr (0, (fs.set 1 (.int 13)))), (b, .inl (dA 0, 256, .inl (upd g 12 (vp_nar .byte ((n >>> (24 &&& 31)).toInt8.toInt32)))))] H := hP
  have hD : va_D A [(a, .inr (0, (fs.set 1 (.int 13)))), (b, .inl (dA 0, 256, .inl (upd g 12 (vp_nar .byte ((n >>> (24 &&& 31)).toInt8.toInt32)))))] := hD
  refine lv_iinc (k := 0) (v := 16) hx hb d_V_putOnTape_30 hl rfl (by decide) (by decide) rfl (fun ls hl => ?_)
  have hl : lv_has ls 3 [(2, .int 16), (0, .ref a), (1, .int n)] := hl
  refine lv_goto hx hb d_V_putOnTape_33 (tgt := 3) rfl ?_
  refine lv_iload_n hx hb d_V_putOnTape_3 rfl (lv_at hl 0 rfl) ?_
  refine lv_if_lt hx hb d_V_putOnTape_4 (tgt := 36) rfl (fun h9 => absurd h9 (by decide)) (fun _ => ?_)
  refine lv_aload_n hx hb d_V_putOnTape_7 rfl (lv_at hl 1 rfl) ?_
  refine gF (v := .ref b) hx hb hown hE hK hP 0 rfl rfl layV 0 (by decide) w539 (by simp [h_fs_tape]) d_V_putOnTape_8 ?_
  refine lv_aload_n hx hb d_V_putOnTape_11 rfl (lv_at hl 1 rfl) ?_
  refine gF (v := .int 13) hx hb hown hE hK hP 0 rfl rfl layV 1 (by decide) w259 (by simp [hl_fs]) d_V_putOnTape_12 ?_
  refine lv_iload_n hx hb d_V_putOnTape_15 rfl (lv_at hl 2 rfl) ?_
  refine lv_iload_n hx hb d_V_putOnTape_16 rfl (lv_at hl 0 rfl) ?_
  refine lv_ishr hx hb d_V_putOnTape_17 ?_
  refine lv_i2b hx hb d_V_putOnTape_18 rfl ?_
  refine va_bast hx hb hK hP hD hS 1 0 rfl rfl (by unfold vp_in; decide) d_V_putOnTape_19 (fun H locs hP hD hS => ?_)
  have hP : va_P D vwCl [(a, .inr (0, (fs.set 1 (.int 13)))), (b, .inl (dA 0, 256, .inl (upd (upd g 12 (vp_nar .byte ((n >>> (24 &&& 31)).toInt8.toInt32))) 13 (vp_nar .byte ((n >>> (16 &&& 31)).toInt8.toInt32)))))] H := hP
  have hD : va_D A [(a, .inr (0, (fs.set 1 (.int 13)))), (b, .inl (dA 0, 256, .inl (upd (upd g 12 (vp_nar .byte ((n >>> (24 &&& 31)).toInt8.toInt32))) 13 (vp_nar .byte ((n >>> (16 &&& 31)).toInt8.toInt32)))))] := hD
  refine lv_aload_n hx hb d_V_putOnTape_20 rfl (lv_at hl 1 rfl) ?_
  refine lv_dup hx hb d_V_putOnTape_21 rfl ?_
  refine gF (v := .int 13) hx hb hown hE hK hP 0 rfl rfl layV 1 (by decide) w259 (by simp [hl_fs]) d_V_putOnTape_22 ?_
  refine lv_iconst (v := 1) hx hb d_V_putOnTape_25 (by decide) ?_
  refine lv_iadd hx hb d_V_putOnTape_26 (tpi (y := 14) (by decide) ?_)
  refine pF hx hb hown hE hK hP hD hS 0 rfl rfl layV tyV tokV nmV 1 (by decide) w259 rfl rfl rfl (by simp [hl_fs]) d_V_putOnTape_27 (fun H locs hP hD hS => ?_)
  have hP : va_P D vwCl [(a, .inr (0, ((fs.set 1 (.int 13)).set 1 (.int 14)))), (b, .inl (dA 0, 256, .inl (upd (upd g 12 (vp_nar .byte ((n >>> (24 &&& 31)).toInt8.toInt32))) 13 (vp_nar .byte ((n >>> (16 &&& 31)).toInt8.toInt32)))))] H := hP
  have hD : va_D A [(a, .inr (0, ((fs.set 1 (.int 13)).set 1 (.int 14)))), (b, .inl (dA 0, 256, .inl (upd (upd g 12 (vp_nar .byte ((n >>> (24 &&& 31)).toInt8.toInt32))) 13 (vp_nar .byte ((n >>> (16 &&& 31)).toInt8.toInt32)))))] := hD
  refine lv_iinc (k := 0) (v := 8) hx hb d_V_putOnTape_30 hl rfl (by decide) (by decide) rfl (fun ls hl => ?_)
  have hl : lv_has ls 3 [(2, .int 8), (0, .ref a), (1, .int n)] := hl
  refine lv_goto hx hb d_V_putOnTape_33 (tgt := 3) rfl ?_
  refine lv_iload_n hx hb d_V_putOnTape_3 rfl (lv_at hl 0 rfl) ?_
  refine lv_if_lt hx hb d_V_putOnTape_4 (tgt := 36) rfl (fun h9 => absurd h9 (by decide)) (fun _ => ?_)
  refine lv_aload_n hx hb d_V_putOnTape_7 rfl (lv_at hl 1 rfl) ?_
  refine gF (v := .ref b) hx hb hown hE hK hP 0 rfl rfl layV 0 (by decide) w539 (by simp [h_fs_tape]) d_V_putOnTape_8 ?_
  refine lv_aload_n hx hb d_V_putOnTape_11 rfl (lv_at hl 1 rfl) ?_
  refine gF (v := .int 14) hx hb hown hE hK hP 0 rfl rfl layV 1 (by decide) w259 (by simp [hl_fs]) d_V_putOnTape_12 ?_
  refine lv_iload_n hx hb d_V_putOnTape_15 rfl (lv_at hl 2 rfl) ?_
  refine lv_iload_n hx hb d_V_putOnTape_16 rfl (lv_at hl 0 rfl) ?_
  refine lv_ishr hx hb d_V_putOnTape_17 ?_
  refine lv_i2b hx hb d_V_putOnTape_18 rfl ?_
  refine va_bast hx hb hK hP hD hS 1 0 rfl rfl (by unfold vp_in; decide) d_V_putOnTape_19 (fun H locs hP hD hS => ?_)
  have hP : va_P D vwCl [(a, .inr (0, ((fs.set 1 (.int 13)).set 1 (.int 14)))), (b, .inl (dA 0, 256, .inl (upd (upd (upd g 12 (vp_nar .byte ((n >>> (24 &&& 31)).toInt8.toInt32))) 13 (vp_nar .byte ((n >>> (16 &&& 31)).toInt8.toInt32))) 14 (vp_nar .byte ((n >>> (8 &&& 31)).toInt8.toInt32)))))] H := hP
  have hD : va_D A [(a, .inr (0, ((fs.set 1 (.int 13)).set 1 (.int 14)))), (b, .inl (dA 0, 256, .inl (upd (upd (upd g 12 (vp_nar .byte ((n >>> (24 &&& 31)).toInt8.toInt32))) 13 (vp_nar .byte ((n >>> (16 &&& 31)).toInt8.toInt32))) 14 (vp_nar .byte ((n >>> (8 &&& 31)).toInt8.toInt32)))))] := hD
  refine lv_aload_n hx hb d_V_putOnTape_20 rfl (lv_at hl 1 rfl) ?_
  refine lv_dup hx hb d_V_putOnTape_21 rfl ?_
  refine gF (v := .int 14) hx hb hown hE hK hP 0 rfl rfl layV 1 (by decide) w259 (by simp [hl_fs]) d_V_putOnTape_22 ?_
  refine lv_iconst (v := 1) hx hb d_V_putOnTape_25 (by decide) ?_
  refine lv_iadd hx hb d_V_putOnTape_26 (tpi (y := 15) (by decide) ?_)
  refine pF hx hb hown hE hK hP hD hS 0 rfl rfl layV tyV tokV nmV 1 (by decide) w259 rfl rfl rfl (by simp [hl_fs]) d_V_putOnTape_27 (fun H locs hP hD hS => ?_)
  have hP : va_P D vwCl [(a, .inr (0, (((fs.set 1 (.int 13)).set 1 (.int 14)).set 1 (.int 15)))), (b, .inl (dA 0, 256, .inl (upd (upd (upd g 12 (vp_nar .byte ((n >>> (24 &&& 31)).toInt8.toInt32))) 13 (vp_nar .byte ((n >>> (16 &&& 31)).toInt8.toInt32))) 14 (vp_nar .byte ((n >>> (8 &&& 31)).toInt8.toInt32)))))] H := hP
  have hD : va_D A [(a, .inr (0, (((fs.set 1 (.int 13)).set 1 (.int 14)).set 1 (.int 15)))), (b, .inl (dA 0, 256, .inl (upd (upd (upd g 12 (vp_nar .byte ((n >>> (24 &&& 31)).toInt8.toInt32))) 13 (vp_nar .byte ((n >>> (16 &&& 31)).toInt8.toInt32))) 14 (vp_nar .byte ((n >>> (8 &&& 31)).toInt8.toInt32)))))] := hD
  refine lv_iinc (k := 0) (v := 0) hx hb d_V_putOnTape_30 hl rfl (by decide) (by decide) rfl (fun ls hl => ?_)
  have hl : lv_has ls 3 [(2, .int 0), (0, .ref a), (1, .int n)] := hl
  refine lv_goto hx hb d_V_putOnTape_33 (tgt := 3) rfl ?_
  refine lv_iload_n hx hb d_V_putOnTape_3 rfl (lv_at hl 0 rfl) ?_
  refine lv_if_lt hx hb d_V_putOnTape_4 (tgt := 36) rfl (fun h9 => absurd h9 (by decide)) (fun _ => ?_)
  refine lv_aload_n hx hb d_V_putOnTape_7 rfl (lv_at hl 1 rfl) ?_
  refine gF (v := .ref b) hx hb hown hE hK hP 0 rfl rfl layV 0 (by decide) w539 (by simp [h_fs_tape]) d_V_putOnTape_8 ?_
  refine lv_aload_n hx hb d_V_putOnTape_11 rfl (lv_at hl 1 rfl) ?_
  refine gF (v := .int 15) hx hb hown hE hK hP 0 rfl rfl layV 1 (by decide) w259 (by simp [hl_fs]) d_V_putOnTape_12 ?_
  refine lv_iload_n hx hb d_V_putOnTape_15 rfl (lv_at hl 2 rfl) ?_
  refine lv_iload_n hx hb d_V_putOnTape_16 rfl (lv_at hl 0 rfl) ?_
  refine lv_ishr hx hb d_V_putOnTape_17 ?_
  refine lv_i2b hx hb d_V_putOnTape_18 rfl ?_
  refine va_bast hx hb hK hP hD hS 1 0 rfl rfl (by unfold vp_in; decide) d_V_putOnTape_19 (fun H locs hP hD hS => ?_)
  have hP : va_P D vwCl [(a, .inr (0, (((fs.set 1 (.int 13)).set 1 (.int 14)).set 1 (.int 15)))), (b, .inl (dA 0, 256, .inl (upd (upd (upd (upd g 12 (vp_nar .byte ((n >>> (24 &&& 31)).toInt8.toInt32))) 13 (vp_nar .byte ((n >>> (16 &&& 31)).toInt8.toInt32))) 14 (vp_nar .byte ((n >>> (8 &&& 31)).toInt8.toInt32))) 15 (vp_nar .byte ((n >>> (0 &&& 31)).toInt8.toInt32)))))] H := hP
  have hD : va_D A [(a, .inr (0, (((fs.set 1 (.int 13)).set 1 (.int 14)).set 1 (.int 15)))), (b, .inl (dA 0, 256, .inl (upd (upd (upd (upd g 12 (vp_nar .byte ((n >>> (24 &&& 31)).toInt8.toInt32))) 13 (vp_nar .byte ((n >>> (16 &&& 31)).toInt8.toInt32))) 14 (vp_nar .byte ((n >>> (8 &&& 31)).toInt8.toInt32))) 15 (vp_nar .byte ((n >>> (0 &&& 31)).toInt8.toInt32)))))] := hD
  refine lv_aload_n hx hb d_V_putOnTape_20 rfl (lv_at hl 1 rfl) ?_
  refine lv_dup hx hb d_V_putOnTape_21 rfl ?_
  refine gF (v := .int 15) hx hb hown hE hK hP 0 rfl rfl layV 1 (by decide) w259 (by simp [hl_fs]) d_V_putOnTape_22 ?_
  refine lv_iconst (v := 1) hx hb d_V_putOnTape_25 (by decide) ?_
  refine lv_iadd hx hb d_V_putOnTape_26 (tpi (y := 16) (by decide) ?_)
  refine pF hx hb hown hE hK hP hD hS 0 rfl rfl layV tyV tokV nmV 1 (by decide) w259 rfl rfl rfl (by simp [hl_fs]) d_V_putOnTape_27 (fun H locs hP hD hS => ?_)
  have hP : va_P D vwCl [(a, .inr (0, ((((fs.set 1 (.int 13)).set 1 (.int 14)).set 1 (.int 15)).set 1 (.int 16)))), (b, .inl (dA 0, 256, .inl (upd (upd (upd (upd g 12 (vp_nar .byte ((n >>> (24 &&& 31)).toInt8.toInt32))) 13 (vp_nar .byte ((n >>> (16 &&& 31)).toInt8.toInt32))) 14 (vp_nar .byte ((n >>> (8 &&& 31)).toInt8.toInt32))) 15 (vp_nar .byte ((n >>> (0 &&& 31)).toInt8.toInt32)))))] H := hP
  have hD : va_D A [(a, .inr (0, ((((fs.set 1 (.int 13)).set 1 (.int 14)).set 1 (.int 15)).set 1 (.int 16)))), (b, .inl (dA 0, 256, .inl (upd (upd (upd (upd g 12 (vp_nar .byte ((n >>> (24 &&& 31)).toInt8.toInt32))) 13 (vp_nar .byte ((n >>> (16 &&& 31)).toInt8.toInt32))) 14 (vp_nar .byte ((n >>> (8 &&& 31)).toInt8.toInt32))) 15 (vp_nar .byte ((n >>> (0 &&& 31)).toInt8.toInt32)))))] := hD
  refine lv_iinc (k := 0) (v := (-8)) hx hb d_V_putOnTape_30 hl rfl (by decide) (by decide) rfl (fun ls hl => ?_)
  have hl : lv_has ls 3 [(2, .int (-8)), (0, .ref a), (1, .int n)] := hl
  refine lv_goto hx hb d_V_putOnTape_33 (tgt := 3) rfl ?_
  refine lv_iload_n hx hb d_V_putOnTape_3 rfl (lv_at hl 0 rfl) ?_
  refine lv_if_lt hx hb d_V_putOnTape_4 (tgt := 36) rfl (fun _ => ?_) (fun h9 => absurd (by decide) h9)
  exact rtV hx hb hr hlk hP hD hS () trivial [0, 1] rfl rfl (by decide) (Nat.le_of_ble_eq_true rfl) (Nat.le_of_ble_eq_true rfl) d_V_putOnTape_36
set_option maxHeartbeats 4000000 in
set_option maxRecDepth 100000 in
theorem c_V_putOnTape_16 (l : Launch) (D : va_G) (dA : Nat → ClassId) (sz : Nat) (a : Nat) (fs : List Value) (b : Nat) (g : Nat → Int32) (n : Int32) (h_fs_tape : fs[0]? = some (.ref b)) (h_fs_tapeLength : fs[1]? = some (.int 16)) (hl_fs : fs.length = 18) : Met l ⟨"SeriesVault", "putOnTape", "(I)V"⟩ [Cond.code ⟨"SeriesVault", "putOnTape", "(I)V"⟩ prog_1_method_3_code 3 none] { frames := 1, cells := 0, slots := 0, locals := 0 } (pC D dA [.ref a, .int n] [(a, .inr (0, fs)), (b, .inl (dA 0, 256, .inl g))] sz) (va_Qv (fun (_ : Unit) => True) (fun (u9 : Unit) t9 => bW D (va_A [(a, .inr (0, fs)), (b, .inl (dA 0, 256, .inl g))] sz) [(a, .inr (0, ((((fs.set 1 (.int 17)).set 1 (.int 18)).set 1 (.int 19)).set 1 (.int 20)))), (b, .inl (dA 0, 256, .inl (upd (upd (upd (upd g 16 (vp_nar .byte ((n >>> (24 &&& 31)).toInt8.toInt32))) 17 (vp_nar .byte ((n >>> (16 &&& 31)).toInt8.toInt32))) 18 (vp_nar .byte ((n >>> (8 &&& 31)).toInt8.toInt32))) 19 (vp_nar .byte ((n >>> (0 &&& 31)).toInt8.toInt32)))))] t9) (va_A [(a, .inr (0, fs)), (b, .inl (dA 0, 256, .inl g))] sz)) 0 0 (va_A [(a, .inr (0, fs)), (b, .inl (dA 0, 256, .inl g))] sz) := by
  refine mkC (y := ⟨"SeriesVault", "putOnTape", "(I)V"⟩) (cc := prog_1_method_3_code) (maxL := 3) (av := [.ref a, .int n]) (ws := [(a, .inr (0, fs)), (b, .inl (dA 0, 256, .inl g))]) (sz := sz) (Qc := fun A => va_Qv (fun (_ : Unit) => True) (fun (u9 : Unit) t9 => bW D A [(a, .inr (0, ((((fs.set 1 (.int 17)).set 1 (.int 18)).set 1 (.int 19)).set 1 (.int 20)))), (b, .inl (dA 0, 256, .inl (upd (upd (upd (upd g 16 (vp_nar .byte ((n >>> (24 &&& 31)).toInt8.toInt32))) 17 (vp_nar .byte ((n >>> (16 &&& 31)).toInt8.toInt32))) 18 (vp_nar .byte ((n >>> (8 &&& 31)).toInt8.toInt32))) 19 (vp_nar .byte ((n >>> (0 &&& 31)).toInt8.toInt32)))))] t9) A) (by decide) (Nat.le_of_ble_eq_true rfl) ?_
  intro A p e s m below meth c ls hsz hB
  obtain ⟨hx, hb, hr, hml, hown, hin, hlk, hE, hK, hP, hD, hS, hA, hN, hl⟩ := hB
  have hown : s.vm.findClass "SeriesVault" = some m.cls := hown
  have hin : meth.name = "putOnTape" := hin
  have hl : lv_has ls 3 [(0, .ref a), (1, .int n)] := hl
  obtain ⟨H, hH⟩ : ∃ z, z = s.heap := ⟨_, rfl⟩
  have hP : va_P D vwCl [(a, .inr (0, fs)), (b, .inl (dA 0, 256, .inl g))] H := by rw [hH]; exact hP
  have hS : va_S A s.heap H [] := by rw [hH]; exact hS
  rw [← hH]
  refine lv_bipush (v := 24) hx hb d_V_putOnTape_0 (by decide) ?_
  refine lv_istore_n hx hb d_V_putOnTape_2 rfl hl (by decide) rfl (fun ls hl => ?_)
  have hl : lv_has ls 3 [(2, .int 24), (0, .ref a), (1, .int n)] := hl
  refine lv_iload_n hx hb d_V_putOnTape_3 rfl (lv_at hl 0 rfl) ?_
  refine lv_if_lt hx hb d_V_putOnTape_4 (tgt := 36) rfl (fun h9 => absurd h9 (by decide)) (fun _ => ?_)
  refine lv_aload_n hx hb d_V_putOnTape_7 rfl (lv_at hl 1 rfl) ?_
  refine gF (v := .ref b) hx hb hown hE hK hP 0 rfl rfl layV 0 (by decide) w539 h_fs_tape d_V_putOnTape_8 ?_
  refine lv_aload_n hx hb d_V_putOnTape_11 rfl (lv_at hl 1 rfl) ?_
  refine gF (v := .int 16) hx hb hown hE hK hP 0 rfl rfl layV 1 (by decide) w259 h_fs_tapeLength d_V_putOnTape_12 ?_
  refine lv_iload_n hx hb d_V_putOnTape_15 rfl (lv_at hl 2 rfl) ?_
  refine lv_iload_n hx hb d_V_putOnTape_16 rfl (lv_at hl 0 rfl) ?_
  refine lv_ishr hx hb d_V_putOnTape_17 ?_
  refine lv_i2b hx hb d_V_putOnTape_18 rfl ?_
  refine va_bast hx hb hK hP hD hS 1 0 rfl rfl (by unfold vp_in; decide) d_V_putOnTape_19 (fun H locs hP hD hS => ?_)
  have hP : va_P D vwCl [(a, .inr (0, fs)), (b, .inl (dA 0, 256, .inl (upd g 16 (vp_nar .byte ((n >>> (24 &&& 31)).toInt8.toInt32)))))] H := hP
  have hD : va_D A [(a, .inr (0, fs)), (b, .inl (dA 0, 256, .inl (upd g 16 (vp_nar .byte ((n >>> (24 &&& 31)).toInt8.toInt32)))))] := hD
  refine lv_aload_n hx hb d_V_putOnTape_20 rfl (lv_at hl 1 rfl) ?_
  refine lv_dup hx hb d_V_putOnTape_21 rfl ?_
  refine gF (v := .int 16) hx hb hown hE hK hP 0 rfl rfl layV 1 (by decide) w259 h_fs_tapeLength d_V_putOnTape_22 ?_
  refine lv_iconst (v := 1) hx hb d_V_putOnTape_25 (by decide) ?_
  refine lv_iadd hx hb d_V_putOnTape_26 (tpi (y := 17) (by decide) ?_)
  refine pF hx hb hown hE hK hP hD hS 0 rfl rfl layV tyV tokV nmV 1 (by decide) w259 rfl rfl rfl (by simp [hl_fs]) d_V_putOnTape_27 (fun H locs hP hD hS => ?_)
  have hP : va_P D vwCl [(a, .inr (0, (fs.set 1 (.int 17)))), (b, .inl (dA 0, 256, .inl (upd g 16 (vp_nar .byte ((n >>> (24 &&& 31)).toInt8.toInt32)))))] H := hP
  have hD : va_D A [(a, .inr (0, (fs.set 1 (.int 17)))), (b, .inl (dA 0, 256, .inl (upd g 16 (vp_nar .byte ((n >>> (24 &&& 31)).toInt8.toInt32)))))] := hD
  refine lv_iinc (k := 0) (v := 16) hx hb d_V_putOnTape_30 hl rfl (by decide) (by decide) rfl (fun ls hl => ?_)
  have hl : lv_has ls 3 [(2, .int 16), (0, .ref a), (1, .int n)] := hl
  refine lv_goto hx hb d_V_putOnTape_33 (tgt := 3) rfl ?_
  refine lv_iload_n hx hb d_V_putOnTape_3 rfl (lv_at hl 0 rfl) ?_
  refine lv_if_lt hx hb d_V_putOnTape_4 (tgt := 36) rfl (fun h9 => absurd h9 (by decide)) (fun _ => ?_)
  refine lv_aload_n hx hb d_V_putOnTape_7 rfl (lv_at hl 1 rfl) ?_
  refine gF (v := .ref b) hx hb hown hE hK hP 0 rfl rfl layV 0 (by decide) w539 (by simp [h_fs_tape]) d_V_putOnTape_8 ?_
  refine lv_aload_n hx hb d_V_putOnTape_11 rfl (lv_at hl 1 rfl) ?_
  refine gF (v := .int 17) hx hb hown hE hK hP 0 rfl rfl layV 1 (by decide) w259 (by simp [hl_fs]) d_V_putOnTape_12 ?_
  refine lv_iload_n hx hb d_V_putOnTape_15 rfl (lv_at hl 2 rfl) ?_
  refine lv_iload_n hx hb d_V_putOnTape_16 rfl (lv_at hl 0 rfl) ?_
  refine lv_ishr hx hb d_V_putOnTape_17 ?_
  refine lv_i2b hx hb d_V_putOnTape_18 rfl ?_
  refine va_bast hx hb hK hP hD hS 1 0 rfl rfl (by unfold vp_in; decide) d_V_putOnTape_19 (fun H locs hP hD hS => ?_)
  have hP : va_P D vwCl [(a, .inr (0, (fs.set 1 (.int 17)))), (b, .inl (dA 0, 256, .inl (upd (upd g 16 (vp_nar .byte ((n >>> (24 &&& 31)).toInt8.toInt32))) 17 (vp_nar .byte ((n >>> (16 &&& 31)).toInt8.toInt32)))))] H := hP
  have hD : va_D A [(a, .inr (0, (fs.set 1 (.int 17)))), (b, .inl (dA 0, 256, .inl (upd (upd g 16 (vp_nar .byte ((n >>> (24 &&& 31)).toInt8.toInt32))) 17 (vp_nar .byte ((n >>> (16 &&& 31)).toInt8.toInt32)))))] := hD
  refine lv_aload_n hx hb d_V_putOnTape_20 rfl (lv_at hl 1 rfl) ?_
  refine lv_dup hx hb d_V_putOnTape_21 rfl ?_
  refine gF (v := .int 17) hx hb hown hE hK hP 0 rfl rfl layV 1 (by decide) w259 (by simp [hl_fs]) d_V_putOnTape_22 ?_
  refine lv_iconst (v := 1) hx hb d_V_putOnTape_25 (by decide) ?_
  refine lv_iadd hx hb d_V_putOnTape_26 (tpi (y := 18) (by decide) ?_)
  refine pF hx hb hown hE hK hP hD hS 0 rfl rfl layV tyV tokV nmV 1 (by decide) w259 rfl rfl rfl (by simp [hl_fs]) d_V_putOnTape_27 (fun H locs hP hD hS => ?_)
  have hP : va_P D vwCl [(a, .inr (0, ((fs.set 1 (.int 17)).set 1 (.int 18)))), (b, .inl (dA 0, 256, .inl (upd (upd g 16 (vp_nar .byte ((n >>> (24 &&& 31)).toInt8.toInt32))) 17 (vp_nar .byte ((n >>> (16 &&& 31)).toInt8.toInt32)))))] H := hP
  have hD : va_D A [(a, .inr (0, ((fs.set 1 (.int 17)).set 1 (.int 18)))), (b, .inl (dA 0, 256, .inl (upd (upd g 16 (vp_nar .byte ((n >>> (24 &&& 31)).toInt8.toInt32))) 17 (vp_nar .byte ((n >>> (16 &&& 31)).toInt8.toInt32)))))] := hD
  refine lv_iinc (k := 0) (v := 8) hx hb d_V_putOnTape_30 hl rfl (by decide) (by decide) rfl (fun ls hl => ?_)
  have hl : lv_has ls 3 [(2, .int 8), (0, .ref a), (1, .int n)] := hl
  refine lv_goto hx hb d_V_putOnTape_33 (tgt := 3) rfl ?_
  refine lv_iload_n hx hb d_V_putOnTape_3 rfl (lv_at hl 0 rfl) ?_
  refine lv_if_lt hx hb d_V_putOnTape_4 (tgt := 36) rfl (fun h9 => absurd h9 (by decide)) (fun _ => ?_)
  refine lv_aload_n hx hb d_V_putOnTape_7 rfl (lv_at hl 1 rfl) ?_
  refine gF (v := .ref b) hx hb hown hE hK hP 0 rfl rfl layV 0 (by decide) w539 (by simp [h_fs_tape]) d_V_putOnTape_8 ?_
  refine lv_aload_n hx hb d_V_putOnTape_11 rfl (lv_at hl 1 rfl) ?_
  refine gF (v := .int 18) hx hb hown hE hK hP 0 rfl rfl layV 1 (by decide) w259 (by simp [hl_fs]) d_V_putOnTape_12 ?_
  refine lv_iload_n hx hb d_V_putOnTape_15 rfl (lv_at hl 2 rfl) ?_
  refine lv_iload_n hx hb d_V_putOnTape_16 rfl (lv_at hl 0 rfl) ?_
  refine lv_ishr hx hb d_V_putOnTape_17 ?_
  refine lv_i2b hx hb d_V_putOnTape_18 rfl ?_
  refine va_bast hx hb hK hP hD hS 1 0 rfl rfl (by unfold vp_in; decide) d_V_putOnTape_19 (fun H locs hP hD hS => ?_)
  have hP : va_P D vwCl [(a, .inr (0, ((fs.set 1 (.int 17)).set 1 (.int 18)))), (b, .inl (dA 0, 256, .inl (upd (upd (upd g 16 (vp_nar .byte ((n >>> (24 &&& 31)).toInt8.toInt32))) 17 (vp_nar .byte ((n >>> (16 &&& 31)).toInt8.toInt32))) 18 (vp_nar .byte ((n >>> (8 &&& 31)).toInt8.toInt32)))))] H := hP
  have hD : va_D A [(a, .inr (0, ((fs.set 1 (.int 17)).set 1 (.int 18)))), (b, .inl (dA 0, 256, .inl (upd (upd (upd g 16 (vp_nar .byte ((n >>> (24 &&& 31)).toInt8.toInt32))) 17 (vp_nar .byte ((n >>> (16 &&& 31)).toInt8.toInt32))) 18 (vp_nar .byte ((n >>> (8 &&& 31)).toInt8.toInt32)))))] := hD
  refine lv_aload_n hx hb d_V_putOnTape_20 rfl (lv_at hl 1 rfl) ?_
  refine lv_dup hx hb d_V_putOnTape_21 rfl ?_
  refine gF (v := .int 18) hx hb hown hE hK hP 0 rfl rfl layV 1 (by decide) w259 (by simp [hl_fs]) d_V_putOnTape_22 ?_
  refine lv_iconst (v := 1) hx hb d_V_putOnTape_25 (by decide) ?_
  refine lv_iadd hx hb d_V_putOnTape_26 (tpi (y := 19) (by decide) ?_)
  refine pF hx hb hown hE hK hP hD hS 0 rfl rfl layV tyV tokV nmV 1 (by decide) w259 rfl rfl rfl (by simp [hl_fs]) d_V_putOnTape_27 (fun H locs hP hD hS => ?_)
  have hP : va_P D vwCl [(a, .inr (0, (((fs.set 1 (.int 17)).set 1 (.int 18)).set 1 (.int 19)))), (b, .inl (dA 0, 256, .inl (upd (upd (upd g 16 (vp_nar .byte ((n >>> (24 &&& 31)).toInt8.toInt32))) 17 (vp_nar .byte ((n >>> (16 &&& 31)).toInt8.toInt32))) 18 (vp_nar .byte ((n >>> (8 &&& 31)).toInt8.toInt32)))))] H := hP
  have hD : va_D A [(a, .inr (0, (((fs.set 1 (.int 17)).set 1 (.int 18)).set 1 (.int 19)))), (b, .inl (dA 0, 256, .inl (upd (upd (upd g 16 (vp_nar .byte ((n >>> (24 &&& 31)).toInt8.toInt32))) 17 (vp_nar .byte ((n >>> (16 &&& 31)).toInt8.toInt32))) 18 (vp_nar .byte ((n >>> (8 &&& 31)).toInt8.toInt32)))))] := hD
  refine lv_iinc (k := 0) (v := 0) hx hb d_V_putOnTape_30 hl rfl (by decide) (by decide) rfl (fun ls hl => ?_)
  have hl : lv_has ls 3 [(2, .int 0), (0, .ref a), (1, .int n)] := hl
  refine lv_goto hx hb d_V_putOnTape_33 (tgt := 3) rfl ?_
  refine lv_iload_n hx hb d_V_putOnTape_3 rfl (lv_at hl 0 rfl) ?_
  refine lv_if_lt hx hb d_V_putOnTape_4 (tgt := 36) rfl (fun h9 => absurd h9 (by decide)) (fun _ => ?_)
  refine lv_aload_n hx hb d_V_putOnTape_7 rfl (lv_at hl 1 rfl) ?_
  refine gF (v := .ref b) hx hb hown hE hK hP 0 rfl rfl layV 0 (by decide) w539 (by simp [h_fs_tape]) d_V_putOnTape_8 ?_
  refine lv_aload_n hx hb d_V_putOnTape_11 rfl (lv_at hl 1 rfl) ?_
  refine gF (v := .int 19) hx hb hown hE hK hP 0 rfl rfl layV 1 (by decide) w259 (by simp [hl_fs]) d_V_putOnTape_12 ?_
  refine lv_iload_n hx hb d_V_putOnTape_15 rfl (lv_at hl 2 rfl) ?_
  refine lv_iload_n hx hb d_V_putOnTape_16 rfl (lv_at hl 0 rfl) ?_
  refine lv_ishr hx hb d_V_putOnTape_17 ?_
  refine lv_i2b hx hb d_V_putOnTape_18 rfl ?_
  refine va_bast hx hb hK hP hD hS 1 0 rfl rfl (by unfold vp_in; decide) d_V_putOnTape_19 (fun H locs hP hD hS => ?_)
  have hP : va_P D vwCl [(a, .inr (0, (((fs.set 1 (.int 17)).set 1 (.int 18)).set 1 (.int 19)))), (b, .inl (dA 0, 256, .inl (upd (upd (upd (upd g 16 (vp_nar .byte ((n >>> (24 &&& 31)).toInt8.toInt32))) 17 (vp_nar .byte ((n >>> (16 &&& 31)).toInt8.toInt32))) 18 (vp_nar .byte ((n >>> (8 &&& 31)).toInt8.toInt32))) 19 (vp_nar .byte ((n >>> (0 &&& 31)).toInt8.toInt32)))))] H := hP
  have hD : va_D A [(a, .inr (0, (((fs.set 1 (.int 17)).set 1 (.int 18)).set 1 (.int 19)))), (b, .inl (dA 0, 256, .inl (upd (upd (upd (upd g 16 (vp_nar .byte ((n >>> (24 &&& 31)).toInt8.toInt32))) 17 (vp_nar .byte ((n >>> (16 &&& 31)).toInt8.toInt32))) 18 (vp_nar .byte ((n >>> (8 &&& 31)).toInt8.toInt32))) 19 (vp_nar .byte ((n >>> (0 &&& 31)).toInt8.toInt32)))))] := hD
  refine lv_aload_n hx hb d_V_putOnTape_20 rfl (lv_at hl 1 rfl) ?_
  refine lv_dup hx hb d_V_putOnTape_21 rfl ?_
  refine gF (v := .int 19) hx hb hown hE hK hP 0 rfl rfl layV 1 (by decide) w259 (by simp [hl_fs]) d_V_putOnTape_22 ?_
  refine lv_iconst (v := 1) hx hb d_V_putOnTape_25 (by decide) ?_
  refine lv_iadd hx hb d_V_putOnTape_26 (tpi (y := 20) (by decide) ?_)
  refine pF hx hb hown hE hK hP hD hS 0 rfl rfl layV tyV tokV nmV 1 (by decide) w259 rfl rfl rfl (by simp [hl_fs]) d_V_putOnTape_27 (fun H locs hP hD hS => ?_)
  have hP : va_P D vwCl [(a, .inr (0, ((((fs.set 1 (.int 17)).set 1 (.int 18)).set 1 (.int 19)).set 1 (.int 20)))), (b, .inl (dA 0, 256, .inl (upd (upd (upd (upd g 16 (vp_nar .byte ((n >>> (24 &&& 31)).toInt8.toInt32))) 17 (vp_nar .byte ((n >>> (16 &&& 31)).toInt8.toInt32))) 18 (vp_nar .byte ((n >>> (8 &&& 31)).toInt8.toInt32))) 19 (vp_nar .byte ((n >>> (0 &&& 31)).toInt8.toInt32)))))] H := hP
  have hD : va_D A [(a, .inr (0, ((((fs.set 1 (.int 17)).set 1 (.int 18)).set 1 (.int 19)).set 1 (.int 20)))), (b, .inl (dA 0, 256, .inl (upd (upd (upd (upd g 16 (vp_nar .byte ((n >>> (24 &&& 31)).toInt8.toInt32))) 17 (vp_nar .byte ((n >>> (16 &&& 31)).toInt8.toInt32))) 18 (vp_nar .byte ((n >>> (8 &&& 31)).toInt8.toInt32))) 19 (vp_nar .byte ((n >>> (0 &&& 31)).toInt8.toInt32)))))] := hD
  refine lv_iinc (k := 0) (v := (-8)) hx hb d_V_putOnTape_30 hl rfl (by decide) (by decide) rfl (fun ls hl => ?_)
  have hl : lv_has ls 3 [(2, .int (-8)), (0, .ref a), (1, .int n)] := hl
  refine lv_goto hx hb d_V_putOnTape_33 (tgt := 3) rfl ?_
  refine lv_iload_n hx hb d_V_putOnTape_3 rfl (lv_at hl 0 rfl) ?_
  refine lv_if_lt hx hb d_V_putOnTape_4 (tgt := 36) rfl (fun _ => ?_) (fun h9 => absurd (by decide) h9)
  exact rtV hx hb hr hlk hP hD hS () trivial [0, 1] rfl rfl (by decide) (Nat.le_of_ble_eq_true rfl) (Nat.le_of_ble_eq_true rfl) d_V_putOnTape_36
theorem d_V_feed_0 : decode prog_1_method_2_code 0 = .ok (.aload_n 0, 1) := by decide +kernel
theorem d_V_feed_1 : decode prog_1_method_2_code 1 = .ok (.getfield 71, 3) := by decide +kernel
theorem d_V_feed_4 : decode prog_1_method_2_code 4 = .ok (.bipush 20, 2) := by decide +kernel
theorem d_V_feed_6 : decode prog_1_method_2_code 6 = .ok (.iadd, 1) := by decide +kernel
theorem d_V_feed_7 : decode prog_1_method_2_code 7 = .ok (.ldc 75, 2) := by decide +kernel
theorem d_V_feed_9 : decode prog_1_method_2_code 9 = .ok (.if_icmp .le 11, 3) := by decide +kernel
theorem d_V_feed_20 : decode prog_1_method_2_code 20 = .ok (.aload_n 0, 1) := by decide +kernel
theorem d_V_feed_21 : decode prog_1_method_2_code 21 = .ok (.getfield 71, 3) := by decide +kernel
theorem d_V_feed_24 : decode prog_1_method_2_code 24 = .ok (.bipush 20, 2) := by decide +kernel
theorem d_V_feed_26 : decode prog_1_method_2_code 26 = .ok (.iadd, 1) := by decide +kernel
theorem d_V_feed_27 : decode prog_1_method_2_code 27 = .ok (.aload_n 0, 1) := by decide +kernel
theorem d_V_feed_28 : decode prog_1_method_2_code 28 = .ok (.getfield 7, 3) := by decide +kernel
theorem d_V_feed_31 : decode prog_1_method_2_code 31 = .ok (.arraylength, 1) := by decide +kernel
theorem d_V_feed_32 : decode prog_1_method_2_code 32 = .ok (.if_icmp .le 21, 3) := by decide +kernel
theorem d_V_feed_53 : decode prog_1_method_2_code 53 = .ok (.aload_n 0, 1) := by decide +kernel
theorem d_V_feed_54 : decode prog_1_method_2_code 54 = .ok (.iload_n 1, 1) := by decide +kernel
theorem d_V_feed_55 : decode prog_1_method_2_code 55 = .ok (.invokevirtual 85, 3) := by decide +kernel
theorem d_V_feed_58 : decode prog_1_method_2_code 58 = .ok (.aload_n 0, 1) := by decide +kernel
theorem d_V_feed_59 : decode prog_1_method_2_code 59 = .ok (.iload_n 2, 1) := by decide +kernel
theorem d_V_feed_60 : decode prog_1_method_2_code 60 = .ok (.invokevirtual 85, 3) := by decide +kernel
theorem d_V_feed_63 : decode prog_1_method_2_code 63 = .ok (.aload_n 0, 1) := by decide +kernel
theorem d_V_feed_64 : decode prog_1_method_2_code 64 = .ok (.iload_n 3, 1) := by decide +kernel
theorem d_V_feed_65 : decode prog_1_method_2_code 65 = .ok (.invokevirtual 85, 3) := by decide +kernel
theorem d_V_feed_68 : decode prog_1_method_2_code 68 = .ok (.aload_n 0, 1) := by decide +kernel
theorem d_V_feed_69 : decode prog_1_method_2_code 69 = .ok (.iload 4, 2) := by decide +kernel
theorem d_V_feed_71 : decode prog_1_method_2_code 71 = .ok (.invokevirtual 85, 3) := by decide +kernel
theorem d_V_feed_74 : decode prog_1_method_2_code 74 = .ok (.aload_n 0, 1) := by decide +kernel
theorem d_V_feed_75 : decode prog_1_method_2_code 75 = .ok (.iload 5, 2) := by decide +kernel
theorem d_V_feed_77 : decode prog_1_method_2_code 77 = .ok (.invokevirtual 85, 3) := by decide +kernel
theorem d_V_feed_80 : decode prog_1_method_2_code 80 = .ok (.aload_n 0, 1) := by decide +kernel
theorem d_V_feed_81 : decode prog_1_method_2_code 81 = .ok (.getfield 71, 3) := by decide +kernel
theorem d_V_feed_84 : decode prog_1_method_2_code 84 = .ok (.ireturn, 1) := by decide +kernel
theorem w540 : Cond.constant "SeriesVault" 75 65536 ∈ aW := aw_of (tb_3 (List.mem_of_getElem? (i := 54) rfl)) rfl
theorem w541 : Cond.methodLink "SeriesVault" 85 ⟨"SeriesVault", "putOnTape", "(I)V"⟩ ∈ aW := aw_of (tb_3 (List.mem_of_getElem? (i := 131) rfl)) rfl
theorem w542 : Cond.code ⟨"SeriesVault", "putOnTape", "(I)V"⟩ prog_1_method_3_code 3 none ∈ aW := aw_of (tb_3 (List.mem_of_getElem? (i := 134) rfl)) rfl
theorem w543 : Cond.instanceMethod ⟨"SeriesVault", "putOnTape", "(I)V"⟩ ∈ aW := aw_of (tb_3 (List.mem_of_getElem? (i := 133) rfl)) rfl
theorem w544 : Cond.selects "SeriesVault" ⟨"SeriesVault", "putOnTape", "(I)V"⟩ ⟨"SeriesVault", "putOnTape", "(I)V"⟩ ∈ aW := aw_pr (List.mem_map.mpr ⟨_, pv_1 (List.mem_of_getElem? (i := 5) rfl), rfl⟩) rfl
set_option maxHeartbeats 4000000 in
set_option maxRecDepth 100000 in
theorem c_V_feed (l : Launch) (D : va_G) (dA : Nat → ClassId) (sz : Nat) (a : Nat) (fs : List Value) (b : Nat) (g : Nat → Int32) (x0 : Int32) (x1 : Int32) (x2 : Int32) (x3 : Int32) (x4 : Int32) (h_fs_tape : fs[0]? = some (.ref b)) (h_fs_tapeLength : fs[1]? = some (.int 0)) (hl_fs : fs.length = 18) : Met l ⟨"SeriesVault", "feed", "(IIIII)I"⟩ [Cond.code ⟨"SeriesVault", "feed", "(IIIII)I"⟩ prog_1_method_2_code 6 (some FieldType.int)] { frames := 2, cells := 0, slots := 0, locals := 22 } (pC D dA [.ref a, .int x0, .int x1, .int x2, .int x3, .int x4] [(a, .inr (0, fs)), (b, .inl (dA 0, 256, .inl g))] sz) (va_Qi (fun (r : Int32) (_ : Unit) => r = 20) (fun (u9 : Unit) t9 => bW D (va_A [(a, .inr (0, fs)), (b, .inl (dA 0, 256, .inl g))] sz) [(a, .inr (0, ((((((((((((((((((((fs.set 1 (.int 1)).set 1 (.int 2)).set 1 (.int 3)).set 1 (.int 4)).set 1 (.int 5)).set 1 (.int 6)).set 1 (.int 7)).set 1 (.int 8)).set 1 (.int 9)).set 1 (.int 10)).set 1 (.int 11)).set 1 (.int 12)).set 1 (.int 13)).set 1 (.int 14)).set 1 (.int 15)).set 1 (.int 16)).set 1 (.int 17)).set 1 (.int 18)).set 1 (.int 19)).set 1 (.int 20)))), (b, .inl (dA 0, 256, .inl (upd (upd (upd (upd (upd (upd (upd (upd (upd (upd (upd (upd (upd (upd (upd (upd (upd (upd (upd (upd g 0 (vp_nar .byte ((x0 >>> (24 &&& 31)).toInt8.toInt32))) 1 (vp_nar .byte ((x0 >>> (16 &&& 31)).toInt8.toInt32))) 2 (vp_nar .byte ((x0 >>> (8 &&& 31)).toInt8.toInt32))) 3 (vp_nar .byte ((x0 >>> (0 &&& 31)).toInt8.toInt32))) 4 (vp_nar .byte ((x1 >>> (24 &&& 31)).toInt8.toInt32))) 5 (vp_nar .byte ((x1 >>> (16 &&& 31)).toInt8.toInt32))) 6 (vp_nar .byte ((x1 >>> (8 &&& 31)).toInt8.toInt32))) 7 (vp_nar .byte ((x1 >>> (0 &&& 31)).toInt8.toInt32))) 8 (vp_nar .byte ((x2 >>> (24 &&& 31)).toInt8.toInt32))) 9 (vp_nar .byte ((x2 >>> (16 &&& 31)).toInt8.toInt32))) 10 (vp_nar .byte ((x2 >>> (8 &&& 31)).toInt8.toInt32))) 11 (vp_nar .byte ((x2 >>> (0 &&& 31)).toInt8.toInt32))) 12 (vp_nar .byte ((x3 >>> (24 &&& 31)).toInt8.toInt32))) 13 (vp_nar .byte ((x3 >>> (16 &&& 31)).toInt8.toInt32))) 14 (vp_nar .byte ((x3 >>> (8 &&& 31)).toInt8.toInt32))) 15 (vp_nar .byte ((x3 >>> (0 &&& 31)).toInt8.toInt32))) 16 (vp_nar .byte ((x4 >>> (24 &&& 31)).toInt8.toInt32))) 17 (vp_nar .byte ((x4 >>> (16 &&& 31)).toInt8.toInt32))) 18 (vp_nar .byte ((x4 >>> (8 &&& 31)).toInt8.toInt32))) 19 (vp_nar .byte ((x4 >>> (0 &&& 31)).toInt8.toInt32)))))] t9) (va_A [(a, .inr (0, fs)), (b, .inl (dA 0, 256, .inl g))] sz)) 0 0 (va_A [(a, .inr (0, fs)), (b, .inl (dA 0, 256, .inl g))] sz) := by
  refine mkC (y := ⟨"SeriesVault", "feed", "(IIIII)I"⟩) (cc := prog_1_method_2_code) (maxL := 6) (av := [.ref a, .int x0, .int x1, .int x2, .int x3, .int x4]) (ws := [(a, .inr (0, fs)), (b, .inl (dA 0, 256, .inl g))]) (sz := sz) (Qc := fun A => va_Qi (fun (r : Int32) (_ : Unit) => r = 20) (fun (u9 : Unit) t9 => bW D A [(a, .inr (0, ((((((((((((((((((((fs.set 1 (.int 1)).set 1 (.int 2)).set 1 (.int 3)).set 1 (.int 4)).set 1 (.int 5)).set 1 (.int 6)).set 1 (.int 7)).set 1 (.int 8)).set 1 (.int 9)).set 1 (.int 10)).set 1 (.int 11)).set 1 (.int 12)).set 1 (.int 13)).set 1 (.int 14)).set 1 (.int 15)).set 1 (.int 16)).set 1 (.int 17)).set 1 (.int 18)).set 1 (.int 19)).set 1 (.int 20)))), (b, .inl (dA 0, 256, .inl (upd (upd (upd (upd (upd (upd (upd (upd (upd (upd (upd (upd (upd (upd (upd (upd (upd (upd (upd (upd g 0 (vp_nar .byte ((x0 >>> (24 &&& 31)).toInt8.toInt32))) 1 (vp_nar .byte ((x0 >>> (16 &&& 31)).toInt8.toInt32))) 2 (vp_nar .byte ((x0 >>> (8 &&& 31)).toInt8.toInt32))) 3 (vp_nar .byte ((x0 >>> (0 &&& 31)).toInt8.toInt32))) 4 (vp_nar .byte ((x1 >>> (24 &&& 31)).toInt8.toInt32))) 5 (vp_nar .byte ((x1 >>> (16 &&& 31)).toInt8.toInt32))) 6 (vp_nar .byte ((x1 >>> (8 &&& 31)).toInt8.toInt32))) 7 (vp_nar .byte ((x1 >>> (0 &&& 31)).toInt8.toInt32))) 8 (vp_nar .byte ((x2 >>> (24 &&& 31)).toInt8.toInt32))) 9 (vp_nar .byte ((x2 >>> (16 &&& 31)).toInt8.toInt32))) 10 (vp_nar .byte ((x2 >>> (8 &&& 31)).toInt8.toInt32))) 11 (vp_nar .byte ((x2 >>> (0 &&& 31)).toInt8.toInt32))) 12 (vp_nar .byte ((x3 >>> (24 &&& 31)).toInt8.toInt32))) 13 (vp_nar .byte ((x3 >>> (16 &&& 31)).toInt8.toInt32))) 14 (vp_nar .byte ((x3 >>> (8 &&& 31)).toInt8.toInt32))) 15 (vp_nar .byte ((x3 >>> (0 &&& 31)).toInt8.toInt32))) 16 (vp_nar .byte ((x4 >>> (24 &&& 31)).toInt8.toInt32))) 17 (vp_nar .byte ((x4 >>> (16 &&& 31)).toInt8.toInt32))) 18 (vp_nar .byte ((x4 >>> (8 &&& 31)).toInt8.toInt32))) 19 (vp_nar .byte ((x4 >>> (0 &&& 31)).toInt8.toInt32)))))] t9) A) (by decide) (Nat.le_of_ble_eq_true rfl) ?_
  intro A p e s m below meth c ls hsz hB
  obtain ⟨hx, hb, hr, hml, hown, hin, hlk, hE, hK, hP, hD, hS, hA, hN, hl⟩ := hB
  have hown : s.vm.findClass "SeriesVault" = some m.cls := hown
  have hin : meth.name = "feed" := hin
  have hl : lv_has ls 6 [(0, .ref a), (1, .int x0), (2, .int x1), (3, .int x2), (4, .int x3), (5, .int x4)] := hl
  obtain ⟨H, hH⟩ : ∃ z, z = s.heap := ⟨_, rfl⟩
  have hP : va_P D vwCl [(a, .inr (0, fs)), (b, .inl (dA 0, 256, .inl g))] H := by rw [hH]; exact hP
  have hS : va_S A s.heap H [] := by rw [hH]; exact hS
  rw [← hH]
  refine lv_aload_n hx hb d_V_feed_0 rfl (lv_at hl 0 rfl) ?_
  refine gF (v := .int 0) hx hb hown hE hK hP 0 rfl rfl layV 1 (by decide) w259 h_fs_tapeLength d_V_feed_1 ?_
  refine lv_bipush (v := 20) hx hb d_V_feed_4 (by decide) ?_
  refine lv_iadd hx hb d_V_feed_6 (tpi (y := 20) (by decide) ?_)
  refine lv_ldc (v := 65536) hx hb hown (hE.t w540 rfl) d_V_feed_7 ?_
  refine lv_icmp_le hx hb d_V_feed_9 (tgt := 20) rfl (fun _ => ?_) (fun h9 => absurd (by decide) h9)
  refine lv_aload_n hx hb d_V_feed_20 rfl (lv_at hl 0 rfl) ?_
  refine gF (v := .int 0) hx hb hown hE hK hP 0 rfl rfl layV 1 (by decide) w259 h_fs_tapeLength d_V_feed_21 ?_
  refine lv_bipush (v := 20) hx hb d_V_feed_24 (by decide) ?_
  refine lv_iadd hx hb d_V_feed_26 (tpi (y := 20) (by decide) ?_)
  refine lv_aload_n hx hb d_V_feed_27 rfl (lv_at hl 0 rfl) ?_
  refine gF (v := .ref b) hx hb hown hE hK hP 0 rfl rfl layV 0 (by decide) w539 h_fs_tape d_V_feed_28 ?_
  refine va_alen (v := 256) hx hb hK hP 1 0 rfl rfl rfl d_V_feed_31 ?_
  refine lv_icmp_le hx hb d_V_feed_32 (tgt := 53) rfl (fun _ => ?_) (fun h9 => absurd (by decide) h9)
  refine lv_aload_n hx hb d_V_feed_53 rfl (lv_at hl 0 rfl) ?_
  refine lv_iload_n hx hb d_V_feed_54 rfl (lv_at hl 1 rfl) ?_
  have hPc := hP.sub (ws' := [(a, .inr (0, fs)), (b, .inl (dA 0, 256, .inl g))]) [0, 1] rfl
  have hDc := hD.sub (ws' := [(a, .inr (0, fs)), (b, .inl (dA 0, 256, .inl g))]) [0, 1] (by decide) rfl
  refine jnV (rnV (As := [.int x0]) (rest := []) hx hb hml hown hE hK (hN _ _ hS) hPc hDc (c_V_putOnTape_0 l D dA H.size a fs b g x0 h_fs_tape h_fs_tapeLength hl_fs) (q0 := 0) rfl rfl w542 w541 w543 w544 w277 rfl rfl ⟨⟨by decide, by decide⟩, rfl⟩ ⟨(Nat.le_of_ble_eq_true rfl), (Nat.le_of_ble_eq_true rfl)⟩ rfl hl.1 rfl (Nat.le_of_ble_eq_true rfl) d_V_feed_55 ⟨(Nat.le_of_ble_eq_true rfl), (Nat.le_of_ble_eq_true rfl)⟩) hP hD hS hA [0, 1] [] (wr := []) rfl rfl (by decide) (by decide) (fun u9 H locs hp9 hP hD hS => ?_)
  have hP : va_P D vwCl [(a, .inr (0, ((((fs.set 1 (.int 1)).set 1 (.int 2)).set 1 (.int 3)).set 1 (.int 4)))), (b, .inl (dA 0, 256, .inl (upd (upd (upd (upd g 0 (vp_nar .byte ((x0 >>> (24 &&& 31)).toInt8.toInt32))) 1 (vp_nar .byte ((x0 >>> (16 &&& 31)).toInt8.toInt32))) 2 (vp_nar .byte ((x0 >>> (8 &&& 31)).toInt8.toInt32))) 3 (vp_nar .byte ((x0 >>> (0 &&& 31)).toInt8.toInt32)))))] H := hP
  have hD : va_D A [(a, .inr (0, ((((fs.set 1 (.int 1)).set 1 (.int 2)).set 1 (.int 3)).set 1 (.int 4)))), (b, .inl (dA 0, 256, .inl (upd (upd (upd (upd g 0 (vp_nar .byte ((x0 >>> (24 &&& 31)).toInt8.toInt32))) 1 (vp_nar .byte ((x0 >>> (16 &&& 31)).toInt8.toInt32))) 2 (vp_nar .byte ((x0 >>> (8 &&& 31)).toInt8.toInt32))) 3 (vp_nar .byte ((x0 >>> (0 &&& 31)).toInt8.toInt32)))))] := hD
  refine lv_aload_n hx hb d_V_feed_58 rfl (lv_at hl 0 rfl) ?_
  refine lv_iload_n hx hb d_V_feed_59 rfl (lv_at hl 2 rfl) ?_
  have hPc := hP.sub (ws' := [(a, .inr (0, ((((fs.set 1 (.int 1)).set 1 (.int 2)).set 1 (.int 3)).set 1 (.int 4)))), (b, .inl (dA 0, 256, .inl (upd (upd (upd (upd g 0 (vp_nar .byte ((x0 >>> (24 &&& 31)).toInt8.toInt32))) 1 (vp_nar .byte ((x0 >>> (16 &&& 31)).toInt8.toInt32))) 2 (vp_nar .byte ((x0 >>> (8 &&& 31)).toInt8.toInt32))) 3 (vp_nar .byte ((x0 >>> (0 &&& 31)).toInt8.toInt32)))))]) [0, 1] rfl
  have hDc := hD.sub (ws' := [(a, .inr (0, ((((fs.set 1 (.int 1)).set 1 (.int 2)).set 1 (.int 3)).set 1 (.int 4)))), (b, .inl (dA 0, 256, .inl (upd (upd (upd (upd g 0 (vp_nar .byte ((x0 >>> (24 &&& 31)).toInt8.toInt32))) 1 (vp_nar .byte ((x0 >>> (16 &&& 31)).toInt8.toInt32))) 2 (vp_nar .byte ((x0 >>> (8 &&& 31)).toInt8.toInt32))) 3 (vp_nar .byte ((x0 >>> (0 &&& 31)).toInt8.toInt32)))))]) [0, 1] (by decide) rfl
  refine jnV (rnV (As := [.int x1]) (rest := []) hx hb hml hown hE hK (hN _ _ hS) hPc hDc (c_V_putOnTape_4 l D dA H.size a ((((fs.set 1 (.int 1)).set 1 (.int 2)).set 1 (.int 3)).set 1 (.int 4)) b (upd (upd (upd (upd g 0 (vp_nar .byte ((x0 >>> (24 &&& 31)).toInt8.toInt32))) 1 (vp_nar .byte ((x0 >>> (16 &&& 31)).toInt8.toInt32))) 2 (vp_nar .byte ((x0 >>> (8 &&& 31)).toInt8.toInt32))) 3 (vp_nar .byte ((x0 >>> (0 &&& 31)).toInt8.toInt32))) x1 (by simp [h_fs_tape]) (by simp [hl_fs]) (by simp [hl_fs])) (q0 := 0) rfl rfl w542 w541 w543 w544 w277 rfl rfl ⟨⟨by decide, by decide⟩, rfl⟩ ⟨(Nat.le_of_ble_eq_true rfl), (Nat.le_of_ble_eq_true rfl)⟩ rfl hl.1 rfl (Nat.le_of_ble_eq_true rfl) d_V_feed_60 ⟨(Nat.le_of_ble_eq_true rfl), (Nat.le_of_ble_eq_true rfl)⟩) hP hD hS hA [0, 1] [] (wr := []) rfl rfl (by decide) (by decide) (fun u9 H locs hp9 hP hD hS => ?_)
  have hP : va_P D vwCl [(a, .inr (0, ((((((((fs.set 1 (.int 1)).set 1 (.int 2)).set 1 (.int 3)).set 1 (.int 4)).set 1 (.int 5)).set 1 (.int 6)).set 1 (.int 7)).set 1 (.int 8)))), (b, .inl (dA 0, 256, .inl (upd (upd (upd (upd (upd (upd (upd (upd g 0 (vp_nar .byte ((x0 >>> (24 &&& 31)).toInt8.toInt32))) 1 (vp_nar .byte ((x0 >>> (16 &&& 31)).toInt8.toInt32))) 2 (vp_nar .byte ((x0 >>> (8 &&& 31)).toInt8.toInt32))) 3 (vp_nar .byte ((x0 >>> (0 &&& 31)).toInt8.toInt32))) 4 (vp_nar .byte ((x1 >>> (24 &&& 31)).toInt8.toInt32))) 5 (vp_nar .byte ((x1 >>> (16 &&& 31)).toInt8.toInt32))) 6 (vp_nar .byte ((x1 >>> (8 &&& 31)).toInt8.toInt32))) 7 (vp_nar .byte ((x1 >>> (0 &&& 31)).toInt8.toInt32)))))] H := hP
  have hD : va_D A [(a, .inr (0, ((((((((fs.set 1 (.int 1)).set 1 (.int 2)).set 1 (.int 3)).set 1 (.int 4)).set 1 (.int 5)).set 1 (.int 6)).set 1 (.int 7)).set 1 (.int 8)))), (b, .inl (dA 0, 256, .inl (upd (upd (upd (upd (upd (upd (upd (upd g 0 (vp_nar .byte ((x0 >>> (24 &&& 31)).toInt8.toInt32))) 1 (vp_nar .byte ((x0 >>> (16 &&& 31)).toInt8.toInt32))) 2 (vp_nar .byte ((x0 >>> (8 &&& 31)).toInt8.toInt32))) 3 (vp_nar .byte ((x0 >>> (0 &&& 31)).toInt8.toInt32))) 4 (vp_nar .byte ((x1 >>> (24 &&& 31)).toInt8.toInt32))) 5 (vp_nar .byte ((x1 >>> (16 &&& 31)).toInt8.toInt32))) 6 (vp_nar .byte ((x1 >>> (8 &&& 31)).toInt8.toInt32))) 7 (vp_nar .byte ((x1 >>> (0 &&& 31)).toInt8.toInt32)))))] := hD
  refine lv_aload_n hx hb d_V_feed_63 rfl (lv_at hl 0 rfl) ?_
  refine lv_iload_n hx hb d_V_feed_64 rfl (lv_at hl 3 rfl) ?_
  have hPc := hP.sub (ws' := [(a, .inr (0, ((((((((fs.set 1 (.int 1)).set 1 (.int 2)).set 1 (.int 3)).set 1 (.int 4)).set 1 (.int 5)).set 1 (.int 6)).set 1 (.int 7)).set 1 (.int 8)))), (b, .inl (dA 0, 256, .inl (upd (upd (upd (upd (upd (upd (upd (upd g 0 (vp_nar .byte ((x0 >>> (24 &&& 31)).toInt8.toInt32))) 1 (vp_nar .byte ((x0 >>> (16 &&& 31)).toInt8.toInt32))) 2 (vp_nar .byte ((x0 >>> (8 &&& 31)).toInt8.toInt32))) 3 (vp_nar .byte ((x0 >>> (0 &&& 31)).toInt8.toInt32))) 4 (vp_nar .byte ((x1 >>> (24 &&& 31)).toInt8.toInt32))) 5 (vp_nar .byte ((x1 >>> (16 &&& 31)).toInt8.toInt32))) 6 (vp_nar .byte ((x1 >>> (8 &&& 31)).toInt8.toInt32))) 7 (vp_nar .byte ((x1 >>> (0 &&& 31)).toInt8.toInt32)))))]) [0, 1] rfl
  have hDc := hD.sub (ws' := [(a, .inr (0, ((((((((fs.set 1 (.int 1)).set 1 (.int 2)).set 1 (.int 3)).set 1 (.int 4)).set 1 (.int 5)).set 1 (.int 6)).set 1 (.int 7)).set 1 (.int 8)))), (b, .inl (dA 0, 256, .inl (upd (upd (upd (upd (upd (upd (upd (upd g 0 (vp_nar .byte ((x0 >>> (24 &&& 31)).toInt8.toInt32))) 1 (vp_nar .byte ((x0 >>> (16 &&& 31)).toInt8.toInt32))) 2 (vp_nar .byte ((x0 >>> (8 &&& 31)).toInt8.toInt32))) 3 (vp_nar .byte ((x0 >>> (0 &&& 31)).toInt8.toInt32))) 4 (vp_nar .byte ((x1 >>> (24 &&& 31)).toInt8.toInt32))) 5 (vp_nar .byte ((x1 >>> (16 &&& 31)).toInt8.toInt32))) 6 (vp_nar .byte ((x1 >>> (8 &&& 31)).toInt8.toInt32))) 7 (vp_nar .byte ((x1 >>> (0 &&& 31)).toInt8.toInt32)))))]) [0, 1] (by decide) rfl
  refine jnV (rnV (As := [.int x2]) (rest := []) hx hb hml hown hE hK (hN _ _ hS) hPc hDc (c_V_putOnTape_8 l D dA H.size a ((((((((fs.set 1 (.int 1)).set 1 (.int 2)).set 1 (.int 3)).set 1 (.int 4)).set 1 (.int 5)).set 1 (.int 6)).set 1 (.int 7)).set 1 (.int 8)) b (upd (upd (upd (upd (upd (upd (upd (upd g 0 (vp_nar .byte ((x0 >>> (24 &&& 31)).toInt8.toInt32))) 1 (vp_nar .byte ((x0 >>> (16 &&& 31)).toInt8.toInt32))) 2 (vp_nar .byte ((x0 >>> (8 &&& 31)).toInt8.toInt32))) 3 (vp_nar .byte ((x0 >>> (0 &&& 31)).toInt8.toInt32))) 4 (vp_nar .byte ((x1 >>> (24 &&& 31)).toInt8.toInt32))) 5 (vp_nar .byte ((x1 >>> (16 &&& 31)).toInt8.toInt32))) 6 (vp_nar .byte ((x1 >>> (8 &&& 31)).toInt8.toInt32))) 7 (vp_nar .byte ((x1 >>> (0 &&& 31)).toInt8.toInt32))) x2 (by simp [h_fs_tape]) (by simp [hl_fs]) (by simp [hl_fs])) (q0 := 0) rfl rfl w542 w541 w543 w544 w277 rfl rfl ⟨⟨by decide, by decide⟩, rfl⟩ ⟨(Nat.le_of_ble_eq_true rfl), (Nat.le_of_ble_eq_true rfl)⟩ rfl hl.1 rfl (Nat.le_of_ble_eq_true rfl) d_V_feed_65 ⟨(Nat.le_of_ble_eq_true rfl), (Nat.le_of_ble_eq_true rfl)⟩) hP hD hS hA [0, 1] [] (wr := []) rfl rfl (by decide) (by decide) (fun u9 H locs hp9 hP hD hS => ?_)
  have hP : va_P D vwCl [(a, .inr (0, ((((((((((((fs.set 1 (.int 1)).set 1 (.int 2)).set 1 (.int 3)).set 1 (.int 4)).set 1 (.int 5)).set 1 (.int 6)).set 1 (.int 7)).set 1 (.int 8)).set 1 (.int 9)).set 1 (.int 10)).set 1 (.int 11)).set 1 (.int 12)))), (b, .inl (dA 0, 256, .inl (upd (upd (upd (upd (upd (upd (upd (upd (upd (upd (upd (upd g 0 (vp_nar .byte ((x0 >>> (24 &&& 31)).toInt8.toInt32))) 1 (vp_nar .byte ((x0 >>> (16 &&& 31)).toInt8.toInt32))) 2 (vp_nar .byte ((x0 >>> (8 &&& 31)).toInt8.toInt32))) 3 (vp_nar .byte ((x0 >>> (0 &&& 31)).toInt8.toInt32))) 4 (vp_nar .byte ((x1 >>> (24 &&& 31)).toInt8.toInt32))) 5 (vp_nar .byte ((x1 >>> (16 &&& 31)).toInt8.toInt32))) 6 (vp_nar .byte ((x1 >>> (8 &&& 31)).toInt8.toInt32))) 7 (vp_nar .byte ((x1 >>> (0 &&& 31)).toInt8.toInt32))) 8 (vp_nar .byte ((x2 >>> (24 &&& 31)).toInt8.toInt32))) 9 (vp_nar .byte ((x2 >>> (16 &&& 31)).toInt8.toInt32))) 10 (vp_nar .byte ((x2 >>> (8 &&& 31)).toInt8.toInt32))) 11 (vp_nar .byte ((x2 >>> (0 &&& 31)).toInt8.toInt32)))))] H := hP
  have hD : va_D A [(a, .inr (0, ((((((((((((fs.set 1 (.int 1)).set 1 (.int 2)).set 1 (.int 3)).set 1 (.int 4)).set 1 (.int 5)).set 1 (.int 6)).set 1 (.int 7)).set 1 (.int 8)).set 1 (.int 9)).set 1 (.int 10)).set 1 (.int 11)).set 1 (.int 12)))), (b, .inl (dA 0, 256, .inl (upd (upd (upd (upd (upd (upd (upd (upd (upd (upd (upd (upd g 0 (vp_nar .byte ((x0 >>> (24 &&& 31)).toInt8.toInt32))) 1 (vp_nar .byte ((x0 >>> (16 &&& 31)).toInt8.toInt32))) 2 (vp_nar .byte ((x0 >>> (8 &&& 31)).toInt8.toInt32))) 3 (vp_nar .byte ((x0 >>> (0 &&& 31)).toInt8.toInt32))) 4 (vp_nar .byte ((x1 >>> (24 &&& 31)).toInt8.toInt32))) 5 (vp_nar .byte ((x1 >>> (16 &&& 31)).toInt8.toInt32))) 6 (vp_nar .byte ((x1 >>> (8 &&& 31)).toInt8.toInt32))) 7 (vp_nar .byte ((x1 >>> (0 &&& 31)).toInt8.toInt32))) 8 (vp_nar .byte ((x2 >>> (24 &&& 31)).toInt8.toInt32))) 9 (vp_nar .byte ((x2 >>> (16 &&& 31)).toInt8.toInt32))) 10 (vp_nar .byte ((x2 >>> (8 &&& 31)).toInt8.toInt32))) 11 (vp_nar .byte ((x2 >>> (0 &&& 31)).toInt8.toInt32)))))] := hD
  refine lv_aload_n hx hb d_V_feed_68 rfl (lv_at hl 0 rfl) ?_
  refine lv_iload hx hb d_V_feed_69 (lv_at hl 4 rfl) ?_
  have hPc := hP.sub (ws' := [(a, .inr (0, ((((((((((((fs.set 1 (.int 1)).set 1 (.int 2)).set 1 (.int 3)).set 1 (.int 4)).set 1 (.int 5)).set 1 (.int 6)).set 1 (.int 7)).set 1 (.int 8)).set 1 (.int 9)).set 1 (.int 10)).set 1 (.int 11)).set 1 (.int 12)))), (b, .inl (dA 0, 256, .inl (upd (upd (upd (upd (upd (upd (upd (upd (upd (upd (upd (upd g 0 (vp_nar .byte ((x0 >>> (24 &&& 31)).toInt8.toInt32))) 1 (vp_nar .byte ((x0 >>> (16 &&& 31)).toInt8.toInt32))) 2 (vp_nar .byte ((x0 >>> (8 &&& 31)).toInt8.toInt32))) 3 (vp_nar .byte ((x0 >>> (0 &&& 31)).toInt8.toInt32))) 4 (vp_nar .byte ((x1 >>> (24 &&& 31)).toInt8.toInt32))) 5 (vp_nar .byte ((x1 >>> (16 &&& 31)).toInt8.toInt32))) 6 (vp_nar .byte ((x1 >>> (8 &&& 31)).toInt8.toInt32))) 7 (vp_nar .byte ((x1 >>> (0 &&& 31)).toInt8.toInt32))) 8 (vp_nar .byte ((x2 >>> (24 &&& 31)).toInt8.toInt32))) 9 (vp_nar .byte ((x2 >>> (16 &&& 31)).toInt8.toInt32))) 10 (vp_nar .byte ((x2 >>> (8 &&& 31)).toInt8.toInt32))) 11 (vp_nar .byte ((x2 >>> (0 &&& 31)).toInt8.toInt32)))))]) [0, 1] rfl
  have hDc := hD.sub (ws' := [(a, .inr (0, ((((((((((((fs.set 1 (.int 1)).set 1 (.int 2)).set 1 (.int 3)).set 1 (.int 4)).set 1 (.int 5)).set 1 (.int 6)).set 1 (.int 7)).set 1 (.int 8)).set 1 (.int 9)).set 1 (.int 10)).set 1 (.int 11)).set 1 (.int 12)))), (b, .inl (dA 0, 256, .inl (upd (upd (upd (upd (upd (upd (upd (upd (upd (upd (upd (upd g 0 (vp_nar .byte ((x0 >>> (24 &&& 31)).toInt8.toInt32))) 1 (vp_nar .byte ((x0 >>> (16 &&& 31)).toInt8.toInt32))) 2 (vp_nar .byte ((x0 >>> (8 &&& 31)).toInt8.toInt32))) 3 (vp_nar .byte ((x0 >>> (0 &&& 31)).toInt8.toInt32))) 4 (vp_nar .byte ((x1 >>> (24 &&& 31)).toInt8.toInt32))) 5 (vp_nar .byte ((x1 >>> (16 &&& 31)).toInt8.toInt32))) 6 (vp_nar .byte ((x1 >>> (8 &&& 31)).toInt8.toInt32))) 7 (vp_nar .byte ((x1 >>> (0 &&& 31)).toInt8.toInt32))) 8 (vp_nar .byte ((x2 >>> (24 &&& 31)).toInt8.toInt32))) 9 (vp_nar .byte ((x2 >>> (16 &&& 31)).toInt8.toInt32))) 10 (vp_nar .byte ((x2 >>> (8 &&& 31)).toInt8.toInt32))) 11 (vp_nar .byte ((x2 >>> (0 &&& 31)).toInt8.toInt32)))))]) [0, 1] (by decide) rfl
  refine jnV (rnV (As := [.int x3]) (rest := []) hx hb hml hown hE hK (hN _ _ hS) hPc hDc (c_V_putOnTape_12 l D dA H.size a ((((((((((((fs.set 1 (.int 1)).set 1 (.int 2)).set 1 (.int 3)).set 1 (.int 4)).set 1 (.int 5)).set 1 (.int 6)).set 1 (.int 7)).set 1 (.int 8)).set 1 (.int 9)).set 1 (.int 10)).set 1 (.int 11)).set 1 (.int 12)) b (upd (upd (upd (upd (upd (upd (upd (upd (upd (upd (upd (upd g 0 (vp_nar .byte ((x0 >>> (24 &&& 31)).toInt8.toInt32))) 1 (vp_nar .byte ((x0 >>> (16 &&& 31)).toInt8.toInt32))) 2 (vp_nar .byte ((x0 >>> (8 &&& 31)).toInt8.toInt32))) 3 (vp_nar .byte ((x0 >>> (0 &&& 31)).toInt8.toInt32))) 4 (vp_nar .byte ((x1 >>> (24 &&& 31)).toInt8.toInt32))) 5 (vp_nar .byte ((x1 >>> (16 &&& 31)).toInt8.toInt32))) 6 (vp_nar .byte ((x1 >>> (8 &&& 31)).toInt8.toInt32))) 7 (vp_nar .byte ((x1 >>> (0 &&& 31)).toInt8.toInt32))) 8 (vp_nar .byte ((x2 >>> (24 &&& 31)).toInt8.toInt32))) 9 (vp_nar .byte ((x2 >>> (16 &&& 31)).toInt8.toInt32))) 10 (vp_nar .byte ((x2 >>> (8 &&& 31)).toInt8.toInt32))) 11 (vp_nar .byte ((x2 >>> (0 &&& 31)).toInt8.toInt32))) x3 (by simp [h_fs_tape]) (by simp [hl_fs]) (by simp [hl_fs])) (q0 := 0) rfl rfl w542 w541 w543 w544 w277 rfl rfl ⟨⟨by decide, by decide⟩, rfl⟩ ⟨(Nat.le_of_ble_eq_true rfl), (Nat.le_of_ble_eq_true rfl)⟩ rfl hl.1 rfl (Nat.le_of_ble_eq_true rfl) d_V_feed_71 ⟨(Nat.le_of_ble_eq_true rfl), (Nat.le_of_ble_eq_true rfl)⟩) hP hD hS hA [0, 1] [] (wr := []) rfl rfl (by decide) (by decide) (fun u9 H locs hp9 hP hD hS => ?_)
  have hP : va_P D vwCl [(a, .inr (0, ((((((((((((((((fs.set 1 (.int 1)).set 1 (.int 2)).set 1 (.int 3)).set 1 (.int 4)).set 1 (.int 5)).set 1 (.int 6)).set 1 (.int 7)).set 1 (.int 8)).set 1 (.int 9)).set 1 (.int 10)).set 1 (.int 11)).set 1 (.int 12)).set 1 (.int 13)).set 1 (.int 14)).set 1 (.int 15)).set 1 (.int 16)))), (b, .inl (dA 0, 256, .inl (upd (upd (upd (upd (upd (upd (upd (upd (upd (upd (upd (upd (upd (upd (upd (upd g 0 (vp_nar .byte ((x0 >>> (24 &&& 31)).toInt8.toInt32))) 1 (vp_nar .byte ((x0 >>> (16 &&& 31)).toInt8.toInt32))) 2 (vp_nar .byte ((x0 >>> (8 &&& 31)).toInt8.toInt32))) 3 (vp_nar .byte ((x0 >>> (0 &&& 31)).toInt8.toInt32))) 4 (vp_nar .byte ((x1 >>> (24 &&& 31)).toInt8.toInt32))) 5 (vp_nar .byte ((x1 >>> (16 &&& 31)).toInt8.toInt32))) 6 (vp_nar .byte ((x1 >>> (8 &&& 31)).toInt8.toInt32))) 7 (vp_nar .byte ((x1 >>> (0 &&& 31)).toInt8.toInt32))) 8 (vp_nar .byte ((x2 >>> (24 &&& 31)).toInt8.toInt32))) 9 (vp_nar .byte ((x2 >>> (16 &&& 31)).toInt8.toInt32))) 10 (vp_nar .byte ((x2 >>> (8 &&& 31)).toInt8.toInt32))) 11 (vp_nar .byte ((x2 >>> (0 &&& 31)).toInt8.toInt32))) 12 (vp_nar .byte ((x3 >>> (24 &&& 31)).toInt8.toInt32))) 13 (vp_nar .byte ((x3 >>> (16 &&& 31)).toInt8.toInt32))) 14 (vp_nar .byte ((x3 >>> (8 &&& 31)).toInt8.toInt32))) 15 (vp_nar .byte ((x3 >>> (0 &&& 31)).toInt8.toInt32)))))] H := hP
  have hD : va_D A [(a, .inr (0, ((((((((((((((((fs.set 1 (.int 1)).set 1 (.int 2)).set 1 (.int 3)).set 1 (.int 4)).set 1 (.int 5)).set 1 (.int 6)).set 1 (.int 7)).set 1 (.int 8)).set 1 (.int 9)).set 1 (.int 10)).set 1 (.int 11)).set 1 (.int 12)).set 1 (.int 13)).set 1 (.int 14)).set 1 (.int 15)).set 1 (.int 16)))), (b, .inl (dA 0, 256, .inl (upd (upd (upd (upd (upd (upd (upd (upd (upd (upd (upd (upd (upd (upd (upd (upd g 0 (vp_nar .byte ((x0 >>> (24 &&& 31)).toInt8.toInt32))) 1 (vp_nar .byte ((x0 >>> (16 &&& 31)).toInt8.toInt32))) 2 (vp_nar .byte ((x0 >>> (8 &&& 31)).toInt8.toInt32))) 3 (vp_nar .byte ((x0 >>> (0 &&& 31)).toInt8.toInt32))) 4 (vp_nar .byte ((x1 >>> (24 &&& 31)).toInt8.toInt32))) 5 (vp_nar .byte ((x1 >>> (16 &&& 31)).toInt8.toInt32))) 6 (vp_nar .byte ((x1 >>> (8 &&& 31)).toInt8.toInt32))) 7 (vp_nar .byte ((x1 >>> (0 &&& 31)).toInt8.toInt32))) 8 (vp_nar .byte ((x2 >>> (24 &&& 31)).toInt8.toInt32))) 9 (vp_nar .byte ((x2 >>> (16 &&& 31)).toInt8.toInt32))) 10 (vp_nar .byte ((x2 >>> (8 &&& 31)).toInt8.toInt32))) 11 (vp_nar .byte ((x2 >>> (0 &&& 31)).toInt8.toInt32))) 12 (vp_nar .byte ((x3 >>> (24 &&& 31)).toInt8.toInt32))) 13 (vp_nar .byte ((x3 >>> (16 &&& 31)).toInt8.toInt32))) 14 (vp_nar .byte ((x3 >>> (8 &&& 31)).toInt8.toInt32))) 15 (vp_nar .byte ((x3 >>> (0 &&& 31)).toInt8.toInt32)))))] := hD
  refine lv_aload_n hx hb d_V_feed_74 rfl (lv_at hl 0 rfl) ?_
  refine lv_iload hx hb d_V_feed_75 (lv_at hl 5 rfl) ?_
  have hPc := hP.sub (ws' := [(a, .inr (0, ((((((((((((((((fs.set 1 (.int 1)).set 1 (.int 2)).set 1 (.int 3)).set 1 (.int 4)).set 1 (.int 5)).set 1 (.int 6)).set 1 (.int 7)).set 1 (.int 8)).set 1 (.int 9)).set 1 (.int 10)).set 1 (.int 11)).set 1 (.int 12)).set 1 (.int 13)).set 1 (.int 14)).set 1 (.int 15)).set 1 (.int 16)))), (b, .inl (dA 0, 256, .inl (upd (upd (upd (upd (upd (upd (upd (upd (upd (upd (upd (upd (upd (upd (upd (upd g 0 (vp_nar .byte ((x0 >>> (24 &&& 31)).toInt8.toInt32))) 1 (vp_nar .byte ((x0 >>> (16 &&& 31)).toInt8.toInt32))) 2 (vp_nar .byte ((x0 >>> (8 &&& 31)).toInt8.toInt32))) 3 (vp_nar .byte ((x0 >>> (0 &&& 31)).toInt8.toInt32))) 4 (vp_nar .byte ((x1 >>> (24 &&& 31)).toInt8.toInt32))) 5 (vp_nar .byte ((x1 >>> (16 &&& 31)).toInt8.toInt32))) 6 (vp_nar .byte ((x1 >>> (8 &&& 31)).toInt8.toInt32))) 7 (vp_nar .byte ((x1 >>> (0 &&& 31)).toInt8.toInt32))) 8 (vp_nar .byte ((x2 >>> (24 &&& 31)).toInt8.toInt32))) 9 (vp_nar .byte ((x2 >>> (16 &&& 31)).toInt8.toInt32))) 10 (vp_nar .byte ((x2 >>> (8 &&& 31)).toInt8.toInt32))) 11 (vp_nar .byte ((x2 >>> (0 &&& 31)).toInt8.toInt32))) 12 (vp_nar .byte ((x3 >>> (24 &&& 31)).toInt8.toInt32))) 13 (vp_nar .byte ((x3 >>> (16 &&& 31)).toInt8.toInt32))) 14 (vp_nar .byte ((x3 >>> (8 &&& 31)).toInt8.toInt32))) 15 (vp_nar .byte ((x3 >>> (0 &&& 31)).toInt8.toInt32)))))]) [0, 1] rfl
  have hDc := hD.sub (ws' := [(a, .inr (0, ((((((((((((((((fs.set 1 (.int 1)).set 1 (.int 2)).set 1 (.int 3)).set 1 (.int 4)).set 1 (.int 5)).set 1 (.int 6)).set 1 (.int 7)).set 1 (.int 8)).set 1 (.int 9)).set 1 (.int 10)).set 1 (.int 11)).set 1 (.int 12)).set 1 (.int 13)).set 1 (.int 14)).set 1 (.int 15)).set 1 (.int 16)))), (b, .inl (dA 0, 256, .inl (upd (upd (upd (upd (upd (upd (upd (upd (upd (upd (upd (upd (upd (upd (upd (upd g 0 (vp_nar .byte ((x0 >>> (24 &&& 31)).toInt8.toInt32))) 1 (vp_nar .byte ((x0 >>> (16 &&& 31)).toInt8.toInt32))) 2 (vp_nar .byte ((x0 >>> (8 &&& 31)).toInt8.toInt32))) 3 (vp_nar .byte ((x0 >>> (0 &&& 31)).toInt8.toInt32))) 4 (vp_nar .byte ((x1 >>> (24 &&& 31)).toInt8.toInt32))) 5 (vp_nar .byte ((x1 >>> (16 &&& 31)).toInt8.toInt32))) 6 (vp_nar .byte ((x1 >>> (8 &&& 31)).toInt8.toInt32))) 7 (vp_nar .byte ((x1 >>> (0 &&& 31)).toInt8.toInt32))) 8 (vp_nar .byte ((x2 >>> (24 &&& 31)).toInt8.toInt32))) 9 (vp_nar .byte ((x2 >>> (16 &&& 31)).toInt8.toInt32))) 10 (vp_nar .byte ((x2 >>> (8 &&& 31)).toInt8.toInt32))) 11 (vp_nar .byte ((x2 >>> (0 &&& 31)).toInt8.toInt32))) 12 (vp_nar .byte ((x3 >>> (24 &&& 31)).toInt8.toInt32))) 13 (vp_nar .byte ((x3 >>> (16 &&& 31)).toInt8.toInt32))) 14 (vp_nar .byte ((x3 >>> (8 &&& 31)).toInt8.toInt32))) 15 (vp_nar .byte ((x3 >>> (0 &&& 31)).toInt8.toInt32)))))]) [0, 1] (by decide) rfl
  refine jnV (rnV (As := [.int x4]) (rest := []) hx hb hml hown hE hK (hN _ _ hS) hPc hDc (c_V_putOnTape_16 l D dA H.size a ((((((((((((((((fs.set 1 (.int 1)).set 1 (.int 2)).set 1 (.int 3)).set 1 (.int 4)).set 1 (.int 5)).set 1 (.int 6)).set 1 (.int 7)).set 1 (.int 8)).set 1 (.int 9)).set 1 (.int 10)).set 1 (.int 11)).set 1 (.int 12)).set 1 (.int 13)).set 1 (.int 14)).set 1 (.int 15)).set 1 (.int 16)) b (upd (upd (upd (upd (upd (upd (upd (upd (upd (upd (upd (upd (upd (upd (upd (upd g 0 (vp_nar .byte ((x0 >>> (24 &&& 31)).toInt8.toInt32))) 1 (vp_nar .byte ((x0 >>> (16 &&& 31)).toInt8.toInt32))) 2 (vp_nar .byte ((x0 >>> (8 &&& 31)).toInt8.toInt32))) 3 (vp_nar .byte ((x0 >>> (0 &&& 31)).toInt8.toInt32))) 4 (vp_nar .byte ((x1 >>> (24 &&& 31)).toInt8.toInt32))) 5 (vp_nar .byte ((x1 >>> (16 &&& 31)).toInt8.toInt32))) 6 (vp_nar .byte ((x1 >>> (8 &&& 31)).toInt8.toInt32))) 7 (vp_nar .byte ((x1 >>> (0 &&& 31)).toInt8.toInt32))) 8 (vp_nar .byte ((x2 >>> (24 &&& 31)).toInt8.toInt32))) 9 (vp_nar .byte ((x2 >>> (16 &&& 31)).toInt8.toInt32))) 10 (vp_nar .byte ((x2 >>> (8 &&& 31)).toInt8.toInt32))) 11 (vp_nar .byte ((x2 >>> (0 &&& 31)).toInt8.toInt32))) 12 (vp_nar .byte ((x3 >>> (24 &&& 31)).toInt8.toInt32))) 13 (vp_nar .byte ((x3 >>> (16 &&& 31)).toInt8.toInt32))) 14 (vp_nar .byte ((x3 >>> (8 &&& 31)).toInt8.toInt32))) 15 (vp_nar .byte ((x3 >>> (0 &&& 31)).toInt8.toInt32))) x4 (by simp [h_fs_tape]) (by simp [hl_fs]) (by simp [hl_fs])) (q0 := 0) rfl rfl w542 w541 w543 w544 w277 rfl rfl ⟨⟨by decide, by decide⟩, rfl⟩ ⟨(Nat.le_of_ble_eq_true rfl), (Nat.le_of_ble_eq_true rfl)⟩ rfl hl.1 rfl (Nat.le_of_ble_eq_true rfl) d_V_feed_77 ⟨(Nat.le_of_ble_eq_true rfl), (Nat.le_of_ble_eq_true rfl)⟩) hP hD hS hA [0, 1] [] (wr := []) rfl rfl (by decide) (by decide) (fun u9 H locs hp9 hP hD hS => ?_)
  have hP : va_P D vwCl [(a, .inr (0, ((((((((((((((((((((fs.set 1 (.int 1)).set 1 (.int 2)).set 1 (.int 3)).set 1 (.int 4)).set 1 (.int 5)).set 1 (.int 6)).set 1 (.int 7)).set 1 (.int 8)).set 1 (.int 9)).set 1 (.int 10)).set 1 (.int 11)).set 1 (.int 12)).set 1 (.int 13)).set 1 (.int 14)).set 1 (.int 15)).set 1 (.int 16)).set 1 (.int 17)).set 1 (.int 18)).set 1 (.int 19)).set 1 (.int 20)))), (b, .inl (dA 0, 256, .inl (upd (upd (upd (upd (upd (upd (upd (upd (upd (upd (upd (upd (upd (upd (upd (upd (upd (upd (upd (upd g 0 (vp_nar .byte ((x0 >>> (24 &&& 31)).toInt8.toInt32))) 1 (vp_nar .byte ((x0 >>> (16 &&& 31)).toInt8.toInt32))) 2 (vp_nar .byte ((x0 >>> (8 &&& 31)).toInt8.toInt32))) 3 (vp_nar .byte ((x0 >>> (0 &&& 31)).toInt8.toInt32))) 4 (vp_nar .byte ((x1 >>> (24 &&& 31)).toInt8.toInt32))) 5 (vp_nar .byte ((x1 >>> (16 &&& 31)).toInt8.toInt32))) 6 (vp_nar .byte ((x1 >>> (8 &&& 31)).toInt8.toInt32))) 7 (vp_nar .byte ((x1 >>> (0 &&& 31)).toInt8.toInt32))) 8 (vp_nar .byte ((x2 >>> (24 &&& 31)).toInt8.toInt32))) 9 (vp_nar .byte ((x2 >>> (16 &&& 31)).toInt8.toInt32))) 10 (vp_nar .byte ((x2 >>> (8 &&& 31)).toInt8.toInt32))) 11 (vp_nar .byte ((x2 >>> (0 &&& 31)).toInt8.toInt32))) 12 (vp_nar .byte ((x3 >>> (24 &&& 31)).toInt8.toInt32))) 13 (vp_nar .byte ((x3 >>> (16 &&& 31)).toInt8.toInt32))) 14 (vp_nar .byte ((x3 >>> (8 &&& 31)).toInt8.toInt32))) 15 (vp_nar .byte ((x3 >>> (0 &&& 31)).toInt8.toInt32))) 16 (vp_nar .byte ((x4 >>> (24 &&& 31)).toInt8.toInt32))) 17 (vp_nar .byte ((x4 >>> (16 &&& 31)).toInt8.toInt32))) 18 (vp_nar .byte ((x4 >>> (8 &&& 31)).toInt8.toInt32))) 19 (vp_nar .byte ((x4 >>> (0 &&& 31)).toInt8.toInt32)))))] H := hP
  have hD : va_D A [(a, .inr (0, ((((((((((((((((((((fs.set 1 (.int 1)).set 1 (.int 2)).set 1 (.int 3)).set 1 (.int 4)).set 1 (.int 5)).set 1 (.int 6)).set 1 (.int 7)).set 1 (.int 8)).set 1 (.int 9)).set 1 (.int 10)).set 1 (.int 11)).set 1 (.int 12)).set 1 (.int 13)).set 1 (.int 14)).set 1 (.int 15)).set 1 (.int 16)).set 1 (.int 17)).set 1 (.int 18)).set 1 (.int 19)).set 1 (.int 20)))), (b, .inl (dA 0, 256, .inl (upd (upd (upd (upd (upd (upd (upd (upd (upd (upd (upd (upd (upd (upd (upd (upd (upd (upd (upd (upd g 0 (vp_nar .byte ((x0 >>> (24 &&& 31)).toInt8.toInt32))) 1 (vp_nar .byte ((x0 >>> (16 &&& 31)).toInt8.toInt32))) 2 (vp_nar .byte ((x0 >>> (8 &&& 31)).toInt8.toInt32))) 3 (vp_nar .byte ((x0 >>> (0 &&& 31)).toInt8.toInt32))) 4 (vp_nar .byte ((x1 >>> (24 &&& 31)).toInt8.toInt32))) 5 (vp_nar .byte ((x1 >>> (16 &&& 31)).toInt8.toInt32))) 6 (vp_nar .byte ((x1 >>> (8 &&& 31)).toInt8.toInt32))) 7 (vp_nar .byte ((x1 >>> (0 &&& 31)).toInt8.toInt32))) 8 (vp_nar .byte ((x2 >>> (24 &&& 31)).toInt8.toInt32))) 9 (vp_nar .byte ((x2 >>> (16 &&& 31)).toInt8.toInt32))) 10 (vp_nar .byte ((x2 >>> (8 &&& 31)).toInt8.toInt32))) 11 (vp_nar .byte ((x2 >>> (0 &&& 31)).toInt8.toInt32))) 12 (vp_nar .byte ((x3 >>> (24 &&& 31)).toInt8.toInt32))) 13 (vp_nar .byte ((x3 >>> (16 &&& 31)).toInt8.toInt32))) 14 (vp_nar .byte ((x3 >>> (8 &&& 31)).toInt8.toInt32))) 15 (vp_nar .byte ((x3 >>> (0 &&& 31)).toInt8.toInt32))) 16 (vp_nar .byte ((x4 >>> (24 &&& 31)).toInt8.toInt32))) 17 (vp_nar .byte ((x4 >>> (16 &&& 31)).toInt8.toInt32))) 18 (vp_nar .byte ((x4 >>> (8 &&& 31)).toInt8.toInt32))) 19 (vp_nar .byte ((x4 >>> (0 &&& 31)).toInt8.toInt32)))))] := hD
  refine lv_aload_n hx hb d_V_feed_80 rfl (lv_at hl 0 rfl) ?_
  refine gF (v := .int 20) hx hb hown hE hK hP 0 rfl rfl layV 1 (by decide) w259 (by simp [hl_fs]) d_V_feed_81 ?_
  exact rtI hx hb hr hlk hP hD hS () rfl [0, 1] rfl rfl (by decide) (Nat.le_of_ble_eq_true rfl) (Nat.le_of_ble_eq_true rfl) d_V_feed_84
theorem d_J_forgetUnkept_0 : decode prog_3_method_10_code 0 = .ok (.aload_n 0, 1) := by decide +kernel
theorem d_J_forgetUnkept_1 : decode prog_3_method_10_code 1 = .ok (.aload_n 0, 1) := by decide +kernel
theorem d_J_forgetUnkept_2 : decode prog_3_method_10_code 2 = .ok (.getfield 38, 3) := by decide +kernel
theorem d_J_forgetUnkept_5 : decode prog_3_method_10_code 5 = .ok (.aload_n 0, 1) := by decide +kernel
theorem d_J_forgetUnkept_6 : decode prog_3_method_10_code 6 = .ok (.getfield 73, 3) := by decide +kernel
theorem d_J_forgetUnkept_9 : decode prog_3_method_10_code 9 = .ok (.invokestatic 76, 3) := by decide +kernel
theorem d_J_forgetUnkept_12 : decode prog_3_method_10_code 12 = .ok (.putfield 38, 3) := by decide +kernel
theorem d_J_forgetUnkept_15 : decode prog_3_method_10_code 15 = .ok (.aload_n 0, 1) := by decide +kernel
theorem d_J_forgetUnkept_16 : decode prog_3_method_10_code 16 = .ok (.aload_n 0, 1) := by decide +kernel
theorem d_J_forgetUnkept_17 : decode prog_3_method_10_code 17 = .ok (.getfield 38, 3) := by decide +kernel
theorem d_J_forgetUnkept_20 : decode prog_3_method_10_code 20 = .ok (.putfield 73, 3) := by decide +kernel
theorem d_J_forgetUnkept_23 : decode prog_3_method_10_code 23 = .ok (.aload_n 0, 1) := by decide +kernel
theorem d_J_forgetUnkept_24 : decode prog_3_method_10_code 24 = .ok (.iconst 0, 1) := by decide +kernel
theorem d_J_forgetUnkept_25 : decode prog_3_method_10_code 25 = .ok (.putfield 60, 3) := by decide +kernel
theorem d_J_forgetUnkept_28 : decode prog_3_method_10_code 28 = .ok (.aload_n 0, 1) := by decide +kernel
theorem d_J_forgetUnkept_29 : decode prog_3_method_10_code 29 = .ok (.iconst 0, 1) := by decide +kernel
theorem d_J_forgetUnkept_30 : decode prog_3_method_10_code 30 = .ok (.putfield 57, 3) := by decide +kernel
theorem d_J_forgetUnkept_33 : decode prog_3_method_10_code 33 = .ok (.aload_n 0, 1) := by decide +kernel
theorem d_J_forgetUnkept_34 : decode prog_3_method_10_code 34 = .ok (.iconst 0, 1) := by decide +kernel
theorem d_J_forgetUnkept_35 : decode prog_3_method_10_code 35 = .ok (.putfield 51, 3) := by decide +kernel
theorem d_J_forgetUnkept_38 : decode prog_3_method_10_code 38 = .ok (.aload_n 0, 1) := by decide +kernel
theorem d_J_forgetUnkept_39 : decode prog_3_method_10_code 39 = .ok (.iconst 0, 1) := by decide +kernel
theorem d_J_forgetUnkept_40 : decode prog_3_method_10_code 40 = .ok (.putfield 44, 3) := by decide +kernel
theorem d_J_forgetUnkept_43 : decode prog_3_method_10_code 43 = .ok (.iconst 0, 1) := by decide +kernel
theorem d_J_forgetUnkept_44 : decode prog_3_method_10_code 44 = .ok (.istore_n 1, 1) := by decide +kernel
theorem d_J_forgetUnkept_45 : decode prog_3_method_10_code 45 = .ok (.iload_n 1, 1) := by decide +kernel
theorem d_J_forgetUnkept_46 : decode prog_3_method_10_code 46 = .ok (.aload_n 0, 1) := by decide +kernel
theorem d_J_forgetUnkept_47 : decode prog_3_method_10_code 47 = .ok (.getfield 38, 3) := by decide +kernel
theorem d_J_forgetUnkept_50 : decode prog_3_method_10_code 50 = .ok (.if_icmp .ge 71, 3) := by decide +kernel
theorem d_J_forgetUnkept_121 : decode prog_3_method_10_code 121 = .ok (.return_, 1) := by decide +kernel
theorem w545 : Cond.fieldLink "SeriesVault$Journal" 38 "SeriesVault$Journal" "size" "I" ∈ aW := aw_of (tb_1 (List.mem_of_getElem? (i := 62) rfl)) rfl
theorem w546 : Cond.fieldLink "SeriesVault$Journal" 73 "SeriesVault$Journal" "kept" "I" ∈ aW := aw_of (tb_1 (List.mem_of_getElem? (i := 64) rfl)) rfl
theorem w547 : Cond.methodLink "SeriesVault$Journal" 76 ⟨"java/lang/Math", "min", "(II)I"⟩ ∈ aW := aw_of (tb_2 (List.mem_of_getElem? (i := 196) rfl)) rfl
theorem w548 : Cond.static ⟨"java/lang/Math", "min", "(II)I"⟩ ∈ aW := aw_of (tb_2 (List.mem_of_getElem? (i := 142) rfl)) rfl
theorem w549 : Cond.initialized "java/lang/Math" ∈ aW := aw_of (tb_1 (List.mem_of_getElem? (i := 13) rfl)) rfl
theorem w550 : Cond.code ⟨"java/lang/Math", "min", "(II)I"⟩ prog_26_method_69_code 2 (some FieldType.int) ∈ aW := aw_of (tb_2 (List.mem_of_getElem? (i := 143) rfl)) rfl
theorem w551 : Cond.fieldLink "SeriesVault$Journal" 60 "SeriesVault$Journal" "changed" "Z" ∈ aW := aw_of (tb_1 (List.mem_of_getElem? (i := 72) rfl)) rfl
theorem w552 : Cond.fieldLink "SeriesVault$Journal" 57 "SeriesVault$Journal" "units" "I" ∈ aW := aw_of (tb_1 (List.mem_of_getElem? (i := 66) rfl)) rfl
theorem w553 : Cond.fieldLink "SeriesVault$Journal" 51 "SeriesVault$Journal" "block" "I" ∈ aW := aw_of (tb_1 (List.mem_of_getElem? (i := 70) rfl)) rfl
theorem w554 : Cond.fieldLink "SeriesVault$Journal" 44 "SeriesVault$Journal" "fill" "I" ∈ aW := aw_of (tb_1 (List.mem_of_getElem? (i := 71) rfl)) rfl
set_option maxHeartbeats 4000000 in
set_option maxRecDepth 100000 in
theorem c_J_forgetUnkept_0 (l : Launch) (D : va_G) (dA : Nat → ClassId) (sz : Nat) (a : Nat) (fs : List Value) (h_fs_size : fs[6]? = some (.int 0)) (h_fs_kept : fs[7]? = some (.int 0)) (hl_fs : fs.length = 13) : Met l ⟨"SeriesVault$Journal", "forgetUnkept", "()V"⟩ [Cond.code ⟨"SeriesVault$Journal", "forgetUnkept", "()V"⟩ prog_3_method_10_code 2 none] { frames := 1, cells := 0, slots := 0, locals := 14 } (pC D dA [.ref a] [(a, .inr (1, fs))] sz) (va_Qv (fun (_ : Unit) => True) (fun (u9 : Unit) t9 => bW D (va_A [(a, .inr (1, fs))] sz) [(a, .inr (1, ((((((fs.set 6 (.int 0)).set 7 (.int 0)).set 12 (.int 0)).set 8 (.int 0)).set 10 (.int 0)).set 11 (.int 0))))] t9) (va_A [(a, .inr (1, fs))] sz)) 0 0 (va_A [(a, .inr (1, fs))] sz) := by
  refine mkC (y := ⟨"SeriesVault$Journal", "forgetUnkept", "()V"⟩) (cc := prog_3_method_10_code) (maxL := 2) (av := [.ref a]) (ws := [(a, .inr (1, fs))]) (sz := sz) (Qc := fun A => va_Qv (fun (_ : Unit) => True) (fun (u9 : Unit) t9 => bW D A [(a, .inr (1, ((((((fs.set 6 (.int 0)).set 7 (.int 0)).set 12 (.int 0)).set 8 (.int 0)).set 10 (.int 0)).set 11 (.int 0))))] t9) A) (by decide) (Nat.le_of_ble_eq_true rfl) ?_
  intro A p e s m below meth c ls hsz hB
  obtain ⟨hx, hb, hr, hml, hown, hin, hlk, hE, hK, hP, hD, hS, hA, hN, hl⟩ := hB
  have hown : s.vm.findClass "SeriesVault$Journal" = some m.cls := hown
  have hin : meth.name = "forgetUnkept" := hin
  have hl : lv_has ls 2 [(0, .ref a)] := hl
  obtain ⟨H, hH⟩ : ∃ z, z = s.heap := ⟨_, rfl⟩
  have hP : va_P D vwCl [(a, .inr (1, fs))] H := by rw [hH]; exact hP
  have hS : va_S A s.heap H [] := by rw [hH]; exact hS
  rw [← hH]
  refine lv_aload_n hx hb d_J_forgetUnkept_0 rfl (lv_at hl 0 rfl) ?_
  refine lv_aload_n hx hb d_J_forgetUnkept_1 rfl (lv_at hl 0 rfl) ?_
  refine gF (v := .int 0) hx hb hown hE hK hP 0 rfl rfl layJ 6 (by decide) w545 h_fs_size d_J_forgetUnkept_2 ?_
  refine lv_aload_n hx hb d_J_forgetUnkept_5 rfl (lv_at hl 0 rfl) ?_
  refine gF (v := .int 0) hx hb hown hE hK hP 0 rfl rfl layJ 7 (by decide) w546 h_fs_kept d_J_forgetUnkept_6 ?_
  refine va_mmin hx hb (hml.trans hl.1.symm) hown (hE.t w547 rfl) (hE.t w548 rfl) (hE.t w549 rfl) (hE.t w550 rfl) (Nat.le_of_ble_eq_true rfl) (Nat.le_of_ble_eq_true rfl) (Nat.le_of_ble_eq_true rfl) (Nat.le_of_ble_eq_true rfl) d_J_forgetUnkept_9 (tpi (y := 0) (by decide) ?_)
  refine pF hx hb hown hE hK hP hD hS 0 rfl rfl layJ tyJ tokJ nmJ 6 (by decide) w545 rfl rfl rfl (by simp [hl_fs]) d_J_forgetUnkept_12 (fun H locs hP hD hS => ?_)
  have hP : va_P D vwCl [(a, .inr (1, (fs.set 6 (.int 0))))] H := hP
  have hD : va_D A [(a, .inr (1, (fs.set 6 (.int 0))))] := hD
  refine lv_aload_n hx hb d_J_forgetUnkept_15 rfl (lv_at hl 0 rfl) ?_
  refine lv_aload_n hx hb d_J_forgetUnkept_16 rfl (lv_at hl 0 rfl) ?_
  refine gF (v := .int 0) hx hb hown hE hK hP 0 rfl rfl layJ 6 (by decide) w545 (by simp [hl_fs]) d_J_forgetUnkept_17 ?_
  refine pF hx hb hown hE hK hP hD hS 0 rfl rfl layJ tyJ tokJ nmJ 7 (by decide) w546 rfl rfl rfl (by simp [hl_fs]) d_J_forgetUnkept_20 (fun H locs hP hD hS => ?_)
  have hP : va_P D vwCl [(a, .inr (1, ((fs.set 6 (.int 0)).set 7 (.int 0))))] H := hP
  have hD : va_D A [(a, .inr (1, ((fs.set 6 (.int 0)).set 7 (.int 0))))] := hD
  refine lv_aload_n hx hb d_J_forgetUnkept_23 rfl (lv_at hl 0 rfl) ?_
  refine lv_iconst (v := 0) hx hb d_J_forgetUnkept_24 (by decide) ?_
  refine pF hx hb hown hE hK hP hD hS 0 rfl rfl layJ tyJ tokJ nmJ 12 (by decide) w551 rfl rfl rfl (by simp [hl_fs]) d_J_forgetUnkept_25 (fun H locs hP hD hS => ?_)
  have hP : va_P D vwCl [(a, .inr (1, (((fs.set 6 (.int 0)).set 7 (.int 0)).set 12 (.int 0))))] H := hP
  have hD : va_D A [(a, .inr (1, (((fs.set 6 (.int 0)).set 7 (.int 0)).set 12 (.int 0))))] := hD
  refine lv_aload_n hx hb d_J_forgetUnkept_28 rfl (lv_at hl 0 rfl) ?_
  refine lv_iconst (v := 0) hx hb d_J_forgetUnkept_29 (by decide) ?_
  refine pF hx hb hown hE hK hP hD hS 0 rfl rfl layJ tyJ tokJ nmJ 8 (by decide) w552 rfl rfl rfl (by simp [hl_fs]) d_J_forgetUnkept_30 (fun H locs hP hD hS => ?_)
  have hP : va_P D vwCl [(a, .inr (1, ((((fs.set 6 (.int 0)).set 7 (.int 0)).set 12 (.int 0)).set 8 (.int 0))))] H := hP
  have hD : va_D A [(a, .inr (1, ((((fs.set 6 (.int 0)).set 7 (.int 0)).set 12 (.int 0)).set 8 (.int 0))))] := hD
  refine lv_aload_n hx hb d_J_forgetUnkept_33 rfl (lv_at hl 0 rfl) ?_
  refine lv_iconst (v := 0) hx hb d_J_forgetUnkept_34 (by decide) ?_
  refine pF hx hb hown hE hK hP hD hS 0 rfl rfl layJ tyJ tokJ nmJ 10 (by decide) w553 rfl rfl rfl (by simp [hl_fs]) d_J_forgetUnkept_35 (fun H locs hP hD hS => ?_)
  have hP : va_P D vwCl [(a, .inr (1, (((((fs.set 6 (.int 0)).set 7 (.int 0)).set 12 (.int 0)).set 8 (.int 0)).set 10 (.int 0))))] H := hP
  have hD : va_D A [(a, .inr (1, (((((fs.set 6 (.int 0)).set 7 (.int 0)).set 12 (.int 0)).set 8 (.int 0)).set 10 (.int 0))))] := hD
  refine lv_aload_n hx hb d_J_forgetUnkept_38 rfl (lv_at hl 0 rfl) ?_
  refine lv_iconst (v := 0) hx hb d_J_forgetUnkept_39 (by decide) ?_
  refine pF hx hb hown hE hK hP hD hS 0 rfl rfl layJ tyJ tokJ nmJ 11 (by decide) w554 rfl rfl rfl (by simp [hl_fs]) d_J_forgetUnkept_40 (fun H locs hP hD hS => ?_)
  have hP : va_P D vwCl [(a, .inr (1, ((((((fs.set 6 (.int 0)).set 7 (.int 0)).set 12 (.int 0)).set 8 (.int 0)).set 10 (.int 0)).set 11 (.int 0))))] H := hP
  have hD : va_D A [(a, .inr (1, ((((((fs.set 6 (.int 0)).set 7 (.int 0)).set 12 (.int 0)).set 8 (.int 0)).set 10 (.int 0)).set 11 (.int 0))))] := hD
  refine lv_iconst (v := 0) hx hb d_J_forgetUnkept_43 (by decide) ?_
  refine lv_istore_n hx hb d_J_forgetUnkept_44 rfl hl (by decide) rfl (fun ls hl => ?_)
  have hl : lv_has ls 2 [(1, .int 0), (0, .ref a)] := hl
  refine lv_iload_n hx hb d_J_forgetUnkept_45 rfl (lv_at hl 0 rfl) ?_
  refine lv_aload_n hx hb d_J_forgetUnkept_46 rfl (lv_at hl 1 rfl) ?_
  refine gF (v := .int 0) hx hb hown hE hK hP 0 rfl rfl layJ 6 (by decide) w545 (by simp [hl_fs]) d_J_forgetUnkept_47 ?_
  refine lv_icmp_ge hx hb d_J_forgetUnkept_50 (tgt := 121) rfl (fun _ => ?_) (fun h9 => absurd (by decide) h9)
  exact rtV hx hb hr hlk hP hD hS () trivial [0] rfl rfl (by decide) (Nat.le_of_ble_eq_true rfl) (Nat.le_of_ble_eq_true rfl) d_J_forgetUnkept_121
theorem d_J_clear_0 : decode prog_3_method_3_code 0 = .ok (.aload_n 0, 1) := by decide +kernel
theorem d_J_clear_1 : decode prog_3_method_3_code 1 = .ok (.iconst 0, 1) := by decide +kernel
theorem d_J_clear_2 : decode prog_3_method_3_code 2 = .ok (.putfield 38, 3) := by decide +kernel
theorem d_J_clear_5 : decode prog_3_method_3_code 5 = .ok (.aload_n 0, 1) := by decide +kernel
theorem d_J_clear_6 : decode prog_3_method_3_code 6 = .ok (.invokevirtual 41, 3) := by decide +kernel
theorem d_J_clear_9 : decode prog_3_method_3_code 9 = .ok (.return_, 1) := by decide +kernel
theorem w555 : Cond.methodLink "SeriesVault$Journal" 41 ⟨"SeriesVault$Journal", "forgetUnkept", "()V"⟩ ∈ aW := aw_of (tb_2 (List.mem_of_getElem? (i := 192) rfl)) rfl
theorem w556 : Cond.initialized "SeriesVault$Journal" ∈ aW := aw_of (tb_1 (List.mem_of_getElem? (i := 2) rfl)) rfl
theorem w557 : Cond.code ⟨"SeriesVault$Journal", "forgetUnkept", "()V"⟩ prog_3_method_10_code 2 none ∈ aW := aw_of (tb_2 (List.mem_of_getElem? (i := 195) rfl)) rfl
theorem w558 : Cond.instanceMethod ⟨"SeriesVault$Journal", "forgetUnkept", "()V"⟩ ∈ aW := aw_of (tb_2 (List.mem_of_getElem? (i := 193) rfl)) rfl
theorem w559 : Cond.selects "SeriesVault$Journal" ⟨"SeriesVault$Journal", "forgetUnkept", "()V"⟩ ⟨"SeriesVault$Journal", "forgetUnkept", "()V"⟩ ∈ aW := aw_of (tb_2 (List.mem_of_getElem? (i := 194) rfl)) rfl
set_option maxHeartbeats 4000000 in
set_option maxRecDepth 100000 in
theorem c_J_clear (l : Launch) (D : va_G) (dA : Nat → ClassId) (sz : Nat) (a : Nat) (fs : List Value) (h_fs_kept : fs[7]? = some (.int 0)) (hl_fs : fs.length = 13) : Met l ⟨"SeriesVault$Journal", "clear", "()V"⟩ [Cond.code ⟨"SeriesVault$Journal", "clear", "()V"⟩ prog_3_method_3_code 1 none] { frames := 2, cells := 0, slots := 0, locals := 35 } (pC D dA [.ref a] [(a, .inr (1, fs))] sz) (va_Qv (fun (_ : Unit) => True) (fun (u9 : Unit) t9 => bW D (va_A [(a, .inr (1, fs))] sz) [(a, .inr (1, (((((((fs.set 6 (.int 0)).set 6 (.int 0)).set 7 (.int 0)).set 12 (.int 0)).set 8 (.int 0)).set 10 (.int 0)).set 11 (.int 0))))] t9) (va_A [(a, .inr (1, fs))] sz)) 0 0 (va_A [(a, .inr (1, fs))] sz) := by
  refine mkC (y := ⟨"SeriesVault$Journal", "clear", "()V"⟩) (cc := prog_3_method_3_code) (maxL := 1) (av := [.ref a]) (ws := [(a, .inr (1, fs))]) (sz := sz) (Qc := fun A => va_Qv (fun (_ : Unit) => True) (fun (u9 : Unit) t9 => bW D A [(a, .inr (1, (((((((fs.set 6 (.int 0)).set 6 (.int 0)).set 7 (.int 0)).set 12 (.int 0)).set 8 (.int 0)).set 10 (.int 0)).set 11 (.int 0))))] t9) A) (by decide) (Nat.le_of_ble_eq_true rfl) ?_
  intro A p e s m below meth c ls hsz hB
  obtain ⟨hx, hb, hr, hml, hown, hin, hlk, hE, hK, hP, hD, hS, hA, hN, hl⟩ := hB
  have hown : s.vm.findClass "SeriesVault$Journal" = some m.cls := hown
  have hin : meth.name = "clear" := hin
  have hl : lv_has ls 1 [(0, .ref a)] := hl
  obtain ⟨H, hH⟩ : ∃ z, z = s.heap := ⟨_, rfl⟩
  have hP : va_P D vwCl [(a, .inr (1, fs))] H := by rw [hH]; exact hP
  have hS : va_S A s.heap H [] := by rw [hH]; exact hS
  rw [← hH]
  refine lv_aload_n hx hb d_J_clear_0 rfl (lv_at hl 0 rfl) ?_
  refine lv_iconst (v := 0) hx hb d_J_clear_1 (by decide) ?_
  refine pF hx hb hown hE hK hP hD hS 0 rfl rfl layJ tyJ tokJ nmJ 6 (by decide) w545 rfl rfl rfl (by simp [hl_fs]) d_J_clear_2 (fun H locs hP hD hS => ?_)
  have hP : va_P D vwCl [(a, .inr (1, (fs.set 6 (.int 0))))] H := hP
  have hD : va_D A [(a, .inr (1, (fs.set 6 (.int 0))))] := hD
  refine lv_aload_n hx hb d_J_clear_5 rfl (lv_at hl 0 rfl) ?_
  have hPc := hP.sub (ws' := [(a, .inr (1, (fs.set 6 (.int 0))))]) [0] rfl
  have hDc := hD.sub (ws' := [(a, .inr (1, (fs.set 6 (.int 0))))]) [0] (by decide) rfl
  refine jnV (rnV (As := []) (rest := []) hx hb hml hown hE hK (hN _ _ hS) hPc hDc (c_J_forgetUnkept_0 l D dA H.size a (fs.set 6 (.int 0)) (by simp [hl_fs]) (by simp [h_fs_kept]) (by simp [hl_fs])) (q0 := 0) rfl rfl w557 w555 w558 w559 w556 rfl rfl ⟨⟨by decide, by decide⟩, rfl⟩ ⟨(Nat.le_of_ble_eq_true rfl), (Nat.le_of_ble_eq_true rfl)⟩ rfl hl.1 rfl (Nat.le_of_ble_eq_true rfl) d_J_clear_6 ⟨(Nat.le_of_ble_eq_true rfl), (Nat.le_of_ble_eq_true rfl)⟩) hP hD hS hA [0] [] (wr := []) rfl rfl (by decide) (by decide) (fun u9 H locs hp9 hP hD hS => ?_)
  have hP : va_P D vwCl [(a, .inr (1, (((((((fs.set 6 (.int 0)).set 6 (.int 0)).set 7 (.int 0)).set 12 (.int 0)).set 8 (.int 0)).set 10 (.int 0)).set 11 (.int 0))))] H := hP
  have hD : va_D A [(a, .inr (1, (((((((fs.set 6 (.int 0)).set 6 (.int 0)).set 7 (.int 0)).set 12 (.int 0)).set 8 (.int 0)).set 10 (.int 0)).set 11 (.int 0))))] := hD
  exact rtV hx hb hr hlk hP hD hS () trivial [0] rfl rfl (by decide) (Nat.le_of_ble_eq_true rfl) (Nat.le_of_ble_eq_true rfl) d_J_clear_9
theorem d_J_reset_0 : decode prog_3_method_2_code 0 = .ok (.aload_n 0, 1) := by decide +kernel
theorem d_J_reset_1 : decode prog_3_method_2_code 1 = .ok (.iload_n 1, 1) := by decide +kernel
theorem d_J_reset_2 : decode prog_3_method_2_code 2 = .ok (.putfield 31, 3) := by decide +kernel
theorem d_J_reset_5 : decode prog_3_method_2_code 5 = .ok (.aload_n 0, 1) := by decide +kernel
theorem d_J_reset_6 : decode prog_3_method_2_code 6 = .ok (.invokevirtual 35, 3) := by decide +kernel
theorem d_J_reset_9 : decode prog_3_method_2_code 9 = .ok (.return_, 1) := by decide +kernel
theorem w560 : Cond.fieldLink "SeriesVault$Journal" 31 "SeriesVault$Journal" "blockLimit" "I" ∈ aW := aw_of (tb_1 (List.mem_of_getElem? (i := 68) rfl)) rfl
theorem w561 : Cond.methodLink "SeriesVault$Journal" 35 ⟨"SeriesVault$Journal", "clear", "()V"⟩ ∈ aW := aw_of (tb_2 (List.mem_of_getElem? (i := 188) rfl)) rfl
theorem w562 : Cond.code ⟨"SeriesVault$Journal", "clear", "()V"⟩ prog_3_method_3_code 1 none ∈ aW := aw_of (tb_2 (List.mem_of_getElem? (i := 191) rfl)) rfl
theorem w563 : Cond.instanceMethod ⟨"SeriesVault$Journal", "clear", "()V"⟩ ∈ aW := aw_of (tb_2 (List.mem_of_getElem? (i := 189) rfl)) rfl
theorem w564 : Cond.selects "SeriesVault$Journal" ⟨"SeriesVault$Journal", "clear", "()V"⟩ ⟨"SeriesVault$Journal", "clear", "()V"⟩ ∈ aW := aw_of (tb_2 (List.mem_of_getElem? (i := 190) rfl)) rfl
set_option maxHeartbeats 4000000 in
set_option maxRecDepth 100000 in
theorem c_J_reset (l : Launch) (D : va_G) (dA : Nat → ClassId) (sz : Nat) (a : Nat) (fs : List Value) (n : Int32) (h_fs_kept : fs[7]? = some (.int 0)) (hl_fs : fs.length = 13) : Met l ⟨"SeriesVault$Journal", "reset", "(I)V"⟩ [Cond.code ⟨"SeriesVault$Journal", "reset", "(I)V"⟩ prog_3_method_2_code 2 none] { frames := 3, cells := 0, slots := 0, locals := 55 } (pC D dA [.ref a, .int n] [(a, .inr (1, fs))] sz) (va_Qv (fun (_ : Unit) => True) (fun (u9 : Unit) t9 => bW D (va_A [(a, .inr (1, fs))] sz) [(a, .inr (1, ((((((((fs.set 9 (.int n)).set 6 (.int 0)).set 6 (.int 0)).set 7 (.int 0)).set 12 (.int 0)).set 8 (.int 0)).set 10 (.int 0)).set 11 (.int 0))))] t9) (va_A [(a, .inr (1, fs))] sz)) 0 0 (va_A [(a, .inr (1, fs))] sz) := by
  refine mkC (y := ⟨"SeriesVault$Journal", "reset", "(I)V"⟩) (cc := prog_3_method_2_code) (maxL := 2) (av := [.ref a, .int n]) (ws := [(a, .inr (1, fs))]) (sz := sz) (Qc := fun A => va_Qv (fun (_ : Unit) => True) (fun (u9 : Unit) t9 => bW D A [(a, .inr (1, ((((((((fs.set 9 (.int n)).set 6 (.int 0)).set 6 (.int 0)).set 7 (.int 0)).set 12 (.int 0)).set 8 (.int 0)).set 10 (.int 0)).set 11 (.int 0))))] t9) A) (by decide) (Nat.le_of_ble_eq_true rfl) ?_
  intro A p e s m below meth c ls hsz hB
  obtain ⟨hx, hb, hr, hml, hown, hin, hlk, hE, hK, hP, hD, hS, hA, hN, hl⟩ := hB
  have hown : s.vm.findClass "SeriesVault$Journal" = some m.cls := hown
  have hin : meth.name = "reset" := hin
  have hl : lv_has ls 2 [(0, .ref a), (1, .int n)] := hl
  obtain ⟨H, hH⟩ : ∃ z, z = s.heap := ⟨_, rfl⟩
  have hP : va_P D vwCl [(a, .inr (1, fs))] H := by rw [hH]; exact hP
  have hS : va_S A s.heap H [] := by rw [hH]; exact hS
  rw [← hH]
  refine lv_aload_n hx hb d_J_reset_0 rfl (lv_at hl 0 rfl) ?_
  refine lv_iload_n hx hb d_J_reset_1 rfl (lv_at hl 1 rfl) ?_
  refine pF hx hb hown hE hK hP hD hS 0 rfl rfl layJ tyJ tokJ nmJ 9 (by decide) w560 rfl rfl rfl (by simp [hl_fs]) d_J_reset_2 (fun H locs hP hD hS => ?_)
  have hP : va_P D vwCl [(a, .inr (1, (fs.set 9 (.int n))))] H := hP
  have hD : va_D A [(a, .inr (1, (fs.set 9 (.int n))))] := hD
  refine lv_aload_n hx hb d_J_reset_5 rfl (lv_at hl 0 rfl) ?_
  have hPc := hP.sub (ws' := [(a, .inr (1, (fs.set 9 (.int n))))]) [0] rfl
  have hDc := hD.sub (ws' := [(a, .inr (1, (fs.set 9 (.int n))))]) [0] (by decide) rfl
  refine jnV (rnV (As := []) (rest := []) hx hb hml hown hE hK (hN _ _ hS) hPc hDc (c_J_clear l D dA H.size a (fs.set 9 (.int n)) (by simp [h_fs_kept]) (by simp [hl_fs])) (q0 := 0) rfl rfl w562 w561 w563 w564 w556 rfl rfl ⟨⟨by decide, by decide⟩, rfl⟩ ⟨(Nat.le_of_ble_eq_true rfl), (Nat.le_of_ble_eq_true rfl)⟩ rfl hl.1 rfl (Nat.le_of_ble_eq_true rfl) d_J_reset_6 ⟨(Nat.le_of_ble_eq_true rfl), (Nat.le_of_ble_eq_true rfl)⟩) hP hD hS hA [0] [] (wr := []) rfl rfl (by decide) (by decide) (fun u9 H locs hp9 hP hD hS => ?_)
  have hP : va_P D vwCl [(a, .inr (1, ((((((((fs.set 9 (.int n)).set 6 (.int 0)).set 6 (.int 0)).set 7 (.int 0)).set 12 (.int 0)).set 8 (.int 0)).set 10 (.int 0)).set 11 (.int 0))))] H := hP
  have hD : va_D A [(a, .inr (1, ((((((((fs.set 9 (.int n)).set 6 (.int 0)).set 6 (.int 0)).set 7 (.int 0)).set 12 (.int 0)).set 8 (.int 0)).set 10 (.int 0)).set 11 (.int 0))))] := hD
  exact rtV hx hb hr hlk hP hD hS () trivial [0] rfl rfl (by decide) (Nat.le_of_ble_eq_true rfl) (Nat.le_of_ble_eq_true rfl) d_J_reset_9
theorem d_P_clear_0 : decode prog_5_method_2_code 0 = .ok (.aload_n 0, 1) := by decide +kernel
theorem d_P_clear_1 : decode prog_5_method_2_code 1 = .ok (.iconst 0, 1) := by decide +kernel
theorem d_P_clear_2 : decode prog_5_method_2_code 2 = .ok (.putfield 20, 3) := by decide +kernel
theorem d_P_clear_5 : decode prog_5_method_2_code 5 = .ok (.return_, 1) := by decide +kernel
theorem w565 : Cond.fieldLink "SeriesVault$Points" 20 "SeriesVault$Points" "size" "I" ∈ aW := aw_of (tb_1 (List.mem_of_getElem? (i := 120) rfl)) rfl
set_option maxHeartbeats 4000000 in
set_option maxRecDepth 100000 in
theorem c_P_clear (l : Launch) (D : va_G) (dA : Nat → ClassId) (sz : Nat) (a : Nat) (fs : List Value) (hl_fs : fs.length = 4) : Met l ⟨"SeriesVault$Points", "clear", "()V"⟩ [Cond.code ⟨"SeriesVault$Points", "clear", "()V"⟩ prog_5_method_2_code 1 none] { frames := 1, cells := 0, slots := 0, locals := 0 } (pC D dA [.ref a] [(a, .inr (2, fs))] sz) (va_Qv (fun (_ : Unit) => True) (fun (u9 : Unit) t9 => bW D (va_A [(a, .inr (2, fs))] sz) [(a, .inr (2, (fs.set 3 (.int 0))))] t9) (va_A [(a, .inr (2, fs))] sz)) 0 0 (va_A [(a, .inr (2, fs))] sz) := by
  refine mkC (y := ⟨"SeriesVault$Points", "clear", "()V"⟩) (cc := prog_5_method_2_code) (maxL := 1) (av := [.ref a]) (ws := [(a, .inr (2, fs))]) (sz := sz) (Qc := fun A => va_Qv (fun (_ : Unit) => True) (fun (u9 : Unit) t9 => bW D A [(a, .inr (2, (fs.set 3 (.int 0))))] t9) A) (by decide) (Nat.le_of_ble_eq_true rfl) ?_
  intro A p e s m below meth c ls hsz hB
  obtain ⟨hx, hb, hr, hml, hown, hin, hlk, hE, hK, hP, hD, hS, hA, hN, hl⟩ := hB
  have hown : s.vm.findClass "SeriesVault$Points" = some m.cls := hown
  have hin : meth.name = "clear" := hin
  have hl : lv_has ls 1 [(0, .ref a)] := hl
  obtain ⟨H, hH⟩ : ∃ z, z = s.heap := ⟨_, rfl⟩
  have hP : va_P D vwCl [(a, .inr (2, fs))] H := by rw [hH]; exact hP
  have hS : va_S A s.heap H [] := by rw [hH]; exact hS
  rw [← hH]
  refine lv_aload_n hx hb d_P_clear_0 rfl (lv_at hl 0 rfl) ?_
  refine lv_iconst (v := 0) hx hb d_P_clear_1 (by decide) ?_
  refine pF hx hb hown hE hK hP hD hS 0 rfl rfl layP tyP tokP nmP 3 (by decide) w565 rfl rfl rfl (by simp [hl_fs]) d_P_clear_2 (fun H locs hP hD hS => ?_)
  have hP : va_P D vwCl [(a, .inr (2, (fs.set 3 (.int 0))))] H := hP
  have hD : va_D A [(a, .inr (2, (fs.set 3 (.int 0))))] := hD
  exact rtV hx hb hr hlk hP hD hS () trivial [0] rfl rfl (by decide) (Nat.le_of_ble_eq_true rfl) (Nat.le_of_ble_eq_true rfl) d_P_clear_5
theorem d_H_clear_0 : decode prog_9_method_2_code 0 = .ok (.aload_n 0, 1) := by decide +kernel
theorem d_H_clear_1 : decode prog_9_method_2_code 1 = .ok (.iconst 0, 1) := by decide +kernel
theorem d_H_clear_2 : decode prog_9_method_2_code 2 = .ok (.putfield 34, 3) := by decide +kernel
theorem d_H_clear_5 : decode prog_9_method_2_code 5 = .ok (.aload_n 0, 1) := by decide +kernel
theorem d_H_clear_6 : decode prog_9_method_2_code 6 = .ok (.iconst 0, 1) := by decide +kernel
theorem d_H_clear_7 : decode prog_9_method_2_code 7 = .ok (.putfield 38, 3) := by decide +kernel
theorem d_H_clear_10 : decode prog_9_method_2_code 10 = .ok (.aload_n 0, 1) := by decide +kernel
theorem d_H_clear_11 : decode prog_9_method_2_code 11 = .ok (.lconst 0, 1) := by decide +kernel
theorem d_H_clear_12 : decode prog_9_method_2_code 12 = .ok (.putfield 41, 3) := by decide +kernel
theorem d_H_clear_15 : decode prog_9_method_2_code 15 = .ok (.aload_n 0, 1) := by decide +kernel
theorem d_H_clear_16 : decode prog_9_method_2_code 16 = .ok (.iconst 0, 1) := by decide +kernel
theorem d_H_clear_17 : decode prog_9_method_2_code 17 = .ok (.putfield 45, 3) := by decide +kernel
theorem d_H_clear_20 : decode prog_9_method_2_code 20 = .ok (.aload_n 0, 1) := by decide +kernel
theorem d_H_clear_21 : decode prog_9_method_2_code 21 = .ok (.iconst 0, 1) := by decide +kernel
theorem d_H_clear_22 : decode prog_9_method_2_code 22 = .ok (.putfield 48, 3) := by decide +kernel
theorem d_H_clear_25 : decode prog_9_method_2_code 25 = .ok (.return_, 1) := by decide +kernel
theorem w566 : Cond.fieldLink "SeriesVault$Shelf" 34 "SeriesVault$Shelf" "parcelCount" "I" ∈ aW := aw_of (tb_1 (List.mem_of_getElem? (i := 143) rfl)) rfl
theorem w567 : Cond.fieldLink "SeriesVault$Shelf" 38 "SeriesVault$Shelf" "scarCount" "I" ∈ aW := aw_of (tb_1 (List.mem_of_getElem? (i := 150) rfl)) rfl
theorem w568 : Cond.fieldLink "SeriesVault$Shelf" 41 "SeriesVault$Shelf" "horizon" "J" ∈ aW := aw_of (tb_1 (List.mem_of_getElem? (i := 152) rfl)) rfl
theorem w569 : Cond.fieldLink "SeriesVault$Shelf" 45 "SeriesVault$Shelf" "seriesCount" "I" ∈ aW := aw_of (tb_1 (List.mem_of_getElem? (i := 154) rfl)) rfl
theorem w570 : Cond.fieldLink "SeriesVault$Shelf" 48 "SeriesVault$Shelf" "catalogBlocks" "I" ∈ aW := aw_of (tb_1 (List.mem_of_getElem? (i := 159) rfl)) rfl
set_option maxHeartbeats 4000000 in
set_option maxRecDepth 100000 in
theorem c_H_clear (l : Launch) (D : va_G) (dA : Nat → ClassId) (sz : Nat) (a : Nat) (fs : List Value) (hl_fs : fs.length = 11) : Met l ⟨"SeriesVault$Shelf", "clear", "()V"⟩ [Cond.code ⟨"SeriesVault$Shelf", "clear", "()V"⟩ prog_9_method_2_code 1 none] { frames := 1, cells := 0, slots := 0, locals := 0 } (pC D dA [.ref a] [(a, .inr (3, fs))] sz) (va_Qv (fun (_ : Unit) => True) (fun (u9 : Unit) t9 => bW D (va_A [(a, .inr (3, fs))] sz) [(a, .inr (3, (((((fs.set 1 (.int 0)).set 6 (.int 0)).set 7 (.long 0)).set 8 (.int 0)).set 10 (.int 0))))] t9) (va_A [(a, .inr (3, fs))] sz)) 0 0 (va_A [(a, .inr (3, fs))] sz) := by
  refine mkC (y := ⟨"SeriesVault$Shelf", "clear", "()V"⟩) (cc := prog_9_method_2_code) (maxL := 1) (av := [.ref a]) (ws := [(a, .inr (3, fs))]) (sz := sz) (Qc := fun A => va_Qv (fun (_ : Unit) => True) (fun (u9 : Unit) t9 => bW D A [(a, .inr (3, (((((fs.set 1 (.int 0)).set 6 (.int 0)).set 7 (.long 0)).set 8 (.int 0)).set 10 (.int 0))))] t9) A) (by decide) (Nat.le_of_ble_eq_true rfl) ?_
  intro A p e s m below meth c ls hsz hB
  obtain ⟨hx, hb, hr, hml, hown, hin, hlk, hE, hK, hP, hD, hS, hA, hN, hl⟩ := hB
  have hown : s.vm.findClass "SeriesVault$Shelf" = some m.cls := hown
  have hin : meth.name = "clear" := hin
  have hl : lv_has ls 1 [(0, .ref a)] := hl
  obtain ⟨H, hH⟩ : ∃ z, z = s.heap := ⟨_, rfl⟩
  have hP : va_P D vwCl [(a, .inr (3, fs))] H := by rw [hH]; exact hP
  have hS : va_S A s.heap H [] := by rw [hH]; exact hS
  rw [← hH]
  refine lv_aload_n hx hb d_H_clear_0 rfl (lv_at hl 0 rfl) ?_
  refine lv_iconst (v := 0) hx hb d_H_clear_1 (by decide) ?_
  refine pF hx hb hown hE hK hP hD hS 0 rfl rfl layH tyH tokH nmH 1 (by decide) w566 rfl rfl rfl (by simp [hl_fs]) d_H_clear_2 (fun H locs hP hD hS => ?_)
  have hP : va_P D vwCl [(a, .inr (3, (fs.set 1 (.int 0))))] H := hP
  have hD : va_D A [(a, .inr (3, (fs.set 1 (.int 0))))] := hD
  refine lv_aload_n hx hb d_H_clear_5 rfl (lv_at hl 0 rfl) ?_
  refine lv_iconst (v := 0) hx hb d_H_clear_6 (by decide) ?_
  refine pF hx hb hown hE hK hP hD hS 0 rfl rfl layH tyH tokH nmH 6 (by decide) w567 rfl rfl rfl (by simp [hl_fs]) d_H_clear_7 (fun H locs hP hD hS => ?_)
  have hP : va_P D vwCl [(a, .inr (3, ((fs.set 1 (.int 0)).set 6 (.int 0))))] H := hP
  have hD : va_D A [(a, .inr (3, ((fs.set 1 (.int 0)).set 6 (.int 0))))] := hD
  refine lv_aload_n hx hb d_H_clear_10 rfl (lv_at hl 0 rfl) ?_
  refine lv_lconst (v := 0) hx hb d_H_clear_11 (by decide) ?_
  refine pF hx hb hown hE hK hP hD hS 0 rfl rfl layH tyH tokH nmH 7 (by decide) w568 rfl rfl rfl (by simp [hl_fs]) d_H_clear_12 (fun H locs hP hD hS => ?_)
  have hP : va_P D vwCl [(a, .inr (3, (((fs.set 1 (.int 0)).set 6 (.int 0)).set 7 (.long 0))))] H := hP
  have hD : va_D A [(a, .inr (3, (((fs.set 1 (.int 0)).set 6 (.int 0)).set 7 (.long 0))))] := hD
  refine lv_aload_n hx hb d_H_clear_15 rfl (lv_at hl 0 rfl) ?_
  refine lv_iconst (v := 0) hx hb d_H_clear_16 (by decide) ?_
  refine pF hx hb hown hE hK hP hD hS 0 rfl rfl layH tyH tokH nmH 8 (by decide) w569 rfl rfl rfl (by simp [hl_fs]) d_H_clear_17 (fun H locs hP hD hS => ?_)
  have hP : va_P D vwCl [(a, .inr (3, ((((fs.set 1 (.int 0)).set 6 (.int 0)).set 7 (.long 0)).set 8 (.int 0))))] H := hP
  have hD : va_D A [(a, .inr (3, ((((fs.set 1 (.int 0)).set 6 (.int 0)).set 7 (.long 0)).set 8 (.int 0))))] := hD
  refine lv_aload_n hx hb d_H_clear_20 rfl (lv_at hl 0 rfl) ?_
  refine lv_iconst (v := 0) hx hb d_H_clear_21 (by decide) ?_
  refine pF hx hb hown hE hK hP hD hS 0 rfl rfl layH tyH tokH nmH 10 (by decide) w570 rfl rfl rfl (by simp [hl_fs]) d_H_clear_22 (fun H locs hP hD hS => ?_)
  have hP : va_P D vwCl [(a, .inr (3, (((((fs.set 1 (.int 0)).set 6 (.int 0)).set 7 (.long 0)).set 8 (.int 0)).set 10 (.int 0))))] H := hP
  have hD : va_D A [(a, .inr (3, (((((fs.set 1 (.int 0)).set 6 (.int 0)).set 7 (.long 0)).set 8 (.int 0)).set 10 (.int 0))))] := hD
  exact rtV hx hb hr hlk hP hD hS () trivial [0] rfl rfl (by decide) (Nat.le_of_ble_eq_true rfl) (Nat.le_of_ble_eq_true rfl) d_H_clear_25
theorem d_V_makeDisk_0 : decode prog_1_method_9_code 0 = .ok (.aload_n 0, 1) := by decide +kernel
theorem d_V_makeDisk_1 : decode prog_1_method_9_code 1 = .ok (.iload_n 1, 1) := by decide +kernel
theorem d_V_makeDisk_2 : decode prog_1_method_9_code 2 = .ok (.putfield 101, 3) := by decide +kernel
theorem d_V_makeDisk_5 : decode prog_1_method_9_code 5 = .ok (.aload_n 0, 1) := by decide +kernel
theorem d_V_makeDisk_6 : decode prog_1_method_9_code 6 = .ok (.iconst 1, 1) := by decide +kernel
theorem d_V_makeDisk_7 : decode prog_1_method_9_code 7 = .ok (.putfield 104, 3) := by decide +kernel
theorem d_V_makeDisk_10 : decode prog_1_method_9_code 10 = .ok (.aload_n 0, 1) := by decide +kernel
theorem d_V_makeDisk_11 : decode prog_1_method_9_code 11 = .ok (.iconst (-1), 1) := by decide +kernel
theorem d_V_makeDisk_12 : decode prog_1_method_9_code 12 = .ok (.putfield 108, 3) := by decide +kernel
theorem d_V_makeDisk_15 : decode prog_1_method_9_code 15 = .ok (.aload_n 0, 1) := by decide +kernel
theorem d_V_makeDisk_16 : decode prog_1_method_9_code 16 = .ok (.iconst 0, 1) := by decide +kernel
theorem d_V_makeDisk_17 : decode prog_1_method_9_code 17 = .ok (.putfield 111, 3) := by decide +kernel
theorem d_V_makeDisk_20 : decode prog_1_method_9_code 20 = .ok (.aload_n 0, 1) := by decide +kernel
theorem d_V_makeDisk_21 : decode prog_1_method_9_code 21 = .ok (.iconst 0, 1) := by decide +kernel
theorem d_V_makeDisk_22 : decode prog_1_method_9_code 22 = .ok (.putfield 114, 3) := by decide +kernel
theorem d_V_makeDisk_25 : decode prog_1_method_9_code 25 = .ok (.aload_n 0, 1) := by decide +kernel
theorem d_V_makeDisk_26 : decode prog_1_method_9_code 26 = .ok (.getfield 16, 3) := by decide +kernel
theorem d_V_makeDisk_29 : decode prog_1_method_9_code 29 = .ok (.iload_n 2, 1) := by decide +kernel
theorem d_V_makeDisk_30 : decode prog_1_method_9_code 30 = .ok (.invokevirtual 117, 3) := by decide +kernel
theorem d_V_makeDisk_33 : decode prog_1_method_9_code 33 = .ok (.aload_n 0, 1) := by decide +kernel
theorem d_V_makeDisk_34 : decode prog_1_method_9_code 34 = .ok (.getfield 23, 3) := by decide +kernel
theorem d_V_makeDisk_37 : decode prog_1_method_9_code 37 = .ok (.invokevirtual 120, 3) := by decide +kernel
theorem d_V_makeDisk_40 : decode prog_1_method_9_code 40 = .ok (.aload_n 0, 1) := by decide +kernel
theorem d_V_makeDisk_41 : decode prog_1_method_9_code 41 = .ok (.getfield 33, 3) := by decide +kernel
theorem d_V_makeDisk_44 : decode prog_1_method_9_code 44 = .ok (.invokevirtual 123, 3) := by decide +kernel
theorem d_V_makeDisk_47 : decode prog_1_method_9_code 47 = .ok (.aload_n 0, 1) := by decide +kernel
theorem d_V_makeDisk_48 : decode prog_1_method_9_code 48 = .ok (.getfield 37, 3) := by decide +kernel
theorem d_V_makeDisk_51 : decode prog_1_method_9_code 51 = .ok (.invokevirtual 123, 3) := by decide +kernel
theorem d_V_makeDisk_54 : decode prog_1_method_9_code 54 = .ok (.return_, 1) := by decide +kernel
theorem w571 : Cond.fieldLink "SeriesVault" 101 "SeriesVault" "diskBlocks" "I" ∈ aW := aw_of (tb_2 (List.mem_of_getElem? (i := 209) rfl)) rfl
theorem w572 : Cond.methodLink "SeriesVault" 117 ⟨"SeriesVault$Journal", "reset", "(I)V"⟩ ∈ aW := aw_of (tb_2 (List.mem_of_getElem? (i := 184) rfl)) rfl
theorem w573 : Cond.code ⟨"SeriesVault$Journal", "reset", "(I)V"⟩ prog_3_method_2_code 2 none ∈ aW := aw_of (tb_2 (List.mem_of_getElem? (i := 187) rfl)) rfl
theorem w574 : Cond.instanceMethod ⟨"SeriesVault$Journal", "reset", "(I)V"⟩ ∈ aW := aw_of (tb_2 (List.mem_of_getElem? (i := 185) rfl)) rfl
theorem w575 : Cond.selects "SeriesVault$Journal" ⟨"SeriesVault$Journal", "reset", "(I)V"⟩ ⟨"SeriesVault$Journal", "reset", "(I)V"⟩ ∈ aW := aw_of (tb_2 (List.mem_of_getElem? (i := 186) rfl)) rfl
theorem w576 : Cond.fieldLink "SeriesVault" 23 "SeriesVault" "head" "LSeriesVault$Points;" ∈ aW := aw_of (tb_2 (List.mem_of_getElem? (i := 214) rfl)) rfl
theorem w577 : Cond.methodLink "SeriesVault" 120 ⟨"SeriesVault$Points", "clear", "()V"⟩ ∈ aW := aw_of (tb_2 (List.mem_of_getElem? (i := 197) rfl)) rfl
theorem w578 : Cond.initialized "SeriesVault$Points" ∈ aW := aw_of (tb_1 (List.mem_of_getElem? (i := 3) rfl)) rfl
theorem w579 : Cond.code ⟨"SeriesVault$Points", "clear", "()V"⟩ prog_5_method_2_code 1 none ∈ aW := aw_of (tb_2 (List.mem_of_getElem? (i := 200) rfl)) rfl
theorem w580 : Cond.instanceMethod ⟨"SeriesVault$Points", "clear", "()V"⟩ ∈ aW := aw_of (tb_2 (List.mem_of_getElem? (i := 198) rfl)) rfl
theorem w581 : Cond.selects "SeriesVault$Points" ⟨"SeriesVault$Points", "clear", "()V"⟩ ⟨"SeriesVault$Points", "clear", "()V"⟩ ∈ aW := aw_of (tb_2 (List.mem_of_getElem? (i := 199) rfl)) rfl
theorem w582 : Cond.methodLink "SeriesVault" 123 ⟨"SeriesVault$Shelf", "clear", "()V"⟩ ∈ aW := aw_of (tb_2 (List.mem_of_getElem? (i := 201) rfl)) rfl
theorem w583 : Cond.initialized "SeriesVault$Shelf" ∈ aW := aw_of (tb_1 (List.mem_of_getElem? (i := 4) rfl)) rfl
theorem w584 : Cond.code ⟨"SeriesVault$Shelf", "clear", "()V"⟩ prog_9_method_2_code 1 none ∈ aW := aw_of (tb_2 (List.mem_of_getElem? (i := 204) rfl)) rfl
theorem w585 : Cond.instanceMethod ⟨"SeriesVault$Shelf", "clear", "()V"⟩ ∈ aW := aw_of (tb_2 (List.mem_of_getElem? (i := 202) rfl)) rfl
theorem w586 : Cond.selects "SeriesVault$Shelf" ⟨"SeriesVault$Shelf", "clear", "()V"⟩ ⟨"SeriesVault$Shelf", "clear", "()V"⟩ ∈ aW := aw_of (tb_2 (List.mem_of_getElem? (i := 203) rfl)) rfl
theorem w587 : Cond.fieldLink "SeriesVault" 37 "SeriesVault" "saved" "LSeriesVault$Shelf;" ∈ aW := aw_of (tb_2 (List.mem_of_getElem? (i := 217) rfl)) rfl
set_option maxHeartbeats 4000000 in
set_option maxRecDepth 100000 in
theorem c_V_makeDisk (l : Launch) (D : va_G) (dA : Nat → ClassId) (sz : Nat) (a : Nat) (fs : List Value) (b : Nat) (gs : List Value) (b1 : Nat) (hs : List Value) (b2 : Nat) (is : List Value) (b3 : Nat) (js : List Value) (n : Int32) (j : Int32) (h_fs_journal : fs[8]? = some (.ref b)) (h_fs_head : fs[9]? = some (.ref b1)) (h_fs_now : fs[11]? = some (.ref b2)) (h_fs_saved : fs[12]? = some (.ref b3)) (hl_fs : fs.length = 18) (h_gs_kept : gs[7]? = some (.int 0)) (hl_gs : gs.length = 13) (hl_hs : hs.length = 4) (hl_is : is.length = 11) (hl_js : js.length = 11) : Met l ⟨"SeriesVault", "makeDisk", "(II)V"⟩ [Cond.code ⟨"SeriesVault", "makeDisk", "(II)V"⟩ prog_1_method_9_code 3 none] { frames := 4, cells := 0, slots := 0, locals := 76 } (pC D dA [.ref a, .int n, .int j] [(a, .inr (0, fs)), (b, .inr (1, gs)), (b1, .inr (2, hs)), (b2, .inr (3, is)), (b3, .inr (3, js))] sz) (va_Qv (fun (_ : Unit) => True) (fun (u9 : Unit) t9 => bW D (va_A [(a, .inr (0, fs)), (b, .inr (1, gs)), (b1, .inr (2, hs)), (b2, .inr (3, is)), (b3, .inr (3, js))] sz) [(a, .inr (0, (((((fs.set 4 (.int n)).set 5 (.int 1)).set 6 (.int (-1))).set 7 (.int 0)).set 17 (.int 0)))), (b, .inr (1, ((((((((gs.set 9 (.int j)).set 6 (.int 0)).set 6 (.int 0)).set 7 (.int 0)).set 12 (.int 0)).set 8 (.int 0)).set 10 (.int 0)).set 11 (.int 0)))), (b1, .inr (2, (hs.set 3 (.int 0)))), (b2, .inr (3, (((((is.set 1 (.int 0)).set 6 (.int 0)).set 7 (.long 0)).set 8 (.int 0)).set 10 (.int 0)))), (b3, .inr (3, (((((js.set 1 (.int 0)).set 6 (.int 0)).set 7 (.long 0)).set 8 (.int 0)).set 10 (.int 0))))] t9) (va_A [(a, .inr (0, fs)), (b, .inr (1, gs)), (b1, .inr (2, hs)), (b2, .inr (3, is)), (b3, .inr (3, js))] sz)) 0 0 (va_A [(a, .inr (0, fs)), (b, .inr (1, gs)), (b1, .inr (2, hs)), (b2, .inr (3, is)), (b3, .inr (3, js))] sz) := by
  refine mkC (y := ⟨"SeriesVault", "makeDisk", "(II)V"⟩) (cc := prog_1_method_9_code) (maxL := 3) (av := [.ref a, .int n, .int j]) (ws := [(a, .inr (0, fs)), (b, .inr (1, gs)), (b1, .inr (2, hs)), (b2, .inr (3, is)), (b3, .inr (3, js))]) (sz := sz) (Qc := fun A => va_Qv (fun (_ : Unit) => True) (fun (u9 : Unit) t9 => bW D A [(a, .inr (0, (((((fs.set 4 (.int n)).set 5 (.int 1)).set 6 (.int (-1))).set 7 (.int 0)).set 17 (.int 0)))), (b, .inr (1, ((((((((gs.set 9 (.int j)).set 6 (.int 0)).set 6 (.int 0)).set 7 (.int 0)).set 12 (.int 0)).set 8 (.int 0)).set 10 (.int 0)).set 11 (.int 0)))), (b1, .inr (2, (hs.set 3 (.int 0)))), (b2, .inr (3, (((((is.set 1 (.int 0)).set 6 (.int 0)).set 7 (.long 0)).set 8 (.int 0)).set 10 (.int 0)))), (b3, .inr (3, (((((js.set 1 (.int 0)).set 6 (.int 0)).set 7 (.long 0)).set 8 (.int 0)).set 10 (.int 0))))] t9) A) (by decide) (Nat.le_of_ble_eq_true rfl) ?_
  intro A p e s m below meth c ls hsz hB
  obtain ⟨hx, hb, hr, hml, hown, hin, hlk, hE, hK, hP, hD, hS, hA, hN, hl⟩ := hB
  have hown : s.vm.findClass "SeriesVault" = some m.cls := hown
  have hin : meth.name = "makeDisk" := hin
  have hl : lv_has ls 3 [(0, .ref a), (1, .int n), (2, .int j)] := hl
  obtain ⟨H, hH⟩ : ∃ z, z = s.heap := ⟨_, rfl⟩
  have hP : va_P D vwCl [(a, .inr (0, fs)), (b, .inr (1, gs)), (b1, .inr (2, hs)), (b2, .inr (3, is)), (b3, .inr (3, js))] H := by rw [hH]; exact hP
  have hS : va_S A s.heap H [] := by rw [hH]; exact hS
  rw [← hH]
  refine lv_aload_n hx hb d_V_makeDisk_0 rfl (lv_at hl 0 rfl) ?_
  refine lv_iload_n hx hb d_V_makeDisk_1 rfl (lv_at hl 1 rfl) ?_
  refine pF hx hb hown hE hK hP hD hS 0 rfl rfl layV tyV tokV nmV 4 (by decide) w571 rfl rfl rfl (by simp [hl_fs]) d_V_makeDisk_2 (fun H locs hP hD hS => ?_)
  have hP : va_P D vwCl [(a, .inr (0, (fs.set 4 (.int n)))), (b, .inr (1, gs)), (b1, .inr (2, hs)), (b2, .inr (3, is)), (b3, .inr (3, js))] H := hP
  have hD : va_D A [(a, .inr (0, (fs.set 4 (.int n)))), (b, .inr (1, gs)), (b1, .inr (2, hs)), (b2, .inr (3, is)), (b3, .inr (3, js))] := hD
  refine lv_aload_n hx hb d_V_makeDisk_5 rfl (lv_at hl 0 rfl) ?_
  refine lv_iconst (v := 1) hx hb d_V_makeDisk_6 (by decide) ?_
  refine pF hx hb hown hE hK hP hD hS 0 rfl rfl layV tyV tokV nmV 5 (by decide) w275 rfl rfl rfl (by simp [hl_fs]) d_V_makeDisk_7 (fun H locs hP hD hS => ?_)
  have hP : va_P D vwCl [(a, .inr (0, ((fs.set 4 (.int n)).set 5 (.int 1)))), (b, .inr (1, gs)), (b1, .inr (2, hs)), (b2, .inr (3, is)), (b3, .inr (3, js))] H := hP
  have hD : va_D A [(a, .inr (0, ((fs.set 4 (.int n)).set 5 (.int 1)))), (b, .inr (1, gs)), (b1, .inr (2, hs)), (b2, .inr (3, is)), (b3, .inr (3, js))] := hD
  refine lv_aload_n hx hb d_V_makeDisk_10 rfl (lv_at hl 0 rfl) ?_
  refine lv_iconst (v := (-1)) hx hb d_V_makeDisk_11 (by decide) ?_
  refine pF hx hb hown hE hK hP hD hS 0 rfl rfl layV tyV tokV nmV 6 (by decide) w281 rfl rfl rfl (by simp [hl_fs]) d_V_makeDisk_12 (fun H locs hP hD hS => ?_)
  have hP : va_P D vwCl [(a, .inr (0, (((fs.set 4 (.int n)).set 5 (.int 1)).set 6 (.int (-1))))), (b, .inr (1, gs)), (b1, .inr (2, hs)), (b2, .inr (3, is)), (b3, .inr (3, js))] H := hP
  have hD : va_D A [(a, .inr (0, (((fs.set 4 (.int n)).set 5 (.int 1)).set 6 (.int (-1))))), (b, .inr (1, gs)), (b1, .inr (2, hs)), (b2, .inr (3, is)), (b3, .inr (3, js))] := hD
  refine lv_aload_n hx hb d_V_makeDisk_15 rfl (lv_at hl 0 rfl) ?_
  refine lv_iconst (v := 0) hx hb d_V_makeDisk_16 (by decide) ?_
  refine pF hx hb hown hE hK hP hD hS 0 rfl rfl layV tyV tokV nmV 7 (by decide) w209 rfl rfl rfl (by simp [hl_fs]) d_V_makeDisk_17 (fun H locs hP hD hS => ?_)
  have hP : va_P D vwCl [(a, .inr (0, ((((fs.set 4 (.int n)).set 5 (.int 1)).set 6 (.int (-1))).set 7 (.int 0)))), (b, .inr (1, gs)), (b1, .inr (2, hs)), (b2, .inr (3, is)), (b3, .inr (3, js))] H := hP
  have hD : va_D A [(a, .inr (0, ((((fs.set 4 (.int n)).set 5 (.int 1)).set 6 (.int (-1))).set 7 (.int 0)))), (b, .inr (1, gs)), (b1, .inr (2, hs)), (b2, .inr (3, is)), (b3, .inr (3, js))] := hD
  refine lv_aload_n hx hb d_V_makeDisk_20 rfl (lv_at hl 0 rfl) ?_
  refine lv_iconst (v := 0) hx hb d_V_makeDisk_21 (by decide) ?_
  refine pF hx hb hown hE hK hP hD hS 0 rfl rfl layV tyV tokV nmV 17 (by decide) w210 rfl rfl rfl (by simp [hl_fs]) d_V_makeDisk_22 (fun H locs hP hD hS => ?_)
  have hP : va_P D vwCl [(a, .inr (0, (((((fs.set 4 (.int n)).set 5 (.int 1)).set 6 (.int (-1))).set 7 (.int 0)).set 17 (.int 0)))), (b, .inr (1, gs)), (b1, .inr (2, hs)), (b2, .inr (3, is)), (b3, .inr (3, js))] H := hP
  have hD : va_D A [(a, .inr (0, (((((fs.set 4 (.int n)).set 5 (.int 1)).set 6 (.int (-1))).set 7 (.int 0)).set 17 (.int 0)))), (b, .inr (1, gs)), (b1, .inr (2, hs)), (b2, .inr (3, is)), (b3, .inr (3, js))] := hD
  refine lv_aload_n hx hb d_V_makeDisk_25 rfl (lv_at hl 0 rfl) ?_
  refine gF (v := .ref b) hx hb hown hE hK hP 0 rfl rfl layV 8 (by decide) w312 (by simp [h_fs_journal]) d_V_makeDisk_26 ?_
  refine lv_iload_n hx hb d_V_makeDisk_29 rfl (lv_at hl 2 rfl) ?_
  have hPc := hP.sub (ws' := [(b, .inr (1, gs))]) [1] rfl
  have hDc := hD.sub (ws' := [(b, .inr (1, gs))]) [1] (by decide) rfl
  refine jnV (rnV (As := [.int j]) (rest := []) hx hb hml hown hE hK (hN _ _ hS) hPc hDc (c_J_reset l D dA H.size b gs j h_gs_kept hl_gs) (q0 := 0) rfl rfl w573 w572 w574 w575 w556 rfl rfl ⟨⟨by decide, by decide⟩, rfl⟩ ⟨(Nat.le_of_ble_eq_true rfl), (Nat.le_of_ble_eq_true rfl)⟩ rfl hl.1 rfl (Nat.le_of_ble_eq_true rfl) d_V_makeDisk_30 ⟨(Nat.le_of_ble_eq_true rfl), (Nat.le_of_ble_eq_true rfl)⟩) hP hD hS hA [1] [0, 2, 3, 4] (wr := [(a, .inr (0, (((((fs.set 4 (.int n)).set 5 (.int 1)).set 6 (.int (-1))).set 7 (.int 0)).set 17 (.int 0)))), (b1, .inr (2, hs)), (b2, .inr (3, is)), (b3, .inr (3, js))]) rfl rfl (by decide) (by decide) (fun u9 H locs hp9 hP hD hS => ?_)
  have hP : va_P D vwCl [(a, .inr (0, (((((fs.set 4 (.int n)).set 5 (.int 1)).set 6 (.int (-1))).set 7 (.int 0)).set 17 (.int 0)))), (b1, .inr (2, hs)), (b2, .inr (3, is)), (b3, .inr (3, js)), (b, .inr (1, ((((((((gs.set 9 (.int j)).set 6 (.int 0)).set 6 (.int 0)).set 7 (.int 0)).set 12 (.int 0)).set 8 (.int 0)).set 10 (.int 0)).set 11 (.int 0))))] H := hP
  have hD : va_D A [(a, .inr (0, (((((fs.set 4 (.int n)).set 5 (.int 1)).set 6 (.int (-1))).set 7 (.int 0)).set 17 (.int 0)))), (b1, .inr (2, hs)), (b2, .inr (3, is)), (b3, .inr (3, js)), (b, .inr (1, ((((((((gs.set 9 (.int j)).set 6 (.int 0)).set 6 (.int 0)).set 7 (.int 0)).set 12 (.int 0)).set 8 (.int 0)).set 10 (.int 0)).set 11 (.int 0))))] := hD
  refine lv_aload_n hx hb d_V_makeDisk_33 rfl (lv_at hl 0 rfl) ?_
  refine gF (v := .ref b1) hx hb hown hE hK hP 0 rfl rfl layV 9 (by decide) w576 (by simp [h_fs_head]) d_V_makeDisk_34 ?_
  have hPc := hP.sub (ws' := [(b1, .inr (2, hs))]) [1] rfl
  have hDc := hD.sub (ws' := [(b1, .inr (2, hs))]) [1] (by decide) rfl
  refine jnV (rnV (As := []) (rest := []) hx hb hml hown hE hK (hN _ _ hS) hPc hDc (c_P_clear l D dA H.size b1 hs hl_hs) (q0 := 0) rfl rfl w579 w577 w580 w581 w578 rfl rfl ⟨⟨by decide, by decide⟩, rfl⟩ ⟨(Nat.le_of_ble_eq_true rfl), (Nat.le_of_ble_eq_true rfl)⟩ rfl hl.1 rfl (Nat.le_of_ble_eq_true rfl) d_V_makeDisk_37 ⟨(Nat.le_of_ble_eq_true rfl), (Nat.le_of_ble_eq_true rfl)⟩) hP hD hS hA [1] [0, 2, 3, 4] (wr := [(a, .inr (0, (((((fs.set 4 (.int n)).set 5 (.int 1)).set 6 (.int (-1))).set 7 (.int 0)).set 17 (.int 0)))), (b2, .inr (3, is)), (b3, .inr (3, js)), (b, .inr (1, ((((((((gs.set 9 (.int j)).set 6 (.int 0)).set 6 (.int 0)).set 7 (.int 0)).set 12 (.int 0)).set 8 (.int 0)).set 10 (.int 0)).set 11 (.int 0))))]) rfl rfl (by decide) (by decide) (fun u9 H locs hp9 hP hD hS => ?_)
  have hP : va_P D vwCl [(a, .inr (0, (((((fs.set 4 (.int n)).set 5 (.int 1)).set 6 (.int (-1))).set 7 (.int 0)).set 17 (.int 0)))), (b2, .inr (3, is)), (b3, .inr (3, js)), (b, .inr (1, ((((((((gs.set 9 (.int j)).set 6 (.int 0)).set 6 (.int 0)).set 7 (.int 0)).set 12 (.int 0)).set 8 (.int 0)).set 10 (.int 0)).set 11 (.int 0)))), (b1, .inr (2, (hs.set 3 (.int 0))))] H := hP
  have hD : va_D A [(a, .inr (0, (((((fs.set 4 (.int n)).set 5 (.int 1)).set 6 (.int (-1))).set 7 (.int 0)).set 17 (.int 0)))), (b2, .inr (3, is)), (b3, .inr (3, js)), (b, .inr (1, ((((((((gs.set 9 (.int j)).set 6 (.int 0)).set 6 (.int 0)).set 7 (.int 0)).set 12 (.int 0)).set 8 (.int 0)).set 10 (.int 0)).set 11 (.int 0)))), (b1, .inr (2, (hs.set 3 (.int 0))))] := hD
  refine lv_aload_n hx hb d_V_makeDisk_40 rfl (lv_at hl 0 rfl) ?_
  refine gF (v := .ref b2) hx hb hown hE hK hP 0 rfl rfl layV 11 (by decide) w297 (by simp [h_fs_now]) d_V_makeDisk_41 ?_
  have hPc := hP.sub (ws' := [(b2, .inr (3, is))]) [1] rfl
  have hDc := hD.sub (ws' := [(b2, .inr (3, is))]) [1] (by decide) rfl
  refine jnV (rnV (As := []) (rest := []) hx hb hml hown hE hK (hN _ _ hS) hPc hDc (c_H_clear l D dA H.size b2 is hl_is) (q0 := 0) rfl rfl w584 w582 w585 w586 w583 rfl rfl ⟨⟨by decide, by decide⟩, rfl⟩ ⟨(Nat.le_of_ble_eq_true rfl), (Nat.le_of_ble_eq_true rfl)⟩ rfl hl.1 rfl (Nat.le_of_ble_eq_true rfl) d_V_makeDisk_44 ⟨(Nat.le_of_ble_eq_true rfl), (Nat.le_of_ble_eq_true rfl)⟩) hP hD hS hA [1] [0, 2, 3, 4] (wr := [(a, .inr (0, (((((fs.set 4 (.int n)).set 5 (.int 1)).set 6 (.int (-1))).set 7 (.int 0)).set 17 (.int 0)))), (b3, .inr (3, js)), (b, .inr (1, ((((((((gs.set 9 (.int j)).set 6 (.int 0)).set 6 (.int 0)).set 7 (.int 0)).set 12 (.int 0)).set 8 (.int 0)).set 10 (.int 0)).set 11 (.int 0)))), (b1, .inr (2, (hs.set 3 (.int 0))))]) rfl rfl (by decide) (by decide) (fun u9 H locs hp9 hP hD hS => ?_)
  have hP : va_P D vwCl [(a, .inr (0, (((((fs.set 4 (.int n)).set 5 (.int 1)).set 6 (.int (-1))).set 7 (.int 0)).set 17 (.int 0)))), (b3, .inr (3, js)), (b, .inr (1, ((((((((gs.set 9 (.int j)).set 6 (.int 0)).set 6 (.int 0)).set 7 (.int 0)).set 12 (.int 0)).set 8 (.int 0)).set 10 (.int 0)).set 11 (.int 0)))), (b1, .inr (2, (hs.set 3 (.int 0)))), (b2, .inr (3, (((((is.set 1 (.int 0)).set 6 (.int 0)).set 7 (.long 0)).set 8 (.int 0)).set 10 (.int 0))))] H := hP
  have hD : va_D A [(a, .inr (0, (((((fs.set 4 (.int n)).set 5 (.int 1)).set 6 (.int (-1))).set 7 (.int 0)).set 17 (.int 0)))), (b3, .inr (3, js)), (b, .inr (1, ((((((((gs.set 9 (.int j)).set 6 (.int 0)).set 6 (.int 0)).set 7 (.int 0)).set 12 (.int 0)).set 8 (.int 0)).set 10 (.int 0)).set 11 (.int 0)))), (b1, .inr (2, (hs.set 3 (.int 0)))), (b2, .inr (3, (((((is.set 1 (.int 0)).set 6 (.int 0)).set 7 (.long 0)).set 8 (.int 0)).set 10 (.int 0))))] := hD
  refine lv_aload_n hx hb d_V_makeDisk_47 rfl (lv_at hl 0 rfl) ?_
  refine gF (v := .ref b3) hx hb hown hE hK hP 0 rfl rfl layV 12 (by decide) w587 (by simp [h_fs_saved]) d_V_makeDisk_48 ?_
  have hPc := hP.sub (ws' := [(b3, .inr (3, js))]) [1] rfl
  have hDc := hD.sub (ws' := [(b3, .inr (3, js))]) [1] (by decide) rfl
  refine jnV (rnV (As := []) (rest := []) hx hb hml hown hE hK (hN _ _ hS) hPc hDc (c_H_clear l D dA H.size b3 js hl_js) (q0 := 0) rfl rfl w584 w582 w585 w586 w583 rfl rfl ⟨⟨by decide, by decide⟩, rfl⟩ ⟨(Nat.le_of_ble_eq_true rfl), (Nat.le_of_ble_eq_true rfl)⟩ rfl hl.1 rfl (Nat.le_of_ble_eq_true rfl) d_V_makeDisk_51 ⟨(Nat.le_of_ble_eq_true rfl), (Nat.le_of_ble_eq_true rfl)⟩) hP hD hS hA [1] [0, 2, 3, 4] (wr := [(a, .inr (0, (((((fs.set 4 (.int n)).set 5 (.int 1)).set 6 (.int (-1))).set 7 (.int 0)).set 17 (.int 0)))), (b, .inr (1, ((((((((gs.set 9 (.int j)).set 6 (.int 0)).set 6 (.int 0)).set 7 (.int 0)).set 12 (.int 0)).set 8 (.int 0)).set 10 (.int 0)).set 11 (.int 0)))), (b1, .inr (2, (hs.set 3 (.int 0)))), (b2, .inr (3, (((((is.set 1 (.int 0)).set 6 (.int 0)).set 7 (.long 0)).set 8 (.int 0)).set 10 (.int 0))))]) rfl rfl (by decide) (by decide) (fun u9 H locs hp9 hP hD hS => ?_)
  have hP : va_P D vwCl [(a, .inr (0, (((((fs.set 4 (.int n)).set 5 (.int 1)).set 6 (.int (-1))).set 7 (.int 0)).set 17 (.int 0)))), (b, .inr (1, ((((((((gs.set 9 (.int j)).set 6 (.int 0)).set 6 (.int 0)).set 7 (.int 0)).set 12 (.int 0)).set 8 (.int 0)).set 10 (.int 0)).set 11 (.int 0)))), (b1, .inr (2, (hs.set 3 (.int 0)))), (b2, .inr (3, (((((is.set 1 (.int 0)).set 6 (.int 0)).set 7 (.long 0)).set 8 (.int 0)).set 10 (.int 0)))), (b3, .inr (3, (((((js.set 1 (.int 0)).set 6 (.int 0)).set 7 (.long 0)).set 8 (.int 0)).set 10 (.int 0))))] H := hP
  have hD : va_D A [(a, .inr (0, (((((fs.set 4 (.int n)).set 5 (.int 1)).set 6 (.int (-1))).set 7 (.int 0)).set 17 (.int 0)))), (b, .inr (1, ((((((((gs.set 9 (.int j)).set 6 (.int 0)).set 6 (.int 0)).set 7 (.int 0)).set 12 (.int 0)).set 8 (.int 0)).set 10 (.int 0)).set 11 (.int 0)))), (b1, .inr (2, (hs.set 3 (.int 0)))), (b2, .inr (3, (((((is.set 1 (.int 0)).set 6 (.int 0)).set 7 (.long 0)).set 8 (.int 0)).set 10 (.int 0)))), (b3, .inr (3, (((((js.set 1 (.int 0)).set 6 (.int 0)).set 7 (.long 0)).set 8 (.int 0)).set 10 (.int 0))))] := hD
  exact rtV hx hb hr hlk hP hD hS () trivial [0, 1, 2, 3, 4] rfl rfl (by decide) (Nat.le_of_ble_eq_true rfl) (Nat.le_of_ble_eq_true rfl) d_V_makeDisk_54
theorem d_V_format_0 : decode prog_1_method_8_code 0 = .ok (.iload_n 1, 1) := by decide +kernel
theorem d_V_format_1 : decode prog_1_method_8_code 1 = .ok (.bipush 16, 2) := by decide +kernel
theorem d_V_format_3 : decode prog_1_method_8_code 3 = .ok (.if_icmp .lt 23, 3) := by decide +kernel
theorem d_V_format_6 : decode prog_1_method_8_code 6 = .ok (.iload_n 1, 1) := by decide +kernel
theorem d_V_format_7 : decode prog_1_method_8_code 7 = .ok (.sipush 256, 3) := by decide +kernel
theorem d_V_format_10 : decode prog_1_method_8_code 10 = .ok (.if_icmp .gt 16, 3) := by decide +kernel
theorem d_V_format_13 : decode prog_1_method_8_code 13 = .ok (.iload_n 2, 1) := by decide +kernel
theorem d_V_format_14 : decode prog_1_method_8_code 14 = .ok (.iconst 2, 1) := by decide +kernel
theorem d_V_format_15 : decode prog_1_method_8_code 15 = .ok (.if_icmp .lt 11, 3) := by decide +kernel
theorem d_V_format_18 : decode prog_1_method_8_code 18 = .ok (.iload_n 2, 1) := by decide +kernel
theorem d_V_format_19 : decode prog_1_method_8_code 19 = .ok (.iload_n 1, 1) := by decide +kernel
theorem d_V_format_20 : decode prog_1_method_8_code 20 = .ok (.bipush 8, 2) := by decide +kernel
theorem d_V_format_22 : decode prog_1_method_8_code 22 = .ok (.isub, 1) := by decide +kernel
theorem d_V_format_23 : decode prog_1_method_8_code 23 = .ok (.if_icmp .le 11, 3) := by decide +kernel
theorem d_V_format_34 : decode prog_1_method_8_code 34 = .ok (.aload_n 0, 1) := by decide +kernel
theorem d_V_format_35 : decode prog_1_method_8_code 35 = .ok (.iload_n 1, 1) := by decide +kernel
theorem d_V_format_36 : decode prog_1_method_8_code 36 = .ok (.iload_n 2, 1) := by decide +kernel
theorem d_V_format_37 : decode prog_1_method_8_code 37 = .ok (.invokevirtual 67, 3) := by decide +kernel
theorem d_V_format_40 : decode prog_1_method_8_code 40 = .ok (.return_, 1) := by decide +kernel
theorem w588 : Cond.methodLink "SeriesVault" 67 ⟨"SeriesVault", "makeDisk", "(II)V"⟩ ∈ aW := aw_of (tb_2 (List.mem_of_getElem? (i := 180) rfl)) rfl
theorem w589 : Cond.code ⟨"SeriesVault", "makeDisk", "(II)V"⟩ prog_1_method_9_code 3 none ∈ aW := aw_of (tb_2 (List.mem_of_getElem? (i := 183) rfl)) rfl
theorem w590 : Cond.instanceMethod ⟨"SeriesVault", "makeDisk", "(II)V"⟩ ∈ aW := aw_of (tb_2 (List.mem_of_getElem? (i := 182) rfl)) rfl
theorem w591 : Cond.selects "SeriesVault" ⟨"SeriesVault", "makeDisk", "(II)V"⟩ ⟨"SeriesVault", "makeDisk", "(II)V"⟩ ∈ aW := aw_pr (List.mem_map.mpr ⟨_, pv_1 (List.mem_of_getElem? (i := 3) rfl), rfl⟩) rfl
set_option maxHeartbeats 4000000 in
set_option maxRecDepth 100000 in
theorem c_V_format (l : Launch) (D : va_G) (dA : Nat → ClassId) (sz : Nat) (a : Nat) (fs : List Value) (b : Nat) (gs : List Value) (b1 : Nat) (hs : List Value) (b2 : Nat) (is : List Value) (b3 : Nat) (js : List Value) (n : Int32) (j : Int32) (h1 : ¬ n < 16) (h2 : ¬ 256 < n) (h3 : ¬ j < 2) (h4 : j ≤ n - 8) (h_fs_journal : fs[8]? = some (.ref b)) (h_fs_head : fs[9]? = some (.ref b1)) (h_fs_now : fs[11]? = some (.ref b2)) (h_fs_saved : fs[12]? = some (.ref b3)) (hl_fs : fs.length = 18) (h_gs_kept : gs[7]? = some (.int 0)) (hl_gs : gs.length = 13) (hl_hs : hs.length = 4) (hl_is : is.length = 11) (hl_js : js.length = 11) : Met l ⟨"SeriesVault", "format", "(II)V"⟩ [Cond.code ⟨"SeriesVault", "format", "(II)V"⟩ prog_1_method_8_code 3 none] { frames := 5, cells := 0, slots := 0, locals := 98 } (pC D dA [.ref a, .int n, .int j] [(a, .inr (0, fs)), (b, .inr (1, gs)), (b1, .inr (2, hs)), (b2, .inr (3, is)), (b3, .inr (3, js))] sz) (va_Qv (fun (_ : Unit) => True) (fun (u9 : Unit) t9 => bW D (va_A [(a, .inr (0, fs)), (b, .inr (1, gs)), (b1, .inr (2, hs)), (b2, .inr (3, is)), (b3, .inr (3, js))] sz) [(a, .inr (0, (((((fs.set 4 (.int n)).set 5 (.int 1)).set 6 (.int (-1))).set 7 (.int 0)).set 17 (.int 0)))), (b, .inr (1, ((((((((gs.set 9 (.int j)).set 6 (.int 0)).set 6 (.int 0)).set 7 (.int 0)).set 12 (.int 0)).set 8 (.int 0)).set 10 (.int 0)).set 11 (.int 0)))), (b1, .inr (2, (hs.set 3 (.int 0)))), (b2, .inr (3, (((((is.set 1 (.int 0)).set 6 (.int 0)).set 7 (.long 0)).set 8 (.int 0)).set 10 (.int 0)))), (b3, .inr (3, (((((js.set 1 (.int 0)).set 6 (.int 0)).set 7 (.long 0)).set 8 (.int 0)).set 10 (.int 0))))] t9) (va_A [(a, .inr (0, fs)), (b, .inr (1, gs)), (b1, .inr (2, hs)), (b2, .inr (3, is)), (b3, .inr (3, js))] sz)) 0 0 (va_A [(a, .inr (0, fs)), (b, .inr (1, gs)), (b1, .inr (2, hs)), (b2, .inr (3, is)), (b3, .inr (3, js))] sz) := by
  refine mkC (y := ⟨"SeriesVault", "format", "(II)V"⟩) (cc := prog_1_method_8_code) (maxL := 3) (av := [.ref a, .int n, .int j]) (ws := [(a, .inr (0, fs)), (b, .inr (1, gs)), (b1, .inr (2, hs)), (b2, .inr (3, is)), (b3, .inr (3, js))]) (sz := sz) (Qc := fun A => va_Qv (fun (_ : Unit) => True) (fun (u9 : Unit) t9 => bW D A [(a, .inr (0, (((((fs.set 4 (.int n)).set 5 (.int 1)).set 6 (.int (-1))).set 7 (.int 0)).set 17 (.int 0)))), (b, .inr (1, ((((((((gs.set 9 (.int j)).set 6 (.int 0)).set 6 (.int 0)).set 7 (.int 0)).set 12 (.int 0)).set 8 (.int 0)).set 10 (.int 0)).set 11 (.int 0)))), (b1, .inr (2, (hs.set 3 (.int 0)))), (b2, .inr (3, (((((is.set 1 (.int 0)).set 6 (.int 0)).set 7 (.long 0)).set 8 (.int 0)).set 10 (.int 0)))), (b3, .inr (3, (((((js.set 1 (.int 0)).set 6 (.int 0)).set 7 (.long 0)).set 8 (.int 0)).set 10 (.int 0))))] t9) A) (by decide) (Nat.le_of_ble_eq_true rfl) ?_
  intro A p e s m below meth c ls hsz hB
  obtain ⟨hx, hb, hr, hml, hown, hin, hlk, hE, hK, hP, hD, hS, hA, hN, hl⟩ := hB
  have hown : s.vm.findClass "SeriesVault" = some m.cls := hown
  have hin : meth.name = "format" := hin
  have hl : lv_has ls 3 [(0, .ref a), (1, .int n), (2, .int j)] := hl
  obtain ⟨H, hH⟩ : ∃ z, z = s.heap := ⟨_, rfl⟩
  have hP : va_P D vwCl [(a, .inr (0, fs)), (b, .inr (1, gs)), (b1, .inr (2, hs)), (b2, .inr (3, is)), (b3, .inr (3, js))] H := by rw [hH]; exact hP
  have hS : va_S A s.heap H [] := by rw [hH]; exact hS
  rw [← hH]
  refine lv_iload_n hx hb d_V_format_0 rfl (lv_at hl 1 rfl) ?_
  refine lv_bipush (v := 16) hx hb d_V_format_1 (by decide) ?_
  refine lv_icmp_lt hx hb d_V_format_3 (tgt := 26) rfl (fun h9 => absurd h9 h1) (fun _ => ?_)
  refine lv_iload_n hx hb d_V_format_6 rfl (lv_at hl 1 rfl) ?_
  refine lv_sipush (v := 256) hx hb d_V_format_7 (by decide) ?_
  refine lv_icmp_gt hx hb d_V_format_10 (tgt := 26) rfl (fun h9 => absurd h9 h2) (fun _ => ?_)
  refine lv_iload_n hx hb d_V_format_13 rfl (lv_at hl 2 rfl) ?_
  refine lv_iconst (v := 2) hx hb d_V_format_14 (by decide) ?_
  refine lv_icmp_lt hx hb d_V_format_15 (tgt := 26) rfl (fun h9 => absurd h9 h3) (fun _ => ?_)
  refine lv_iload_n hx hb d_V_format_18 rfl (lv_at hl 2 rfl) ?_
  refine lv_iload_n hx hb d_V_format_19 rfl (lv_at hl 1 rfl) ?_
  refine lv_bipush (v := 8) hx hb d_V_format_20 (by decide) ?_
  refine lv_isub hx hb d_V_format_22 ?_
  refine lv_icmp_le hx hb d_V_format_23 (tgt := 34) rfl (fun _ => ?_) (fun h9 => absurd h4 h9)
  refine lv_aload_n hx hb d_V_format_34 rfl (lv_at hl 0 rfl) ?_
  refine lv_iload_n hx hb d_V_format_35 rfl (lv_at hl 1 rfl) ?_
  refine lv_iload_n hx hb d_V_format_36 rfl (lv_at hl 2 rfl) ?_
  have hPc := hP.sub (ws' := [(a, .inr (0, fs)), (b, .inr (1, gs)), (b1, .inr (2, hs)), (b2, .inr (3, is)), (b3, .inr (3, js))]) [0, 1, 2, 3, 4] rfl
  have hDc := hD.sub (ws' := [(a, .inr (0, fs)), (b, .inr (1, gs)), (b1, .inr (2, hs)), (b2, .inr (3, is)), (b3, .inr (3, js))]) [0, 1, 2, 3, 4] (by decide) rfl
  refine jnV (rnV (As := [.int n, .int j]) (rest := []) hx hb hml hown hE hK (hN _ _ hS) hPc hDc (c_V_makeDisk l D dA H.size a fs b gs b1 hs b2 is b3 js n j h_fs_journal h_fs_head h_fs_now h_fs_saved hl_fs h_gs_kept hl_gs hl_hs hl_is hl_js) (q0 := 0) rfl rfl w589 w588 w590 w591 w277 rfl rfl ⟨⟨by decide, by decide⟩, rfl⟩ ⟨(Nat.le_of_ble_eq_true rfl), (Nat.le_of_ble_eq_true rfl)⟩ rfl hl.1 rfl (Nat.le_of_ble_eq_true rfl) d_V_format_37 ⟨(Nat.le_of_ble_eq_true rfl), (Nat.le_of_ble_eq_true rfl)⟩) hP hD hS hA [0, 1, 2, 3, 4] [] (wr := []) rfl rfl (by decide) (by decide) (fun u9 H locs hp9 hP hD hS => ?_)
  have hP : va_P D vwCl [(a, .inr (0, (((((fs.set 4 (.int n)).set 5 (.int 1)).set 6 (.int (-1))).set 7 (.int 0)).set 17 (.int 0)))), (b, .inr (1, ((((((((gs.set 9 (.int j)).set 6 (.int 0)).set 6 (.int 0)).set 7 (.int 0)).set 12 (.int 0)).set 8 (.int 0)).set 10 (.int 0)).set 11 (.int 0)))), (b1, .inr (2, (hs.set 3 (.int 0)))), (b2, .inr (3, (((((is.set 1 (.int 0)).set 6 (.int 0)).set 7 (.long 0)).set 8 (.int 0)).set 10 (.int 0)))), (b3, .inr (3, (((((js.set 1 (.int 0)).set 6 (.int 0)).set 7 (.long 0)).set 8 (.int 0)).set 10 (.int 0))))] H := hP
  have hD : va_D A [(a, .inr (0, (((((fs.set 4 (.int n)).set 5 (.int 1)).set 6 (.int (-1))).set 7 (.int 0)).set 17 (.int 0)))), (b, .inr (1, ((((((((gs.set 9 (.int j)).set 6 (.int 0)).set 6 (.int 0)).set 7 (.int 0)).set 12 (.int 0)).set 8 (.int 0)).set 10 (.int 0)).set 11 (.int 0)))), (b1, .inr (2, (hs.set 3 (.int 0)))), (b2, .inr (3, (((((is.set 1 (.int 0)).set 6 (.int 0)).set 7 (.long 0)).set 8 (.int 0)).set 10 (.int 0)))), (b3, .inr (3, (((((js.set 1 (.int 0)).set 6 (.int 0)).set 7 (.long 0)).set 8 (.int 0)).set 10 (.int 0))))] := hD
  exact rtV hx hb hr hlk hP hD hS () trivial [0, 1, 2, 3, 4] rfl rfl (by decide) (Nat.le_of_ble_eq_true rfl) (Nat.le_of_ble_eq_true rfl) d_V_format_40
theorem d_V_format_26 : decode prog_1_method_8_code 26 = .ok (.new 89, 3) := by decide +kernel
theorem d_V_format_29 : decode prog_1_method_8_code 29 = .ok (.dup, 1) := by decide +kernel
theorem d_V_format_30 : decode prog_1_method_8_code 30 = .ok (.invokespecial 91, 3) := by decide +kernel
theorem d_V_format_33 : decode prog_1_method_8_code 33 = .ok (.athrow, 1) := by decide +kernel
set_option maxHeartbeats 4000000 in
set_option maxRecDepth 100000 in
theorem c_V_format_x (l : Launch) (htr : l.stackTraces = false) (D : va_G) (dA : Nat → ClassId) (sz : Nat) (a : Nat) (fs : List Value) (n : Int32) (j : Int32) (h0 : n < 16 ∨ 256 < n ∨ j < 2 ∨ n - 8 < j) (hl_fs : fs.length = 18) : mX l ⟨"SeriesVault", "format", "(II)V"⟩ [Cond.code ⟨"SeriesVault", "format", "(II)V"⟩ prog_1_method_8_code 3 none] { frames := 6, cells := 1, slots := 6, locals := 81 } (pC D dA [.ref a, .int n, .int j] [(a, .inr (0, fs))] sz) "java/lang/IllegalArgumentException" (fun st9 t9 => va_F (va_A [(a, .inr (0, fs))] sz) st9 t9 ∧ bW D (va_A [(a, .inr (0, fs))] sz) [(a, .inr (0, fs))] t9) 1 6 (va_A [(a, .inr (0, fs))] sz) := by
  refine mkX (y := ⟨"SeriesVault", "format", "(II)V"⟩) (cc := prog_1_method_8_code) (maxL := 3) (av := [.ref a, .int n, .int j]) (B := fun A => fun st9 t9 => va_F A st9 t9 ∧ bW D A [(a, .inr (0, fs))] t9) (by decide) (Nat.le_of_ble_eq_true rfl) ?_
  intro A p e s m below meth c ls hsz hno hB
  obtain ⟨hx, hb, hr, hml, hown, hin, hlk, hE, hK, hP, hD, hS, hA, hN, hl⟩ := hB
  have hown : s.vm.findClass "SeriesVault" = some m.cls := hown
  have hin : meth.name = "format" := hin
  have hl : lv_has ls 3 [(0, .ref a), (1, .int n), (2, .int j)] := hl
  obtain ⟨H, hH⟩ : ∃ z, z = s.heap := ⟨_, rfl⟩
  have hP : va_P D vwCl [(a, .inr (0, fs))] H := by rw [hH]; exact hP
  have hS : va_S A s.heap H [] := by rw [hH]; exact hS
  rw [← hH]
  refine lv_iload_n hx hb d_V_format_0 rfl (lv_at hl 1 rfl) ?_
  refine lv_bipush (v := 16) hx hb d_V_format_1 (by decide) ?_
  refine lv_icmp_lt hx hb d_V_format_3 (tgt := 26) rfl (fun hc => ?_) (fun hc => ?_)
  · exact xNew (E := "java/lang/IllegalArgumentException") (names := ["java/lang/RuntimeException", "java/lang/Exception"]) hx hb htr hown (by decide) (by decide) hE w273 w274 (fun U hU => at_V_IAE hU) (hN _ _ hS) (hl.1.trans hml.symm) d_V_format_26 d_V_format_29 d_V_format_30 d_V_format_33 hno (by decide) (Nat.le_of_ble_eq_true rfl) (Nat.le_of_ble_eq_true rfl) (Nat.le_of_ble_eq_true rfl) hlk (fun t h1 h2 => xEnd hP hD hS [0] rfl rfl (by decide) t h1 h2) hS.2.2 (Nat.le_of_ble_eq_true rfl) (Nat.le_of_ble_eq_true rfl)
  · refine lv_iload_n hx hb d_V_format_6 rfl (lv_at hl 1 rfl) ?_
    refine lv_sipush (v := 256) hx hb d_V_format_7 (by decide) ?_
    refine lv_icmp_gt hx hb d_V_format_10 (tgt := 26) rfl (fun hd => ?_) (fun hd => ?_)
    · exact xNew (E := "java/lang/IllegalArgumentException") (names := ["java/lang/RuntimeException", "java/lang/Exception"]) hx hb htr hown (by decide) (by decide) hE w273 w274 (fun U hU => at_V_IAE hU) (hN _ _ hS) (hl.1.trans hml.symm) d_V_format_26 d_V_format_29 d_V_format_30 d_V_format_33 hno (by decide) (Nat.le_of_ble_eq_true rfl) (Nat.le_of_ble_eq_true rfl) (Nat.le_of_ble_eq_true rfl) hlk (fun t h1 h2 => xEnd hP hD hS [0] rfl rfl (by decide) t h1 h2) hS.2.2 (Nat.le_of_ble_eq_true rfl) (Nat.le_of_ble_eq_true rfl)
    · refine lv_iload_n hx hb d_V_format_13 rfl (lv_at hl 2 rfl) ?_
      refine lv_iconst (v := 2) hx hb d_V_format_14 (by decide) ?_
      refine lv_icmp_lt hx hb d_V_format_15 (tgt := 26) rfl (fun he => ?_) (fun he => ?_)
      · exact xNew (E := "java/lang/IllegalArgumentException") (names := ["java/lang/RuntimeException", "java/lang/Exception"]) hx hb htr hown (by decide) (by decide) hE w273 w274 (fun U hU => at_V_IAE hU) (hN _ _ hS) (hl.1.trans hml.symm) d_V_format_26 d_V_format_29 d_V_format_30 d_V_format_33 hno (by decide) (Nat.le_of_ble_eq_true rfl) (Nat.le_of_ble_eq_true rfl) (Nat.le_of_ble_eq_true rfl) hlk (fun t h1 h2 => xEnd hP hD hS [0] rfl rfl (by decide) t h1 h2) hS.2.2 (Nat.le_of_ble_eq_true rfl) (Nat.le_of_ble_eq_true rfl)
      · refine lv_iload_n hx hb d_V_format_18 rfl (lv_at hl 2 rfl) ?_
        refine lv_iload_n hx hb d_V_format_19 rfl (lv_at hl 1 rfl) ?_
        refine lv_bipush (v := 8) hx hb d_V_format_20 (by decide) ?_
        refine lv_isub hx hb d_V_format_22 ?_
        refine lv_icmp_le hx hb d_V_format_23 (tgt := 34) rfl (fun h9 => absurd h9 (Int32.not_le.mpr (((h0.resolve_left hc).resolve_left hd).resolve_left he))) (fun _ => ?_)
        exact xNew (E := "java/lang/IllegalArgumentException") (names := ["java/lang/RuntimeException", "java/lang/Exception"]) hx hb htr hown (by decide) (by decide) hE w273 w274 (fun U hU => at_V_IAE hU) (hN _ _ hS) (hl.1.trans hml.symm) d_V_format_26 d_V_format_29 d_V_format_30 d_V_format_33 hno (by decide) (Nat.le_of_ble_eq_true rfl) (Nat.le_of_ble_eq_true rfl) (Nat.le_of_ble_eq_true rfl) hlk (fun t h1 h2 => xEnd hP hD hS [0] rfl rfl (by decide) t h1 h2) hS.2.2 (Nat.le_of_ble_eq_true rfl) (Nat.le_of_ble_eq_true rfl)
theorem d_R_wordEnd_0 : decode prog_8_method_4_code 0 = .ok (.iload_n 1, 1) := by decide +kernel
theorem d_R_wordEnd_1 : decode prog_8_method_4_code 1 = .ok (.iload_n 2, 1) := by decide +kernel
theorem d_R_wordEnd_2 : decode prog_8_method_4_code 2 = .ok (.bipush 24, 2) := by decide +kernel
theorem d_R_wordEnd_4 : decode prog_8_method_4_code 4 = .ok (.iadd, 1) := by decide +kernel
theorem d_R_wordEnd_5 : decode prog_8_method_4_code 5 = .ok (.invokestatic 40, 3) := by decide +kernel
theorem d_R_wordEnd_8 : decode prog_8_method_4_code 8 = .ok (.istore_n 3, 1) := by decide +kernel
theorem d_R_wordEnd_9 : decode prog_8_method_4_code 9 = .ok (.iload_n 2, 1) := by decide +kernel
theorem d_R_wordEnd_10 : decode prog_8_method_4_code 10 = .ok (.istore 4, 2) := by decide +kernel
theorem d_R_wordEnd_12 : decode prog_8_method_4_code 12 = .ok (.iload 4, 2) := by decide +kernel
theorem d_R_wordEnd_14 : decode prog_8_method_4_code 14 = .ok (.iload_n 3, 1) := by decide +kernel
theorem d_R_wordEnd_15 : decode prog_8_method_4_code 15 = .ok (.if_icmp .ge 19, 3) := by decide +kernel
theorem d_R_wordEnd_34 : decode prog_8_method_4_code 34 = .ok (.iload 4, 2) := by decide +kernel
theorem d_R_wordEnd_36 : decode prog_8_method_4_code 36 = .ok (.ireturn, 1) := by decide +kernel
theorem w592 : Cond.methodLink "SeriesVault$SeriesReader" 40 ⟨"java/lang/Math", "min", "(II)I"⟩ ∈ aW := aw_of (tb_3 (List.mem_of_getElem? (i := 203) rfl)) rfl
set_option maxHeartbeats 4000000 in
set_option maxRecDepth 100000 in
theorem c_R_wordEnd_0 (l : Launch) (D : va_G) (dA : Nat → ClassId) (sz : Nat) (b : Nat) : Met l ⟨"SeriesVault$SeriesReader", "wordEnd", "([BII)I"⟩ [Cond.code ⟨"SeriesVault$SeriesReader", "wordEnd", "([BII)I"⟩ prog_8_method_4_code 5 (some FieldType.int)] { frames := 1, cells := 0, slots := 0, locals := 13 } (pC D dA [.ref b, .int 0, .int 0] [] sz) (va_Qi (fun (r : Int32) (_ : Unit) => r = 0) (fun (u9 : Unit) t9 => bW D (va_A [] sz) [] t9) (va_A [] sz)) 0 0 (va_A [] sz) := by
  refine mkC (y := ⟨"SeriesVault$SeriesReader", "wordEnd", "([BII)I"⟩) (cc := prog_8_method_4_code) (maxL := 5) (av := [.ref b, .int 0, .int 0]) (ws := []) (sz := sz) (Qc := fun A => va_Qi (fun (r : Int32) (_ : Unit) => r = 0) (fun (u9 : Unit) t9 => bW D A [] t9) A) (by decide) (Nat.le_of_ble_eq_true rfl) ?_
  intro A p e s m below meth c ls hsz hB
  obtain ⟨hx, hb, hr, hml, hown, hin, hlk, hE, hK, hP, hD, hS, hA, hN, hl⟩ := hB
  have hown : s.vm.findClass "SeriesVault$SeriesReader" = some m.cls := hown
  have hin : meth.name = "wordEnd" := hin
  have hl : lv_has ls 5 [(0, .ref b), (1, .int 0), (2, .int 0)] := hl
  obtain ⟨H, hH⟩ : ∃ z, z = s.heap := ⟨_, rfl⟩
  have hP : va_P D vwCl [] H := by rw [hH]; exact hP
  have hS : va_S A s.heap H [] := by rw [hH]; exact hS
  rw [← hH]
  refine lv_iload_n hx hb d_R_wordEnd_0 rfl (lv_at hl 1 rfl) ?_
  refine lv_iload_n hx hb d_R_wordEnd_1 rfl (lv_at hl 2 rfl) ?_
  refine lv_bipush (v := 24) hx hb d_R_wordEnd_2 (by decide) ?_
  refine lv_iadd hx hb d_R_wordEnd_4 (tpi (y := 24) (by decide) ?_)
  refine va_mmin hx hb (hml.trans hl.1.symm) hown (hE.t w592 rfl) (hE.t w548 rfl) (hE.t w549 rfl) (hE.t w550 rfl) (Nat.le_of_ble_eq_true rfl) (Nat.le_of_ble_eq_true rfl) (Nat.le_of_ble_eq_true rfl) (Nat.le_of_ble_eq_true rfl) d_R_wordEnd_5 (tpi (y := 0) (by decide) ?_)
  refine lv_istore_n hx hb d_R_wordEnd_8 rfl hl (by decide) rfl (fun ls hl => ?_)
  have hl : lv_has ls 5 [(3, .int 0), (0, .ref b), (1, .int 0), (2, .int 0)] := hl
  refine lv_iload_n hx hb d_R_wordEnd_9 rfl (lv_at hl 3 rfl) ?_
  refine lv_istore hx hb d_R_wordEnd_10 hl (by decide) rfl (fun ls hl => ?_)
  have hl : lv_has ls 5 [(4, .int 0), (3, .int 0), (0, .ref b), (1, .int 0), (2, .int 0)] := hl
  refine lv_iload hx hb d_R_wordEnd_12 (lv_at hl 0 rfl) ?_
  refine lv_iload_n hx hb d_R_wordEnd_14 rfl (lv_at hl 1 rfl) ?_
  refine lv_icmp_ge hx hb d_R_wordEnd_15 (tgt := 34) rfl (fun _ => ?_) (fun h9 => absurd (by decide) h9)
  refine lv_iload hx hb d_R_wordEnd_34 (lv_at hl 0 rfl) ?_
  exact rtI hx hb hr hlk hP hD hS () rfl [] rfl rfl (by decide) (Nat.le_of_ble_eq_true rfl) (Nat.le_of_ble_eq_true rfl) d_R_wordEnd_36
theorem d_R_refuse_0 : decode prog_8_method_8_code 0 = .ok (.aload_n 0, 1) := by decide +kernel
theorem d_R_refuse_1 : decode prog_8_method_8_code 1 = .ok (.iload_n 1, 1) := by decide +kernel
theorem d_R_refuse_2 : decode prog_8_method_8_code 2 = .ok (.putfield 53, 3) := by decide +kernel
theorem d_R_refuse_5 : decode prog_8_method_8_code 5 = .ok (.aload_n 0, 1) := by decide +kernel
theorem d_R_refuse_6 : decode prog_8_method_8_code 6 = .ok (.iload_n 2, 1) := by decide +kernel
theorem d_R_refuse_7 : decode prog_8_method_8_code 7 = .ok (.putfield 56, 3) := by decide +kernel
theorem d_R_refuse_10 : decode prog_8_method_8_code 10 = .ok (.iconst (-1), 1) := by decide +kernel
theorem d_R_refuse_11 : decode prog_8_method_8_code 11 = .ok (.ireturn, 1) := by decide +kernel
theorem w593 : Cond.fieldLink "SeriesVault$SeriesReader" 53 "SeriesVault$SeriesReader" "faultCode" "I" ∈ aW := aw_of (tb_1 (List.mem_of_getElem? (i := 196) rfl)) rfl
theorem w594 : Cond.fieldLink "SeriesVault$SeriesReader" 56 "SeriesVault$SeriesReader" "faultPlace" "I" ∈ aW := aw_of (tb_1 (List.mem_of_getElem? (i := 198) rfl)) rfl
set_option maxHeartbeats 4000000 in
set_option maxRecDepth 100000 in
theorem c_R_refuse (l : Launch) (D : va_G) (dA : Nat → ClassId) (sz : Nat) (a : Nat) (fs : List Value) (n : Int32) (j : Int32) (hl_fs : fs.length = 6) : Met l ⟨"SeriesVault$SeriesReader", "refuse", "(II)I"⟩ [Cond.code ⟨"SeriesVault$SeriesReader", "refuse", "(II)I"⟩ prog_8_method_8_code 3 (some FieldType.int)] { frames := 1, cells := 0, slots := 0, locals := 0 } (pC D dA [.ref a, .int n, .int j] [(a, .inr (4, fs))] sz) (va_Qi (fun (r : Int32) (_ : Unit) => r = (-1)) (fun (u9 : Unit) t9 => bW D (va_A [(a, .inr (4, fs))] sz) [(a, .inr (4, ((fs.set 4 (.int n)).set 5 (.int j))))] t9) (va_A [(a, .inr (4, fs))] sz)) 0 0 (va_A [(a, .inr (4, fs))] sz) := by
  refine mkC (y := ⟨"SeriesVault$SeriesReader", "refuse", "(II)I"⟩) (cc := prog_8_method_8_code) (maxL := 3) (av := [.ref a, .int n, .int j]) (ws := [(a, .inr (4, fs))]) (sz := sz) (Qc := fun A => va_Qi (fun (r : Int32) (_ : Unit) => r = (-1)) (fun (u9 : Unit) t9 => bW D A [(a, .inr (4, ((fs.set 4 (.int n)).set 5 (.int j))))] t9) A) (by decide) (Nat.le_of_ble_eq_true rfl) ?_
  intro A p e s m below meth c ls hsz hB
  obtain ⟨hx, hb, hr, hml, hown, hin, hlk, hE, hK, hP, hD, hS, hA, hN, hl⟩ := hB
  have hown : s.vm.findClass "SeriesVault$SeriesReader" = some m.cls := hown
  have hin : meth.name = "refuse" := hin
  have hl : lv_has ls 3 [(0, .ref a), (1, .int n), (2, .int j)] := hl
  obtain ⟨H, hH⟩ : ∃ z, z = s.heap := ⟨_, rfl⟩
  have hP : va_P D vwCl [(a, .inr (4, fs))] H := by rw [hH]; exact hP
  have hS : va_S A s.heap H [] := by rw [hH]; exact hS
  rw [← hH]
  refine lv_aload_n hx hb d_R_refuse_0 rfl (lv_at hl 0 rfl) ?_
  refine lv_iload_n hx hb d_R_refuse_1 rfl (lv_at hl 1 rfl) ?_
  refine pF hx hb hown hE hK hP hD hS 0 rfl rfl layR tyR tokR nmR 4 (by decide) w593 rfl rfl rfl (by simp [hl_fs]) d_R_refuse_2 (fun H locs hP hD hS => ?_)
  have hP : va_P D vwCl [(a, .inr (4, (fs.set 4 (.int n))))] H := hP
  have hD : va_D A [(a, .inr (4, (fs.set 4 (.int n))))] := hD
  refine lv_aload_n hx hb d_R_refuse_5 rfl (lv_at hl 0 rfl) ?_
  refine lv_iload_n hx hb d_R_refuse_6 rfl (lv_at hl 2 rfl) ?_
  refine pF hx hb hown hE hK hP hD hS 0 rfl rfl layR tyR tokR nmR 5 (by decide) w594 rfl rfl rfl (by simp [hl_fs]) d_R_refuse_7 (fun H locs hP hD hS => ?_)
  have hP : va_P D vwCl [(a, .inr (4, ((fs.set 4 (.int n)).set 5 (.int j))))] H := hP
  have hD : va_D A [(a, .inr (4, ((fs.set 4 (.int n)).set 5 (.int j))))] := hD
  refine lv_iconst (v := (-1)) hx hb d_R_refuse_10 (by decide) ?_
  exact rtI hx hb hr hlk hP hD hS () rfl [0] rfl rfl (by decide) (Nat.le_of_ble_eq_true rfl) (Nat.le_of_ble_eq_true rfl) d_R_refuse_11
theorem d_R_readLabel_0 : decode prog_8_method_3_code 0 = .ok (.aload_n 1, 1) := by decide +kernel
theorem d_R_readLabel_1 : decode prog_8_method_3_code 1 = .ok (.iload_n 2, 1) := by decide +kernel
theorem d_R_readLabel_2 : decode prog_8_method_3_code 2 = .ok (.iload_n 3, 1) := by decide +kernel
theorem d_R_readLabel_3 : decode prog_8_method_3_code 3 = .ok (.invokestatic 33, 3) := by decide +kernel
theorem d_R_readLabel_6 : decode prog_8_method_3_code 6 = .ok (.istore 4, 2) := by decide +kernel
theorem d_R_readLabel_8 : decode prog_8_method_3_code 8 = .ok (.iload 4, 2) := by decide +kernel
theorem d_R_readLabel_10 : decode prog_8_method_3_code 10 = .ok (.iload_n 3, 1) := by decide +kernel
theorem d_R_readLabel_11 : decode prog_8_method_3_code 11 = .ok (.if_icmp .eq 18, 3) := by decide +kernel
theorem d_R_readLabel_29 : decode prog_8_method_3_code 29 = .ok (.aload_n 0, 1) := by decide +kernel
theorem d_R_readLabel_30 : decode prog_8_method_3_code 30 = .ok (.bipush 7, 2) := by decide +kernel
theorem d_R_readLabel_32 : decode prog_8_method_3_code 32 = .ok (.iload 4, 2) := by decide +kernel
theorem d_R_readLabel_34 : decode prog_8_method_3_code 34 = .ok (.invokevirtual 29, 3) := by decide +kernel
theorem d_R_readLabel_37 : decode prog_8_method_3_code 37 = .ok (.ireturn, 1) := by decide +kernel
theorem w595 : Cond.methodLink "SeriesVault$SeriesReader" 33 ⟨"SeriesVault$SeriesReader", "wordEnd", "([BII)I"⟩ ∈ aW := aw_of (tb_3 (List.mem_of_getElem? (i := 200) rfl)) rfl
theorem w596 : Cond.initialized "SeriesVault$SeriesReader" ∈ aW := aw_of (tb_1 (List.mem_of_getElem? (i := 5) rfl)) rfl
theorem w597 : Cond.code ⟨"SeriesVault$SeriesReader", "wordEnd", "([BII)I"⟩ prog_8_method_4_code 5 (some FieldType.int) ∈ aW := aw_of (tb_3 (List.mem_of_getElem? (i := 202) rfl)) rfl
theorem w598 : Cond.static ⟨"SeriesVault$SeriesReader", "wordEnd", "([BII)I"⟩ ∈ aW := aw_of (tb_3 (List.mem_of_getElem? (i := 201) rfl)) rfl
theorem w599 : Cond.methodLink "SeriesVault$SeriesReader" 29 ⟨"SeriesVault$SeriesReader", "refuse", "(II)I"⟩ ∈ aW := aw_of (tb_3 (List.mem_of_getElem? (i := 207) rfl)) rfl
theorem w600 : Cond.code ⟨"SeriesVault$SeriesReader", "refuse", "(II)I"⟩ prog_8_method_8_code 3 (some FieldType.int) ∈ aW := aw_of (tb_3 (List.mem_of_getElem? (i := 210) rfl)) rfl
theorem w601 : Cond.instanceMethod ⟨"SeriesVault$SeriesReader", "refuse", "(II)I"⟩ ∈ aW := aw_of (tb_3 (List.mem_of_getElem? (i := 209) rfl)) rfl
theorem w602 : Cond.selects "SeriesVault$SeriesReader" ⟨"SeriesVault$SeriesReader", "refuse", "(II)I"⟩ ⟨"SeriesVault$SeriesReader", "refuse", "(II)I"⟩ ∈ aW := aw_pr (List.mem_map.mpr ⟨_, pv_1 (List.mem_of_getElem? (i := 8) rfl), rfl⟩) rfl
set_option maxHeartbeats 4000000 in
set_option maxRecDepth 100000 in
theorem c_R_readLabel_0 (l : Launch) (D : va_G) (dA : Nat → ClassId) (sz : Nat) (a : Nat) (fs : List Value) (b : Nat) (hl_fs : fs.length = 6) : Met l ⟨"SeriesVault$SeriesReader", "readLabel", "([BII)I"⟩ [Cond.code ⟨"SeriesVault$SeriesReader", "readLabel", "([BII)I"⟩ prog_8_method_3_code 6 (some FieldType.int)] { frames := 2, cells := 0, slots := 0, locals := 37 } (pC D dA [.ref a, .ref b, .int 0, .int 0] [(a, .inr (4, fs))] sz) (va_Qi (fun (r : Int32) (_ : Unit) => r = (-1)) (fun (u9 : Unit) t9 => bW D (va_A [(a, .inr (4, fs))] sz) [(a, .inr (4, ((fs.set 4 (.int 7)).set 5 (.int 0))))] t9) (va_A [(a, .inr (4, fs))] sz)) 0 0 (va_A [(a, .inr (4, fs))] sz) := by
  refine mkC (y := ⟨"SeriesVault$SeriesReader", "readLabel", "([BII)I"⟩) (cc := prog_8_method_3_code) (maxL := 6) (av := [.ref a, .ref b, .int 0, .int 0]) (ws := [(a, .inr (4, fs))]) (sz := sz) (Qc := fun A => va_Qi (fun (r : Int32) (_ : Unit) => r = (-1)) (fun (u9 : Unit) t9 => bW D A [(a, .inr (4, ((fs.set 4 (.int 7)).set 5 (.int 0))))] t9) A) (by decide) (Nat.le_of_ble_eq_true rfl) ?_
  intro A p e s m below meth c ls hsz hB
  obtain ⟨hx, hb, hr, hml, hown, hin, hlk, hE, hK, hP, hD, hS, hA, hN, hl⟩ := hB
  have hown : s.vm.findClass "SeriesVault$SeriesReader" = some m.cls := hown
  have hin : meth.name = "readLabel" := hin
  have hl : lv_has ls 6 [(0, .ref a), (1, .ref b), (2, .int 0), (3, .int 0)] := hl
  obtain ⟨H, hH⟩ : ∃ z, z = s.heap := ⟨_, rfl⟩
  have hP : va_P D vwCl [(a, .inr (4, fs))] H := by rw [hH]; exact hP
  have hS : va_S A s.heap H [] := by rw [hH]; exact hS
  rw [← hH]
  refine lv_aload_n hx hb d_R_readLabel_0 rfl (lv_at hl 1 rfl) ?_
  refine lv_iload_n hx hb d_R_readLabel_1 rfl (lv_at hl 2 rfl) ?_
  refine lv_iload_n hx hb d_R_readLabel_2 rfl (lv_at hl 3 rfl) ?_
  have hPc := hP.sub (ws' := []) [] rfl
  have hDc := hD.sub (ws' := []) [] (by decide) rfl
  refine jnI (rnS (As := [.ref b, .int 0, .int 0]) (rest := []) hx hb hml hown hE hK (hN _ _ hS) hPc hDc (c_R_wordEnd_0 l D dA H.size b) w597 w595 w598 w596 rfl rfl ⟨⟨by decide, by decide⟩, rfl⟩ ⟨(Nat.le_of_ble_eq_true rfl), (Nat.le_of_ble_eq_true rfl)⟩ rfl hl.1 rfl (Nat.le_of_ble_eq_true rfl) d_R_readLabel_3 ⟨(Nat.le_of_ble_eq_true rfl), (Nat.le_of_ble_eq_true rfl)⟩) hP hD hS hA [] [0] (wr := [(a, .inr (4, fs))]) rfl rfl (by decide) (by decide) (fun r1 u9 H locs hp9 hP hD hS => ?_)
  have hP : va_P D vwCl [(a, .inr (4, fs))] H := hP
  have hD : va_D A [(a, .inr (4, fs))] := hD
  have hp9 : 0 = r1 := Eq.symm hp9
  subst hp9
  refine lv_istore hx hb d_R_readLabel_6 hl (by decide) rfl (fun ls hl => ?_)
  have hl : lv_has ls 6 [(4, .int 0), (0, .ref a), (1, .ref b), (2, .int 0), (3, .int 0)] := hl
  refine lv_iload hx hb d_R_readLabel_8 (lv_at hl 0 rfl) ?_
  refine lv_iload_n hx hb d_R_readLabel_10 rfl (lv_at hl 4 rfl) ?_
  refine lv_icmp_eq hx hb d_R_readLabel_11 (tgt := 29) rfl (fun _ => ?_) (fun h9 => absurd (by decide) h9)
  refine lv_aload_n hx hb d_R_readLabel_29 rfl (lv_at hl 1 rfl) ?_
  refine lv_bipush (v := 7) hx hb d_R_readLabel_30 (by decide) ?_
  refine lv_iload hx hb d_R_readLabel_32 (lv_at hl 0 rfl) ?_
  have hPc := hP.sub (ws' := [(a, .inr (4, fs))]) [0] rfl
  have hDc := hD.sub (ws' := [(a, .inr (4, fs))]) [0] (by decide) rfl
  refine jnI (rnV (As := [.int 7, .int 0]) (rest := []) hx hb hml hown hE hK (hN _ _ hS) hPc hDc (c_R_refuse l D dA H.size a fs 7 0 hl_fs) (q0 := 0) rfl rfl w600 w599 w601 w602 w596 rfl rfl ⟨⟨by decide, by decide⟩, rfl⟩ ⟨(Nat.le_of_ble_eq_true rfl), (Nat.le_of_ble_eq_true rfl)⟩ rfl hl.1 rfl (Nat.le_of_ble_eq_true rfl) d_R_readLabel_34 ⟨(Nat.le_of_ble_eq_true rfl), (Nat.le_of_ble_eq_true rfl)⟩) hP hD hS hA [0] [] (wr := []) rfl rfl (by decide) (by decide) (fun r2 u9 H locs hp9 hP hD hS => ?_)
  have hP : va_P D vwCl [(a, .inr (4, ((fs.set 4 (.int 7)).set 5 (.int 0))))] H := hP
  have hD : va_D A [(a, .inr (4, ((fs.set 4 (.int 7)).set 5 (.int 0))))] := hD
  have hp9 : (-1) = r2 := Eq.symm hp9
  subst hp9
  exact rtI hx hb hr hlk hP hD hS () rfl [0] rfl rfl (by decide) (Nat.le_of_ble_eq_true rfl) (Nat.le_of_ble_eq_true rfl) d_R_readLabel_37
theorem d_R_read_0 : decode prog_8_method_2_code 0 = .ok (.aload_n 0, 1) := by decide +kernel
theorem d_R_read_1 : decode prog_8_method_2_code 1 = .ok (.iconst 0, 1) := by decide +kernel
theorem d_R_read_2 : decode prog_8_method_2_code 2 = .ok (.putfield 21, 3) := by decide +kernel
theorem d_R_read_5 : decode prog_8_method_2_code 5 = .ok (.iconst 0, 1) := by decide +kernel
theorem d_R_read_6 : decode prog_8_method_2_code 6 = .ok (.istore_n 3, 1) := by decide +kernel
theorem d_R_read_7 : decode prog_8_method_2_code 7 = .ok (.iconst 0, 1) := by decide +kernel
theorem d_R_read_8 : decode prog_8_method_2_code 8 = .ok (.istore 4, 2) := by decide +kernel
theorem d_R_read_10 : decode prog_8_method_2_code 10 = .ok (.iload 4, 2) := by decide +kernel
theorem d_R_read_12 : decode prog_8_method_2_code 12 = .ok (.bipush 6, 2) := by decide +kernel
theorem d_R_read_14 : decode prog_8_method_2_code 14 = .ok (.if_icmp .gt 52, 3) := by decide +kernel
theorem d_R_read_17 : decode prog_8_method_2_code 17 = .ok (.aload_n 0, 1) := by decide +kernel
theorem d_R_read_18 : decode prog_8_method_2_code 18 = .ok (.aload_n 1, 1) := by decide +kernel
theorem d_R_read_19 : decode prog_8_method_2_code 19 = .ok (.iload_n 2, 1) := by decide +kernel
theorem d_R_read_20 : decode prog_8_method_2_code 20 = .ok (.iload_n 3, 1) := by decide +kernel
theorem d_R_read_21 : decode prog_8_method_2_code 21 = .ok (.invokevirtual 25, 3) := by decide +kernel
theorem d_R_read_24 : decode prog_8_method_2_code 24 = .ok (.istore_n 3, 1) := by decide +kernel
theorem d_R_read_25 : decode prog_8_method_2_code 25 = .ok (.iload_n 3, 1) := by decide +kernel
theorem d_R_read_26 : decode prog_8_method_2_code 26 = .ok (.iconst (-1), 1) := by decide +kernel
theorem d_R_read_27 : decode prog_8_method_2_code 27 = .ok (.if_icmp .ne 5, 3) := by decide +kernel
theorem d_R_read_30 : decode prog_8_method_2_code 30 = .ok (.iconst 0, 1) := by decide +kernel
theorem d_R_read_31 : decode prog_8_method_2_code 31 = .ok (.ireturn, 1) := by decide +kernel
theorem w603 : Cond.fieldLink "SeriesVault$SeriesReader" 21 "SeriesVault$SeriesReader" "labels" "I" ∈ aW := aw_of (tb_1 (List.mem_of_getElem? (i := 195) rfl)) rfl
theorem w604 : Cond.methodLink "SeriesVault$SeriesReader" 25 ⟨"SeriesVault$SeriesReader", "readLabel", "([BII)I"⟩ ∈ aW := aw_of (tb_3 (List.mem_of_getElem? (i := 196) rfl)) rfl
theorem w605 : Cond.code ⟨"SeriesVault$SeriesReader", "readLabel", "([BII)I"⟩ prog_8_method_3_code 6 (some FieldType.int) ∈ aW := aw_of (tb_3 (List.mem_of_getElem? (i := 199) rfl)) rfl
theorem w606 : Cond.instanceMethod ⟨"SeriesVault$SeriesReader", "readLabel", "([BII)I"⟩ ∈ aW := aw_of (tb_3 (List.mem_of_getElem? (i := 198) rfl)) rfl
theorem w607 : Cond.selects "SeriesVault$SeriesReader" ⟨"SeriesVault$SeriesReader", "readLabel", "([BII)I"⟩ ⟨"SeriesVault$SeriesReader", "readLabel", "([BII)I"⟩ ∈ aW := aw_pr (List.mem_map.mpr ⟨_, pv_1 (List.mem_of_getElem? (i := 7) rfl), rfl⟩) rfl
set_option maxHeartbeats 4000000 in
set_option maxRecDepth 100000 in
theorem c_R_read_0 (l : Launch) (D : va_G) (dA : Nat → ClassId) (sz : Nat) (a : Nat) (fs : List Value) (b : Nat) (hl_fs : fs.length = 6) : Met l ⟨"SeriesVault$SeriesReader", "read", "([BI)Z"⟩ [Cond.code ⟨"SeriesVault$SeriesReader", "read", "([BI)Z"⟩ prog_8_method_2_code 5 (some FieldType.boolean)] { frames := 3, cells := 0, slots := 0, locals := 62 } (pC D dA [.ref a, .ref b, .int 0] [(a, .inr (4, fs))] sz) (va_Qi (fun (r : Int32) (_ : Unit) => r = 0) (fun (u9 : Unit) t9 => bW D (va_A [(a, .inr (4, fs))] sz) [(a, .inr (4, (((fs.set 3 (.int 0)).set 4 (.int 7)).set 5 (.int 0))))] t9) (va_A [(a, .inr (4, fs))] sz)) 0 0 (va_A [(a, .inr (4, fs))] sz) := by
  refine mkC (y := ⟨"SeriesVault$SeriesReader", "read", "([BI)Z"⟩) (cc := prog_8_method_2_code) (maxL := 5) (av := [.ref a, .ref b, .int 0]) (ws := [(a, .inr (4, fs))]) (sz := sz) (Qc := fun A => va_Qi (fun (r : Int32) (_ : Unit) => r = 0) (fun (u9 : Unit) t9 => bW D A [(a, .inr (4, (((fs.set 3 (.int 0)).set 4 (.int 7)).set 5 (.int 0))))] t9) A) (by decide) (Nat.le_of_ble_eq_true rfl) ?_
  intro A p e s m below meth c ls hsz hB
  obtain ⟨hx, hb, hr, hml, hown, hin, hlk, hE, hK, hP, hD, hS, hA, hN, hl⟩ := hB
  have hown : s.vm.findClass "SeriesVault$SeriesReader" = some m.cls := hown
  have hin : meth.name = "read" := hin
  have hl : lv_has ls 5 [(0, .ref a), (1, .ref b), (2, .int 0)] := hl
  obtain ⟨H, hH⟩ : ∃ z, z = s.heap := ⟨_, rfl⟩
  have hP : va_P D vwCl [(a, .inr (4, fs))] H := by rw [hH]; exact hP
  have hS : va_S A s.heap H [] := by rw [hH]; exact hS
  rw [← hH]
  refine lv_aload_n hx hb d_R_read_0 rfl (lv_at hl 0 rfl) ?_
  refine lv_iconst (v := 0) hx hb d_R_read_1 (by decide) ?_
  refine pF hx hb hown hE hK hP hD hS 0 rfl rfl layR tyR tokR nmR 3 (by decide) w603 rfl rfl rfl (by simp [hl_fs]) d_R_read_2 (fun H locs hP hD hS => ?_)
  have hP : va_P D vwCl [(a, .inr (4, (fs.set 3 (.int 0))))] H := hP
  have hD : va_D A [(a, .inr (4, (fs.set 3 (.int 0))))] := hD
  refine lv_iconst (v := 0) hx hb d_R_read_5 (by decide) ?_
  refine lv_istore_n hx hb d_R_read_6 rfl hl (by decide) rfl (fun ls hl => ?_)
  have hl : lv_has ls 5 [(3, .int 0), (0, .ref a), (1, .ref b), (2, .int 0)] := hl
  refine lv_iconst (v := 0) hx hb d_R_read_7 (by decide) ?_
  refine lv_istore hx hb d_R_read_8 hl (by decide) rfl (fun ls hl => ?_)
  have hl : lv_has ls 5 [(4, .int 0), (3, .int 0), (0, .ref a), (1, .ref b), (2, .int 0)] := hl
  refine lv_iload hx hb d_R_read_10 (lv_at hl 0 rfl) ?_
  refine lv_bipush (v := 6) hx hb d_R_read_12 (by decide) ?_
  refine lv_icmp_gt hx hb d_R_read_14 (tgt := 66) rfl (fun h9 => absurd h9 (by decide)) (fun _ => ?_)
  refine lv_aload_n hx hb d_R_read_17 rfl (lv_at hl 2 rfl) ?_
  refine lv_aload_n hx hb d_R_read_18 rfl (lv_at hl 3 rfl) ?_
  refine lv_iload_n hx hb d_R_read_19 rfl (lv_at hl 4 rfl) ?_
  refine lv_iload_n hx hb d_R_read_20 rfl (lv_at hl 1 rfl) ?_
  have hPc := hP.sub (ws' := [(a, .inr (4, (fs.set 3 (.int 0))))]) [0] rfl
  have hDc := hD.sub (ws' := [(a, .inr (4, (fs.set 3 (.int 0))))]) [0] (by decide) rfl
  refine jnI (rnV (As := [.ref b, .int 0, .int 0]) (rest := []) hx hb hml hown hE hK (hN _ _ hS) hPc hDc (c_R_readLabel_0 l D dA H.size a (fs.set 3 (.int 0)) b (by simp [hl_fs])) (q0 := 0) rfl rfl w605 w604 w606 w607 w596 rfl rfl ⟨⟨by decide, by decide⟩, rfl⟩ ⟨(Nat.le_of_ble_eq_true rfl), (Nat.le_of_ble_eq_true rfl)⟩ rfl hl.1 rfl (Nat.le_of_ble_eq_true rfl) d_R_read_21 ⟨(Nat.le_of_ble_eq_true rfl), (Nat.le_of_ble_eq_true rfl)⟩) hP hD hS hA [0] [] (wr := []) rfl rfl (by decide) (by decide) (fun r1 u9 H locs hp9 hP hD hS => ?_)
  have hP : va_P D vwCl [(a, .inr (4, (((fs.set 3 (.int 0)).set 4 (.int 7)).set 5 (.int 0))))] H := hP
  have hD : va_D A [(a, .inr (4, (((fs.set 3 (.int 0)).set 4 (.int 7)).set 5 (.int 0))))] := hD
  have hp9 : (-1) = r1 := Eq.symm hp9
  subst hp9
  refine lv_istore_n hx hb d_R_read_24 rfl hl (by decide) rfl (fun ls hl => ?_)
  have hl : lv_has ls 5 [(3, .int (-1)), (4, .int 0), (0, .ref a), (1, .ref b), (2, .int 0)] := hl
  refine lv_iload_n hx hb d_R_read_25 rfl (lv_at hl 0 rfl) ?_
  refine lv_iconst (v := (-1)) hx hb d_R_read_26 (by decide) ?_
  refine lv_icmp_ne hx hb d_R_read_27 (tgt := 32) rfl (fun h9 => absurd (by decide) h9) (fun _ => ?_)
  refine lv_iconst (v := 0) hx hb d_R_read_30 (by decide) ?_
  exact rtZ hx hb hr (by decide) hlk hP hD hS () rfl [0] rfl rfl (by decide) (Nat.le_of_ble_eq_true rfl) (Nat.le_of_ble_eq_true rfl) d_R_read_31
theorem d_V_setFault_0 : decode prog_1_method_7_code 0 = .ok (.aload_n 0, 1) := by decide +kernel
theorem d_V_setFault_1 : decode prog_1_method_7_code 1 = .ok (.iload_n 1, 1) := by decide +kernel
theorem d_V_setFault_2 : decode prog_1_method_7_code 2 = .ok (.putfield 95, 3) := by decide +kernel
theorem d_V_setFault_5 : decode prog_1_method_7_code 5 = .ok (.aload_n 0, 1) := by decide +kernel
theorem d_V_setFault_6 : decode prog_1_method_7_code 6 = .ok (.iload_n 2, 1) := by decide +kernel
theorem d_V_setFault_7 : decode prog_1_method_7_code 7 = .ok (.putfield 98, 3) := by decide +kernel
theorem d_V_setFault_10 : decode prog_1_method_7_code 10 = .ok (.return_, 1) := by decide +kernel
set_option maxHeartbeats 4000000 in
set_option maxRecDepth 100000 in
theorem c_V_setFault (l : Launch) (D : va_G) (dA : Nat → ClassId) (sz : Nat) (a : Nat) (fs : List Value) (n : Int32) (j : Int32) (hl_fs : fs.length = 18) : Met l ⟨"SeriesVault", "setFault", "(II)V"⟩ [Cond.code ⟨"SeriesVault", "setFault", "(II)V"⟩ prog_1_method_7_code 3 none] { frames := 1, cells := 0, slots := 0, locals := 0 } (pC D dA [.ref a, .int n, .int j] [(a, .inr (0, fs))] sz) (va_Qv (fun (_ : Unit) => True) (fun (u9 : Unit) t9 => bW D (va_A [(a, .inr (0, fs))] sz) [(a, .inr (0, ((fs.set 2 (.int n)).set 3 (.int j))))] t9) (va_A [(a, .inr (0, fs))] sz)) 0 0 (va_A [(a, .inr (0, fs))] sz) := by
  refine mkC (y := ⟨"SeriesVault", "setFault", "(II)V"⟩) (cc := prog_1_method_7_code) (maxL := 3) (av := [.ref a, .int n, .int j]) (ws := [(a, .inr (0, fs))]) (sz := sz) (Qc := fun A => va_Qv (fun (_ : Unit) => True) (fun (u9 : Unit) t9 => bW D A [(a, .inr (0, ((fs.set 2 (.int n)).set 3 (.int j))))] t9) A) (by decide) (Nat.le_of_ble_eq_true rfl) ?_
  intro A p e s m below meth c ls hsz hB
  obtain ⟨hx, hb, hr, hml, hown, hin, hlk, hE, hK, hP, hD, hS, hA, hN, hl⟩ := hB
  have hown : s.vm.findClass "SeriesVault" = some m.cls := hown
  have hin : meth.name = "setFault" := hin
  have hl : lv_has ls 3 [(0, .ref a), (1, .int n), (2, .int j)] := hl
  obtain ⟨H, hH⟩ : ∃ z, z = s.heap := ⟨_, rfl⟩
  have hP : va_P D vwCl [(a, .inr (0, fs))] H := by rw [hH]; exact hP
  have hS : va_S A s.heap H [] := by rw [hH]; exact hS
  rw [← hH]
  refine lv_aload_n hx hb d_V_setFault_0 rfl (lv_at hl 0 rfl) ?_
  refine lv_iload_n hx hb d_V_setFault_1 rfl (lv_at hl 1 rfl) ?_
  refine pF hx hb hown hE hK hP hD hS 0 rfl rfl layV tyV tokV nmV 2 (by decide) w211 rfl rfl rfl (by simp [hl_fs]) d_V_setFault_2 (fun H locs hP hD hS => ?_)
  have hP : va_P D vwCl [(a, .inr (0, (fs.set 2 (.int n))))] H := hP
  have hD : va_D A [(a, .inr (0, (fs.set 2 (.int n))))] := hD
  refine lv_aload_n hx hb d_V_setFault_5 rfl (lv_at hl 0 rfl) ?_
  refine lv_iload_n hx hb d_V_setFault_6 rfl (lv_at hl 2 rfl) ?_
  refine pF hx hb hown hE hK hP hD hS 0 rfl rfl layV tyV tokV nmV 3 (by decide) w212 rfl rfl rfl (by simp [hl_fs]) d_V_setFault_7 (fun H locs hP hD hS => ?_)
  have hP : va_P D vwCl [(a, .inr (0, ((fs.set 2 (.int n)).set 3 (.int j))))] H := hP
  have hD : va_D A [(a, .inr (0, ((fs.set 2 (.int n)).set 3 (.int j))))] := hD
  exact rtV hx hb hr hlk hP hD hS () trivial [0] rfl rfl (by decide) (Nat.le_of_ble_eq_true rfl) (Nat.le_of_ble_eq_true rfl) d_V_setFault_10
theorem d_V_series_0 : decode prog_1_method_23_code 0 = .ok (.aload_n 0, 1) := by decide +kernel
theorem d_V_series_1 : decode prog_1_method_23_code 1 = .ok (.invokevirtual 124, 3) := by decide +kernel
theorem d_V_series_4 : decode prog_1_method_23_code 4 = .ok (.aload_n 0, 1) := by decide +kernel
theorem d_V_series_5 : decode prog_1_method_23_code 5 = .ok (.getfield 49, 3) := by decide +kernel
theorem d_V_series_8 : decode prog_1_method_23_code 8 = .ok (.aload_n 0, 1) := by decide +kernel
theorem d_V_series_9 : decode prog_1_method_23_code 9 = .ok (.getfield 7, 3) := by decide +kernel
theorem d_V_series_12 : decode prog_1_method_23_code 12 = .ok (.aload_n 0, 1) := by decide +kernel
theorem d_V_series_13 : decode prog_1_method_23_code 13 = .ok (.getfield 71, 3) := by decide +kernel
theorem d_V_series_16 : decode prog_1_method_23_code 16 = .ok (.invokevirtual 204, 3) := by decide +kernel
theorem d_V_series_19 : decode prog_1_method_23_code 19 = .ok (.ifCond .ne 28, 3) := by decide +kernel
theorem d_V_series_22 : decode prog_1_method_23_code 22 = .ok (.aload_n 0, 1) := by decide +kernel
theorem d_V_series_23 : decode prog_1_method_23_code 23 = .ok (.iconst 0, 1) := by decide +kernel
theorem d_V_series_24 : decode prog_1_method_23_code 24 = .ok (.putfield 71, 3) := by decide +kernel
theorem d_V_series_27 : decode prog_1_method_23_code 27 = .ok (.aload_n 0, 1) := by decide +kernel
theorem d_V_series_28 : decode prog_1_method_23_code 28 = .ok (.aload_n 0, 1) := by decide +kernel
theorem d_V_series_29 : decode prog_1_method_23_code 29 = .ok (.getfield 49, 3) := by decide +kernel
theorem d_V_series_32 : decode prog_1_method_23_code 32 = .ok (.getfield 208, 3) := by decide +kernel
theorem d_V_series_35 : decode prog_1_method_23_code 35 = .ok (.aload_n 0, 1) := by decide +kernel
theorem d_V_series_36 : decode prog_1_method_23_code 36 = .ok (.getfield 49, 3) := by decide +kernel
theorem d_V_series_39 : decode prog_1_method_23_code 39 = .ok (.getfield 209, 3) := by decide +kernel
theorem d_V_series_42 : decode prog_1_method_23_code 42 = .ok (.invokevirtual 210, 3) := by decide +kernel
theorem d_V_series_45 : decode prog_1_method_23_code 45 = .ok (.iconst (-1), 1) := by decide +kernel
theorem d_V_series_46 : decode prog_1_method_23_code 46 = .ok (.ireturn, 1) := by decide +kernel
theorem w608 : Cond.fieldLink "SeriesVault" 49 "SeriesVault" "reader" "LSeriesVault$SeriesReader;" ∈ aW := aw_of (tb_2 (List.mem_of_getElem? (i := 219) rfl)) rfl
theorem w609 : Cond.methodLink "SeriesVault" 204 ⟨"SeriesVault$SeriesReader", "read", "([BI)Z"⟩ ∈ aW := aw_of (tb_3 (List.mem_of_getElem? (i := 192) rfl)) rfl
theorem w610 : Cond.code ⟨"SeriesVault$SeriesReader", "read", "([BI)Z"⟩ prog_8_method_2_code 5 (some FieldType.boolean) ∈ aW := aw_of (tb_3 (List.mem_of_getElem? (i := 195) rfl)) rfl
theorem w611 : Cond.instanceMethod ⟨"SeriesVault$SeriesReader", "read", "([BI)Z"⟩ ∈ aW := aw_of (tb_3 (List.mem_of_getElem? (i := 193) rfl)) rfl
theorem w612 : Cond.selects "SeriesVault$SeriesReader" ⟨"SeriesVault$SeriesReader", "read", "([BI)Z"⟩ ⟨"SeriesVault$SeriesReader", "read", "([BI)Z"⟩ ∈ aW := aw_of (tb_3 (List.mem_of_getElem? (i := 194) rfl)) rfl
theorem w613 : Cond.fieldLinkNest "SeriesVault" 208 "SeriesVault$SeriesReader" "faultCode" "I" "SeriesVault" ∈ aW := aw_of (tb_1 (List.mem_of_getElem? (i := 197) rfl)) rfl
theorem w614 : Cond.fieldLinkNest "SeriesVault" 209 "SeriesVault$SeriesReader" "faultPlace" "I" "SeriesVault" ∈ aW := aw_of (tb_1 (List.mem_of_getElem? (i := 199) rfl)) rfl
theorem w615 : Cond.methodLink "SeriesVault" 210 ⟨"SeriesVault", "setFault", "(II)V"⟩ ∈ aW := aw_of (tb_3 (List.mem_of_getElem? (i := 218) rfl)) rfl
theorem w616 : Cond.code ⟨"SeriesVault", "setFault", "(II)V"⟩ prog_1_method_7_code 3 none ∈ aW := aw_of (tb_3 (List.mem_of_getElem? (i := 221) rfl)) rfl
theorem w617 : Cond.instanceMethod ⟨"SeriesVault", "setFault", "(II)V"⟩ ∈ aW := aw_of (tb_3 (List.mem_of_getElem? (i := 220) rfl)) rfl
theorem w618 : Cond.selects "SeriesVault" ⟨"SeriesVault", "setFault", "(II)V"⟩ ⟨"SeriesVault", "setFault", "(II)V"⟩ ∈ aW := aw_pr (List.mem_map.mpr ⟨_, pv_1 (List.mem_of_getElem? (i := 10) rfl), rfl⟩) rfl
set_option maxHeartbeats 4000000 in
set_option maxRecDepth 100000 in
theorem c_V_series_0 (l : Launch) (D : va_G) (dA : Nat → ClassId) (sz : Nat) (a : Nat) (fs : List Value) (b : Nat) (b1 : Nat) (gs : List Value) (h_fs_tape : fs[0]? = some (.ref b)) (h_fs_tapeLength : fs[1]? = some (.int 0)) (h_fs_powered : fs[5]? = some (.int 1)) (h_fs_reader : fs[14]? = some (.ref b1)) (hl_fs : fs.length = 18) (hl_gs : gs.length = 6) : Met l ⟨"SeriesVault", "series", "()I"⟩ [Cond.code ⟨"SeriesVault", "series", "()I"⟩ prog_1_method_23_code 3 (some FieldType.int)] { frames := 4, cells := 0, slots := 0, locals := 86 } (pC D dA [.ref a] [(a, .inr (0, fs)), (b1, .inr (4, gs))] sz) (va_Qi (fun (r : Int32) (_ : Unit) => r = (-1)) (fun (u9 : Unit) t9 => bW D (va_A [(a, .inr (0, fs)), (b1, .inr (4, gs))] sz) [(a, .inr (0, (((fs.set 1 (.int 0)).set 2 (.int 7)).set 3 (.int 0)))), (b1, .inr (4, (((gs.set 3 (.int 0)).set 4 (.int 7)).set 5 (.int 0))))] t9) (va_A [(a, .inr (0, fs)), (b1, .inr (4, gs))] sz)) 0 0 (va_A [(a, .inr (0, fs)), (b1, .inr (4, gs))] sz) := by
  refine mkC (y := ⟨"SeriesVault", "series", "()I"⟩) (cc := prog_1_method_23_code) (maxL := 3) (av := [.ref a]) (ws := [(a, .inr (0, fs)), (b1, .inr (4, gs))]) (sz := sz) (Qc := fun A => va_Qi (fun (r : Int32) (_ : Unit) => r = (-1)) (fun (u9 : Unit) t9 => bW D A [(a, .inr (0, (((fs.set 1 (.int 0)).set 2 (.int 7)).set 3 (.int 0)))), (b1, .inr (4, (((gs.set 3 (.int 0)).set 4 (.int 7)).set 5 (.int 0))))] t9) A) (by decide) (Nat.le_of_ble_eq_true rfl) ?_
  intro A p e s m below meth c ls hsz hB
  obtain ⟨hx, hb, hr, hml, hown, hin, hlk, hE, hK, hP, hD, hS, hA, hN, hl⟩ := hB
  have hown : s.vm.findClass "SeriesVault" = some m.cls := hown
  have hin : meth.name = "series" := hin
  have hl : lv_has ls 3 [(0, .ref a)] := hl
  obtain ⟨H, hH⟩ : ∃ z, z = s.heap := ⟨_, rfl⟩
  have hP : va_P D vwCl [(a, .inr (0, fs)), (b1, .inr (4, gs))] H := by rw [hH]; exact hP
  have hS : va_S A s.heap H [] := by rw [hH]; exact hS
  rw [← hH]
  refine lv_aload_n hx hb d_V_series_0 rfl (lv_at hl 0 rfl) ?_
  have hPc := hP.sub (ws' := [(a, .inr (0, fs))]) [0] rfl
  have hDc := hD.sub (ws' := [(a, .inr (0, fs))]) [0] (by decide) rfl
  refine jnV (rnV (As := []) (rest := []) hx hb hml hown hE hK (hN _ _ hS) hPc hDc (c_V_checkPower l D dA H.size a fs h_fs_powered hl_fs) (q0 := 0) rfl rfl w278 w276 w279 w280 w277 rfl rfl ⟨⟨by decide, by decide⟩, rfl⟩ ⟨(Nat.le_of_ble_eq_true rfl), (Nat.le_of_ble_eq_true rfl)⟩ rfl hl.1 rfl (Nat.le_of_ble_eq_true rfl) d_V_series_1 ⟨(Nat.le_of_ble_eq_true rfl), (Nat.le_of_ble_eq_true rfl)⟩) hP hD hS hA [0] [1] (wr := [(b1, .inr (4, gs))]) rfl rfl (by decide) (by decide) (fun u9 H locs hp9 hP hD hS => ?_)
  have hP : va_P D vwCl [(b1, .inr (4, gs)), (a, .inr (0, fs))] H := hP
  have hD : va_D A [(b1, .inr (4, gs)), (a, .inr (0, fs))] := hD
  refine lv_aload_n hx hb d_V_series_4 rfl (lv_at hl 0 rfl) ?_
  refine gF (v := .ref b1) hx hb hown hE hK hP 1 rfl rfl layV 14 (by decide) w608 h_fs_reader d_V_series_5 ?_
  refine lv_aload_n hx hb d_V_series_8 rfl (lv_at hl 0 rfl) ?_
  refine gF (v := .ref b) hx hb hown hE hK hP 1 rfl rfl layV 0 (by decide) w539 h_fs_tape d_V_series_9 ?_
  refine lv_aload_n hx hb d_V_series_12 rfl (lv_at hl 0 rfl) ?_
  refine gF (v := .int 0) hx hb hown hE hK hP 1 rfl rfl layV 1 (by decide) w259 h_fs_tapeLength d_V_series_13 ?_
  have hPc := hP.sub (ws' := [(b1, .inr (4, gs))]) [0] rfl
  have hDc := hD.sub (ws' := [(b1, .inr (4, gs))]) [0] (by decide) rfl
  refine jnI (rnV (As := [.ref b, .int 0]) (rest := []) hx hb hml hown hE hK (hN _ _ hS) hPc hDc (c_R_read_0 l D dA H.size b1 gs b hl_gs) (q0 := 0) rfl rfl w610 w609 w611 w612 w596 rfl rfl ⟨⟨by decide, by decide⟩, rfl⟩ ⟨(Nat.le_of_ble_eq_true rfl), (Nat.le_of_ble_eq_true rfl)⟩ rfl hl.1 rfl (Nat.le_of_ble_eq_true rfl) d_V_series_16 ⟨(Nat.le_of_ble_eq_true rfl), (Nat.le_of_ble_eq_true rfl)⟩) hP hD hS hA [0] [1] (wr := [(a, .inr (0, fs))]) rfl rfl (by decide) (by decide) (fun r2 u9 H locs hp9 hP hD hS => ?_)
  have hP : va_P D vwCl [(a, .inr (0, fs)), (b1, .inr (4, (((gs.set 3 (.int 0)).set 4 (.int 7)).set 5 (.int 0))))] H := hP
  have hD : va_D A [(a, .inr (0, fs)), (b1, .inr (4, (((gs.set 3 (.int 0)).set 4 (.int 7)).set 5 (.int 0))))] := hD
  have hp9 : 0 = r2 := Eq.symm hp9
  subst hp9
  refine lv_if_ne hx hb d_V_series_19 (tgt := 47) rfl (fun h9 => absurd (by decide) h9) (fun _ => ?_)
  refine lv_aload_n hx hb d_V_series_22 rfl (lv_at hl 0 rfl) ?_
  refine lv_iconst (v := 0) hx hb d_V_series_23 (by decide) ?_
  refine pF hx hb hown hE hK hP hD hS 0 rfl rfl layV tyV tokV nmV 1 (by decide) w259 rfl rfl rfl (by simp [hl_fs]) d_V_series_24 (fun H locs hP hD hS => ?_)
  have hP : va_P D vwCl [(a, .inr (0, (fs.set 1 (.int 0)))), (b1, .inr (4, (((gs.set 3 (.int 0)).set 4 (.int 7)).set 5 (.int 0))))] H := hP
  have hD : va_D A [(a, .inr (0, (fs.set 1 (.int 0)))), (b1, .inr (4, (((gs.set 3 (.int 0)).set 4 (.int 7)).set 5 (.int 0))))] := hD
  refine lv_aload_n hx hb d_V_series_27 rfl (lv_at hl 0 rfl) ?_
  refine lv_aload_n hx hb d_V_series_28 rfl (lv_at hl 0 rfl) ?_
  refine gF (v := .ref b1) hx hb hown hE hK hP 0 rfl rfl layV 14 (by decide) w608 (by simp [h_fs_reader]) d_V_series_29 ?_
  refine gFN (v := .int 7) hx hb hown hE hK hP 1 rfl rfl layR 4 (by decide) w613 (by simp [hl_gs]) d_V_series_32 ?_
  refine lv_aload_n hx hb d_V_series_35 rfl (lv_at hl 0 rfl) ?_
  refine gF (v := .ref b1) hx hb hown hE hK hP 0 rfl rfl layV 14 (by decide) w608 (by simp [h_fs_reader]) d_V_series_36 ?_
  refine gFN (v := .int 0) hx hb hown hE hK hP 1 rfl rfl layR 5 (by decide) w614 (by simp [hl_gs]) d_V_series_39 ?_
  have hPc := hP.sub (ws' := [(a, .inr (0, (fs.set 1 (.int 0))))]) [0] rfl
  have hDc := hD.sub (ws' := [(a, .inr (0, (fs.set 1 (.int 0))))]) [0] (by decide) rfl
  refine jnV (rnV (As := [.int 7, .int 0]) (rest := []) hx hb hml hown hE hK (hN _ _ hS) hPc hDc (c_V_setFault l D dA H.size a (fs.set 1 (.int 0)) 7 0 (by simp [hl_fs])) (q0 := 0) rfl rfl w616 w615 w617 w618 w277 rfl rfl ⟨⟨by decide, by decide⟩, rfl⟩ ⟨(Nat.le_of_ble_eq_true rfl), (Nat.le_of_ble_eq_true rfl)⟩ rfl hl.1 rfl (Nat.le_of_ble_eq_true rfl) d_V_series_42 ⟨(Nat.le_of_ble_eq_true rfl), (Nat.le_of_ble_eq_true rfl)⟩) hP hD hS hA [0] [1] (wr := [(b1, .inr (4, (((gs.set 3 (.int 0)).set 4 (.int 7)).set 5 (.int 0))))]) rfl rfl (by decide) (by decide) (fun u9 H locs hp9 hP hD hS => ?_)
  have hP : va_P D vwCl [(b1, .inr (4, (((gs.set 3 (.int 0)).set 4 (.int 7)).set 5 (.int 0)))), (a, .inr (0, (((fs.set 1 (.int 0)).set 2 (.int 7)).set 3 (.int 0))))] H := hP
  have hD : va_D A [(b1, .inr (4, (((gs.set 3 (.int 0)).set 4 (.int 7)).set 5 (.int 0)))), (a, .inr (0, (((fs.set 1 (.int 0)).set 2 (.int 7)).set 3 (.int 0))))] := hD
  refine lv_iconst (v := (-1)) hx hb d_V_series_45 (by decide) ?_
  exact rtI hx hb hr hlk hP hD hS () rfl [1, 0] rfl rfl (by decide) (Nat.le_of_ble_eq_true rfl) (Nat.le_of_ble_eq_true rfl) d_V_series_46
end
section
theorem d_SeriesVaultLaw_feed_0 : decode method_3_code 0 = .ok (.aload 6, 2) := by decide +kernel
theorem d_SeriesVaultLaw_feed_2 : decode method_3_code 2 = .ok (.iconst 0, 1) := by decide +kernel
theorem d_SeriesVaultLaw_feed_3 : decode method_3_code 3 = .ok (.aload_n 0, 1) := by decide +kernel
theorem d_SeriesVaultLaw_feed_4 : decode method_3_code 4 = .ok (.iload_n 1, 1) := by decide +kernel
theorem d_SeriesVaultLaw_feed_5 : decode method_3_code 5 = .ok (.iload_n 2, 1) := by decide +kernel
theorem d_SeriesVaultLaw_feed_6 : decode method_3_code 6 = .ok (.iload_n 3, 1) := by decide +kernel
theorem d_SeriesVaultLaw_feed_7 : decode method_3_code 7 = .ok (.iload 4, 2) := by decide +kernel
theorem d_SeriesVaultLaw_feed_9 : decode method_3_code 9 = .ok (.iload 5, 2) := by decide +kernel
theorem d_SeriesVaultLaw_feed_11 : decode method_3_code 11 = .ok (.invokevirtual 7, 3) := by decide +kernel
theorem d_SeriesVaultLaw_feed_14 : decode method_3_code 14 = .ok (.i2l, 1) := by decide +kernel
theorem d_SeriesVaultLaw_feed_15 : decode method_3_code 15 = .ok (.lastore, 1) := by decide +kernel
theorem d_SeriesVaultLaw_feed_16 : decode method_3_code 16 = .ok (.goto 7, 3) := by decide +kernel
theorem d_SeriesVaultLaw_feed_23 : decode method_3_code 23 = .ok (.iconst 0, 1) := by decide +kernel
theorem d_SeriesVaultLaw_feed_24 : decode method_3_code 24 = .ok (.ireturn, 1) := by decide +kernel
theorem w619 : Cond.methodLink "SeriesVaultLaw" 7 ⟨"SeriesVault", "feed", "(IIIII)I"⟩ ∈ aW := aw_of (tb_3 (List.mem_of_getElem? (i := 50) rfl)) rfl
theorem w620 : Cond.code ⟨"SeriesVault", "feed", "(IIIII)I"⟩ prog_1_method_2_code 6 (some FieldType.int) ∈ aW := aw_of (tb_3 (List.mem_of_getElem? (i := 53) rfl)) rfl
theorem w621 : Cond.instanceMethod ⟨"SeriesVault", "feed", "(IIIII)I"⟩ ∈ aW := aw_of (tb_3 (List.mem_of_getElem? (i := 51) rfl)) rfl
theorem w622 : Cond.selects "SeriesVault" ⟨"SeriesVault", "feed", "(IIIII)I"⟩ ⟨"SeriesVault", "feed", "(IIIII)I"⟩ ∈ aW := aw_of (tb_3 (List.mem_of_getElem? (i := 52) rfl)) rfl
set_option maxHeartbeats 4000000 in
set_option maxRecDepth 100000 in
theorem c_K_feed (l : Launch) (htr : l.stackTraces = false) (D : va_G) (dA : Nat → ClassId) (sz : Nat) (a : Nat) (fs : List Value) (b : Nat) (g : Nat → Int32) (x0 : Int32) (x1 : Int32) (x2 : Int32) (x3 : Int32) (x4 : Int32) (o : Nat) (og : Nat → Int64) (h_fs_tape : fs[0]? = some (.ref b)) (h_fs_tapeLength : fs[1]? = some (.int 0)) (hl_fs : fs.length = 18) : Met l ⟨"SeriesVaultLaw", "feed", "(LSeriesVault;IIIII[J)I"⟩ [Cond.codeWith ⟨"SeriesVaultLaw", "feed", "(LSeriesVault;IIIII[J)I"⟩ method_3_code 8 (some FieldType.int) [(0, 16, 19, 13)]] { frames := 3, cells := 0, slots := 0, locals := 47 } (pC D dA [.ref a, .int x0, .int x1, .int x2, .int x3, .int x4, .ref o] [(a, .inr (0, fs)), (b, .inl (dA 0, 256, .inl g)), (o, .inl (dA 2, 1, .inr (.inl og)))] sz) (va_Qi (fun (r : Int32) (_ : Unit) => r = 0) (fun (u9 : Unit) t9 => bW D (va_A [(a, .inr (0, fs)), (b, .inl (dA 0, 256, .inl g)), (o, .inl (dA 2, 1, .inr (.inl og)))] sz) [(a, .inr (0, ((((((((((((((((((((fs.set 1 (.int 1)).set 1 (.int 2)).set 1 (.int 3)).set 1 (.int 4)).set 1 (.int 5)).set 1 (.int 6)).set 1 (.int 7)).set 1 (.int 8)).set 1 (.int 9)).set 1 (.int 10)).set 1 (.int 11)).set 1 (.int 12)).set 1 (.int 13)).set 1 (.int 14)).set 1 (.int 15)).set 1 (.int 16)).set 1 (.int 17)).set 1 (.int 18)).set 1 (.int 19)).set 1 (.int 20)))), (b, .inl (dA 0, 256, .inl (upd (upd (upd (upd (upd (upd (upd (upd (upd (upd (upd (upd (upd (upd (upd (upd (upd (upd (upd (upd g 0 (vp_nar .byte ((x0 >>> (24 &&& 31)).toInt8.toInt32))) 1 (vp_nar .byte ((x0 >>> (16 &&& 31)).toInt8.toInt32))) 2 (vp_nar .byte ((x0 >>> (8 &&& 31)).toInt8.toInt32))) 3 (vp_nar .byte ((x0 >>> (0 &&& 31)).toInt8.toInt32))) 4 (vp_nar .byte ((x1 >>> (24 &&& 31)).toInt8.toInt32))) 5 (vp_nar .byte ((x1 >>> (16 &&& 31)).toInt8.toInt32))) 6 (vp_nar .byte ((x1 >>> (8 &&& 31)).toInt8.toInt32))) 7 (vp_nar .byte ((x1 >>> (0 &&& 31)).toInt8.toInt32))) 8 (vp_nar .byte ((x2 >>> (24 &&& 31)).toInt8.toInt32))) 9 (vp_nar .byte ((x2 >>> (16 &&& 31)).toInt8.toInt32))) 10 (vp_nar .byte ((x2 >>> (8 &&& 31)).toInt8.toInt32))) 11 (vp_nar .byte ((x2 >>> (0 &&& 31)).toInt8.toInt32))) 12 (vp_nar .byte ((x3 >>> (24 &&& 31)).toInt8.toInt32))) 13 (vp_nar .byte ((x3 >>> (16 &&& 31)).toInt8.toInt32))) 14 (vp_nar .byte ((x3 >>> (8 &&& 31)).toInt8.toInt32))) 15 (vp_nar .byte ((x3 >>> (0 &&& 31)).toInt8.toInt32))) 16 (vp_nar .byte ((x4 >>> (24 &&& 31)).toInt8.toInt32))) 17 (vp_nar .byte ((x4 >>> (16 &&& 31)).toInt8.toInt32))) 18 (vp_nar .byte ((x4 >>> (8 &&& 31)).toInt8.toInt32))) 19 (vp_nar .byte ((x4 >>> (0 &&& 31)).toInt8.toInt32))))), (o, .inl (dA 2, 1, .inr (.inl (vp_updL og 0 20))))] t9) (va_A [(a, .inr (0, fs)), (b, .inl (dA 0, 256, .inl g)), (o, .inl (dA 2, 1, .inr (.inl og)))] sz)) 0 0 (va_A [(a, .inr (0, fs)), (b, .inl (dA 0, 256, .inl g)), (o, .inl (dA 2, 1, .inr (.inl og)))] sz) := by
  refine mkW (y := ⟨"SeriesVaultLaw", "feed", "(LSeriesVault;IIIII[J)I"⟩) (cc := method_3_code) (maxL := 8) (av := [.ref a, .int x0, .int x1, .int x2, .int x3, .int x4, .ref o]) (ws := [(a, .inr (0, fs)), (b, .inl (dA 0, 256, .inl g)), (o, .inl (dA 2, 1, .inr (.inl og)))]) (sz := sz) (Qc := fun A => va_Qi (fun (r : Int32) (_ : Unit) => r = 0) (fun (u9 : Unit) t9 => bW D A [(a, .inr (0, ((((((((((((((((((((fs.set 1 (.int 1)).set 1 (.int 2)).set 1 (.int 3)).set 1 (.int 4)).set 1 (.int 5)).set 1 (.int 6)).set 1 (.int 7)).set 1 (.int 8)).set 1 (.int 9)).set 1 (.int 10)).set 1 (.int 11)).set 1 (.int 12)).set 1 (.int 13)).set 1 (.int 14)).set 1 (.int 15)).set 1 (.int 16)).set 1 (.int 17)).set 1 (.int 18)).set 1 (.int 19)).set 1 (.int 20)))), (b, .inl (dA 0, 256, .inl (upd (upd (upd (upd (upd (upd (upd (upd (upd (upd (upd (upd (upd (upd (upd (upd (upd (upd (upd (upd g 0 (vp_nar .byte ((x0 >>> (24 &&& 31)).toInt8.toInt32))) 1 (vp_nar .byte ((x0 >>> (16 &&& 31)).toInt8.toInt32))) 2 (vp_nar .byte ((x0 >>> (8 &&& 31)).toInt8.toInt32))) 3 (vp_nar .byte ((x0 >>> (0 &&& 31)).toInt8.toInt32))) 4 (vp_nar .byte ((x1 >>> (24 &&& 31)).toInt8.toInt32))) 5 (vp_nar .byte ((x1 >>> (16 &&& 31)).toInt8.toInt32))) 6 (vp_nar .byte ((x1 >>> (8 &&& 31)).toInt8.toInt32))) 7 (vp_nar .byte ((x1 >>> (0 &&& 31)).toInt8.toInt32))) 8 (vp_nar .byte ((x2 >>> (24 &&& 31)).toInt8.toInt32))) 9 (vp_nar .byte ((x2 >>> (16 &&& 31)).toInt8.toInt32))) 10 (vp_nar .byte ((x2 >>> (8 &&& 31)).toInt8.toInt32))) 11 (vp_nar .byte ((x2 >>> (0 &&& 31)).toInt8.toInt32))) 12 (vp_nar .byte ((x3 >>> (24 &&& 31)).toInt8.toInt32))) 13 (vp_nar .byte ((x3 >>> (16 &&& 31)).toInt8.toInt32))) 14 (vp_nar .byte ((x3 >>> (8 &&& 31)).toInt8.toInt32))) 15 (vp_nar .byte ((x3 >>> (0 &&& 31)).toInt8.toInt32))) 16 (vp_nar .byte ((x4 >>> (24 &&& 31)).toInt8.toInt32))) 17 (vp_nar .byte ((x4 >>> (16 &&& 31)).toInt8.toInt32))) 18 (vp_nar .byte ((x4 >>> (8 &&& 31)).toInt8.toInt32))) 19 (vp_nar .byte ((x4 >>> (0 &&& 31)).toInt8.toInt32))))), (o, .inl (dA 2, 1, .inr (.inl (vp_updL og 0 20))))] t9) A) (by decide) (Nat.le_of_ble_eq_true rfl) ?_
  intro A p e s m below meth c ls hsz htab hB
  obtain ⟨hx, hb, hr, hml, hown, hin, hlk, hE, hK, hP, hD, hS, hA, hN, hl⟩ := hB
  have hown : s.vm.findClass "SeriesVaultLaw" = some m.cls := hown
  have hin : meth.name = "feed" := hin
  have hl : lv_has ls 8 [(0, .ref a), (1, .int x0), (2, .int x1), (3, .int x2), (4, .int x3), (5, .int x4), (6, .ref o)] := hl
  obtain ⟨H, hH⟩ : ∃ z, z = s.heap := ⟨_, rfl⟩
  have hP : va_P D vwCl [(a, .inr (0, fs)), (b, .inl (dA 0, 256, .inl g)), (o, .inl (dA 2, 1, .inr (.inl og)))] H := by rw [hH]; exact hP
  have hS : va_S A s.heap H [] := by rw [hH]; exact hS
  rw [← hH]
  refine lv_aload hx hb d_SeriesVaultLaw_feed_0 (lv_at hl 6 rfl) ?_
  refine lv_iconst (v := 0) hx hb d_SeriesVaultLaw_feed_2 (by decide) ?_
  refine lv_aload_n hx hb d_SeriesVaultLaw_feed_3 rfl (lv_at hl 0 rfl) ?_
  refine lv_iload_n hx hb d_SeriesVaultLaw_feed_4 rfl (lv_at hl 1 rfl) ?_
  refine lv_iload_n hx hb d_SeriesVaultLaw_feed_5 rfl (lv_at hl 2 rfl) ?_
  refine lv_iload_n hx hb d_SeriesVaultLaw_feed_6 rfl (lv_at hl 3 rfl) ?_
  refine lv_iload hx hb d_SeriesVaultLaw_feed_7 (lv_at hl 4 rfl) ?_
  refine lv_iload hx hb d_SeriesVaultLaw_feed_9 (lv_at hl 5 rfl) ?_
  have hPc := hP.sub (ws' := [(a, .inr (0, fs)), (b, .inl (dA 0, 256, .inl g))]) [0, 1] rfl
  have hDc := hD.sub (ws' := [(a, .inr (0, fs)), (b, .inl (dA 0, 256, .inl g))]) [0, 1] (by decide) rfl
  refine jnI (rnV (As := [.int x0, .int x1, .int x2, .int x3, .int x4]) (rest := [.int 0, .ref o]) hx hb hml hown hE hK (hN _ _ hS) hPc hDc (c_V_feed l D dA H.size a fs b g x0 x1 x2 x3 x4 h_fs_tape h_fs_tapeLength hl_fs) (q0 := 0) rfl rfl w620 w619 w621 w622 w277 rfl rfl ⟨⟨by decide, by decide⟩, rfl⟩ ⟨(Nat.le_of_ble_eq_true rfl), (Nat.le_of_ble_eq_true rfl)⟩ rfl hl.1 rfl (Nat.le_of_ble_eq_true rfl) d_SeriesVaultLaw_feed_11 ⟨(Nat.le_of_ble_eq_true rfl), (Nat.le_of_ble_eq_true rfl)⟩) hP hD hS hA [0, 1] [2] (wr := [(o, .inl (dA 2, 1, .inr (.inl og)))]) rfl rfl (by decide) (by decide) (fun r1 u9 H locs hp9 hP hD hS => ?_)
  have hP : va_P D vwCl [(o, .inl (dA 2, 1, .inr (.inl og))), (a, .inr (0, ((((((((((((((((((((fs.set 1 (.int 1)).set 1 (.int 2)).set 1 (.int 3)).set 1 (.int 4)).set 1 (.int 5)).set 1 (.int 6)).set 1 (.int 7)).set 1 (.int 8)).set 1 (.int 9)).set 1 (.int 10)).set 1 (.int 11)).set 1 (.int 12)).set 1 (.int 13)).set 1 (.int 14)).set 1 (.int 15)).set 1 (.int 16)).set 1 (.int 17)).set 1 (.int 18)).set 1 (.int 19)).set 1 (.int 20)))), (b, .inl (dA 0, 256, .inl (upd (upd (upd (upd (upd (upd (upd (upd (upd (upd (upd (upd (upd (upd (upd (upd (upd (upd (upd (upd g 0 (vp_nar .byte ((x0 >>> (24 &&& 31)).toInt8.toInt32))) 1 (vp_nar .byte ((x0 >>> (16 &&& 31)).toInt8.toInt32))) 2 (vp_nar .byte ((x0 >>> (8 &&& 31)).toInt8.toInt32))) 3 (vp_nar .byte ((x0 >>> (0 &&& 31)).toInt8.toInt32))) 4 (vp_nar .byte ((x1 >>> (24 &&& 31)).toInt8.toInt32))) 5 (vp_nar .byte ((x1 >>> (16 &&& 31)).toInt8.toInt32))) 6 (vp_nar .byte ((x1 >>> (8 &&& 31)).toInt8.toInt32))) 7 (vp_nar .byte ((x1 >>> (0 &&& 31)).toInt8.toInt32))) 8 (vp_nar .byte ((x2 >>> (24 &&& 31)).toInt8.toInt32))) 9 (vp_nar .byte ((x2 >>> (16 &&& 31)).toInt8.toInt32))) 10 (vp_nar .byte ((x2 >>> (8 &&& 31)).toInt8.toInt32))) 11 (vp_nar .byte ((x2 >>> (0 &&& 31)).toInt8.toInt32))) 12 (vp_nar .byte ((x3 >>> (24 &&& 31)).toInt8.toInt32))) 13 (vp_nar .byte ((x3 >>> (16 &&& 31)).toInt8.toInt32))) 14 (vp_nar .byte ((x3 >>> (8 &&& 31)).toInt8.toInt32))) 15 (vp_nar .byte ((x3 >>> (0 &&& 31)).toInt8.toInt32))) 16 (vp_nar .byte ((x4 >>> (24 &&& 31)).toInt8.toInt32))) 17 (vp_nar .byte ((x4 >>> (16 &&& 31)).toInt8.toInt32))) 18 (vp_nar .byte ((x4 >>> (8 &&& 31)).toInt8.toInt32))) 19 (vp_nar .byte ((x4 >>> (0 &&& 31)).toInt8.toInt32)))))] H := hP
  have hD : va_D A [(o, .inl (dA 2, 1, .inr (.inl og))), (a, .inr (0, ((((((((((((((((((((fs.set 1 (.int 1)).set 1 (.int 2)).set 1 (.int 3)).set 1 (.int 4)).set 1 (.int 5)).set 1 (.int 6)).set 1 (.int 7)).set 1 (.int 8)).set 1 (.int 9)).set 1 (.int 10)).set 1 (.int 11)).set 1 (.int 12)).set 1 (.int 13)).set 1 (.int 14)).set 1 (.int 15)).set 1 (.int 16)).set 1 (.int 17)).set 1 (.int 18)).set 1 (.int 19)).set 1 (.int 20)))), (b, .inl (dA 0, 256, .inl (upd (upd (upd (upd (upd (upd (upd (upd (upd (upd (upd (upd (upd (upd (upd (upd (upd (upd (upd (upd g 0 (vp_nar .byte ((x0 >>> (24 &&& 31)).toInt8.toInt32))) 1 (vp_nar .byte ((x0 >>> (16 &&& 31)).toInt8.toInt32))) 2 (vp_nar .byte ((x0 >>> (8 &&& 31)).toInt8.toInt32))) 3 (vp_nar .byte ((x0 >>> (0 &&& 31)).toInt8.toInt32))) 4 (vp_nar .byte ((x1 >>> (24 &&& 31)).toInt8.toInt32))) 5 (vp_nar .byte ((x1 >>> (16 &&& 31)).toInt8.toInt32))) 6 (vp_nar .byte ((x1 >>> (8 &&& 31)).toInt8.toInt32))) 7 (vp_nar .byte ((x1 >>> (0 &&& 31)).toInt8.toInt32))) 8 (vp_nar .byte ((x2 >>> (24 &&& 31)).toInt8.toInt32))) 9 (vp_nar .byte ((x2 >>> (16 &&& 31)).toInt8.toInt32))) 10 (vp_nar .byte ((x2 >>> (8 &&& 31)).toInt8.toInt32))) 11 (vp_nar .byte ((x2 >>> (0 &&& 31)).toInt8.toInt32))) 12 (vp_nar .byte ((x3 >>> (24 &&& 31)).toInt8.toInt32))) 13 (vp_nar .byte ((x3 >>> (16 &&& 31)).toInt8.toInt32))) 14 (vp_nar .byte ((x3 >>> (8 &&& 31)).toInt8.toInt32))) 15 (vp_nar .byte ((x3 >>> (0 &&& 31)).toInt8.toInt32))) 16 (vp_nar .byte ((x4 >>> (24 &&& 31)).toInt8.toInt32))) 17 (vp_nar .byte ((x4 >>> (16 &&& 31)).toInt8.toInt32))) 18 (vp_nar .byte ((x4 >>> (8 &&& 31)).toInt8.toInt32))) 19 (vp_nar .byte ((x4 >>> (0 &&& 31)).toInt8.toInt32)))))] := hD
  have hp9 : 20 = r1 := Eq.symm hp9
  subst hp9
  refine lv_i2l (v := 20) hx hb d_SeriesVaultLaw_feed_14 (by decide) ?_
  refine va_last hx hb hK hP hD hS 0 2 rfl rfl (by unfold vp_in; decide) d_SeriesVaultLaw_feed_15 (fun H locs hP hD hS => ?_)
  have hP : va_P D vwCl [(o, .inl (dA 2, 1, .inr (.inl (vp_updL og 0 20)))), (a, .inr (0, ((((((((((((((((((((fs.set 1 (.int 1)).set 1 (.int 2)).set 1 (.int 3)).set 1 (.int 4)).set 1 (.int 5)).set 1 (.int 6)).set 1 (.int 7)).set 1 (.int 8)).set 1 (.int 9)).set 1 (.int 10)).set 1 (.int 11)).set 1 (.int 12)).set 1 (.int 13)).set 1 (.int 14)).set 1 (.int 15)).set 1 (.int 16)).set 1 (.int 17)).set 1 (.int 18)).set 1 (.int 19)).set 1 (.int 20)))), (b, .inl (dA 0, 256, .inl (upd (upd (upd (upd (upd (upd (upd (upd (upd (upd (upd (upd (upd (upd (upd (upd (upd (upd (upd (upd g 0 (vp_nar .byte ((x0 >>> (24 &&& 31)).toInt8.toInt32))) 1 (vp_nar .byte ((x0 >>> (16 &&& 31)).toInt8.toInt32))) 2 (vp_nar .byte ((x0 >>> (8 &&& 31)).toInt8.toInt32))) 3 (vp_nar .byte ((x0 >>> (0 &&& 31)).toInt8.toInt32))) 4 (vp_nar .byte ((x1 >>> (24 &&& 31)).toInt8.toInt32))) 5 (vp_nar .byte ((x1 >>> (16 &&& 31)).toInt8.toInt32))) 6 (vp_nar .byte ((x1 >>> (8 &&& 31)).toInt8.toInt32))) 7 (vp_nar .byte ((x1 >>> (0 &&& 31)).toInt8.toInt32))) 8 (vp_nar .byte ((x2 >>> (24 &&& 31)).toInt8.toInt32))) 9 (vp_nar .byte ((x2 >>> (16 &&& 31)).toInt8.toInt32))) 10 (vp_nar .byte ((x2 >>> (8 &&& 31)).toInt8.toInt32))) 11 (vp_nar .byte ((x2 >>> (0 &&& 31)).toInt8.toInt32))) 12 (vp_nar .byte ((x3 >>> (24 &&& 31)).toInt8.toInt32))) 13 (vp_nar .byte ((x3 >>> (16 &&& 31)).toInt8.toInt32))) 14 (vp_nar .byte ((x3 >>> (8 &&& 31)).toInt8.toInt32))) 15 (vp_nar .byte ((x3 >>> (0 &&& 31)).toInt8.toInt32))) 16 (vp_nar .byte ((x4 >>> (24 &&& 31)).toInt8.toInt32))) 17 (vp_nar .byte ((x4 >>> (16 &&& 31)).toInt8.toInt32))) 18 (vp_nar .byte ((x4 >>> (8 &&& 31)).toInt8.toInt32))) 19 (vp_nar .byte ((x4 >>> (0 &&& 31)).toInt8.toInt32)))))] H := hP
  have hD : va_D A [(o, .inl (dA 2, 1, .inr (.inl (vp_updL og 0 20)))), (a, .inr (0, ((((((((((((((((((((fs.set 1 (.int 1)).set 1 (.int 2)).set 1 (.int 3)).set 1 (.int 4)).set 1 (.int 5)).set 1 (.int 6)).set 1 (.int 7)).set 1 (.int 8)).set 1 (.int 9)).set 1 (.int 10)).set 1 (.int 11)).set 1 (.int 12)).set 1 (.int 13)).set 1 (.int 14)).set 1 (.int 15)).set 1 (.int 16)).set 1 (.int 17)).set 1 (.int 18)).set 1 (.int 19)).set 1 (.int 20)))), (b, .inl (dA 0, 256, .inl (upd (upd (upd (upd (upd (upd (upd (upd (upd (upd (upd (upd (upd (upd (upd (upd (upd (upd (upd (upd g 0 (vp_nar .byte ((x0 >>> (24 &&& 31)).toInt8.toInt32))) 1 (vp_nar .byte ((x0 >>> (16 &&& 31)).toInt8.toInt32))) 2 (vp_nar .byte ((x0 >>> (8 &&& 31)).toInt8.toInt32))) 3 (vp_nar .byte ((x0 >>> (0 &&& 31)).toInt8.toInt32))) 4 (vp_nar .byte ((x1 >>> (24 &&& 31)).toInt8.toInt32))) 5 (vp_nar .byte ((x1 >>> (16 &&& 31)).toInt8.toInt32))) 6 (vp_nar .byte ((x1 >>> (8 &&& 31)).toInt8.toInt32))) 7 (vp_nar .byte ((x1 >>> (0 &&& 31)).toInt8.toInt32))) 8 (vp_nar .byte ((x2 >>> (24 &&& 31)).toInt8.toInt32))) 9 (vp_nar .byte ((x2 >>> (16 &&& 31)).toInt8.toInt32))) 10 (vp_nar .byte ((x2 >>> (8 &&& 31)).toInt8.toInt32))) 11 (vp_nar .byte ((x2 >>> (0 &&& 31)).toInt8.toInt32))) 12 (vp_nar .byte ((x3 >>> (24 &&& 31)).toInt8.toInt32))) 13 (vp_nar .byte ((x3 >>> (16 &&& 31)).toInt8.toInt32))) 14 (vp_nar .byte ((x3 >>> (8 &&& 31)).toInt8.toInt32))) 15 (vp_nar .byte ((x3 >>> (0 &&& 31)).toInt8.toInt32))) 16 (vp_nar .byte ((x4 >>> (24 &&& 31)).toInt8.toInt32))) 17 (vp_nar .byte ((x4 >>> (16 &&& 31)).toInt8.toInt32))) 18 (vp_nar .byte ((x4 >>> (8 &&& 31)).toInt8.toInt32))) 19 (vp_nar .byte ((x4 >>> (0 &&& 31)).toInt8.toInt32)))))] := hD
  refine lv_goto hx hb d_SeriesVaultLaw_feed_16 (tgt := 23) rfl ?_
  refine lv_iconst (v := 0) hx hb d_SeriesVaultLaw_feed_23 (by decide) ?_
  exact rtI hx hb hr hlk hP hD hS () rfl [1, 2, 0] rfl rfl (by decide) (Nat.le_of_ble_eq_true rfl) (Nat.le_of_ble_eq_true rfl) d_SeriesVaultLaw_feed_24
theorem d_SeriesVaultLaw_format_0 : decode method_5_code 0 = .ok (.aload_n 0, 1) := by decide +kernel
theorem d_SeriesVaultLaw_format_1 : decode method_5_code 1 = .ok (.iload_n 1, 1) := by decide +kernel
theorem d_SeriesVaultLaw_format_2 : decode method_5_code 2 = .ok (.iload_n 2, 1) := by decide +kernel
theorem d_SeriesVaultLaw_format_3 : decode method_5_code 3 = .ok (.invokevirtual 21, 3) := by decide +kernel
theorem d_SeriesVaultLaw_format_6 : decode method_5_code 6 = .ok (.goto 6, 3) := by decide +kernel
theorem d_SeriesVaultLaw_format_12 : decode method_5_code 12 = .ok (.iconst 0, 1) := by decide +kernel
theorem d_SeriesVaultLaw_format_13 : decode method_5_code 13 = .ok (.ireturn, 1) := by decide +kernel
theorem w623 : Cond.methodLink "SeriesVaultLaw" 21 ⟨"SeriesVault", "format", "(II)V"⟩ ∈ aW := aw_of (tb_3 (List.mem_of_getElem? (i := 161) rfl)) rfl
theorem w624 : Cond.code ⟨"SeriesVault", "format", "(II)V"⟩ prog_1_method_8_code 3 none ∈ aW := aw_of (tb_3 (List.mem_of_getElem? (i := 164) rfl)) rfl
theorem w625 : Cond.instanceMethod ⟨"SeriesVault", "format", "(II)V"⟩ ∈ aW := aw_of (tb_3 (List.mem_of_getElem? (i := 162) rfl)) rfl
theorem w626 : Cond.selects "SeriesVault" ⟨"SeriesVault", "format", "(II)V"⟩ ⟨"SeriesVault", "format", "(II)V"⟩ ∈ aW := aw_of (tb_3 (List.mem_of_getElem? (i := 163) rfl)) rfl
set_option maxHeartbeats 4000000 in
set_option maxRecDepth 100000 in
theorem c_K_format (l : Launch) (htr : l.stackTraces = false) (D : va_G) (dA : Nat → ClassId) (sz : Nat) (a : Nat) (fs : List Value) (b : Nat) (gs : List Value) (b1 : Nat) (hs : List Value) (b2 : Nat) (is : List Value) (b3 : Nat) (js : List Value) (n : Int32) (j : Int32) (h1 : ¬ n < 16) (h2 : ¬ 256 < n) (h3 : ¬ j < 2) (h4 : j ≤ n - 8) (h_fs_journal : fs[8]? = some (.ref b)) (h_fs_head : fs[9]? = some (.ref b1)) (h_fs_now : fs[11]? = some (.ref b2)) (h_fs_saved : fs[12]? = some (.ref b3)) (hl_fs : fs.length = 18) (h_gs_kept : gs[7]? = some (.int 0)) (hl_gs : gs.length = 13) (hl_hs : hs.length = 4) (hl_is : is.length = 11) (hl_js : js.length = 11) : Met l ⟨"SeriesVaultLaw", "format", "(LSeriesVault;II)I"⟩ [Cond.codeWith ⟨"SeriesVaultLaw", "format", "(LSeriesVault;II)I"⟩ method_5_code 4 (some FieldType.int) [(0, 6, 9, 19)]] { frames := 6, cells := 0, slots := 0, locals := 120 } (pC D dA [.ref a, .int n, .int j] [(a, .inr (0, fs)), (b, .inr (1, gs)), (b1, .inr (2, hs)), (b2, .inr (3, is)), (b3, .inr (3, js))] sz) (va_Qi (fun (r : Int32) (_ : Unit) => r = 0) (fun (u9 : Unit) t9 => bW D (va_A [(a, .inr (0, fs)), (b, .inr (1, gs)), (b1, .inr (2, hs)), (b2, .inr (3, is)), (b3, .inr (3, js))] sz) [(a, .inr (0, (((((fs.set 4 (.int n)).set 5 (.int 1)).set 6 (.int (-1))).set 7 (.int 0)).set 17 (.int 0)))), (b, .inr (1, ((((((((gs.set 9 (.int j)).set 6 (.int 0)).set 6 (.int 0)).set 7 (.int 0)).set 12 (.int 0)).set 8 (.int 0)).set 10 (.int 0)).set 11 (.int 0)))), (b1, .inr (2, (hs.set 3 (.int 0)))), (b2, .inr (3, (((((is.set 1 (.int 0)).set 6 (.int 0)).set 7 (.long 0)).set 8 (.int 0)).set 10 (.int 0)))), (b3, .inr (3, (((((js.set 1 (.int 0)).set 6 (.int 0)).set 7 (.long 0)).set 8 (.int 0)).set 10 (.int 0))))] t9) (va_A [(a, .inr (0, fs)), (b, .inr (1, gs)), (b1, .inr (2, hs)), (b2, .inr (3, is)), (b3, .inr (3, js))] sz)) 0 0 (va_A [(a, .inr (0, fs)), (b, .inr (1, gs)), (b1, .inr (2, hs)), (b2, .inr (3, is)), (b3, .inr (3, js))] sz) := by
  refine mkW (y := ⟨"SeriesVaultLaw", "format", "(LSeriesVault;II)I"⟩) (cc := method_5_code) (maxL := 4) (av := [.ref a, .int n, .int j]) (ws := [(a, .inr (0, fs)), (b, .inr (1, gs)), (b1, .inr (2, hs)), (b2, .inr (3, is)), (b3, .inr (3, js))]) (sz := sz) (Qc := fun A => va_Qi (fun (r : Int32) (_ : Unit) => r = 0) (fun (u9 : Unit) t9 => bW D A [(a, .inr (0, (((((fs.set 4 (.int n)).set 5 (.int 1)).set 6 (.int (-1))).set 7 (.int 0)).set 17 (.int 0)))), (b, .inr (1, ((((((((gs.set 9 (.int j)).set 6 (.int 0)).set 6 (.int 0)).set 7 (.int 0)).set 12 (.int 0)).set 8 (.int 0)).set 10 (.int 0)).set 11 (.int 0)))), (b1, .inr (2, (hs.set 3 (.int 0)))), (b2, .inr (3, (((((is.set 1 (.int 0)).set 6 (.int 0)).set 7 (.long 0)).set 8 (.int 0)).set 10 (.int 0)))), (b3, .inr (3, (((((js.set 1 (.int 0)).set 6 (.int 0)).set 7 (.long 0)).set 8 (.int 0)).set 10 (.int 0))))] t9) A) (by decide) (Nat.le_of_ble_eq_true rfl) ?_
  intro A p e s m below meth c ls hsz htab hB
  obtain ⟨hx, hb, hr, hml, hown, hin, hlk, hE, hK, hP, hD, hS, hA, hN, hl⟩ := hB
  have hown : s.vm.findClass "SeriesVaultLaw" = some m.cls := hown
  have hin : meth.name = "format" := hin
  have hl : lv_has ls 4 [(0, .ref a), (1, .int n), (2, .int j)] := hl
  obtain ⟨H, hH⟩ : ∃ z, z = s.heap := ⟨_, rfl⟩
  have hP : va_P D vwCl [(a, .inr (0, fs)), (b, .inr (1, gs)), (b1, .inr (2, hs)), (b2, .inr (3, is)), (b3, .inr (3, js))] H := by rw [hH]; exact hP
  have hS : va_S A s.heap H [] := by rw [hH]; exact hS
  rw [← hH]
  refine lv_aload_n hx hb d_SeriesVaultLaw_format_0 rfl (lv_at hl 0 rfl) ?_
  refine lv_iload_n hx hb d_SeriesVaultLaw_format_1 rfl (lv_at hl 1 rfl) ?_
  refine lv_iload_n hx hb d_SeriesVaultLaw_format_2 rfl (lv_at hl 2 rfl) ?_
  have hPc := hP.sub (ws' := [(a, .inr (0, fs)), (b, .inr (1, gs)), (b1, .inr (2, hs)), (b2, .inr (3, is)), (b3, .inr (3, js))]) [0, 1, 2, 3, 4] rfl
  have hDc := hD.sub (ws' := [(a, .inr (0, fs)), (b, .inr (1, gs)), (b1, .inr (2, hs)), (b2, .inr (3, is)), (b3, .inr (3, js))]) [0, 1, 2, 3, 4] (by decide) rfl
  refine jnV (rnV (As := [.int n, .int j]) (rest := []) hx hb hml hown hE hK (hN _ _ hS) hPc hDc (c_V_format l D dA H.size a fs b gs b1 hs b2 is b3 js n j h1 h2 h3 h4 h_fs_journal h_fs_head h_fs_now h_fs_saved hl_fs h_gs_kept hl_gs hl_hs hl_is hl_js) (q0 := 0) rfl rfl w624 w623 w625 w626 w277 rfl rfl ⟨⟨by decide, by decide⟩, rfl⟩ ⟨(Nat.le_of_ble_eq_true rfl), (Nat.le_of_ble_eq_true rfl)⟩ rfl hl.1 rfl (Nat.le_of_ble_eq_true rfl) d_SeriesVaultLaw_format_3 ⟨(Nat.le_of_ble_eq_true rfl), (Nat.le_of_ble_eq_true rfl)⟩) hP hD hS hA [0, 1, 2, 3, 4] [] (wr := []) rfl rfl (by decide) (by decide) (fun u9 H locs hp9 hP hD hS => ?_)
  have hP : va_P D vwCl [(a, .inr (0, (((((fs.set 4 (.int n)).set 5 (.int 1)).set 6 (.int (-1))).set 7 (.int 0)).set 17 (.int 0)))), (b, .inr (1, ((((((((gs.set 9 (.int j)).set 6 (.int 0)).set 6 (.int 0)).set 7 (.int 0)).set 12 (.int 0)).set 8 (.int 0)).set 10 (.int 0)).set 11 (.int 0)))), (b1, .inr (2, (hs.set 3 (.int 0)))), (b2, .inr (3, (((((is.set 1 (.int 0)).set 6 (.int 0)).set 7 (.long 0)).set 8 (.int 0)).set 10 (.int 0)))), (b3, .inr (3, (((((js.set 1 (.int 0)).set 6 (.int 0)).set 7 (.long 0)).set 8 (.int 0)).set 10 (.int 0))))] H := hP
  have hD : va_D A [(a, .inr (0, (((((fs.set 4 (.int n)).set 5 (.int 1)).set 6 (.int (-1))).set 7 (.int 0)).set 17 (.int 0)))), (b, .inr (1, ((((((((gs.set 9 (.int j)).set 6 (.int 0)).set 6 (.int 0)).set 7 (.int 0)).set 12 (.int 0)).set 8 (.int 0)).set 10 (.int 0)).set 11 (.int 0)))), (b1, .inr (2, (hs.set 3 (.int 0)))), (b2, .inr (3, (((((is.set 1 (.int 0)).set 6 (.int 0)).set 7 (.long 0)).set 8 (.int 0)).set 10 (.int 0)))), (b3, .inr (3, (((((js.set 1 (.int 0)).set 6 (.int 0)).set 7 (.long 0)).set 8 (.int 0)).set 10 (.int 0))))] := hD
  refine lv_goto hx hb d_SeriesVaultLaw_format_6 (tgt := 12) rfl ?_
  refine lv_iconst (v := 0) hx hb d_SeriesVaultLaw_format_12 (by decide) ?_
  exact rtI hx hb hr hlk hP hD hS () rfl [0, 1, 2, 3, 4] rfl rfl (by decide) (Nat.le_of_ble_eq_true rfl) (Nat.le_of_ble_eq_true rfl) d_SeriesVaultLaw_format_13
theorem d_SeriesVaultLaw_format_9 : decode method_5_code 9 = .ok (.astore_n 3, 1) := by decide +kernel
theorem d_SeriesVaultLaw_format_10 : decode method_5_code 10 = .ok (.iconst 1, 1) := by decide +kernel
theorem d_SeriesVaultLaw_format_11 : decode method_5_code 11 = .ok (.ireturn, 1) := by decide +kernel
set_option maxHeartbeats 4000000 in
set_option maxRecDepth 100000 in
theorem c_K_format_x (l : Launch) (htr : l.stackTraces = false) (D : va_G) (dA : Nat → ClassId) (sz : Nat) (a : Nat) (fs : List Value) (n : Int32) (j : Int32) (h0 : n < 16 ∨ 256 < n ∨ j < 2 ∨ n - 8 < j) (hl_fs : fs.length = 18) : Met l ⟨"SeriesVaultLaw", "format", "(LSeriesVault;II)I"⟩ [Cond.codeWith ⟨"SeriesVaultLaw", "format", "(LSeriesVault;II)I"⟩ method_5_code 4 (some FieldType.int) [(0, 6, 9, 19)]] { frames := 7, cells := 1, slots := 6, locals := 103 } (pC D dA [.ref a, .int n, .int j] [(a, .inr (0, fs))] sz) (va_Qi (fun (r : Int32) (_ : Unit) => r = 1) (fun (u9 : Unit) t9 => bW D (va_A [(a, .inr (0, fs))] sz) [(a, .inr (0, fs))] t9) (va_A [(a, .inr (0, fs))] sz)) 1 6 (va_A [(a, .inr (0, fs))] sz) := by
  refine mkW (y := ⟨"SeriesVaultLaw", "format", "(LSeriesVault;II)I"⟩) (cc := method_5_code) (maxL := 4) (av := [.ref a, .int n, .int j]) (ws := [(a, .inr (0, fs))]) (sz := sz) (Qc := fun A => va_Qi (fun (r : Int32) (_ : Unit) => r = 1) (fun (u9 : Unit) t9 => bW D A [(a, .inr (0, fs))] t9) A) (by decide) (Nat.le_of_ble_eq_true rfl) ?_
  intro A p e s m below meth c ls hsz htab hB
  obtain ⟨hx, hb, hr, hml, hown, hin, hlk, hE, hK, hP, hD, hS, hA, hN, hl⟩ := hB
  have hown : s.vm.findClass "SeriesVaultLaw" = some m.cls := hown
  have hin : meth.name = "format" := hin
  have hl : lv_has ls 4 [(0, .ref a), (1, .int n), (2, .int j)] := hl
  obtain ⟨H, hH⟩ : ∃ z, z = s.heap := ⟨_, rfl⟩
  have hP : va_P D vwCl [(a, .inr (0, fs))] H := by rw [hH]; exact hP
  have hS : va_S A s.heap H [] := by rw [hH]; exact hS
  rw [← hH]
  refine lv_aload_n hx hb d_SeriesVaultLaw_format_0 rfl (lv_at hl 0 rfl) ?_
  refine lv_iload_n hx hb d_SeriesVaultLaw_format_1 rfl (lv_at hl 1 rfl) ?_
  refine lv_iload_n hx hb d_SeriesVaultLaw_format_2 rfl (lv_at hl 2 rfl) ?_
  have hPc := hP.sub (ws' := [(a, .inr (0, fs))]) [0] rfl
  have hDc := hD.sub (ws' := [(a, .inr (0, fs))]) [0] (by decide) rfl
  refine xnV (As := [.int n, .int j]) (rest := []) hx hb hml hown hE hK (hN _ _ hS) hPc hDc (c_V_format_x l htr D dA H.size a fs n j h0 hl_fs) (q0 := 0) rfl rfl w624 w623 w625 w626 w277 rfl rfl ⟨⟨by decide, by decide⟩, rfl⟩ ⟨(Nat.le_of_ble_eq_true rfl), (Nat.le_of_ble_eq_true rfl)⟩ rfl hl.1 rfl (Nat.le_of_ble_eq_true rfl) d_SeriesVaultLaw_format_3 ⟨(Nat.le_of_ble_eq_true rfl), (Nat.le_of_ble_eq_true rfl)⟩ hP hD hS hA [0] [] (wr := []) rfl rfl (by decide) (by decide) (fun x1 ce H locs hP hD hS hce hcv hcl => ?_)
  have hP : va_P D vwCl [(a, .inr (0, fs))] H := hP
  have hD : va_D A [(a, .inr (0, fs))] := hD
  refine xCatch (E := "java/lang/IllegalArgumentException") hown hE [] ⟨0, 6, 9, 19⟩ [] htab (fun _ h => absurd h List.not_mem_nil) (by decide) (by decide) w349 w267 hce hcv hcl ?_
  refine lv_astore_n hx hb d_SeriesVaultLaw_format_9 rfl hl (by decide) rfl (fun ls hl => ?_)
  have hl : lv_has ls 4 [(3, .ref x1), (0, .ref a), (1, .int n), (2, .int j)] := hl
  refine lv_iconst (v := 1) hx hb d_SeriesVaultLaw_format_10 (by decide) ?_
  exact rtI hx hb hr hlk hP hD hS () rfl [0] rfl rfl (by decide) (Nat.le_of_ble_eq_true rfl) (Nat.le_of_ble_eq_true rfl) d_SeriesVaultLaw_format_11
theorem d_SeriesVaultLaw_series_0 : decode method_6_code 0 = .ok (.aload_n 1, 1) := by decide +kernel
theorem d_SeriesVaultLaw_series_1 : decode method_6_code 1 = .ok (.iconst 0, 1) := by decide +kernel
theorem d_SeriesVaultLaw_series_2 : decode method_6_code 2 = .ok (.aload_n 0, 1) := by decide +kernel
theorem d_SeriesVaultLaw_series_3 : decode method_6_code 3 = .ok (.invokevirtual 25, 3) := by decide +kernel
theorem d_SeriesVaultLaw_series_6 : decode method_6_code 6 = .ok (.i2l, 1) := by decide +kernel
theorem d_SeriesVaultLaw_series_7 : decode method_6_code 7 = .ok (.lastore, 1) := by decide +kernel
theorem d_SeriesVaultLaw_series_8 : decode method_6_code 8 = .ok (.goto 9, 3) := by decide +kernel
theorem d_SeriesVaultLaw_series_17 : decode method_6_code 17 = .ok (.iconst 0, 1) := by decide +kernel
theorem d_SeriesVaultLaw_series_18 : decode method_6_code 18 = .ok (.ireturn, 1) := by decide +kernel
theorem w627 : Cond.methodLink "SeriesVaultLaw" 25 ⟨"SeriesVault", "series", "()I"⟩ ∈ aW := aw_of (tb_3 (List.mem_of_getElem? (i := 169) rfl)) rfl
theorem w628 : Cond.code ⟨"SeriesVault", "series", "()I"⟩ prog_1_method_23_code 3 (some FieldType.int) ∈ aW := aw_of (tb_3 (List.mem_of_getElem? (i := 172) rfl)) rfl
theorem w629 : Cond.instanceMethod ⟨"SeriesVault", "series", "()I"⟩ ∈ aW := aw_of (tb_3 (List.mem_of_getElem? (i := 170) rfl)) rfl
theorem w630 : Cond.selects "SeriesVault" ⟨"SeriesVault", "series", "()I"⟩ ⟨"SeriesVault", "series", "()I"⟩ ∈ aW := aw_of (tb_3 (List.mem_of_getElem? (i := 171) rfl)) rfl
set_option maxHeartbeats 4000000 in
set_option maxRecDepth 100000 in
theorem c_K_series_0 (l : Launch) (htr : l.stackTraces = false) (D : va_G) (dA : Nat → ClassId) (sz : Nat) (a : Nat) (fs : List Value) (b : Nat) (b1 : Nat) (gs : List Value) (o : Nat) (og : Nat → Int64) (h_fs_tape : fs[0]? = some (.ref b)) (h_fs_tapeLength : fs[1]? = some (.int 0)) (h_fs_powered : fs[5]? = some (.int 1)) (h_fs_reader : fs[14]? = some (.ref b1)) (hl_fs : fs.length = 18) (hl_gs : gs.length = 6) : Met l ⟨"SeriesVaultLaw", "series", "(LSeriesVault;[J)I"⟩ [Cond.codeWith ⟨"SeriesVaultLaw", "series", "(LSeriesVault;[J)I"⟩ method_6_code 3 (some FieldType.int) [(0, 8, 11, 29), (0, 8, 14, 13)]] { frames := 5, cells := 0, slots := 0, locals := 108 } (pC D dA [.ref a, .ref o] [(a, .inr (0, fs)), (b1, .inr (4, gs)), (o, .inl (dA 2, 1, .inr (.inl og)))] sz) (va_Qi (fun (r : Int32) (_ : Unit) => r = 0) (fun (u9 : Unit) t9 => bW D (va_A [(a, .inr (0, fs)), (b1, .inr (4, gs)), (o, .inl (dA 2, 1, .inr (.inl og)))] sz) [(a, .inr (0, (((fs.set 1 (.int 0)).set 2 (.int 7)).set 3 (.int 0)))), (b1, .inr (4, (((gs.set 3 (.int 0)).set 4 (.int 7)).set 5 (.int 0)))), (o, .inl (dA 2, 1, .inr (.inl (vp_updL og 0 (-1)))))] t9) (va_A [(a, .inr (0, fs)), (b1, .inr (4, gs)), (o, .inl (dA 2, 1, .inr (.inl og)))] sz)) 0 0 (va_A [(a, .inr (0, fs)), (b1, .inr (4, gs)), (o, .inl (dA 2, 1, .inr (.inl og)))] sz) := by
  refine mkW (y := ⟨"SeriesVaultLaw", "series", "(LSeriesVault;[J)I"⟩) (cc := method_6_code) (maxL := 3) (av := [.ref a, .ref o]) (ws := [(a, .inr (0, fs)), (b1, .inr (4, gs)), (o, .inl (dA 2, 1, .inr (.inl og)))]) (sz := sz) (Qc := fun A => va_Qi (fun (r : Int32) (_ : Unit) => r = 0) (fun (u9 : Unit) t9 => bW D A [(a, .inr (0, (((fs.set 1 (.int 0)).set 2 (.int 7)).set 3 (.int 0)))), (b1, .inr (4, (((gs.set 3 (.int 0)).set 4 (.int 7)).set 5 (.int 0)))), (o, .inl (dA 2, 1, .inr (.inl (vp_updL og 0 (-1)))))] t9) A) (by decide) (Nat.le_of_ble_eq_true rfl) ?_
  intro A p e s m below meth c ls hsz htab hB
  obtain ⟨hx, hb, hr, hml, hown, hin, hlk, hE, hK, hP, hD, hS, hA, hN, hl⟩ := hB
  have hown : s.vm.findClass "SeriesVaultLaw" = some m.cls := hown
  have hin : meth.name = "series" := hin
  have hl : lv_has ls 3 [(0, .ref a), (1, .ref o)] := hl
  obtain ⟨H, hH⟩ : ∃ z, z = s.heap := ⟨_, rfl⟩
  have hP : va_P D vwCl [(a, .inr (0, fs)), (b1, .inr (4, gs)), (o, .inl (dA 2, 1, .inr (.inl og)))] H := by rw [hH]; exact hP
  have hS : va_S A s.heap H [] := by rw [hH]; exact hS
  rw [← hH]
  refine lv_aload_n hx hb d_SeriesVaultLaw_series_0 rfl (lv_at hl 1 rfl) ?_
  refine lv_iconst (v := 0) hx hb d_SeriesVaultLaw_series_1 (by decide) ?_
  refine lv_aload_n hx hb d_SeriesVaultLaw_series_2 rfl (lv_at hl 0 rfl) ?_
  have hPc := hP.sub (ws' := [(a, .inr (0, fs)), (b1, .inr (4, gs))]) [0, 1] rfl
  have hDc := hD.sub (ws' := [(a, .inr (0, fs)), (b1, .inr (4, gs))]) [0, 1] (by decide) rfl
  refine jnI (rnV (As := []) (rest := [.int 0, .ref o]) hx hb hml hown hE hK (hN _ _ hS) hPc hDc (c_V_series_0 l D dA H.size a fs b b1 gs h_fs_tape h_fs_tapeLength h_fs_powered h_fs_reader hl_fs hl_gs) (q0 := 0) rfl rfl w628 w627 w629 w630 w277 rfl rfl ⟨⟨by decide, by decide⟩, rfl⟩ ⟨(Nat.le_of_ble_eq_true rfl), (Nat.le_of_ble_eq_true rfl)⟩ rfl hl.1 rfl (Nat.le_of_ble_eq_true rfl) d_SeriesVaultLaw_series_3 ⟨(Nat.le_of_ble_eq_true rfl), (Nat.le_of_ble_eq_true rfl)⟩) hP hD hS hA [0, 1] [2] (wr := [(o, .inl (dA 2, 1, .inr (.inl og)))]) rfl rfl (by decide) (by decide) (fun r1 u9 H locs hp9 hP hD hS => ?_)
  have hP : va_P D vwCl [(o, .inl (dA 2, 1, .inr (.inl og))), (a, .inr (0, (((fs.set 1 (.int 0)).set 2 (.int 7)).set 3 (.int 0)))), (b1, .inr (4, (((gs.set 3 (.int 0)).set 4 (.int 7)).set 5 (.int 0))))] H := hP
  have hD : va_D A [(o, .inl (dA 2, 1, .inr (.inl og))), (a, .inr (0, (((fs.set 1 (.int 0)).set 2 (.int 7)).set 3 (.int 0)))), (b1, .inr (4, (((gs.set 3 (.int 0)).set 4 (.int 7)).set 5 (.int 0))))] := hD
  have hp9 : (-1) = r1 := Eq.symm hp9
  subst hp9
  refine lv_i2l (v := (-1)) hx hb d_SeriesVaultLaw_series_6 (by decide) ?_
  refine va_last hx hb hK hP hD hS 0 2 rfl rfl (by unfold vp_in; decide) d_SeriesVaultLaw_series_7 (fun H locs hP hD hS => ?_)
  have hP : va_P D vwCl [(o, .inl (dA 2, 1, .inr (.inl (vp_updL og 0 (-1))))), (a, .inr (0, (((fs.set 1 (.int 0)).set 2 (.int 7)).set 3 (.int 0)))), (b1, .inr (4, (((gs.set 3 (.int 0)).set 4 (.int 7)).set 5 (.int 0))))] H := hP
  have hD : va_D A [(o, .inl (dA 2, 1, .inr (.inl (vp_updL og 0 (-1))))), (a, .inr (0, (((fs.set 1 (.int 0)).set 2 (.int 7)).set 3 (.int 0)))), (b1, .inr (4, (((gs.set 3 (.int 0)).set 4 (.int 7)).set 5 (.int 0))))] := hD
  refine lv_goto hx hb d_SeriesVaultLaw_series_8 (tgt := 17) rfl ?_
  refine lv_iconst (v := 0) hx hb d_SeriesVaultLaw_series_17 (by decide) ?_
  exact rtI hx hb hr hlk hP hD hS () rfl [1, 2, 0] rfl rfl (by decide) (Nat.le_of_ble_eq_true rfl) (Nat.le_of_ble_eq_true rfl) d_SeriesVaultLaw_series_18
end
section
/-! A field that a class above declares, under the name of the class below. -/
section R3
variable {p : Program} {l : Launch} {e : Env} {R : Room} {s : State} {m : MethodId} {args : Array Value} {below : List Frame} {meth : Method} {c : Code} {H : Heap} {locs : List Loc} {cells slots : Nat} {Q : State → Prop}
variable {D : va_G} {dA : Nat → ClassId} {A : Nat → Prop} {cc : ByteArray} {pc : Nat} {ls : Array Slot} {rest : List Value} {ws : va_W} {a : Nat} {own C ref : String} {T : u_T} {N ci index : Nat} {fs : List Value} {v : Value}
theorem gFU (hx : p.tables.exec = Jvm.exec) (hb : c.code = cc) (hown : s.vm.findClass own = some m.cls) (hE : eV s) (hK : va_K D vwCl (arT dA) s) (hP : va_P D vwCl ws H) (q0 : Nat) (he : ws[q0]? = some (a, .inr (ci, fs))) (hc : vwCl[ci]? = some (C, T, N)) (hlay : ∀ w ∈ u_ws C T N, w ∈ aW) (k : Nat) (hk : k < N)
    (hlink : Cond.fieldLink own index ref (T k).2.1 (T k).2.2.1 ∈ aW) (hsame : Cond.sameField ref (T k).1 (T k).2.1 (T k).2.2.1 ∈ aW) (hv : fs[k]? = some v) (hdg : decode cc pc = .ok (.getfield index, 3)) (kk : W p l e R s m args below meth c H locs cells slots Q (F0 m (pc + 3) ls (v :: rest))) : W p l e R s m args below meth c H locs cells slots Q (F0 m pc ls (.ref a :: rest)) :=
  va_get hx hb (hLay hE hlay) (fun _ h => h) hown hK hP q0 he hc k hk (hE.t hlink rfl) (fun x h => u_same (args := args) (hE.t hsame rfl) x h) hv hdg kk
theorem pFU (hx : p.tables.exec = Jvm.exec) (hb : c.code = cc) (hown : s.vm.findClass own = some m.cls) (hE : eV s) (hK : va_K D vwCl (arT dA) s) (hP : va_P D vwCl ws H) (hD : va_D A ws) (hS : va_S A s.heap H locs) (q0 : Nat) (he : ws[q0]? = some (a, .inr (ci, fs))) (hc : vwCl[ci]? = some (C, T, N)) (hlay : ∀ w ∈ u_ws C T N, w ∈ aW) (ty0 : Nat → FieldType) (hty : ∀ k, k < N → parseFieldDescriptor (T k).2.2.1 = some (ty0 k)) (hnm : ∀ a, a < N → ∀ b, b < N → a ≠ b → (T a).2.1 ≠ (T b).2.1) (k : Nat) (hk : k < N)
    (hlink : Cond.fieldLink own index ref (T k).2.1 (T k).2.2.1 ∈ aW) (hsame : Cond.sameField ref (T k).1 (T k).2.1 (T k).2.2.1 ∈ aW) (hfin : (T k).2.2.2 = false) (hn : narrow (ty0 k) v = v) (hfit : fits (ty0 k) v = true) (hl : k < fs.length) (hdg : decode cc pc = .ok (.putfield index, 3))
    (kk : ∀ (H1 : Heap) (locs1 : List Loc), va_P D vwCl (ws.set q0 (a, .inr (ci, fs.set k v))) H1 → va_D A (ws.set q0 (a, .inr (ci, fs.set k v))) → va_S A s.heap H1 locs1 → W p l e R s m args below meth c H1 locs1 cells slots Q (F0 m (pc + 3) ls rest)) : W p l e R s m args below meth c H locs cells slots Q (F0 m pc ls (v :: .ref a :: rest)) :=
  va_put hx hb (hLay hE hlay) (fun _ h => h) ty0 hty hnm hown hK hP hD hS q0 he hc k hk (hE.t hlink rfl) (fun x h => u_same (args := args) (hE.t hsame rfl) x h) hfin (hty k hk) hn hfit hl hdg kk
end R3
theorem tb_out {n : Int32} (h : n < 0 ∨ 8 < n) : n.toInt < 0 ∨ 8 < n.toInt := by
  rcases h with h | h
  · exact Or.inl (by simpa using Int32.lt_iff_toInt_lt.mp h)
  · exact Or.inr (by simpa using Int32.lt_iff_toInt_lt.mp h)
end
