theorem d_V_retain_0 : decode prog_1_method_41_code 0 = .ok (.aload_n 0, 1) := by decide +kernel
theorem d_V_retain_1 : decode prog_1_method_41_code 1 = .ok (.invokevirtual 124, 3) := by decide +kernel
theorem d_V_retain_4 : decode prog_1_method_41_code 4 = .ok (.lload_n 1, 1) := by decide +kernel
theorem d_V_retain_5 : decode prog_1_method_41_code 5 = .ok (.invokestatic 262, 3) := by decide +kernel
theorem d_V_retain_8 : decode prog_1_method_41_code 8 = .ok (.ifCond .eq 15, 3) := by decide +kernel
theorem d_V_retain_23 : decode prog_1_method_41_code 23 = .ok (.new 89, 3) := by decide +kernel
theorem d_V_retain_26 : decode prog_1_method_41_code 26 = .ok (.dup, 1) := by decide +kernel
theorem d_V_retain_27 : decode prog_1_method_41_code 27 = .ok (.invokespecial 91, 3) := by decide +kernel
theorem d_V_retain_30 : decode prog_1_method_41_code 30 = .ok (.athrow, 1) := by decide +kernel
set_option maxHeartbeats 4000000 in
set_option maxRecDepth 100000 in
theorem c_V_retain_x (l : Launch) (htr : l.stackTraces = false) (D : va_G) (dA : Nat → ClassId) (sz : Nat) (a : Nat) (fs : List Value) (t : Int64) (h0 : t < 0 ∨ 1099511627775 < t) (h_fs_powered : fs[5]? = some (.int 1)) (hl_fs : fs.length = 18) : mX l ⟨"SeriesVault", "retain", "(J)I"⟩ [Cond.code ⟨"SeriesVault", "retain", "(J)I"⟩ prog_1_method_41_code 4 (some FieldType.int)] { frames := 6, cells := 1, slots := 6, locals := 81 } (pC D dA [.ref a, .long t] [(a, .inr (0, fs))] sz) "java/lang/IllegalArgumentException" (fun st9 t9 => va_F (va_A [(a, .inr (0, fs))] sz) st9 t9 ∧ bW D (va_A [(a, .inr (0, fs))] sz) [(a, .inr (0, fs))] t9) 1 6 (va_A [(a, .inr (0, fs))] sz) := by
  refine mkX (y := ⟨"SeriesVault", "retain", "(J)I"⟩) (cc := prog_1_method_41_code) (maxL := 4) (av := [.ref a, .long t]) (B := fun A => fun st9 t9 => va_F A st9 t9 ∧ bW D A [(a, .inr (0, fs))] t9) (by decide) (Nat.le_of_ble_eq_true rfl) ?_
  intro A p e s m below meth c ls hsz hno hB
  obtain ⟨hx, hb, hr, hml, hown, hin, hlk, hE, hK, hP, hD, hS, hA, hN, hl⟩ := hB
  have hown : s.vm.findClass "SeriesVault" = some m.cls := hown
  have hin : meth.name = "retain" := hin
  have hl : lv_has ls 4 [(0, .ref a), (1, .long t)] := hl
  obtain ⟨H, hH⟩ : ∃ z, z = s.heap := ⟨_, rfl⟩
  have hP : va_P D vwCl [(a, .inr (0, fs))] H := by rw [hH]; exact hP
  have hS : va_S A s.heap H [] := by rw [hH]; exact hS
  rw [← hH]
  refine lv_aload_n hx hb d_V_retain_0 rfl (lv_at hl 0 rfl) ?_
  have hPc := hP.sub (ws' := [(a, .inr (0, fs))]) [0] rfl
  have hDc := hD.sub (ws' := [(a, .inr (0, fs))]) [0] (by decide) rfl
  refine jnV (rnV (As := []) (rest := []) hx hb hml hown hE hK (hN _ _ hS) hPc hDc (c_V_checkPower l D dA H.size a fs h_fs_powered hl_fs) (q0 := 0) rfl rfl w278 w276 w279 w280 w277 rfl rfl ⟨⟨by decide, by decide⟩, rfl⟩ ⟨(Nat.le_of_ble_eq_true rfl), (Nat.le_of_ble_eq_true rfl)⟩ rfl hl.1 rfl (Nat.le_of_ble_eq_true rfl) d_V_retain_1 ⟨(Nat.le_of_ble_eq_true rfl), (Nat.le_of_ble_eq_true rfl)⟩) hP hD hS hA [0] [] (wr := []) rfl rfl (by decide) (by decide) (fun u9 H locs hp9 hP hD hS => ?_)
  have hP : va_P D vwCl [(a, .inr (0, fs))] H := hP
  have hD : va_D A [(a, .inr (0, fs))] := hD
  refine lv_lload_n hx hb d_V_retain_4 rfl (lv_at hl 1 rfl) ?_
  have hPc := hP.sub (ws' := []) [] rfl
  have hDc := hD.sub (ws' := []) [] (by decide) rfl
  refine jnI (rnS (As := [.long t]) (rest := []) hx hb hml hown hE hK (hN _ _ hS) hPc hDc (c_V_isTime_0 l D dA H.size t h0) w693 w692 w694 w277 rfl rfl ⟨⟨by decide, by decide⟩, rfl⟩ ⟨(Nat.le_of_ble_eq_true rfl), (Nat.le_of_ble_eq_true rfl)⟩ rfl hl.1 rfl (Nat.le_of_ble_eq_true rfl) d_V_retain_5 ⟨(Nat.le_of_ble_eq_true rfl), (Nat.le_of_ble_eq_true rfl)⟩) hP hD hS hA [] [0] (wr := [(a, .inr (0, fs))]) rfl rfl (by decide) (by decide) (fun r2 u9 H locs hp9 hP hD hS => ?_)
  have hP : va_P D vwCl [(a, .inr (0, fs))] H := hP
  have hD : va_D A [(a, .inr (0, fs))] := hD
  have hp9 : 0 = r2 := Eq.symm hp9
  subst hp9
  refine lv_if_eq hx hb d_V_retain_8 (tgt := 23) rfl (fun _ => ?_) (fun h9 => absurd (by decide) h9)
  exact xNew (E := "java/lang/IllegalArgumentException") (names := ["java/lang/RuntimeException", "java/lang/Exception"]) hx hb htr hown (by decide) (by decide) hE w273 w274 (fun U hU => at_V_IAE hU) (hN _ _ hS) (hl.1.trans hml.symm) d_V_retain_23 d_V_retain_26 d_V_retain_27 d_V_retain_30 hno (by decide) (Nat.le_of_ble_eq_true rfl) (Nat.le_of_ble_eq_true rfl) (Nat.le_of_ble_eq_true rfl) hlk (fun t h1 h2 => xEnd hP hD hS [0] rfl rfl (by decide) t h1 h2) hS.2.2 (Nat.le_of_ble_eq_true rfl) (Nat.le_of_ble_eq_true rfl)
theorem d_V_retain_11 : decode prog_1_method_41_code 11 = .ok (.lload_n 1, 1) := by decide +kernel
theorem d_V_retain_12 : decode prog_1_method_41_code 12 = .ok (.aload_n 0, 1) := by decide +kernel
theorem d_V_retain_13 : decode prog_1_method_41_code 13 = .ok (.getfield 33, 3) := by decide +kernel
theorem d_V_retain_16 : decode prog_1_method_41_code 16 = .ok (.getfield 266, 3) := by decide +kernel
theorem d_V_retain_19 : decode prog_1_method_41_code 19 = .ok (.lcmp, 1) := by decide +kernel
theorem d_V_retain_20 : decode prog_1_method_41_code 20 = .ok (.ifCond .ge 11, 3) := by decide +kernel
theorem d_V_retain_31 : decode prog_1_method_41_code 31 = .ok (.lload_n 1, 1) := by decide +kernel
theorem d_V_retain_32 : decode prog_1_method_41_code 32 = .ok (.aload_n 0, 1) := by decide +kernel
theorem d_V_retain_33 : decode prog_1_method_41_code 33 = .ok (.getfield 33, 3) := by decide +kernel
theorem d_V_retain_36 : decode prog_1_method_41_code 36 = .ok (.getfield 266, 3) := by decide +kernel
theorem d_V_retain_39 : decode prog_1_method_41_code 39 = .ok (.lcmp, 1) := by decide +kernel
theorem d_V_retain_40 : decode prog_1_method_41_code 40 = .ok (.ifCond .ne 5, 3) := by decide +kernel
theorem d_V_retain_43 : decode prog_1_method_41_code 43 = .ok (.iconst 0, 1) := by decide +kernel
theorem d_V_retain_44 : decode prog_1_method_41_code 44 = .ok (.ireturn, 1) := by decide +kernel
theorem w710 : Cond.fieldLinkNest "SeriesVault" 266 "SeriesVault$Shelf" "horizon" "J" "SeriesVault" ∈ aW := aw_of (tb_1 (List.mem_of_getElem? (i := 153) rfl)) rfl
set_option maxHeartbeats 4000000 in
set_option maxRecDepth 100000 in
theorem c_V_retain_0 (l : Launch) (D : va_G) (dA : Nat → ClassId) (sz : Nat) (a : Nat) (fs : List Value) (b : Nat) (gs : List Value) (h_fs_powered : fs[5]? = some (.int 1)) (h_fs_now : fs[11]? = some (.ref b)) (hl_fs : fs.length = 18) (h_gs_horizon : gs[7]? = some (.long 0)) (hl_gs : gs.length = 11) : Met l ⟨"SeriesVault", "retain", "(J)I"⟩ [Cond.code ⟨"SeriesVault", "retain", "(J)I"⟩ prog_1_method_41_code 4 (some FieldType.int)] { frames := 2, cells := 0, slots := 0, locals := 21 } (pC D dA [.ref a, .long 0] [(a, .inr (0, fs)), (b, .inr (3, gs))] sz) (va_Qi (fun (r : Int32) (_ : Unit) => r = 0) (fun (u9 : Unit) t9 => bW D (va_A [(a, .inr (0, fs)), (b, .inr (3, gs))] sz) [(a, .inr (0, fs)), (b, .inr (3, gs))] t9) (va_A [(a, .inr (0, fs)), (b, .inr (3, gs))] sz)) 0 0 (va_A [(a, .inr (0, fs)), (b, .inr (3, gs))] sz) := by
  refine mkC (y := ⟨"SeriesVault", "retain", "(J)I"⟩) (cc := prog_1_method_41_code) (maxL := 4) (av := [.ref a, .long 0]) (ws := [(a, .inr (0, fs)), (b, .inr (3, gs))]) (sz := sz) (Qc := fun A => va_Qi (fun (r : Int32) (_ : Unit) => r = 0) (fun (u9 : Unit) t9 => bW D A [(a, .inr (0, fs)), (b, .inr (3, gs))] t9) A) (by decide) (Nat.le_of_ble_eq_true rfl) ?_
  intro A p e s m below meth c ls hsz hB
  obtain ⟨hx, hb, hr, hml, hown, hin, hlk, hE, hK, hP, hD, hS, hA, hN, hl⟩ := hB
  have hown : s.vm.findClass "SeriesVault" = some m.cls := hown
  have hin : meth.name = "retain" := hin
  have hl : lv_has ls 4 [(0, .ref a), (1, .long 0)] := hl
  obtain ⟨H, hH⟩ : ∃ z, z = s.heap := ⟨_, rfl⟩
  have hP : va_P D vwCl [(a, .inr (0, fs)), (b, .inr (3, gs))] H := by rw [hH]; exact hP
  have hS : va_S A s.heap H [] := by rw [hH]; exact hS
  rw [← hH]
  refine lv_aload_n hx hb d_V_retain_0 rfl (lv_at hl 0 rfl) ?_
  have hPc := hP.sub (ws' := [(a, .inr (0, fs))]) [0] rfl
  have hDc := hD.sub (ws' := [(a, .inr (0, fs))]) [0] (by decide) rfl
  refine jnV (rnV (As := []) (rest := []) hx hb hml hown hE hK (hN _ _ hS) hPc hDc (c_V_checkPower l D dA H.size a fs h_fs_powered hl_fs) (q0 := 0) rfl rfl w278 w276 w279 w280 w277 rfl rfl ⟨⟨by decide, by decide⟩, rfl⟩ ⟨(Nat.le_of_ble_eq_true rfl), (Nat.le_of_ble_eq_true rfl)⟩ rfl hl.1 rfl (Nat.le_of_ble_eq_true rfl) d_V_retain_1 ⟨(Nat.le_of_ble_eq_true rfl), (Nat.le_of_ble_eq_true rfl)⟩) hP hD hS hA [0] [1] (wr := [(b, .inr (3, gs))]) rfl rfl (by decide) (by decide) (fun u9 H locs hp9 hP hD hS => ?_)
  have hP : va_P D vwCl [(b, .inr (3, gs)), (a, .inr (0, fs))] H := hP
  have hD : va_D A [(b, .inr (3, gs)), (a, .inr (0, fs))] := hD
  refine lv_lload_n hx hb d_V_retain_4 rfl (lv_at hl 1 rfl) ?_
  have hPc := hP.sub (ws' := []) [] rfl
  have hDc := hD.sub (ws' := []) [] (by decide) rfl
  refine jnI (rnS (As := [.long 0]) (rest := []) hx hb hml hown hE hK (hN _ _ hS) hPc hDc (c_V_isTime_1 l D dA H.size 0 (by decide) (by decide)) w693 w692 w694 w277 rfl rfl ⟨⟨by decide, by decide⟩, rfl⟩ ⟨(Nat.le_of_ble_eq_true rfl), (Nat.le_of_ble_eq_true rfl)⟩ rfl hl.1 rfl (Nat.le_of_ble_eq_true rfl) d_V_retain_5 ⟨(Nat.le_of_ble_eq_true rfl), (Nat.le_of_ble_eq_true rfl)⟩) hP hD hS hA [] [0, 1] (wr := [(b, .inr (3, gs)), (a, .inr (0, fs))]) rfl rfl (by decide) (by decide) (fun r2 u9 H locs hp9 hP hD hS => ?_)
  have hP : va_P D vwCl [(b, .inr (3, gs)), (a, .inr (0, fs))] H := hP
  have hD : va_D A [(b, .inr (3, gs)), (a, .inr (0, fs))] := hD
  have hp9 : 1 = r2 := Eq.symm hp9
  subst hp9
  refine lv_if_eq hx hb d_V_retain_8 (tgt := 23) rfl (fun h9 => absurd h9 (by decide)) (fun _ => ?_)
  refine lv_lload_n hx hb d_V_retain_11 rfl (lv_at hl 1 rfl) ?_
  refine lv_aload_n hx hb d_V_retain_12 rfl (lv_at hl 0 rfl) ?_
  refine gF (v := .ref b) hx hb hown hE hK hP 1 rfl rfl layV 11 (by decide) w297 h_fs_now d_V_retain_13 ?_
  refine gFN (v := .long 0) hx hb hown hE hK hP 0 rfl rfl layH 7 (by decide) w710 h_gs_horizon d_V_retain_16 ?_
  refine W.lcmp hx hb d_V_retain_19 (tpi (y := 0) (by decide) ?_)
  refine lv_if_ge hx hb d_V_retain_20 (tgt := 31) rfl (fun _ => ?_) (fun h9 => absurd (by decide) h9)
  refine lv_lload_n hx hb d_V_retain_31 rfl (lv_at hl 1 rfl) ?_
  refine lv_aload_n hx hb d_V_retain_32 rfl (lv_at hl 0 rfl) ?_
  refine gF (v := .ref b) hx hb hown hE hK hP 1 rfl rfl layV 11 (by decide) w297 h_fs_now d_V_retain_33 ?_
  refine gFN (v := .long 0) hx hb hown hE hK hP 0 rfl rfl layH 7 (by decide) w710 h_gs_horizon d_V_retain_36 ?_
  refine W.lcmp hx hb d_V_retain_39 (tpi (y := 0) (by decide) ?_)
  refine lv_if_ne hx hb d_V_retain_40 (tgt := 45) rfl (fun h9 => absurd (by decide) h9) (fun _ => ?_)
  refine lv_iconst (v := 0) hx hb d_V_retain_43 (by decide) ?_
  exact rtI hx hb hr hlk hP hD hS () rfl [1, 0] rfl rfl (by decide) (Nat.le_of_ble_eq_true rfl) (Nat.le_of_ble_eq_true rfl) d_V_retain_44
theorem d_P_countBelow_0 : decode prog_5_method_8_code 0 = .ok (.iconst 0, 1) := by decide +kernel
theorem d_P_countBelow_1 : decode prog_5_method_8_code 1 = .ok (.istore_n 3, 1) := by decide +kernel
theorem d_P_countBelow_2 : decode prog_5_method_8_code 2 = .ok (.iconst 0, 1) := by decide +kernel
theorem d_P_countBelow_3 : decode prog_5_method_8_code 3 = .ok (.istore 4, 2) := by decide +kernel
theorem d_P_countBelow_5 : decode prog_5_method_8_code 5 = .ok (.iload 4, 2) := by decide +kernel
theorem d_P_countBelow_7 : decode prog_5_method_8_code 7 = .ok (.aload_n 0, 1) := by decide +kernel
theorem d_P_countBelow_8 : decode prog_5_method_8_code 8 = .ok (.getfield 20, 3) := by decide +kernel
theorem d_P_countBelow_11 : decode prog_5_method_8_code 11 = .ok (.if_icmp .ge 24, 3) := by decide +kernel
theorem d_P_countBelow_35 : decode prog_5_method_8_code 35 = .ok (.iload_n 3, 1) := by decide +kernel
theorem d_P_countBelow_36 : decode prog_5_method_8_code 36 = .ok (.ireturn, 1) := by decide +kernel
set_option maxHeartbeats 4000000 in
set_option maxRecDepth 100000 in
theorem c_P_countBelow_0 (l : Launch) (D : va_G) (dA : Nat → ClassId) (sz : Nat) (a : Nat) (fs : List Value) (t : Int64) (h_fs_size : fs[3]? = some (.int 0)) (hl_fs : fs.length = 4) : Met l ⟨"SeriesVault$Points", "countBelow", "(J)I"⟩ [Cond.code ⟨"SeriesVault$Points", "countBelow", "(J)I"⟩ prog_5_method_8_code 5 (some FieldType.int)] { frames := 1, cells := 0, slots := 0, locals := 0 } (pC D dA [.ref a, .long t] [(a, .inr (2, fs))] sz) (va_Qi (fun (r : Int32) (_ : Unit) => r = 0) (fun (u9 : Unit) t9 => bW D (va_A [(a, .inr (2, fs))] sz) [(a, .inr (2, fs))] t9) (va_A [(a, .inr (2, fs))] sz)) 0 0 (va_A [(a, .inr (2, fs))] sz) := by
  refine mkC (y := ⟨"SeriesVault$Points", "countBelow", "(J)I"⟩) (cc := prog_5_method_8_code) (maxL := 5) (av := [.ref a, .long t]) (ws := [(a, .inr (2, fs))]) (sz := sz) (Qc := fun A => va_Qi (fun (r : Int32) (_ : Unit) => r = 0) (fun (u9 : Unit) t9 => bW D A [(a, .inr (2, fs))] t9) A) (by decide) (Nat.le_of_ble_eq_true rfl) ?_
  intro A p e s m below meth c ls hsz hB
  obtain ⟨hx, hb, hr, hml, hown, hin, hlk, hE, hK, hP, hD, hS, hA, hN, hl⟩ := hB
  have hown : s.vm.findClass "SeriesVault$Points" = some m.cls := hown
  have hin : meth.name = "countBelow" := hin
  have hl : lv_has ls 5 [(0, .ref a), (1, .long t)] := hl
  obtain ⟨H, hH⟩ : ∃ z, z = s.heap := ⟨_, rfl⟩
  have hP : va_P D vwCl [(a, .inr (2, fs))] H := by rw [hH]; exact hP
  have hS : va_S A s.heap H [] := by rw [hH]; exact hS
  rw [← hH]
  refine lv_iconst (v := 0) hx hb d_P_countBelow_0 (by decide) ?_
  refine lv_istore_n hx hb d_P_countBelow_1 rfl hl (by decide) rfl (fun ls hl => ?_)
  have hl : lv_has ls 5 [(3, .int 0), (0, .ref a), (1, .long t)] := hl
  refine lv_iconst (v := 0) hx hb d_P_countBelow_2 (by decide) ?_
  refine lv_istore hx hb d_P_countBelow_3 hl (by decide) rfl (fun ls hl => ?_)
  have hl : lv_has ls 5 [(4, .int 0), (3, .int 0), (0, .ref a), (1, .long t)] := hl
  refine lv_iload hx hb d_P_countBelow_5 (lv_at hl 0 rfl) ?_
  refine lv_aload_n hx hb d_P_countBelow_7 rfl (lv_at hl 2 rfl) ?_
  refine gF (v := .int 0) hx hb hown hE hK hP 0 rfl rfl layP 3 (by decide) w565 h_fs_size d_P_countBelow_8 ?_
  refine lv_icmp_ge hx hb d_P_countBelow_11 (tgt := 35) rfl (fun _ => ?_) (fun h9 => absurd (by decide) h9)
  refine lv_iload_n hx hb d_P_countBelow_35 rfl (lv_at hl 1 rfl) ?_
  exact rtI hx hb hr hlk hP hD hS () rfl [0] rfl rfl (by decide) (Nat.le_of_ble_eq_true rfl) (Nat.le_of_ble_eq_true rfl) d_P_countBelow_36
theorem d_P_dropBelow_0 : decode prog_5_method_9_code 0 = .ok (.iconst 0, 1) := by decide +kernel
theorem d_P_dropBelow_1 : decode prog_5_method_9_code 1 = .ok (.istore_n 3, 1) := by decide +kernel
theorem d_P_dropBelow_2 : decode prog_5_method_9_code 2 = .ok (.iconst 0, 1) := by decide +kernel
theorem d_P_dropBelow_3 : decode prog_5_method_9_code 3 = .ok (.istore 4, 2) := by decide +kernel
theorem d_P_dropBelow_5 : decode prog_5_method_9_code 5 = .ok (.iload 4, 2) := by decide +kernel
theorem d_P_dropBelow_7 : decode prog_5_method_9_code 7 = .ok (.aload_n 0, 1) := by decide +kernel
theorem d_P_dropBelow_8 : decode prog_5_method_9_code 8 = .ok (.getfield 20, 3) := by decide +kernel
theorem d_P_dropBelow_11 : decode prog_5_method_9_code 11 = .ok (.if_icmp .ge 50, 3) := by decide +kernel
theorem d_P_dropBelow_61 : decode prog_5_method_9_code 61 = .ok (.aload_n 0, 1) := by decide +kernel
theorem d_P_dropBelow_62 : decode prog_5_method_9_code 62 = .ok (.iload_n 3, 1) := by decide +kernel
theorem d_P_dropBelow_63 : decode prog_5_method_9_code 63 = .ok (.putfield 20, 3) := by decide +kernel
theorem d_P_dropBelow_66 : decode prog_5_method_9_code 66 = .ok (.return_, 1) := by decide +kernel
set_option maxHeartbeats 4000000 in
set_option maxRecDepth 100000 in
theorem c_P_dropBelow_0 (l : Launch) (D : va_G) (dA : Nat → ClassId) (sz : Nat) (a : Nat) (fs : List Value) (t : Int64) (h_fs_size : fs[3]? = some (.int 0)) (hl_fs : fs.length = 4) : Met l ⟨"SeriesVault$Points", "dropBelow", "(J)V"⟩ [Cond.code ⟨"SeriesVault$Points", "dropBelow", "(J)V"⟩ prog_5_method_9_code 5 none] { frames := 1, cells := 0, slots := 0, locals := 0 } (pC D dA [.ref a, .long t] [(a, .inr (2, fs))] sz) (va_Qv (fun (_ : Unit) => True) (fun (u9 : Unit) t9 => bW D (va_A [(a, .inr (2, fs))] sz) [(a, .inr (2, (fs.set 3 (.int 0))))] t9) (va_A [(a, .inr (2, fs))] sz)) 0 0 (va_A [(a, .inr (2, fs))] sz) := by
  refine mkC (y := ⟨"SeriesVault$Points", "dropBelow", "(J)V"⟩) (cc := prog_5_method_9_code) (maxL := 5) (av := [.ref a, .long t]) (ws := [(a, .inr (2, fs))]) (sz := sz) (Qc := fun A => va_Qv (fun (_ : Unit) => True) (fun (u9 : Unit) t9 => bW D A [(a, .inr (2, (fs.set 3 (.int 0))))] t9) A) (by decide) (Nat.le_of_ble_eq_true rfl) ?_
  intro A p e s m below meth c ls hsz hB
  obtain ⟨hx, hb, hr, hml, hown, hin, hlk, hE, hK, hP, hD, hS, hA, hN, hl⟩ := hB
  have hown : s.vm.findClass "SeriesVault$Points" = some m.cls := hown
  have hin : meth.name = "dropBelow" := hin
  have hl : lv_has ls 5 [(0, .ref a), (1, .long t)] := hl
  obtain ⟨H, hH⟩ : ∃ z, z = s.heap := ⟨_, rfl⟩
  have hP : va_P D vwCl [(a, .inr (2, fs))] H := by rw [hH]; exact hP
  have hS : va_S A s.heap H [] := by rw [hH]; exact hS
  rw [← hH]
  refine lv_iconst (v := 0) hx hb d_P_dropBelow_0 (by decide) ?_
  refine lv_istore_n hx hb d_P_dropBelow_1 rfl hl (by decide) rfl (fun ls hl => ?_)
  have hl : lv_has ls 5 [(3, .int 0), (0, .ref a), (1, .long t)] := hl
  refine lv_iconst (v := 0) hx hb d_P_dropBelow_2 (by decide) ?_
  refine lv_istore hx hb d_P_dropBelow_3 hl (by decide) rfl (fun ls hl => ?_)
  have hl : lv_has ls 5 [(4, .int 0), (3, .int 0), (0, .ref a), (1, .long t)] := hl
  refine lv_iload hx hb d_P_dropBelow_5 (lv_at hl 0 rfl) ?_
  refine lv_aload_n hx hb d_P_dropBelow_7 rfl (lv_at hl 2 rfl) ?_
  refine gF (v := .int 0) hx hb hown hE hK hP 0 rfl rfl layP 3 (by decide) w565 h_fs_size d_P_dropBelow_8 ?_
  refine lv_icmp_ge hx hb d_P_dropBelow_11 (tgt := 61) rfl (fun _ => ?_) (fun h9 => absurd (by decide) h9)
  refine lv_aload_n hx hb d_P_dropBelow_61 rfl (lv_at hl 2 rfl) ?_
  refine lv_iload_n hx hb d_P_dropBelow_62 rfl (lv_at hl 1 rfl) ?_
  refine pF hx hb hown hE hK hP hD hS 0 rfl rfl layP tyP tokP nmP 3 (by decide) w565 rfl rfl rfl (by simp [hl_fs]) d_P_dropBelow_63 (fun H locs hP hD hS => ?_)
  have hP : va_P D vwCl [(a, .inr (2, (fs.set 3 (.int 0))))] H := hP
  have hD : va_D A [(a, .inr (2, (fs.set 3 (.int 0))))] := hD
  exact rtV hx hb hr hlk hP hD hS () trivial [0] rfl rfl (by decide) (Nat.le_of_ble_eq_true rfl) (Nat.le_of_ble_eq_true rfl) d_P_dropBelow_66
theorem d_H_moveHorizon_0 : decode prog_9_method_9_code 0 = .ok (.aload_n 0, 1) := by decide +kernel
theorem d_H_moveHorizon_1 : decode prog_9_method_9_code 1 = .ok (.lload_n 1, 1) := by decide +kernel
theorem d_H_moveHorizon_2 : decode prog_9_method_9_code 2 = .ok (.putfield 41, 3) := by decide +kernel
theorem d_H_moveHorizon_5 : decode prog_9_method_9_code 5 = .ok (.iconst 0, 1) := by decide +kernel
theorem d_H_moveHorizon_6 : decode prog_9_method_9_code 6 = .ok (.istore_n 3, 1) := by decide +kernel
theorem d_H_moveHorizon_7 : decode prog_9_method_9_code 7 = .ok (.iconst 0, 1) := by decide +kernel
theorem d_H_moveHorizon_8 : decode prog_9_method_9_code 8 = .ok (.istore 4, 2) := by decide +kernel
theorem d_H_moveHorizon_10 : decode prog_9_method_9_code 10 = .ok (.iload 4, 2) := by decide +kernel
theorem d_H_moveHorizon_12 : decode prog_9_method_9_code 12 = .ok (.aload_n 0, 1) := by decide +kernel
theorem d_H_moveHorizon_13 : decode prog_9_method_9_code 13 = .ok (.getfield 34, 3) := by decide +kernel
theorem d_H_moveHorizon_16 : decode prog_9_method_9_code 16 = .ok (.if_icmp .ge 40, 3) := by decide +kernel
theorem d_H_moveHorizon_56 : decode prog_9_method_9_code 56 = .ok (.aload_n 0, 1) := by decide +kernel
theorem d_H_moveHorizon_57 : decode prog_9_method_9_code 57 = .ok (.iload_n 3, 1) := by decide +kernel
theorem d_H_moveHorizon_58 : decode prog_9_method_9_code 58 = .ok (.putfield 34, 3) := by decide +kernel
theorem d_H_moveHorizon_61 : decode prog_9_method_9_code 61 = .ok (.return_, 1) := by decide +kernel
set_option maxHeartbeats 4000000 in
set_option maxRecDepth 100000 in
theorem c_H_moveHorizon_0 (l : Launch) (D : va_G) (dA : Nat → ClassId) (sz : Nat) (a : Nat) (fs : List Value) (t : Int64) (h_fs_parcelCount : fs[1]? = some (.int 0)) (hl_fs : fs.length = 11) : Met l ⟨"SeriesVault$Shelf", "moveHorizon", "(J)V"⟩ [Cond.code ⟨"SeriesVault$Shelf", "moveHorizon", "(J)V"⟩ prog_9_method_9_code 5 none] { frames := 1, cells := 0, slots := 0, locals := 0 } (pC D dA [.ref a, .long t] [(a, .inr (3, fs))] sz) (va_Qv (fun (_ : Unit) => True) (fun (u9 : Unit) t9 => bW D (va_A [(a, .inr (3, fs))] sz) [(a, .inr (3, ((fs.set 7 (.long t)).set 1 (.int 0))))] t9) (va_A [(a, .inr (3, fs))] sz)) 0 0 (va_A [(a, .inr (3, fs))] sz) := by
  refine mkC (y := ⟨"SeriesVault$Shelf", "moveHorizon", "(J)V"⟩) (cc := prog_9_method_9_code) (maxL := 5) (av := [.ref a, .long t]) (ws := [(a, .inr (3, fs))]) (sz := sz) (Qc := fun A => va_Qv (fun (_ : Unit) => True) (fun (u9 : Unit) t9 => bW D A [(a, .inr (3, ((fs.set 7 (.long t)).set 1 (.int 0))))] t9) A) (by decide) (Nat.le_of_ble_eq_true rfl) ?_
  intro A p e s m below meth c ls hsz hB
  obtain ⟨hx, hb, hr, hml, hown, hin, hlk, hE, hK, hP, hD, hS, hA, hN, hl⟩ := hB
  have hown : s.vm.findClass "SeriesVault$Shelf" = some m.cls := hown
  have hin : meth.name = "moveHorizon" := hin
  have hl : lv_has ls 5 [(0, .ref a), (1, .long t)] := hl
  obtain ⟨H, hH⟩ : ∃ z, z = s.heap := ⟨_, rfl⟩
  have hP : va_P D vwCl [(a, .inr (3, fs))] H := by rw [hH]; exact hP
  have hS : va_S A s.heap H [] := by rw [hH]; exact hS
  rw [← hH]
  refine lv_aload_n hx hb d_H_moveHorizon_0 rfl (lv_at hl 0 rfl) ?_
  refine lv_lload_n hx hb d_H_moveHorizon_1 rfl (lv_at hl 1 rfl) ?_
  refine pF hx hb hown hE hK hP hD hS 0 rfl rfl layH tyH tokH nmH 7 (by decide) w568 rfl rfl rfl (by simp [hl_fs]) d_H_moveHorizon_2 (fun H locs hP hD hS => ?_)
  have hP : va_P D vwCl [(a, .inr (3, (fs.set 7 (.long t))))] H := hP
  have hD : va_D A [(a, .inr (3, (fs.set 7 (.long t))))] := hD
  refine lv_iconst (v := 0) hx hb d_H_moveHorizon_5 (by decide) ?_
  refine lv_istore_n hx hb d_H_moveHorizon_6 rfl hl (by decide) rfl (fun ls hl => ?_)
  have hl : lv_has ls 5 [(3, .int 0), (0, .ref a), (1, .long t)] := hl
  refine lv_iconst (v := 0) hx hb d_H_moveHorizon_7 (by decide) ?_
  refine lv_istore hx hb d_H_moveHorizon_8 hl (by decide) rfl (fun ls hl => ?_)
  have hl : lv_has ls 5 [(4, .int 0), (3, .int 0), (0, .ref a), (1, .long t)] := hl
  refine lv_iload hx hb d_H_moveHorizon_10 (lv_at hl 0 rfl) ?_
  refine lv_aload_n hx hb d_H_moveHorizon_12 rfl (lv_at hl 2 rfl) ?_
  refine gF (v := .int 0) hx hb hown hE hK hP 0 rfl rfl layH 1 (by decide) w566 (by simp [h_fs_parcelCount]) d_H_moveHorizon_13 ?_
  refine lv_icmp_ge hx hb d_H_moveHorizon_16 (tgt := 56) rfl (fun _ => ?_) (fun h9 => absurd (by decide) h9)
  refine lv_aload_n hx hb d_H_moveHorizon_56 rfl (lv_at hl 2 rfl) ?_
  refine lv_iload_n hx hb d_H_moveHorizon_57 rfl (lv_at hl 1 rfl) ?_
  refine pF hx hb hown hE hK hP hD hS 0 rfl rfl layH tyH tokH nmH 1 (by decide) w566 rfl rfl rfl (by simp [hl_fs]) d_H_moveHorizon_58 (fun H locs hP hD hS => ?_)
  have hP : va_P D vwCl [(a, .inr (3, ((fs.set 7 (.long t)).set 1 (.int 0))))] H := hP
  have hD : va_D A [(a, .inr (3, ((fs.set 7 (.long t)).set 1 (.int 0))))] := hD
  exact rtV hx hb hr hlk hP hD hS () trivial [0] rfl rfl (by decide) (Nat.le_of_ble_eq_true rfl) (Nat.le_of_ble_eq_true rfl) d_H_moveHorizon_61
theorem d_V_writeBlock_0 : decode prog_1_method_15_code 0 = .ok (.aload_n 0, 1) := by decide +kernel
theorem d_V_writeBlock_1 : decode prog_1_method_15_code 1 = .ok (.getfield 108, 3) := by decide +kernel
theorem d_V_writeBlock_4 : decode prog_1_method_15_code 4 = .ok (.ifCond .ne 21, 3) := by decide +kernel
theorem d_V_writeBlock_25 : decode prog_1_method_15_code 25 = .ok (.aload_n 0, 1) := by decide +kernel
theorem d_V_writeBlock_26 : decode prog_1_method_15_code 26 = .ok (.getfield 108, 3) := by decide +kernel
theorem d_V_writeBlock_29 : decode prog_1_method_15_code 29 = .ok (.ifCond .le 13, 3) := by decide +kernel
theorem d_V_writeBlock_42 : decode prog_1_method_15_code 42 = .ok (.aload_n 0, 1) := by decide +kernel
theorem d_V_writeBlock_43 : decode prog_1_method_15_code 43 = .ok (.dup, 1) := by decide +kernel
theorem d_V_writeBlock_44 : decode prog_1_method_15_code 44 = .ok (.getfield 111, 3) := by decide +kernel
theorem d_V_writeBlock_47 : decode prog_1_method_15_code 47 = .ok (.iconst 1, 1) := by decide +kernel
theorem d_V_writeBlock_48 : decode prog_1_method_15_code 48 = .ok (.iadd, 1) := by decide +kernel
theorem d_V_writeBlock_49 : decode prog_1_method_15_code 49 = .ok (.putfield 111, 3) := by decide +kernel
theorem d_V_writeBlock_52 : decode prog_1_method_15_code 52 = .ok (.return_, 1) := by decide +kernel
set_option maxHeartbeats 4000000 in
set_option maxRecDepth 100000 in
theorem c_V_writeBlock_m (l : Launch) (D : va_G) (dA : Nat → ClassId) (sz : Nat) (a : Nat) (fs : List Value) (k : Int32) (h_fs_cutLeft : fs[6]? = some (.int (-1))) (h_fs_writes : fs[7]? = some (.int k)) (hl_fs : fs.length = 18) : Met l ⟨"SeriesVault", "writeBlock", "()V"⟩ [Cond.code ⟨"SeriesVault", "writeBlock", "()V"⟩ prog_1_method_15_code 1 none] { frames := 1, cells := 0, slots := 0, locals := 0 } (pC D dA [.ref a] [(a, .inr (0, fs))] sz) (va_Qv (fun (_ : Unit) => True) (fun (u9 : Unit) t9 => bW D (va_A [(a, .inr (0, fs))] sz) [(a, .inr (0, (fs.set 7 (.int (k + 1)))))] t9) (va_A [(a, .inr (0, fs))] sz)) 0 0 (va_A [(a, .inr (0, fs))] sz) := by
  refine mkC (y := ⟨"SeriesVault", "writeBlock", "()V"⟩) (cc := prog_1_method_15_code) (maxL := 1) (av := [.ref a]) (ws := [(a, .inr (0, fs))]) (sz := sz) (Qc := fun A => va_Qv (fun (_ : Unit) => True) (fun (u9 : Unit) t9 => bW D A [(a, .inr (0, (fs.set 7 (.int (k + 1)))))] t9) A) (by decide) (Nat.le_of_ble_eq_true rfl) ?_
  intro A p e s m below meth c ls hsz hB
  obtain ⟨hx, hb, hr, hml, hown, hin, hlk, hE, hK, hP, hD, hS, hA, hN, hl⟩ := hB
  have hown : s.vm.findClass "SeriesVault" = some m.cls := hown
  have hin : meth.name = "writeBlock" := hin
  have hl : lv_has ls 1 [(0, .ref a)] := hl
  obtain ⟨H, hH⟩ : ∃ z, z = s.heap := ⟨_, rfl⟩
  have hP : va_P D vwCl [(a, .inr (0, fs))] H := by rw [hH]; exact hP
  have hS : va_S A s.heap H [] := by rw [hH]; exact hS
  rw [← hH]
  refine lv_aload_n hx hb d_V_writeBlock_0 rfl (lv_at hl 0 rfl) ?_
  refine gF (v := .int (-1)) hx hb hown hE hK hP 0 rfl rfl layV 6 (by decide) w281 h_fs_cutLeft d_V_writeBlock_1 ?_
  refine lv_if_ne hx hb d_V_writeBlock_4 (tgt := 25) rfl (fun _ => ?_) (fun h9 => absurd h9 (by decide))
  refine lv_aload_n hx hb d_V_writeBlock_25 rfl (lv_at hl 0 rfl) ?_
  refine gF (v := .int (-1)) hx hb hown hE hK hP 0 rfl rfl layV 6 (by decide) w281 h_fs_cutLeft d_V_writeBlock_26 ?_
  refine lv_if_le hx hb d_V_writeBlock_29 (tgt := 42) rfl (fun _ => ?_) (fun h9 => absurd (by decide) h9)
  refine lv_aload_n hx hb d_V_writeBlock_42 rfl (lv_at hl 0 rfl) ?_
  refine lv_dup hx hb d_V_writeBlock_43 rfl ?_
  refine gF (v := .int k) hx hb hown hE hK hP 0 rfl rfl layV 7 (by decide) w209 h_fs_writes d_V_writeBlock_44 ?_
  refine lv_iconst (v := 1) hx hb d_V_writeBlock_47 (by decide) ?_
  refine lv_iadd hx hb d_V_writeBlock_48 ?_
  refine pF hx hb hown hE hK hP hD hS 0 rfl rfl layV tyV tokV nmV 7 (by decide) w209 rfl rfl rfl (by simp [hl_fs]) d_V_writeBlock_49 (fun H locs hP hD hS => ?_)
  have hP : va_P D vwCl [(a, .inr (0, (fs.set 7 (.int (k + 1)))))] H := hP
  have hD : va_D A [(a, .inr (0, (fs.set 7 (.int (k + 1)))))] := hD
  exact rtV hx hb hr hlk hP hD hS () trivial [0] rfl rfl (by decide) (Nat.le_of_ble_eq_true rfl) (Nat.le_of_ble_eq_true rfl) d_V_writeBlock_52
theorem d_V_writeBlock_7 : decode prog_1_method_15_code 7 = .ok (.aload_n 0, 1) := by decide +kernel
theorem d_V_writeBlock_8 : decode prog_1_method_15_code 8 = .ok (.iconst 0, 1) := by decide +kernel
theorem d_V_writeBlock_9 : decode prog_1_method_15_code 9 = .ok (.putfield 104, 3) := by decide +kernel
theorem d_V_writeBlock_12 : decode prog_1_method_15_code 12 = .ok (.aload_n 0, 1) := by decide +kernel
theorem d_V_writeBlock_13 : decode prog_1_method_15_code 13 = .ok (.iconst (-1), 1) := by decide +kernel
theorem d_V_writeBlock_14 : decode prog_1_method_15_code 14 = .ok (.putfield 108, 3) := by decide +kernel
theorem d_V_writeBlock_17 : decode prog_1_method_15_code 17 = .ok (.new 127, 3) := by decide +kernel
theorem d_V_writeBlock_20 : decode prog_1_method_15_code 20 = .ok (.dup, 1) := by decide +kernel
theorem d_V_writeBlock_21 : decode prog_1_method_15_code 21 = .ok (.invokespecial 129, 3) := by decide +kernel
theorem d_V_writeBlock_24 : decode prog_1_method_15_code 24 = .ok (.athrow, 1) := by decide +kernel
set_option maxHeartbeats 4000000 in
set_option maxRecDepth 100000 in
theorem c_V_writeBlock_x (l : Launch) (htr : l.stackTraces = false) (D : va_G) (dA : Nat → ClassId) (sz : Nat) (a : Nat) (fs : List Value) (h_fs_cutLeft : fs[6]? = some (.int 0)) (hl_fs : fs.length = 18) : mX l ⟨"SeriesVault", "writeBlock", "()V"⟩ [Cond.code ⟨"SeriesVault", "writeBlock", "()V"⟩ prog_1_method_15_code 1 none] { frames := 6, cells := 1, slots := 6, locals := 81 } (pC D dA [.ref a] [(a, .inr (0, fs))] sz) "java/lang/IllegalStateException" (fun st9 t9 => va_F (va_A [(a, .inr (0, fs))] sz) st9 t9 ∧ bW D (va_A [(a, .inr (0, fs))] sz) [(a, .inr (0, ((fs.set 5 (.int 0)).set 6 (.int (-1)))))] t9) 1 6 (va_A [(a, .inr (0, fs))] sz) := by
  refine mkX (y := ⟨"SeriesVault", "writeBlock", "()V"⟩) (cc := prog_1_method_15_code) (maxL := 1) (av := [.ref a]) (B := fun A => fun st9 t9 => va_F A st9 t9 ∧ bW D A [(a, .inr (0, ((fs.set 5 (.int 0)).set 6 (.int (-1)))))] t9) (by decide) (Nat.le_of_ble_eq_true rfl) ?_
  intro A p e s m below meth c ls hsz hno hB
  obtain ⟨hx, hb, hr, hml, hown, hin, hlk, hE, hK, hP, hD, hS, hA, hN, hl⟩ := hB
  have hown : s.vm.findClass "SeriesVault" = some m.cls := hown
  have hin : meth.name = "writeBlock" := hin
  have hl : lv_has ls 1 [(0, .ref a)] := hl
  obtain ⟨H, hH⟩ : ∃ z, z = s.heap := ⟨_, rfl⟩
  have hP : va_P D vwCl [(a, .inr (0, fs))] H := by rw [hH]; exact hP
  have hS : va_S A s.heap H [] := by rw [hH]; exact hS
  rw [← hH]
  refine lv_aload_n hx hb d_V_writeBlock_0 rfl (lv_at hl 0 rfl) ?_
  refine gF (v := .int 0) hx hb hown hE hK hP 0 rfl rfl layV 6 (by decide) w281 h_fs_cutLeft d_V_writeBlock_1 ?_
  refine lv_if_ne hx hb d_V_writeBlock_4 (tgt := 25) rfl (fun h9 => absurd (by decide) h9) (fun _ => ?_)
  refine lv_aload_n hx hb d_V_writeBlock_7 rfl (lv_at hl 0 rfl) ?_
  refine lv_iconst (v := 0) hx hb d_V_writeBlock_8 (by decide) ?_
  refine pF hx hb hown hE hK hP hD hS 0 rfl rfl layV tyV tokV nmV 5 (by decide) w275 rfl rfl rfl (by simp [hl_fs]) d_V_writeBlock_9 (fun H locs hP hD hS => ?_)
  have hP : va_P D vwCl [(a, .inr (0, (fs.set 5 (.int 0))))] H := hP
  have hD : va_D A [(a, .inr (0, (fs.set 5 (.int 0))))] := hD
  refine lv_aload_n hx hb d_V_writeBlock_12 rfl (lv_at hl 0 rfl) ?_
  refine lv_iconst (v := (-1)) hx hb d_V_writeBlock_13 (by decide) ?_
  refine pF hx hb hown hE hK hP hD hS 0 rfl rfl layV tyV tokV nmV 6 (by decide) w281 rfl rfl rfl (by simp [hl_fs]) d_V_writeBlock_14 (fun H locs hP hD hS => ?_)
  have hP : va_P D vwCl [(a, .inr (0, ((fs.set 5 (.int 0)).set 6 (.int (-1)))))] H := hP
  have hD : va_D A [(a, .inr (0, ((fs.set 5 (.int 0)).set 6 (.int (-1)))))] := hD
  exact xNew (E := "java/lang/IllegalStateException") (names := ["java/lang/RuntimeException", "java/lang/Exception"]) hx hb htr hown (by decide) (by decide) hE w295 w296 (fun U hU => at_V_ISE hU) (hN _ _ hS) (hl.1.trans hml.symm) d_V_writeBlock_17 d_V_writeBlock_20 d_V_writeBlock_21 d_V_writeBlock_24 hno (by decide) (Nat.le_of_ble_eq_true rfl) (Nat.le_of_ble_eq_true rfl) (Nat.le_of_ble_eq_true rfl) hlk (fun t h1 h2 => xEnd hP hD hS [0] rfl rfl (by decide) t h1 h2) hS.2.2 (Nat.le_of_ble_eq_true rfl) (Nat.le_of_ble_eq_true rfl)
theorem d_Arrays_fill_f26_0 : decode prog_38_method_103_code 0 = .ok (.iconst 0, 1) := by decide +kernel
theorem d_Arrays_fill_f26_1 : decode prog_38_method_103_code 1 = .ok (.istore_n 2, 1) := by decide +kernel
theorem d_Arrays_fill_f26_2 : decode prog_38_method_103_code 2 = .ok (.aload_n 0, 1) := by decide +kernel
theorem d_Arrays_fill_f26_3 : decode prog_38_method_103_code 3 = .ok (.arraylength, 1) := by decide +kernel
theorem d_Arrays_fill_f26_4 : decode prog_38_method_103_code 4 = .ok (.istore_n 3, 1) := by decide +kernel
theorem d_Arrays_fill_f26_5 : decode prog_38_method_103_code 5 = .ok (.iload_n 2, 1) := by decide +kernel
theorem d_Arrays_fill_f26_6 : decode prog_38_method_103_code 6 = .ok (.iload_n 3, 1) := by decide +kernel
theorem d_Arrays_fill_f26_7 : decode prog_38_method_103_code 7 = .ok (.if_icmp .ge 13, 3) := by decide +kernel
theorem d_Arrays_fill_f26_10 : decode prog_38_method_103_code 10 = .ok (.aload_n 0, 1) := by decide +kernel
theorem d_Arrays_fill_f26_11 : decode prog_38_method_103_code 11 = .ok (.iload_n 2, 1) := by decide +kernel
theorem d_Arrays_fill_f26_12 : decode prog_38_method_103_code 12 = .ok (.iload_n 1, 1) := by decide +kernel
theorem d_Arrays_fill_f26_13 : decode prog_38_method_103_code 13 = .ok (.iastore, 1) := by decide +kernel
theorem d_Arrays_fill_f26_14 : decode prog_38_method_103_code 14 = .ok (.iinc 2 1, 3) := by decide +kernel
theorem d_Arrays_fill_f26_17 : decode prog_38_method_103_code 17 = .ok (.goto (-12), 3) := by decide +kernel
theorem d_Arrays_fill_f26_20 : decode prog_38_method_103_code 20 = .ok (.return_, 1) := by decide +kernel
set_option maxHeartbeats 4000000 in
set_option maxRecDepth 100000 in
theorem c_fill64 (l : Launch) (D : va_G) (dA : Nat → ClassId) (sz : Nat) (b : Nat) (g : Nat → Int32) : Met l ⟨"java/util/Arrays", "fill", "([II)V"⟩ [Cond.code ⟨"java/util/Arrays", "fill", "([II)V"⟩ prog_38_method_103_code 4 none] { frames := 1, cells := 0, slots := 0, locals := 0 } (pC D dA [.ref b, .int 0] [(b, .inl (dA 1, 64, .inl g))] sz) (va_Qv (fun (_ : Unit) => True) (fun (u9 : Unit) t9 => bW D (va_A [(b, .inl (dA 1, 64, .inl g))] sz) [(b, .inl (dA 1, 64, .inl (upd (upd (upd (upd (upd (upd (upd (upd (upd (upd (upd (upd (upd (upd (upd (upd (upd (upd (upd (upd (upd (upd (upd (upd (upd (upd (upd (upd (upd (upd (upd (upd (upd (upd (upd (upd (upd (upd (upd (upd (upd (upd (upd (upd (upd (upd (upd (upd (upd (upd (upd (upd (upd (upd (upd (upd (upd (upd (upd (upd (upd (upd (upd (upd g 0 0) 1 0) 2 0) 3 0) 4 0) 5 0) 6 0) 7 0) 8 0) 9 0) 10 0) 11 0) 12 0) 13 0) 14 0) 15 0) 16 0) 17 0) 18 0) 19 0) 20 0) 21 0) 22 0) 23 0) 24 0) 25 0) 26 0) 27 0) 28 0) 29 0) 30 0) 31 0) 32 0) 33 0) 34 0) 35 0) 36 0) 37 0) 38 0) 39 0) 40 0) 41 0) 42 0) 43 0) 44 0) 45 0) 46 0) 47 0) 48 0) 49 0) 50 0) 51 0) 52 0) 53 0) 54 0) 55 0) 56 0) 57 0) 58 0) 59 0) 60 0) 61 0) 62 0) 63 0)))] t9) (va_A [(b, .inl (dA 1, 64, .inl g))] sz)) 0 0 (va_A [(b, .inl (dA 1, 64, .inl g))] sz) := by
  refine mkC (y := ⟨"java/util/Arrays", "fill", "([II)V"⟩) (cc := prog_38_method_103_code) (maxL := 4) (av := [.ref b, .int 0]) (ws := [(b, .inl (dA 1, 64, .inl g))]) (sz := sz) (Qc := fun A => va_Qv (fun (_ : Unit) => True) (fun (u9 : Unit) t9 => bW D A [(b, .inl (dA 1, 64, .inl (upd (upd (upd (upd (upd (upd (upd (upd (upd (upd (upd (upd (upd (upd (upd (upd (upd (upd (upd (upd (upd (upd (upd (upd (upd (upd (upd (upd (upd (upd (upd (upd (upd (upd (upd (upd (upd (upd (upd (upd (upd (upd (upd (upd (upd (upd (upd (upd (upd (upd (upd (upd (upd (upd (upd (upd (upd (upd (upd (upd (upd (upd (upd (upd g 0 0) 1 0) 2 0) 3 0) 4 0) 5 0) 6 0) 7 0) 8 0) 9 0) 10 0) 11 0) 12 0) 13 0) 14 0) 15 0) 16 0) 17 0) 18 0) 19 0) 20 0) 21 0) 22 0) 23 0) 24 0) 25 0) 26 0) 27 0) 28 0) 29 0) 30 0) 31 0) 32 0) 33 0) 34 0) 35 0) 36 0) 37 0) 38 0) 39 0) 40 0) 41 0) 42 0) 43 0) 44 0) 45 0) 46 0) 47 0) 48 0) 49 0) 50 0) 51 0) 52 0) 53 0) 54 0) 55 0) 56 0) 57 0) 58 0) 59 0) 60 0) 61 0) 62 0) 63 0)))] t9) A) (by decide) (Nat.le_of_ble_eq_true rfl) ?_
  intro A p e s m below meth c ls hsz hB
  obtain ⟨hx, hb, hr, hml, hown, hin, hlk, hE, hK, hP, hD, hS, hA, hN, hl⟩ := hB
  have hown : s.vm.findClass "java/util/Arrays" = some m.cls := hown
  have hin : meth.name = "fill" := hin
  have hl : lv_has ls 4 [(0, .ref b), (1, .int 0)] := hl
  obtain ⟨H, hH⟩ : ∃ z, z = s.heap := ⟨_, rfl⟩
  have hP : va_P D vwCl [(b, .inl (dA 1, 64, .inl g))] H := by rw [hH]; exact hP
  have hS : va_S A s.heap H [] := by rw [hH]; exact hS
  rw [← hH]
  refine lv_iconst (v := 0) hx hb d_Arrays_fill_f26_0 (by decide) ?_
  refine lv_istore_n hx hb d_Arrays_fill_f26_1 rfl hl (by decide) rfl (fun ls hl => ?_)
  have hl : lv_has ls 4 [(2, .int 0), (0, .ref b), (1, .int 0)] := hl
  refine lv_aload_n hx hb d_Arrays_fill_f26_2 rfl (lv_at hl 1 rfl) ?_
  refine va_alen (v := 64) hx hb hK hP 0 1 rfl rfl rfl d_Arrays_fill_f26_3 ?_
  refine lv_istore_n hx hb d_Arrays_fill_f26_4 rfl hl (by decide) rfl (fun ls hl => ?_)
  have hl : lv_has ls 4 [(3, .int 64), (2, .int 0), (0, .ref b), (1, .int 0)] := hl
  refine lv_iload_n hx hb d_Arrays_fill_f26_5 rfl (lv_at hl 1 rfl) ?_
  refine lv_iload_n hx hb d_Arrays_fill_f26_6 rfl (lv_at hl 0 rfl) ?_
  refine lv_icmp_ge hx hb d_Arrays_fill_f26_7 (tgt := 20) rfl (fun h9 => absurd h9 (by decide)) (fun _ => ?_)
  refine lv_aload_n hx hb d_Arrays_fill_f26_10 rfl (lv_at hl 2 rfl) ?_
  refine lv_iload_n hx hb d_Arrays_fill_f26_11 rfl (lv_at hl 1 rfl) ?_
  refine lv_iload_n hx hb d_Arrays_fill_f26_12 rfl (lv_at hl 3 rfl) ?_
  refine va_iast hx hb hK hP hD hS 0 1 rfl rfl (by unfold vp_in; decide) d_Arrays_fill_f26_13 (fun H locs hP hD hS => ?_)
  have hP : va_P D vwCl [(b, .inl (dA 1, 64, .inl (upd g 0 0)))] H := hP
  have hD : va_D A [(b, .inl (dA 1, 64, .inl (upd g 0 0)))] := hD
  refine lv_iinc (k := 1) (v := 1) hx hb d_Arrays_fill_f26_14 hl rfl (by decide) (by decide) rfl (fun ls hl => ?_)
  have hl : lv_has ls 4 [(2, .int 1), (3, .int 64), (0, .ref b), (1, .int 0)] := hl
  refine lv_goto hx hb d_Arrays_fill_f26_17 (tgt := 5) rfl ?_
  refine lv_iload_n hx hb d_Arrays_fill_f26_5 rfl (lv_at hl 0 rfl) ?_
  refine lv_iload_n hx hb d_Arrays_fill_f26_6 rfl (lv_at hl 1 rfl) ?_
  refine lv_icmp_ge hx hb d_Arrays_fill_f26_7 (tgt := 20) rfl (fun h9 => absurd h9 (by decide)) (fun _ => ?_)
  refine lv_aload_n hx hb d_Arrays_fill_f26_10 rfl (lv_at hl 2 rfl) ?_
  refine lv_iload_n hx hb d_Arrays_fill_f26_11 rfl (lv_at hl 0 rfl) ?_
  refine lv_iload_n hx hb d_Arrays_fill_f26_12 rfl (lv_at hl 3 rfl) ?_
  refine va_iast hx hb hK hP hD hS 0 1 rfl rfl (by unfold vp_in; decide) d_Arrays_fill_f26_13 (fun H locs hP hD hS => ?_)
  have hP : va_P D vwCl [(b, .inl (dA 1, 64, .inl (upd (upd g 0 0) 1 0)))] H := hP
  have hD : va_D A [(b, .inl (dA 1, 64, .inl (upd (upd g 0 0) 1 0)))] := hD
  refine lv_iinc (k := 0) (v := 2) hx hb d_Arrays_fill_f26_14 hl rfl (by decide) (by decide) rfl (fun ls hl => ?_)
  have hl : lv_has ls 4 [(2, .int 2), (3, .int 64), (0, .ref b), (1, .int 0)] := hl
  refine lv_goto hx hb d_Arrays_fill_f26_17 (tgt := 5) rfl ?_
  refine lv_iload_n hx hb d_Arrays_fill_f26_5 rfl (lv_at hl 0 rfl) ?_
  refine lv_iload_n hx hb d_Arrays_fill_f26_6 rfl (lv_at hl 1 rfl) ?_
  refine lv_icmp_ge hx hb d_Arrays_fill_f26_7 (tgt := 20) rfl (fun h9 => absurd h9 (by decide)) (fun _ => ?_)
  refine lv_aload_n hx hb d_Arrays_fill_f26_10 rfl (lv_at hl 2 rfl) ?_
  refine lv_iload_n hx hb d_Arrays_fill_f26_11 rfl (lv_at hl 0 rfl) ?_
  refine lv_iload_n hx hb d_Arrays_fill_f26_12 rfl (lv_at hl 3 rfl) ?_
  refine va_iast hx hb hK hP hD hS 0 1 rfl rfl (by unfold vp_in; decide) d_Arrays_fill_f26_13 (fun H locs hP hD hS => ?_)
  have hP : va_P D vwCl [(b, .inl (dA 1, 64, .inl (upd (upd (upd g 0 0) 1 0) 2 0)))] H := hP
  have hD : va_D A [(b, .inl (dA 1, 64, .inl (upd (upd (upd g 0 0) 1 0) 2 0)))] := hD
  refine lv_iinc (k := 0) (v := 3) hx hb d_Arrays_fill_f26_14 hl rfl (by decide) (by decide) rfl (fun ls hl => ?_)
  have hl : lv_has ls 4 [(2, .int 3), (3, .int 64), (0, .ref b), (1, .int 0)] := hl
  refine lv_goto hx hb d_Arrays_fill_f26_17 (tgt := 5) rfl ?_
  refine lv_iload_n hx hb d_Arrays_fill_f26_5 rfl (lv_at hl 0 rfl) ?_
  refine lv_iload_n hx hb d_Arrays_fill_f26_6 rfl (lv_at hl 1 rfl) ?_
  refine lv_icmp_ge hx hb d_Arrays_fill_f26_7 (tgt := 20) rfl (fun h9 => absurd h9 (by decide)) (fun _ => ?_)
  refine lv_aload_n hx hb d_Arrays_fill_f26_10 rfl (lv_at hl 2 rfl) ?_
  refine lv_iload_n hx hb d_Arrays_fill_f26_11 rfl (lv_at hl 0 rfl) ?_
  refine lv_iload_n hx hb d_Arrays_fill_f26_12 rfl (lv_at hl 3 rfl) ?_
  refine va_iast hx hb hK hP hD hS 0 1 rfl rfl (by unfold vp_in; decide) d_Arrays_fill_f26_13 (fun H locs hP hD hS => ?_)
  have hP : va_P D vwCl [(b, .inl (dA 1, 64, .inl (upd (upd (upd (upd g 0 0) 1 0) 2 0) 3 0)))] H := hP
  have hD : va_D A [(b, .inl (dA 1, 64, .inl (upd (upd (upd (upd g 0 0) 1 0) 2 0) 3 0)))] := hD
  refine lv_iinc (k := 0) (v := 4) hx hb d_Arrays_fill_f26_14 hl rfl (by decide) (by decide) rfl (fun ls hl => ?_)
  have hl : lv_has ls 4 [(2, .int 4), (3, .int 64), (0, .ref b), (1, .int 0)] := hl
  refine lv_goto hx hb d_Arrays_fill_f26_17 (tgt := 5) rfl ?_
  refine lv_iload_n hx hb d_Arrays_fill_f26_5 rfl (lv_at hl 0 rfl) ?_
  refine lv_iload_n hx hb d_Arrays_fill_f26_6 rfl (lv_at hl 1 rfl) ?_
  refine lv_icmp_ge hx hb d_Arrays_fill_f26_7 (tgt := 20) rfl (fun h9 => absurd h9 (by decide)) (fun _ => ?_)
  refine lv_aload_n hx hb d_Arrays_fill_f26_10 rfl (lv_at hl 2 rfl) ?_
  refine lv_iload_n hx hb d_Arrays_fill_f26_11 rfl (lv_at hl 0 rfl) ?_
  refine lv_iload_n hx hb d_Arrays_fill_f26_12 rfl (lv_at hl 3 rfl) ?_
  refine va_iast hx hb hK hP hD hS 0 1 rfl rfl (by unfold vp_in; decide) d_Arrays_fill_f26_13 (fun H locs hP hD hS => ?_)
  have hP : va_P D vwCl [(b, .inl (dA 1, 64, .inl (upd (upd (upd (upd (upd g 0 0) 1 0) 2 0) 3 0) 4 0)))] H := hP
  have hD : va_D A [(b, .inl (dA 1, 64, .inl (upd (upd (upd (upd (upd g 0 0) 1 0) 2 0) 3 0) 4 0)))] := hD
  refine lv_iinc (k := 0) (v := 5) hx hb d_Arrays_fill_f26_14 hl rfl (by decide) (by decide) rfl (fun ls hl => ?_)
  have hl : lv_has ls 4 [(2, .int 5), (3, .int 64), (0, .ref b), (1, .int 0)] := hl
  refine lv_goto hx hb d_Arrays_fill_f26_17 (tgt := 5) rfl ?_
  refine lv_iload_n hx hb d_Arrays_fill_f26_5 rfl (lv_at hl 0 rfl) ?_
  refine lv_iload_n hx hb d_Arrays_fill_f26_6 rfl (lv_at hl 1 rfl) ?_
  refine lv_icmp_ge hx hb d_Arrays_fill_f26_7 (tgt := 20) rfl (fun h9 => absurd h9 (by decide)) (fun _ => ?_)
  refine lv_aload_n hx hb d_Arrays_fill_f26_10 rfl (lv_at hl 2 rfl) ?_
  refine lv_iload_n hx hb d_Arrays_fill_f26_11 rfl (lv_at hl 0 rfl) ?_
  refine lv_iload_n hx hb d_Arrays_fill_f26_12 rfl (lv_at hl 3 rfl) ?_
  refine va_iast hx hb hK hP hD hS 0 1 rfl rfl (by unfold vp_in; decide) d_Arrays_fill_f26_13 (fun H locs hP hD hS => ?_)
  have hP : va_P D vwCl [(b, .inl (dA 1, 64, .inl (upd (upd (upd (upd (upd (upd g 0 0) 1 0) 2 0) 3 0) 4 0) 5 0)))] H := hP
  have hD : va_D A [(b, .inl (dA 1, 64, .inl (upd (upd (upd (upd (upd (upd g 0 0) 1 0) 2 0) 3 0) 4 0) 5 0)))] := hD
  refine lv_iinc (k := 0) (v := 6) hx hb d_Arrays_fill_f26_14 hl rfl (by decide) (by decide) rfl (fun ls hl => ?_)
  have hl : lv_has ls 4 [(2, .int 6), (3, .int 64), (0, .ref b), (1, .int 0)] := hl
  refine lv_goto hx hb d_Arrays_fill_f26_17 (tgt := 5) rfl ?_
  refine lv_iload_n hx hb d_Arrays_fill_f26_5 rfl (lv_at hl 0 rfl) ?_
  refine lv_iload_n hx hb d_Arrays_fill_f26_6 rfl (lv_at hl 1 rfl) ?_
  refine lv_icmp_ge hx hb d_Arrays_fill_f26_7 (tgt := 20) rfl (fun h9 => absurd h9 (by decide)) (fun _ => ?_)
  refine lv_aload_n hx hb d_Arrays_fill_f26_10 rfl (lv_at hl 2 rfl) ?_
  refine lv_iload_n hx hb d_Arrays_fill_f26_11 rfl (lv_at hl 0 rfl) ?_
  refine lv_iload_n hx hb d_Arrays_fill_f26_12 rfl (lv_at hl 3 rfl) ?_
  refine va_iast hx hb hK hP hD hS 0 1 rfl rfl (by unfold vp_in; decide) d_Arrays_fill_f26_13 (fun H locs hP hD hS => ?_)
  have hP : va_P D vwCl [(b, .inl (dA 1, 64, .inl (upd (upd (upd (upd (upd (upd (upd g 0 0) 1 0) 2 0) 3 0) 4 0) 5 0) 6 0)))] H := hP
  have hD : va_D A [(b, .inl (dA 1, 64, .inl (upd (upd (upd (upd (upd (upd (upd g 0 0) 1 0) 2 0) 3 0) 4 0) 5 0) 6 0)))] := hD
  refine lv_iinc (k := 0) (v := 7) hx hb d_Arrays_fill_f26_14 hl rfl (by decide) (by decide) rfl (fun ls hl => ?_)
  have hl : lv_has ls 4 [(2, .int 7), (3, .int 64), (0, .ref b), (1, .int 0)] := hl
  refine lv_goto hx hb d_Arrays_fill_f26_17 (tgt := 5) rfl ?_
  refine lv_iload_n hx hb d_Arrays_fill_f26_5 rfl (lv_at hl 0 rfl) ?_
  refine lv_iload_n hx hb d_Arrays_fill_f26_6 rfl (lv_at hl 1 rfl) ?_
  refine lv_icmp_ge hx hb d_Arrays_fill_f26_7 (tgt := 20) rfl (fun h9 => absurd h9 (by decide)) (fun _ => ?_)
  refine lv_aload_n hx hb d_Arrays_fill_f26_10 rfl (lv_at hl 2 rfl) ?_
  refine lv_iload_n hx hb d_Arrays_fill_f26_11 rfl (lv_at hl 0 rfl) ?_
  refine lv_iload_n hx hb d_Arrays_fill_f26_12 rfl (lv_at hl 3 rfl) ?_
  refine va_iast hx hb hK hP hD hS 0 1 rfl rfl (by unfold vp_in; decide) d_Arrays_fill_f26_13 (fun H locs hP hD hS => ?_)
  have hP : va_P D vwCl [(b, .inl (dA 1, 64, .inl (upd (upd (upd (upd (upd (upd (upd (upd g 0 0) 1 0) 2 0) 3 0) 4 0) 5 0) 6 0) 7 0)))] H := hP
  have hD : va_D A [(b, .inl (dA 1, 64, .inl (upd (upd (upd (upd (upd (upd (upd (upd g 0 0) 1 0) 2 0) 3 0) 4 0) 5 0) 6 0) 7 0)))] := hD
  refine lv_iinc (k := 0) (v := 8) hx hb d_Arrays_fill_f26_14 hl rfl (by decide) (by decide) rfl (fun ls hl => ?_)
  have hl : lv_has ls 4 [(2, .int 8), (3, .int 64), (0, .ref b), (1, .int 0)] := hl
  refine lv_goto hx hb d_Arrays_fill_f26_17 (tgt := 5) rfl ?_
  refine lv_iload_n hx hb d_Arrays_fill_f26_5 rfl (lv_at hl 0 rfl) ?_
  refine lv_iload_n hx hb d_Arrays_fill_f26_6 rfl (lv_at hl 1 rfl) ?_
  refine lv_icmp_ge hx hb d_Arrays_fill_f26_7 (tgt := 20) rfl (fun h9 => absurd h9 (by decide)) (fun _ => ?_)
  refine lv_aload_n hx hb d_Arrays_fill_f26_10 rfl (lv_at hl 2 rfl) ?_
  refine lv_iload_n hx hb d_Arrays_fill_f26_11 rfl (lv_at hl 0 rfl) ?_
  refine lv_iload_n hx hb d_Arrays_fill_f26_12 rfl (lv_at hl 3 rfl) ?_
  refine va_iast hx hb hK hP hD hS 0 1 rfl rfl (by unfold vp_in; decide) d_Arrays_fill_f26_13 (fun H locs hP hD hS => ?_)
  have hP : va_P D vwCl [(b, .inl (dA 1, 64, .inl (upd (upd (upd (upd (upd (upd (upd (upd (upd g 0 0) 1 0) 2 0) 3 0) 4 0) 5 0) 6 0) 7 0) 8 0)))] H := hP
  have hD : va_D A [(b, .inl (dA 1, 64, .inl (upd (upd (upd (upd (upd (upd (upd (upd (upd g 0 0) 1 0) 2 0) 3 0) 4 0) 5 0) 6 0) 7 0) 8 0)))] := hD
  refine lv_iinc (k := 0) (v := 9) hx hb d_Arrays_fill_f26_14 hl rfl (by decide) (by decide) rfl (fun ls hl => ?_)
  have hl : lv_has ls 4 [(2, .int 9), (3, .int 64), (0, .ref b), (1, .int 0)] := hl
  refine lv_goto hx hb d_Arrays_fill_f26_17 (tgt := 5) rfl ?_
  refine lv_iload_n hx hb d_Arrays_fill_f26_5 rfl (lv_at hl 0 rfl) ?_
  refine lv_iload_n hx hb d_Arrays_fill_f26_6 rfl (lv_at hl 1 rfl) ?_
  refine lv_icmp_ge hx hb d_Arrays_fill_f26_7 (tgt := 20) rfl (fun h9 => absurd h9 (by decide)) (fun _ => ?_)
  refine lv_aload_n hx hb d_Arrays_fill_f26_10 rfl (lv_at hl 2 rfl) ?_
  refine lv_iload_n hx hb d_Arrays_fill_f26_11 rfl (lv_at hl 0 rfl) ?_
  refine lv_iload_n hx hb d_Arrays_fill_f26_12 rfl (lv_at hl 3 rfl) ?_
  refine va_iast hx hb hK hP hD hS 0 1 rfl rfl (by unfold vp_in; decide) d_Arrays_fill_f26_13 (fun H locs hP hD hS => ?_)
  have hP : va_P D vwCl [(b, .inl (dA 1, 64, .inl (upd (upd (upd (upd (upd (upd (upd (upd (upd (upd g 0 0) 1 0) 2 0) 3 0) 4 0) 5 0) 6 0) 7 0) 8 0) 9 0)))] H := hP
  have hD : va_D A [(b, .inl (dA 1, 64, .inl (upd (upd (upd (upd (upd (upd (upd (upd (upd (upd g 0 0) 1 0) 2 0) 3 0) 4 0) 5 0) 6 0) 7 0) 8 0) 9 0)))] := hD
  refine lv_iinc (k := 0) (v := 10) hx hb d_Arrays_fill_f26_14 hl rfl (by decide) (by decide) rfl (fun ls hl => ?_)
  have hl : lv_has ls 4 [(2, .int 10), (3, .int 64), (0, .ref b), (1, .int 0)] := hl
  refine lv_goto hx hb d_Arrays_fill_f26_17 (tgt := 5) rfl ?_
  refine lv_iload_n hx hb d_Arrays_fill_f26_5 rfl (lv_at hl 0 rfl) ?_
  refine lv_iload_n hx hb d_Arrays_fill_f26_6 rfl (lv_at hl 1 rfl) ?_
  refine lv_icmp_ge hx hb d_Arrays_fill_f26_7 (tgt := 20) rfl (fun h9 => absurd h9 (by decide)) (fun _ => ?_)
  refine lv_aload_n hx hb d_Arrays_fill_f26_10 rfl (lv_at hl 2 rfl) ?_
  refine lv_iload_n hx hb d_Arrays_fill_f26_11 rfl (lv_at hl 0 rfl) ?_
  refine lv_iload_n hx hb d_Arrays_fill_f26_12 rfl (lv_at hl 3 rfl) ?_
  refine va_iast hx hb hK hP hD hS 0 1 rfl rfl (by unfold vp_in; decide) d_Arrays_fill_f26_13 (fun H locs hP hD hS => ?_)
  have hP : va_P D vwCl [(b, .inl (dA 1, 64, .inl (upd (upd (upd (upd (upd (upd (upd (upd (upd (upd (upd g 0 0) 1 0) 2 0) 3 0) 4 0) 5 0) 6 0) 7 0) 8 0) 9 0) 10 0)))] H := hP
  have hD : va_D A [(b, .inl (dA 1, 64, .inl (upd (upd (upd (upd (upd (upd (upd (upd (upd (upd (upd g 0 0) 1 0) 2 0) 3 0) 4 0) 5 0) 6 0) 7 0) 8 0) 9 0) 10 0)))] := hD
  refine lv_iinc (k := 0) (v := 11) hx hb d_Arrays_fill_f26_14 hl rfl (by decide) (by decide) rfl (fun ls hl => ?_)
  have hl : lv_has ls 4 [(2, .int 11), (3, .int 64), (0, .ref b), (1, .int 0)] := hl
  refine lv_goto hx hb d_Arrays_fill_f26_17 (tgt := 5) rfl ?_
  refine lv_iload_n hx hb d_Arrays_fill_f26_5 rfl (lv_at hl 0 rfl) ?_
  refine lv_iload_n hx hb d_Arrays_fill_f26_6 rfl (lv_at hl 1 rfl) ?_
  refine lv_icmp_ge hx hb d_Arrays_fill_f26_7 (tgt := 20) rfl (fun h9 => absurd h9 (by decide)) (fun _ => ?_)
  refine lv_aload_n hx hb d_Arrays_fill_f26_10 rfl (lv_at hl 2 rfl) ?_
  refine lv_iload_n hx hb d_Arrays_fill_f26_11 rfl (lv_at hl 0 rfl) ?_
  refine lv_iload_n hx hb d_Arrays_fill_f26_12 rfl (lv_at hl 3 rfl) ?_
  refine va_iast hx hb hK hP hD hS 0 1 rfl rfl (by unfold vp_in; decide) d_Arrays_fill_f26_13 (fun H locs hP hD hS => ?_)
  have hP : va_P D vwCl [(b, .inl (dA 1, 64, .inl (upd (upd (upd (upd (upd (upd (upd (upd (upd (upd (upd (upd g 0 0) 1 0) 2 0) 3 0) 4 0) 5 0) 6 0) 7 0) 8 0) 9 0) 10 0) 11 0)))] H := hP
  have hD : va_D A [(b, .inl (dA 1, 64, .inl (upd (upd (upd (upd (upd (upd (upd (upd (upd (upd (upd (upd g 0 0) 1 0) 2 0) 3 0) 4 0) 5 0) 6 0) 7 0) 8 0) 9 0) 10 0) 11 0)))] := hD
  refine lv_iinc (k := 0) (v := 12) hx hb d_Arrays_fill_f26_14 hl rfl (by decide) (by decide) rfl (fun ls hl => ?_)
  have hl : lv_has ls 4 [(2, .int 12), (3, .int 64), (0, .ref b), (1, .int 0)] := hl
  refine lv_goto hx hb d_Arrays_fill_f26_17 (tgt := 5) rfl ?_
  refine lv_iload_n hx hb d_Arrays_fill_f26_5 rfl (lv_at hl 0 rfl) ?_
  refine lv_iload_n hx hb d_Arrays_fill_f26_6 rfl (lv_at hl 1 rfl) ?_
  refine lv_icmp_ge hx hb d_Arrays_fill_f26_7 (tgt := 20) rfl (fun h9 => absurd h9 (by decide)) (fun _ => ?_)
  refine lv_aload_n hx hb d_Arrays_fill_f26_10 rfl (lv_at hl 2 rfl) ?_
  refine lv_iload_n hx hb d_Arrays_fill_f26_11 rfl (lv_at hl 0 rfl) ?_
  refine lv_iload_n hx hb d_Arrays_fill_f26_12 rfl (lv_at hl 3 rfl) ?_
  refine va_iast hx hb hK hP hD hS 0 1 rfl rfl (by unfold vp_in; decide) d_Arrays_fill_f26_13 (fun H locs hP hD hS => ?_)
  have hP : va_P D vwCl [(b, .inl (dA 1, 64, .inl (upd (upd (upd (upd (upd (upd (upd (upd (upd (upd (upd (upd (upd g 0 0) 1 0) 2 0) 3 0) 4 0) 5 0) 6 0) 7 0) 8 0) 9 0) 10 0) 11 0) 12 0)))] H := hP
  have hD : va_D A [(b, .inl (dA 1, 64, .inl (upd (upd (upd (upd (upd (upd (upd (upd (upd (upd (upd (upd (upd g 0 0) 1 0) 2 0) 3 0) 4 0) 5 0) 6 0) 7 0) 8 0) 9 0) 10 0) 11 0) 12 0)))] := hD
  refine lv_iinc (k := 0) (v := 13) hx hb d_Arrays_fill_f26_14 hl rfl (by decide) (by decide) rfl (fun ls hl => ?_)
  have hl : lv_has ls 4 [(2, .int 13), (3, .int 64), (0, .ref b), (1, .int 0)] := hl
  refine lv_goto hx hb d_Arrays_fill_f26_17 (tgt := 5) rfl ?_
  refine lv_iload_n hx hb d_Arrays_fill_f26_5 rfl (lv_at hl 0 rfl) ?_
  refine lv_iload_n hx hb d_Arrays_fill_f26_6 rfl (lv_at hl 1 rfl) ?_
  refine lv_icmp_ge hx hb d_Arrays_fill_f26_7 (tgt := 20) rfl (fun h9 => absurd h9 (by decide)) (fun _ => ?_)
  refine lv_aload_n hx hb d_Arrays_fill_f26_10 rfl (lv_at hl 2 rfl) ?_
  refine lv_iload_n hx hb d_Arrays_fill_f26_11 rfl (lv_at hl 0 rfl) ?_
  refine lv_iload_n hx hb d_Arrays_fill_f26_12 rfl (lv_at hl 3 rfl) ?_
  refine va_iast hx hb hK hP hD hS 0 1 rfl rfl (by unfold vp_in; decide) d_Arrays_fill_f26_13 (fun H locs hP hD hS => ?_)
  have hP : va_P D vwCl [(b, .inl (dA 1, 64, .inl (upd (upd (upd (upd (upd (upd (upd (upd (upd (upd (upd (upd (upd (upd g 0 0) 1 0) 2 0) 3 0) 4 0) 5 0) 6 0) 7 0) 8 0) 9 0) 10 0) 11 0) 12 0) 13 0)))] H := hP
  have hD : va_D A [(b, .inl (dA 1, 64, .inl (upd (upd (upd (upd (upd (upd (upd (upd (upd (upd (upd (upd (upd (upd g 0 0) 1 0) 2 0) 3 0) 4 0) 5 0) 6 0) 7 0) 8 0) 9 0) 10 0) 11 0) 12 0) 13 0)))] := hD
  refine lv_iinc (k := 0) (v := 14) hx hb d_Arrays_fill_f26_14 hl rfl (by decide) (by decide) rfl (fun ls hl => ?_)
  have hl : lv_has ls 4 [(2, .int 14), (3, .int 64), (0, .ref b), (1, .int 0)] := hl
  refine lv_goto hx hb d_Arrays_fill_f26_17 (tgt := 5) rfl ?_
  refine lv_iload_n hx hb d_Arrays_fill_f26_5 rfl (lv_at hl 0 rfl) ?_
  refine lv_iload_n hx hb d_Arrays_fill_f26_6 rfl (lv_at hl 1 rfl) ?_
  refine lv_icmp_ge hx hb d_Arrays_fill_f26_7 (tgt := 20) rfl (fun h9 => absurd h9 (by decide)) (fun _ => ?_)
  refine lv_aload_n hx hb d_Arrays_fill_f26_10 rfl (lv_at hl 2 rfl) ?_
  refine lv_iload_n hx hb d_Arrays_fill_f26_11 rfl (lv_at hl 0 rfl) ?_
  refine lv_iload_n hx hb d_Arrays_fill_f26_12 rfl (lv_at hl 3 rfl) ?_
  refine va_iast hx hb hK hP hD hS 0 1 rfl rfl (by unfold vp_in; decide) d_Arrays_fill_f26_13 (fun H locs hP hD hS => ?_)
  have hP : va_P D vwCl [(b, .inl (dA 1, 64, .inl (upd (upd (upd (upd (upd (upd (upd (upd (upd (upd (upd (upd (upd (upd (upd g 0 0) 1 0) 2 0) 3 0) 4 0) 5 0) 6 0) 7 0) 8 0) 9 0) 10 0) 11 0) 12 0) 13 0) 14 0)))] H := hP
  have hD : va_D A [(b, .inl (dA 1, 64, .inl (upd (upd (upd (upd (upd (upd (upd (upd (upd (upd (upd (upd (upd (upd (upd g 0 0) 1 0) 2 0) 3 0) 4 0) 5 0) 6 0) 7 0) 8 0) 9 0) 10 0) 11 0) 12 0) 13 0) 14 0)))] := hD
  refine lv_iinc (k := 0) (v := 15) hx hb d_Arrays_fill_f26_14 hl rfl (by decide) (by decide) rfl (fun ls hl => ?_)
  have hl : lv_has ls 4 [(2, .int 15), (3, .int 64), (0, .ref b), (1, .int 0)] := hl
  refine lv_goto hx hb d_Arrays_fill_f26_17 (tgt := 5) rfl ?_
  refine lv_iload_n hx hb d_Arrays_fill_f26_5 rfl (lv_at hl 0 rfl) ?_
  refine lv_iload_n hx hb d_Arrays_fill_f26_6 rfl (lv_at hl 1 rfl) ?_
  refine lv_icmp_ge hx hb d_Arrays_fill_f26_7 (tgt := 20) rfl (fun h9 => absurd h9 (by decide)) (fun _ => ?_)
  refine lv_aload_n hx hb d_Arrays_fill_f26_10 rfl (lv_at hl 2 rfl) ?_
  refine lv_iload_n hx hb d_Arrays_fill_f26_11 rfl (lv_at hl 0 rfl) ?_
  refine lv_iload_n hx hb d_Arrays_fill_f26_12 rfl (lv_at hl 3 rfl) ?_
  refine va_iast hx hb hK hP hD hS 0 1 rfl rfl (by unfold vp_in; decide) d_Arrays_fill_f26_13 (fun H locs hP hD hS => ?_)
  have hP : va_P D vwCl [(b, .inl (dA 1, 64, .inl (upd (upd (upd (upd (upd (upd (upd (upd (upd (upd (upd (upd (upd (upd (upd (upd g 0 0) 1 0) 2 0) 3 0) 4 0) 5 0) 6 0) 7 0) 8 0) 9 0) 10 0) 11 0) 12 0) 13 0) 14 0) 15 0)))] H := hP
  have hD : va_D A [(b, .inl (dA 1, 64, .inl (upd (upd (upd (upd (upd (upd (upd (upd (upd (upd (upd (upd (upd (upd (upd (upd g 0 0) 1 0) 2 0) 3 0) 4 0) 5 0) 6 0) 7 0) 8 0) 9 0) 10 0) 11 0) 12 0) 13 0) 14 0) 15 0)))] := hD
  refine lv_iinc (k := 0) (v := 16) hx hb d_Arrays_fill_f26_14 hl rfl (by decide) (by decide) rfl (fun ls hl => ?_)
  have hl : lv_has ls 4 [(2, .int 16), (3, .int 64), (0, .ref b), (1, .int 0)] := hl
  refine lv_goto hx hb d_Arrays_fill_f26_17 (tgt := 5) rfl ?_
  refine lv_iload_n hx hb d_Arrays_fill_f26_5 rfl (lv_at hl 0 rfl) ?_
  refine lv_iload_n hx hb d_Arrays_fill_f26_6 rfl (lv_at hl 1 rfl) ?_
  refine lv_icmp_ge hx hb d_Arrays_fill_f26_7 (tgt := 20) rfl (fun h9 => absurd h9 (by decide)) (fun _ => ?_)
  refine lv_aload_n hx hb d_Arrays_fill_f26_10 rfl (lv_at hl 2 rfl) ?_
  refine lv_iload_n hx hb d_Arrays_fill_f26_11 rfl (lv_at hl 0 rfl) ?_
  refine lv_iload_n hx hb d_Arrays_fill_f26_12 rfl (lv_at hl 3 rfl) ?_
  refine va_iast hx hb hK hP hD hS 0 1 rfl rfl (by unfold vp_in; decide) d_Arrays_fill_f26_13 (fun H locs hP hD hS => ?_)
  have hP : va_P D vwCl [(b, .inl (dA 1, 64, .inl (upd (upd (upd (upd (upd (upd (upd (upd (upd (upd (upd (upd (upd (upd (upd (upd (upd g 0 0) 1 0) 2 0) 3 0) 4 0) 5 0) 6 0) 7 0) 8 0) 9 0) 10 0) 11 0) 12 0) 13 0) 14 0) 15 0) 16 0)))] H := hP
  have hD : va_D A [(b, .inl (dA 1, 64, .inl (upd (upd (upd (upd (upd (upd (upd (upd (upd (upd (upd (upd (upd (upd (upd (upd (upd g 0 0) 1 0) 2 0) 3 0) 4 0) 5 0) 6 0) 7 0) 8 0) 9 0) 10 0) 11 0) 12 0) 13 0) 14 0) 15 0) 16 0)))] := hD
  refine lv_iinc (k := 0) (v := 17) hx hb d_Arrays_fill_f26_14 hl rfl (by decide) (by decide) rfl (fun ls hl => ?_)
  have hl : lv_has ls 4 [(2, .int 17), (3, .int 64), (0, .ref b), (1, .int 0)] := hl
  refine lv_goto hx hb d_Arrays_fill_f26_17 (tgt := 5) rfl ?_
  refine lv_iload_n hx hb d_Arrays_fill_f26_5 rfl (lv_at hl 0 rfl) ?_
  refine lv_iload_n hx hb d_Arrays_fill_f26_6 rfl (lv_at hl 1 rfl) ?_
  refine lv_icmp_ge hx hb d_Arrays_fill_f26_7 (tgt := 20) rfl (fun h9 => absurd h9 (by decide)) (fun _ => ?_)
  refine lv_aload_n hx hb d_Arrays_fill_f26_10 rfl (lv_at hl 2 rfl) ?_
  refine lv_iload_n hx hb d_Arrays_fill_f26_11 rfl (lv_at hl 0 rfl) ?_
  refine lv_iload_n hx hb d_Arrays_fill_f26_12 rfl (lv_at hl 3 rfl) ?_
  refine va_iast hx hb hK hP hD hS 0 1 rfl rfl (by unfold vp_in; decide) d_Arrays_fill_f26_13 (fun H locs hP hD hS => ?_)
  have hP : va_P D vwCl [(b, .inl (dA 1, 64, .inl (upd (upd (upd (upd (upd (upd (upd (upd (upd (upd (upd (upd (upd (upd (upd (upd (upd (upd g 0 0) 1 0) 2 0) 3 0) 4 0) 5 0) 6 0) 7 0) 8 0) 9 0) 10 0) 11 0) 12 0) 13 0) 14 0) 15 0) 16 0) 17 0)))] H := hP
  have hD : va_D A [(b, .inl (dA 1, 64, .inl (upd (upd (upd (upd (upd (upd (upd (upd (upd (upd (upd (upd (upd (upd (upd (upd (upd (upd g 0 0) 1 0) 2 0) 3 0) 4 0) 5 0) 6 0) 7 0) 8 0) 9 0) 10 0) 11 0) 12 0) 13 0) 14 0) 15 0) 16 0) 17 0)))] := hD
  refine lv_iinc (k := 0) (v := 18) hx hb d_Arrays_fill_f26_14 hl rfl (by decide) (by decide) rfl (fun ls hl => ?_)
  have hl : lv_has ls 4 [(2, .int 18), (3, .int 64), (0, .ref b), (1, .int 0)] := hl
  refine lv_goto hx hb d_Arrays_fill_f26_17 (tgt := 5) rfl ?_
  refine lv_iload_n hx hb d_Arrays_fill_f26_5 rfl (lv_at hl 0 rfl) ?_
  refine lv_iload_n hx hb d_Arrays_fill_f26_6 rfl (lv_at hl 1 rfl) ?_
  refine lv_icmp_ge hx hb d_Arrays_fill_f26_7 (tgt := 20) rfl (fun h9 => absurd h9 (by decide)) (fun _ => ?_)
  refine lv_aload_n hx hb d_Arrays_fill_f26_10 rfl (lv_at hl 2 rfl) ?_
  refine lv_iload_n hx hb d_Arrays_fill_f26_11 rfl (lv_at hl 0 rfl) ?_
  refine lv_iload_n hx hb d_Arrays_fill_f26_12 rfl (lv_at hl 3 rfl) ?_
  refine va_iast hx hb hK hP hD hS 0 1 rfl rfl (by unfold vp_in; decide) d_Arrays_fill_f26_13 (fun H locs hP hD hS => ?_)
  have hP : va_P D vwCl [(b, .inl (dA 1, 64, .inl (upd (upd (upd (upd (upd (upd (upd (upd (upd (upd (upd (upd (upd (upd (upd (upd (upd (upd (upd g 0 0) 1 0) 2 0) 3 0) 4 0) 5 0) 6 0) 7 0) 8 0) 9 0) 10 0) 11 0) 12 0) 13 0) 14 0) 15 0) 16 0) 17 0) 18 0)))] H := hP
  have hD : va_D A [(b, .inl (dA 1, 64, .inl (upd (upd (upd (upd (upd (upd (upd (upd (upd (upd (upd (upd (upd (upd (upd (upd (upd (upd (upd g 0 0) 1 0) 2 0) 3 0) 4 0) 5 0) 6 0) 7 0) 8 0) 9 0) 10 0) 11 0) 12 0) 13 0) 14 0) 15 0) 16 0) 17 0) 18 0)))] := hD
  refine lv_iinc (k := 0) (v := 19) hx hb d_Arrays_fill_f26_14 hl rfl (by decide) (by decide) rfl (fun ls hl => ?_)
  have hl : lv_has ls 4 [(2, .int 19), (3, .int 64), (0, .ref b), (1, .int 0)] := hl
  refine lv_goto hx hb d_Arrays_fill_f26_17 (tgt := 5) rfl ?_
  refine lv_iload_n hx hb d_Arrays_fill_f26_5 rfl (lv_at hl 0 rfl) ?_
  refine lv_iload_n hx hb d_Arrays_fill_f26_6 rfl (lv_at hl 1 rfl) ?_
  refine lv_icmp_ge hx hb d_Arrays_fill_f26_7 (tgt := 20) rfl (fun h9 => absurd h9 (by decide)) (fun _ => ?_)
  refine lv_aload_n hx hb d_Arrays_fill_f26_10 rfl (lv_at hl 2 rfl) ?_
  refine lv_iload_n hx hb d_Arrays_fill_f26_11 rfl (lv_at hl 0 rfl) ?_
  refine lv_iload_n hx hb d_Arrays_fill_f26_12 rfl (lv_at hl 3 rfl) ?_
  refine va_iast hx hb hK hP hD hS 0 1 rfl rfl (by unfold vp_in; decide) d_Arrays_fill_f26_13 (fun H locs hP hD hS => ?_)
  have hP : va_P D vwCl [(b, .inl (dA 1, 64, .inl (upd (upd (upd (upd (upd (upd (upd (upd (upd (upd (upd (upd (upd (upd (upd (upd (upd (upd (upd (upd g 0 0) 1 0) 2 0) 3 0) 4 0) 5 0) 6 0) 7 0) 8 0) 9 0) 10 0) 11 0) 12 0) 13 0) 14 0) 15 0) 16 0) 17 0) 18 0) 19 0)))] H := hP
  have hD : va_D A [(b, .inl (dA 1, 64, .inl (upd (upd (upd (upd (upd (upd (upd (upd (upd (upd (upd (upd (upd (upd (upd (upd (upd (upd (upd (upd g 0 0) 1 0) 2 0) 3 0) 4 0) 5 0) 6 0) 7 0) 8 0) 9 0) 10 0) 11 0) 12 0) 13 0) 14 0) 15 0) 16 0) 17 0) 18 0) 19 0)))] := hD
  refine lv_iinc (k := 0) (v := 20) hx hb d_Arrays_fill_f26_14 hl rfl (by decide) (by decide) rfl (fun ls hl => ?_)
  have hl : lv_has ls 4 [(2, .int 20), (3, .int 64), (0, .ref b), (1, .int 0)] := hl
  refine lv_goto hx hb d_Arrays_fill_f26_17 (tgt := 5) rfl ?_
  refine lv_iload_n hx hb d_Arrays_fill_f26_5 rfl (lv_at hl 0 rfl) ?_
  refine lv_iload_n hx hb d_Arrays_fill_f26_6 rfl (lv_at hl 1 rfl) ?_
  refine lv_icmp_ge hx hb d_Arrays_fill_f26_7 (tgt := 20) rfl (fun h9 => absurd h9 (by decide)) (fun _ => ?_)
  refine lv_aload_n hx hb d_Arrays_fill_f26_10 rfl (lv_at hl 2 rfl) ?_
  refine lv_iload_n hx hb d_Arrays_fill_f26_11 rfl (lv_at hl 0 rfl) ?_
  refine lv_iload_n hx hb d_Arrays_fill_f26_12 rfl (lv_at hl 3 rfl) ?_
  refine va_iast hx hb hK hP hD hS 0 1 rfl rfl (by unfold vp_in; decide) d_Arrays_fill_f26_13 (fun H locs hP hD hS => ?_)
  have hP : va_P D vwCl [(b, .inl (dA 1, 64, .inl (upd (upd (upd (upd (upd (upd (upd (upd (upd (upd (upd (upd (upd (upd (upd (upd (upd (upd (upd (upd (upd g 0 0) 1 0) 2 0) 3 0) 4 0) 5 0) 6 0) 7 0) 8 0) 9 0) 10 0) 11 0) 12 0) 13 0) 14 0) 15 0) 16 0) 17 0) 18 0) 19 0) 20 0)))] H := hP
  have hD : va_D A [(b, .inl (dA 1, 64, .inl (upd (upd (upd (upd (upd (upd (upd (upd (upd (upd (upd (upd (upd (upd (upd (upd (upd (upd (upd (upd (upd g 0 0) 1 0) 2 0) 3 0) 4 0) 5 0) 6 0) 7 0) 8 0) 9 0) 10 0) 11 0) 12 0) 13 0) 14 0) 15 0) 16 0) 17 0) 18 0) 19 0) 20 0)))] := hD
  refine lv_iinc (k := 0) (v := 21) hx hb d_Arrays_fill_f26_14 hl rfl (by decide) (by decide) rfl (fun ls hl => ?_)
  have hl : lv_has ls 4 [(2, .int 21), (3, .int 64), (0, .ref b), (1, .int 0)] := hl
  refine lv_goto hx hb d_Arrays_fill_f26_17 (tgt := 5) rfl ?_
  refine lv_iload_n hx hb d_Arrays_fill_f26_5 rfl (lv_at hl 0 rfl) ?_
  refine lv_iload_n hx hb d_Arrays_fill_f26_6 rfl (lv_at hl 1 rfl) ?_
  refine lv_icmp_ge hx hb d_Arrays_fill_f26_7 (tgt := 20) rfl (fun h9 => absurd h9 (by decide)) (fun _ => ?_)
  refine lv_aload_n hx hb d_Arrays_fill_f26_10 rfl (lv_at hl 2 rfl) ?_
  refine lv_iload_n hx hb d_Arrays_fill_f26_11 rfl (lv_at hl 0 rfl) ?_
  refine lv_iload_n hx hb d_Arrays_fill_f26_12 rfl (lv_at hl 3 rfl) ?_
  refine va_iast hx hb hK hP hD hS 0 1 rfl rfl (by unfold vp_in; decide) d_Arrays_fill_f26_13 (fun H locs hP hD hS => ?_)
  have hP : va_P D vwCl [(b, .inl (dA 1, 64, .inl (upd (upd (upd (upd (upd (upd (upd (upd (upd (upd (upd (upd (upd (upd (upd (upd (upd (upd (upd (upd (upd (upd g 0 0) 1 0) 2 0) 3 0) 4 0) 5 0) 6 0) 7 0) 8 0) 9 0) 10 0) 11 0) 12 0) 13 0) 14 0) 15 0) 16 0) 17 0) 18 0) 19 0) 20 0) 21 0)))] H := hP
  have hD : va_D A [(b, .inl (dA 1, 64, .inl (upd (upd (upd (upd (upd (upd (upd (upd (upd (upd (upd (upd (upd (upd (upd (upd (upd (upd (upd (upd (upd (upd g 0 0) 1 0) 2 0) 3 0) 4 0) 5 0) 6 0) 7 0) 8 0) 9 0) 10 0) 11 0) 12 0) 13 0) 14 0) 15 0) 16 0) 17 0) 18 0) 19 0) 20 0) 21 0)))] := hD
  refine lv_iinc (k := 0) (v := 22) hx hb d_Arrays_fill_f26_14 hl rfl (by decide) (by decide) rfl (fun ls hl => ?_)
  have hl : lv_has ls 4 [(2, .int 22), (3, .int 64), (0, .ref b), (1, .int 0)] := hl
  refine lv_goto hx hb d_Arrays_fill_f26_17 (tgt := 5) rfl ?_
  refine lv_iload_n hx hb d_Arrays_fill_f26_5 rfl (lv_at hl 0 rfl) ?_
  refine lv_iload_n hx hb d_Arrays_fill_f26_6 rfl (lv_at hl 1 rfl) ?_
  refine lv_icmp_ge hx hb d_Arrays_fill_f26_7 (tgt := 20) rfl (fun h9 => absurd h9 (by decide)) (fun _ => ?_)
  refine lv_aload_n hx hb d_Arrays_fill_f26_10 rfl (lv_at hl 2 rfl) ?_
  refine lv_iload_n hx hb d_Arrays_fill_f26_11 rfl (lv_at hl 0 rfl) ?_
  refine lv_iload_n hx hb d_Arrays_fill_f26_12 rfl (lv_at hl 3 rfl) ?_
  refine va_iast hx hb hK hP hD hS 0 1 rfl rfl (by unfold vp_in; decide) d_Arrays_fill_f26_13 (fun H locs hP hD hS => ?_)
  have hP : va_P D vwCl [(b, .inl (dA 1, 64, .inl (upd (upd (upd (upd (upd (upd (upd (upd (upd (upd (upd (upd (upd (upd (upd (upd (upd (upd (upd (upd (upd (upd (upd g 0 0) 1 0) 2 0) 3 0) 4 0) 5 0) 6 0) 7 0) 8 0) 9 0) 10 0) 11 0) 12 0) 13 0) 14 0) 15 0) 16 0) 17 0) 18 0) 19 0) 20 0) 21 0) 22 0)))] H := hP
  have hD : va_D A [(b, .inl (dA 1, 64, .inl (upd (upd (upd (upd (upd (upd (upd (upd (upd (upd (upd (upd (upd (upd (upd (upd (upd (upd (upd (upd (upd (upd (upd g 0 0) 1 0) 2 0) 3 0) 4 0) 5 0) 6 0) 7 0) 8 0) 9 0) 10 0) 11 0) 12 0) 13 0) 14 0) 15 0) 16 0) 17 0) 18 0) 19 0) 20 0) 21 0) 22 0)))] := hD
  refine lv_iinc (k := 0) (v := 23) hx hb d_Arrays_fill_f26_14 hl rfl (by decide) (by decide) rfl (fun ls hl => ?_)
  have hl : lv_has ls 4 [(2, .int 23), (3, .int 64), (0, .ref b), (1, .int 0)] := hl
  refine lv_goto hx hb d_Arrays_fill_f26_17 (tgt := 5) rfl ?_
  refine lv_iload_n hx hb d_Arrays_fill_f26_5 rfl (lv_at hl 0 rfl) ?_
  refine lv_iload_n hx hb d_Arrays_fill_f26_6 rfl (lv_at hl 1 rfl) ?_
  refine lv_icmp_ge hx hb d_Arrays_fill_f26_7 (tgt := 20) rfl (fun h9 => absurd h9 (by decide)) (fun _ => ?_)
  refine lv_aload_n hx hb d_Arrays_fill_f26_10 rfl (lv_at hl 2 rfl) ?_
  refine lv_iload_n hx hb d_Arrays_fill_f26_11 rfl (lv_at hl 0 rfl) ?_
  refine lv_iload_n hx hb d_Arrays_fill_f26_12 rfl (lv_at hl 3 rfl) ?_
  refine va_iast hx hb hK hP hD hS 0 1 rfl rfl (by unfold vp_in; decide) d_Arrays_fill_f26_13 (fun H locs hP hD hS => ?_)
  have hP : va_P D vwCl [(b, .inl (dA 1, 64, .inl (upd (upd (upd (upd (upd (upd (upd (upd (upd (upd (upd (upd (upd (upd (upd (upd (upd (upd (upd (upd (upd (upd (upd (upd g 0 0) 1 0) 2 0) 3 0) 4 0) 5 0) 6 0) 7 0) 8 0) 9 0) 10 0) 11 0) 12 0) 13 0) 14 0) 15 0) 16 0) 17 0) 18 0) 19 0) 20 0) 21 0) 22 0) 23 0)))] H := hP
  have hD : va_D A [(b, .inl (dA 1, 64, .inl (upd (upd (upd (upd (upd (upd (upd (upd (upd (upd (upd (upd (upd (upd (upd (upd (upd (upd (upd (upd (upd (upd (upd (upd g 0 0) 1 0) 2 0) 3 0) 4 0) 5 0) 6 0) 7 0) 8 0) 9 0) 10 0) 11 0) 12 0) 13 0) 14 0) 15 0) 16 0) 17 0) 18 0) 19 0) 20 0) 21 0) 22 0) 23 0)))] := hD
  refine lv_iinc (k := 0) (v := 24) hx hb d_Arrays_fill_f26_14 hl rfl (by decide) (by decide) rfl (fun ls hl => ?_)
  have hl : lv_has ls 4 [(2, .int 24), (3, .int 64), (0, .ref b), (1, .int 0)] := hl
  refine lv_goto hx hb d_Arrays_fill_f26_17 (tgt := 5) rfl ?_
  refine lv_iload_n hx hb d_Arrays_fill_f26_5 rfl (lv_at hl 0 rfl) ?_
  refine lv_iload_n hx hb d_Arrays_fill_f26_6 rfl (lv_at hl 1 rfl) ?_
  refine lv_icmp_ge hx hb d_Arrays_fill_f26_7 (tgt := 20) rfl (fun h9 => absurd h9 (by decide)) (fun _ => ?_)
  refine lv_aload_n hx hb d_Arrays_fill_f26_10 rfl (lv_at hl 2 rfl) ?_
  refine lv_iload_n hx hb d_Arrays_fill_f26_11 rfl (lv_at hl 0 rfl) ?_
  refine lv_iload_n hx hb d_Arrays_fill_f26_12 rfl (lv_at hl 3 rfl) ?_
  refine va_iast hx hb hK hP hD hS 0 1 rfl rfl (by unfold vp_in; decide) d_Arrays_fill_f26_13 (fun H locs hP hD hS => ?_)
  have hP : va_P D vwCl [(b, .inl (dA 1, 64, .inl (upd (upd (upd (upd (upd (upd (upd (upd (upd (upd (upd (upd (upd (upd (upd (upd (upd (upd (upd (upd (upd (upd (upd (upd (upd g 0 0) 1 0) 2 0) 3 0) 4 0) 5 0) 6 0) 7 0) 8 0) 9 0) 10 0) 11 0) 12 0) 13 0) 14 0) 15 0) 16 0) 17 0) 18 0) 19 0) 20 0) 21 0) 22 0) 23 0) 24 0)))] H := hP
  have hD : va_D A [(b, .inl (dA 1, 64, .inl (upd (upd (upd (upd (upd (upd (upd (upd (upd (upd (upd (upd (upd (upd (upd (upd (upd (upd (upd (upd (upd (upd (upd (upd (upd g 0 0) 1 0) 2 0) 3 0) 4 0) 5 0) 6 0) 7 0) 8 0) 9 0) 10 0) 11 0) 12 0) 13 0) 14 0) 15 0) 16 0) 17 0) 18 0) 19 0) 20 0) 21 0) 22 0) 23 0) 24 0)))] := hD
  refine lv_iinc (k := 0) (v := 25) hx hb d_Arrays_fill_f26_14 hl rfl (by decide) (by decide) rfl (fun ls hl => ?_)
  have hl : lv_has ls 4 [(2, .int 25), (3, .int 64), (0, .ref b), (1, .int 0)] := hl
  refine lv_goto hx hb d_Arrays_fill_f26_17 (tgt := 5) rfl ?_
  refine lv_iload_n hx hb d_Arrays_fill_f26_5 rfl (lv_at hl 0 rfl) ?_
  refine lv_iload_n hx hb d_Arrays_fill_f26_6 rfl (lv_at hl 1 rfl) ?_
  refine lv_icmp_ge hx hb d_Arrays_fill_f26_7 (tgt := 20) rfl (fun h9 => absurd h9 (by decide)) (fun _ => ?_)
  refine lv_aload_n hx hb d_Arrays_fill_f26_10 rfl (lv_at hl 2 rfl) ?_
  refine lv_iload_n hx hb d_Arrays_fill_f26_11 rfl (lv_at hl 0 rfl) ?_
  refine lv_iload_n hx hb d_Arrays_fill_f26_12 rfl (lv_at hl 3 rfl) ?_
  refine va_iast hx hb hK hP hD hS 0 1 rfl rfl (by unfold vp_in; decide) d_Arrays_fill_f26_13 (fun H locs hP hD hS => ?_)
  have hP : va_P D vwCl [(b, .inl (dA 1, 64, .inl (upd (upd (upd (upd (upd (upd (upd (upd (upd (upd (upd (upd (upd (upd (upd (upd (upd (upd (upd (upd (upd (upd (upd (upd (upd (upd g 0 0) 1 0) 2 0) 3 0) 4 0) 5 0) 6 0) 7 0) 8 0) 9 0) 10 0) 11 0) 12 0) 13 0) 14 0) 15 0) 16 0) 17 0) 18 0) 19 0) 20 0) 21 0) 22 0) 23 0) 24 0) 25 0)))] H := hP
  have hD : va_D A [(b, .inl (dA 1, 64, .inl (upd (upd (upd (upd (upd (upd (upd (upd (upd (upd (upd (upd (upd (upd (upd (upd (upd (upd (upd (upd (upd (upd (upd (upd (upd (upd g 0 0) 1 0) 2 0) 3 0) 4 0) 5 0) 6 0) 7 0) 8 0) 9 0) 10 0) 11 0) 12 0) 13 0) 14 0) 15 0) 16 0) 17 0) 18 0) 19 0) 20 0) 21 0) 22 0) 23 0) 24 0) 25 0)))] := hD
  refine lv_iinc (k := 0) (v := 26) hx hb d_Arrays_fill_f26_14 hl rfl (by decide) (by decide) rfl (fun ls hl => ?_)
  have hl : lv_has ls 4 [(2, .int 26), (3, .int 64), (0, .ref b), (1, .int 0)] := hl
  refine lv_goto hx hb d_Arrays_fill_f26_17 (tgt := 5) rfl ?_
  refine lv_iload_n hx hb d_Arrays_fill_f26_5 rfl (lv_at hl 0 rfl) ?_
  refine lv_iload_n hx hb d_Arrays_fill_f26_6 rfl (lv_at hl 1 rfl) ?_
  refine lv_icmp_ge hx hb d_Arrays_fill_f26_7 (tgt := 20) rfl (fun h9 => absurd h9 (by decide)) (fun _ => ?_)
  refine lv_aload_n hx hb d_Arrays_fill_f26_10 rfl (lv_at hl 2 rfl) ?_
  refine lv_iload_n hx hb d_Arrays_fill_f26_11 rfl (lv_at hl 0 rfl) ?_
  refine lv_iload_n hx hb d_Arrays_fill_f26_12 rfl (lv_at hl 3 rfl) ?_
  refine va_iast hx hb hK hP hD hS 0 1 rfl rfl (by unfold vp_in; decide) d_Arrays_fill_f26_13 (fun H locs hP hD hS => ?_)
  have hP : va_P D vwCl [(b, .inl (dA 1, 64, .inl (upd (upd (upd (upd (upd (upd (upd (upd (upd (upd (upd (upd (upd (upd (upd (upd (upd (upd (upd (upd (upd (upd (upd (upd (upd (upd (upd g 0 0) 1 0) 2 0) 3 0) 4 0) 5 0) 6 0) 7 0) 8 0) 9 0) 10 0) 11 0) 12 0) 13 0) 14 0) 15 0) 16 0) 17 0) 18 0) 19 0) 20 0) 21 0) 22 0) 23 0) 24 0) 25 0) 26 0)))] H := hP
  have hD : va_D A [(b, .inl (dA 1, 64, .inl (upd (upd (upd (upd (upd (upd (upd (upd (upd (upd (upd (upd (upd (upd (upd (upd (upd (upd (upd (upd (upd (upd (upd (upd (upd (upd (upd g 0 0) 1 0) 2 0) 3 0) 4 0) 5 0) 6 0) 7 0) 8 0) 9 0) 10 0) 11 0) 12 0) 13 0) 14 0) 15 0) 16 0) 17 0) 18 0) 19 0) 20 0) 21 0) 22 0) 23 0) 24 0) 25 0) 26 0)))] := hD
  refine lv_iinc (k := 0) (v := 27) hx hb d_Arrays_fill_f26_14 hl rfl (by decide) (by decide) rfl (fun ls hl => ?_)
  have hl : lv_has ls 4 [(2, .int 27), (3, .int 64), (0, .ref b), (1, .int 0)] := hl
  refine lv_goto hx hb d_Arrays_fill_f26_17 (tgt := 5) rfl ?_
  refine lv_iload_n hx hb d_Arrays_fill_f26_5 rfl (lv_at hl 0 rfl) ?_
  refine lv_iload_n hx hb d_Arrays_fill_f26_6 rfl (lv_at hl 1 rfl) ?_
  refine lv_icmp_ge hx hb d_Arrays_fill_f26_7 (tgt := 20) rfl (fun h9 => absurd h9 (by decide)) (fun _ => ?_)
  refine lv_aload_n hx hb d_Arrays_fill_f26_10 rfl (lv_at hl 2 rfl) ?_
  refine lv_iload_n hx hb d_Arrays_fill_f26_11 rfl (lv_at hl 0 rfl) ?_
  refine lv_iload_n hx hb d_Arrays_fill_f26_12 rfl (lv_at hl 3 rfl) ?_
  refine va_iast hx hb hK hP hD hS 0 1 rfl rfl (by unfold vp_in; decide) d_Arrays_fill_f26_13 (fun H locs hP hD hS => ?_)
  have hP : va_P D vwCl [(b, .inl (dA 1, 64, .inl (upd (upd (upd (upd (upd (upd (upd (upd (upd (upd (upd (upd (upd (upd (upd (upd (upd (upd (upd (upd (upd (upd (upd (upd (upd (upd (upd (upd g 0 0) 1 0) 2 0) 3 0) 4 0) 5 0) 6 0) 7 0) 8 0) 9 0) 10 0) 11 0) 12 0) 13 0) 14 0) 15 0) 16 0) 17 0) 18 0) 19 0) 20 0) 21 0) 22 0) 23 0) 24 0) 25 0) 26 0) 27 0)))] H := hP
  have hD : va_D A [(b, .inl (dA 1, 64, .inl (upd (upd (upd (upd (upd (upd (upd (upd (upd (upd (upd (upd (upd (upd (upd (upd (upd (upd (upd (upd (upd (upd (upd (upd (upd (upd (upd (upd g 0 0) 1 0) 2 0) 3 0) 4 0) 5 0) 6 0) 7 0) 8 0) 9 0) 10 0) 11 0) 12 0) 13 0) 14 0) 15 0) 16 0) 17 0) 18 0) 19 0) 20 0) 21 0) 22 0) 23 0) 24 0) 25 0) 26 0) 27 0)))] := hD
  refine lv_iinc (k := 0) (v := 28) hx hb d_Arrays_fill_f26_14 hl rfl (by decide) (by decide) rfl (fun ls hl => ?_)
  have hl : lv_has ls 4 [(2, .int 28), (3, .int 64), (0, .ref b), (1, .int 0)] := hl
  refine lv_goto hx hb d_Arrays_fill_f26_17 (tgt := 5) rfl ?_
  refine lv_iload_n hx hb d_Arrays_fill_f26_5 rfl (lv_at hl 0 rfl) ?_
  refine lv_iload_n hx hb d_Arrays_fill_f26_6 rfl (lv_at hl 1 rfl) ?_
  refine lv_icmp_ge hx hb d_Arrays_fill_f26_7 (tgt := 20) rfl (fun h9 => absurd h9 (by decide)) (fun _ => ?_)
  refine lv_aload_n hx hb d_Arrays_fill_f26_10 rfl (lv_at hl 2 rfl) ?_
  refine lv_iload_n hx hb d_Arrays_fill_f26_11 rfl (lv_at hl 0 rfl) ?_
  refine lv_iload_n hx hb d_Arrays_fill_f26_12 rfl (lv_at hl 3 rfl) ?_
  refine va_iast hx hb hK hP hD hS 0 1 rfl rfl (by unfold vp_in; decide) d_Arrays_fill_f26_13 (fun H locs hP hD hS => ?_)
  have hP : va_P D vwCl [(b, .inl (dA 1, 64, .inl (upd (upd (upd (upd (upd (upd (upd (upd (upd (upd (upd (upd (upd (upd (upd (upd (upd (upd (upd (upd (upd (upd (upd (upd (upd (upd (upd (upd (upd g 0 0) 1 0) 2 0) 3 0) 4 0) 5 0) 6 0) 7 0) 8 0) 9 0) 10 0) 11 0) 12 0) 13 0) 14 0) 15 0) 16 0) 17 0) 18 0) 19 0) 20 0) 21 0) 22 0) 23 0) 24 0) 25 0) 26 0) 27 0) 28 0)))] H := hP
  have hD : va_D A [(b, .inl (dA 1, 64, .inl (upd (upd (upd (upd (upd (upd (upd (upd (upd (upd (upd (upd (upd (upd (upd (upd (upd (upd (upd (upd (upd (upd (upd (upd (upd (upd (upd (upd (upd g 0 0) 1 0) 2 0) 3 0) 4 0) 5 0) 6 0) 7 0) 8 0) 9 0) 10 0) 11 0) 12 0) 13 0) 14 0) 15 0) 16 0) 17 0) 18 0) 19 0) 20 0) 21 0) 22 0) 23 0) 24 0) 25 0) 26 0) 27 0) 28 0)))] := hD
  refine lv_iinc (k := 0) (v := 29) hx hb d_Arrays_fill_f26_14 hl rfl (by decide) (by decide) rfl (fun ls hl => ?_)
  have hl : lv_has ls 4 [(2, .int 29), (3, .int 64), (0, .ref b), (1, .int 0)] := hl
  refine lv_goto hx hb d_Arrays_fill_f26_17 (tgt := 5) rfl ?_
  refine lv_iload_n hx hb d_Arrays_fill_f26_5 rfl (lv_at hl 0 rfl) ?_
  refine lv_iload_n hx hb d_Arrays_fill_f26_6 rfl (lv_at hl 1 rfl) ?_
  refine lv_icmp_ge hx hb d_Arrays_fill_f26_7 (tgt := 20) rfl (fun h9 => absurd h9 (by decide)) (fun _ => ?_)
  refine lv_aload_n hx hb d_Arrays_fill_f26_10 rfl (lv_at hl 2 rfl) ?_
  refine lv_iload_n hx hb d_Arrays_fill_f26_11 rfl (lv_at hl 0 rfl) ?_
  refine lv_iload_n hx hb d_Arrays_fill_f26_12 rfl (lv_at hl 3 rfl) ?_
  refine va_iast hx hb hK hP hD hS 0 1 rfl rfl (by unfold vp_in; decide) d_Arrays_fill_f26_13 (fun H locs hP hD hS => ?_)
  have hP : va_P D vwCl [(b, .inl (dA 1, 64, .inl (upd (upd (upd (upd (upd (upd (upd (upd (upd (upd (upd (upd (upd (upd (upd (upd (upd (upd (upd (upd (upd (upd (upd (upd (upd (upd (upd (upd (upd (upd g 0 0) 1 0) 2 0) 3 0) 4 0) 5 0) 6 0) 7 0) 8 0) 9 0) 10 0) 11 0) 12 0) 13 0) 14 0) 15 0) 16 0) 17 0) 18 0) 19 0) 20 0) 21 0) 22 0) 23 0) 24 0) 25 0) 26 0) 27 0) 28 0) 29 0)))] H := hP
  have hD : va_D A [(b, .inl (dA 1, 64, .inl (upd (upd (upd (upd (upd (upd (upd (upd (upd (upd (upd (upd (upd (upd (upd (upd (upd (upd (upd (upd (upd (upd (upd (upd (upd (upd (upd (upd (upd (upd g 0 0) 1 0) 2 0) 3 0) 4 0) 5 0) 6 0) 7 0) 8 0) 9 0) 10 0) 11 0) 12 0) 13 0) 14 0) 15 0) 16 0) 17 0) 18 0) 19 0) 20 0) 21 0) 22 0) 23 0) 24 0) 25 0) 26 0) 27 0) 28 0) 29 0)))] := hD
  refine lv_iinc (k := 0) (v := 30) hx hb d_Arrays_fill_f26_14 hl rfl (by decide) (by decide) rfl (fun ls hl => ?_)
  have hl : lv_has ls 4 [(2, .int 30), (3, .int 64), (0, .ref b), (1, .int 0)] := hl
  refine lv_goto hx hb d_Arrays_fill_f26_17 (tgt := 5) rfl ?_
  refine lv_iload_n hx hb d_Arrays_fill_f26_5 rfl (lv_at hl 0 rfl) ?_
  refine lv_iload_n hx hb d_Arrays_fill_f26_6 rfl (lv_at hl 1 rfl) ?_
  refine lv_icmp_ge hx hb d_Arrays_fill_f26_7 (tgt := 20) rfl (fun h9 => absurd h9 (by decide)) (fun _ => ?_)
  refine lv_aload_n hx hb d_Arrays_fill_f26_10 rfl (lv_at hl 2 rfl) ?_
  refine lv_iload_n hx hb d_Arrays_fill_f26_11 rfl (lv_at hl 0 rfl) ?_
  refine lv_iload_n hx hb d_Arrays_fill_f26_12 rfl (lv_at hl 3 rfl) ?_
  refine va_iast hx hb hK hP hD hS 0 1 rfl rfl (by unfold vp_in; decide) d_Arrays_fill_f26_13 (fun H locs hP hD hS => ?_)
  have hP : va_P D vwCl [(b, .inl (dA 1, 64, .inl (upd (upd (upd (upd (upd (upd (upd (upd (upd (upd (upd (upd (upd (upd (upd (upd (upd (upd (upd (upd (upd (upd (upd (upd (upd (upd (upd (upd (upd (upd (upd g 0 0) 1 0) 2 0) 3 0) 4 0) 5 0) 6 0) 7 0) 8 0) 9 0) 10 0) 11 0) 12 0) 13 0) 14 0) 15 0) 16 0) 17 0) 18 0) 19 0) 20 0) 21 0) 22 0) 23 0) 24 0) 25 0) 26 0) 27 0) 28 0) 29 0) 30 0)))] H := hP
  have hD : va_D A [(b, .inl (dA 1, 64, .inl (upd (upd (upd (upd (upd (upd (upd (upd (upd (upd (upd (upd (upd (upd (upd (upd (upd (upd (upd (upd (upd (upd (upd (upd (upd (upd (upd (upd (upd (upd (upd g 0 0) 1 0) 2 0) 3 0) 4 0) 5 0) 6 0) 7 0) 8 0) 9 0) 10 0) 11 0) 12 0) 13 0) 14 0) 15 0) 16 0) 17 0) 18 0) 19 0) 20 0) 21 0) 22 0) 23 0) 24 0) 25 0) 26 0) 27 0) 28 0) 29 0) 30 0)))] := hD
  refine lv_iinc (k := 0) (v := 31) hx hb d_Arrays_fill_f26_14 hl rfl (by decide) (by decide) rfl (fun ls hl => ?_)
  have hl : lv_has ls 4 [(2, .int 31), (3, .int 64), (0, .ref b), (1, .int 0)] := hl
  refine lv_goto hx hb d_Arrays_fill_f26_17 (tgt := 5) rfl ?_
  refine lv_iload_n hx hb d_Arrays_fill_f26_5 rfl (lv_at hl 0 rfl) ?_
  refine lv_iload_n hx hb d_Arrays_fill_f26_6 rfl (lv_at hl 1 rfl) ?_
  refine lv_icmp_ge hx hb d_Arrays_fill_f26_7 (tgt := 20) rfl (fun h9 => absurd h9 (by decide)) (fun _ => ?_)
  refine lv_aload_n hx hb d_Arrays_fill_f26_10 rfl (lv_at hl 2 rfl) ?_
  refine lv_iload_n hx hb d_Arrays_fill_f26_11 rfl (lv_at hl 0 rfl) ?_
  refine lv_iload_n hx hb d_Arrays_fill_f26_12 rfl (lv_at hl 3 rfl) ?_
  refine va_iast hx hb hK hP hD hS 0 1 rfl rfl (by unfold vp_in; decide) d_Arrays_fill_f26_13 (fun H locs hP hD hS => ?_)
  have hP : va_P D vwCl [(b, .inl (dA 1, 64, .inl (upd (upd (upd (upd (upd (upd (upd (upd (upd (upd (upd (upd (upd (upd (upd (upd (upd (upd (upd (upd (upd (upd (upd (upd (upd (upd (upd (upd (upd (upd (upd (upd g 0 0) 1 0) 2 0) 3 0) 4 0) 5 0) 6 0) 7 0) 8 0) 9 0) 10 0) 11 0) 12 0) 13 0) 14 0) 15 0) 16 0) 17 0) 18 0) 19 0) 20 0) 21 0) 22 0) 23 0) 24 0) 25 0) 26 0) 27 0) 28 0) 29 0) 30 0) 31 0)))] H := hP
  have hD : va_D A [(b, .inl (dA 1, 64, .inl (upd (upd (upd (upd (upd (upd (upd (upd (upd (upd (upd (upd (upd (upd (upd (upd (upd (upd (upd (upd (upd (upd (upd (upd (upd (upd (upd (upd (upd (upd (upd (upd g 0 0) 1 0) 2 0) 3 0) 4 0) 5 0) 6 0) 7 0) 8 0) 9 0) 10 0) 11 0) 12 0) 13 0) 14 0) 15 0) 16 0) 17 0) 18 0) 19 0) 20 0) 21 0) 22 0) 23 0) 24 0) 25 0) 26 0) 27 0) 28 0) 29 0) 30 0) 31 0)))] := hD
  refine lv_iinc (k := 0) (v := 32) hx hb d_Arrays_fill_f26_14 hl rfl (by decide) (by decide) rfl (fun ls hl => ?_)
  have hl : lv_has ls 4 [(2, .int 32), (3, .int 64), (0, .ref b), (1, .int 0)] := hl
  refine lv_goto hx hb d_Arrays_fill_f26_17 (tgt := 5) rfl ?_
  refine lv_iload_n hx hb d_Arrays_fill_f26_5 rfl (lv_at hl 0 rfl) ?_
  refine lv_iload_n hx hb d_Arrays_fill_f26_6 rfl (lv_at hl 1 rfl) ?_
  refine lv_icmp_ge hx hb d_Arrays_fill_f26_7 (tgt := 20) rfl (fun h9 => absurd h9 (by decide)) (fun _ => ?_)
  refine lv_aload_n hx hb d_Arrays_fill_f26_10 rfl (lv_at hl 2 rfl) ?_
  refine lv_iload_n hx hb d_Arrays_fill_f26_11 rfl (lv_at hl 0 rfl) ?_
  refine lv_iload_n hx hb d_Arrays_fill_f26_12 rfl (lv_at hl 3 rfl) ?_
  refine va_iast hx hb hK hP hD hS 0 1 rfl rfl (by unfold vp_in; decide) d_Arrays_fill_f26_13 (fun H locs hP hD hS => ?_)
  have hP : va_P D vwCl [(b, .inl (dA 1, 64, .inl (upd (upd (upd (upd (upd (upd (upd (upd (upd (upd (upd (upd (upd (upd (upd (upd (upd (upd (upd (upd (upd (upd (upd (upd (upd (upd (upd (upd (upd (upd (upd (upd (upd g 0 0) 1 0) 2 0) 3 0) 4 0) 5 0) 6 0) 7 0) 8 0) 9 0) 10 0) 11 0) 12 0) 13 0) 14 0) 15 0) 16 0) 17 0) 18 0) 19 0) 20 0) 21 0) 22 0) 23 0) 24 0) 25 0) 26 0) 27 0) 28 0) 29 0) 30 0) 31 0) 32 0)))] H := hP
  have hD : va_D A [(b, .inl (dA 1, 64, .inl (upd (upd (upd (upd (upd (upd (upd (upd (upd (upd (upd (upd (upd (upd (upd (upd (upd (upd (upd (upd (upd (upd (upd (upd (upd (upd (upd (upd (upd (upd (upd (upd (upd g 0 0) 1 0) 2 0) 3 0) 4 0) 5 0) 6 0) 7 0) 8 0) 9 0) 10 0) 11 0) 12 0) 13 0) 14 0) 15 0) 16 0) 17 0) 18 0) 19 0) 20 0) 21 0) 22 0) 23 0) 24 0) 25 0) 26 0) 27 0) 28 0) 29 0) 30 0) 31 0) 32 0)))] := hD
  refine lv_iinc (k := 0) (v := 33) hx hb d_Arrays_fill_f26_14 hl rfl (by decide) (by decide) rfl (fun ls hl => ?_)
  have hl : lv_has ls 4 [(2, .int 33), (3, .int 64), (0, .ref b), (1, .int 0)] := hl
  refine lv_goto hx hb d_Arrays_fill_f26_17 (tgt := 5) rfl ?_
  refine lv_iload_n hx hb d_Arrays_fill_f26_5 rfl (lv_at hl 0 rfl) ?_
  refine lv_iload_n hx hb d_Arrays_fill_f26_6 rfl (lv_at hl 1 rfl) ?_
  refine lv_icmp_ge hx hb d_Arrays_fill_f26_7 (tgt := 20) rfl (fun h9 => absurd h9 (by decide)) (fun _ => ?_)
  refine lv_aload_n hx hb d_Arrays_fill_f26_10 rfl (lv_at hl 2 rfl) ?_
  refine lv_iload_n hx hb d_Arrays_fill_f26_11 rfl (lv_at hl 0 rfl) ?_
  refine lv_iload_n hx hb d_Arrays_fill_f26_12 rfl (lv_at hl 3 rfl) ?_
  refine va_iast hx hb hK hP hD hS 0 1 rfl rfl (by unfold vp_in; decide) d_Arrays_fill_f26_13 (fun H locs hP hD hS => ?_)
  have hP : va_P D vwCl [(b, .inl (dA 1, 64, .inl (upd (upd (upd (upd (upd (upd (upd (upd (upd (upd (upd (upd (upd (upd (upd (upd (upd (upd (upd (upd (upd (upd (upd (upd (upd (upd (upd (upd (upd (upd (upd (upd (upd (upd g 0 0) 1 0) 2 0) 3 0) 4 0) 5 0) 6 0) 7 0) 8 0) 9 0) 10 0) 11 0) 12 0) 13 0) 14 0) 15 0) 16 0) 17 0) 18 0) 19 0) 20 0) 21 0) 22 0) 23 0) 24 0) 25 0) 26 0) 27 0) 28 0) 29 0) 30 0) 31 0) 32 0) 33 0)))] H := hP
  have hD : va_D A [(b, .inl (dA 1, 64, .inl (upd (upd (upd (upd (upd (upd (upd (upd (upd (upd (upd (upd (upd (upd (upd (upd (upd (upd (upd (upd (upd (upd (upd (upd (upd (upd (upd (upd (upd (upd (upd (upd (upd (upd g 0 0) 1 0) 2 0) 3 0) 4 0) 5 0) 6 0) 7 0) 8 0) 9 0) 10 0) 11 0) 12 0) 13 0) 14 0) 15 0) 16 0) 17 0) 18 0) 19 0) 20 0) 21 0) 22 0) 23 0) 24 0) 25 0) 26 0) 27 0) 28 0) 29 0) 30 0) 31 0) 32 0) 33 0)))] := hD
  refine lv_iinc (k := 0) (v := 34) hx hb d_Arrays_fill_f26_14 hl rfl (by decide) (by decide) rfl (fun ls hl => ?_)
  have hl : lv_has ls 4 [(2, .int 34), (3, .int 64), (0, .ref b), (1, .int 0)] := hl
  refine lv_goto hx hb d_Arrays_fill_f26_17 (tgt := 5) rfl ?_
  refine lv_iload_n hx hb d_Arrays_fill_f26_5 rfl (lv_at hl 0 rfl) ?_
  refine lv_iload_n hx hb d_Arrays_fill_f26_6 rfl (lv_at hl 1 rfl) ?_
  refine lv_icmp_ge hx hb d_Arrays_fill_f26_7 (tgt := 20) rfl (fun h9 => absurd h9 (by decide)) (fun _ => ?_)
  refine lv_aload_n hx hb d_Arrays_fill_f26_10 rfl (lv_at hl 2 rfl) ?_
  refine lv_iload_n hx hb d_Arrays_fill_f26_11 rfl (lv_at hl 0 rfl) ?_
  refine lv_iload_n hx hb d_Arrays_fill_f26_12 rfl (lv_at hl 3 rfl) ?_
  refine va_iast hx hb hK hP hD hS 0 1 rfl rfl (by unfold vp_in; decide) d_Arrays_fill_f26_13 (fun H locs hP hD hS => ?_)
  have hP : va_P D vwCl [(b, .inl (dA 1, 64, .inl (upd (upd (upd (upd (upd (upd (upd (upd (upd (upd (upd (upd (upd (upd (upd (upd (upd (upd (upd (upd (upd (upd (upd (upd (upd (upd (upd (upd (upd (upd (upd (upd (upd (upd (upd g 0 0) 1 0) 2 0) 3 0) 4 0) 5 0) 6 0) 7 0) 8 0) 9 0) 10 0) 11 0) 12 0) 13 0) 14 0) 15 0) 16 0) 17 0) 18 0) 19 0) 20 0) 21 0) 22 0) 23 0) 24 0) 25 0) 26 0) 27 0) 28 0) 29 0) 30 0) 31 0) 32 0) 33 0) 34 0)))] H := hP
  have hD : va_D A [(b, .inl (dA 1, 64, .inl (upd (upd (upd (upd (upd (upd (upd (upd (upd (upd (upd (upd (upd (upd (upd (upd (upd (upd (upd (upd (upd (upd (upd (upd (upd (upd (upd (upd (upd (upd (upd (upd (upd (upd (upd g 0 0) 1 0) 2 0) 3 0) 4 0) 5 0) 6 0) 7 0) 8 0) 9 0) 10 0) 11 0) 12 0) 13 0) 14 0) 15 0) 16 0) 17 0) 18 0) 19 0) 20 0) 21 0) 22 0) 23 0) 24 0) 25 0) 26 0) 27 0) 28 0) 29 0) 30 0) 31 0) 32 0) 33 0) 34 0)))] := hD
  refine lv_iinc (k := 0) (v := 35) hx hb d_Arrays_fill_f26_14 hl rfl (by decide) (by decide) rfl (fun ls hl => ?_)
  have hl : lv_has ls 4 [(2, .int 35), (3, .int 64), (0, .ref b), (1, .int 0)] := hl
  refine lv_goto hx hb d_Arrays_fill_f26_17 (tgt := 5) rfl ?_
  refine lv_iload_n hx hb d_Arrays_fill_f26_5 rfl (lv_at hl 0 rfl) ?_
  refine lv_iload_n hx hb d_Arrays_fill_f26_6 rfl (lv_at hl 1 rfl) ?_
  refine lv_icmp_ge hx hb d_Arrays_fill_f26_7 (tgt := 20) rfl (fun h9 => absurd h9 (by decide)) (fun _ => ?_)
  refine lv_aload_n hx hb d_Arrays_fill_f26_10 rfl (lv_at hl 2 rfl) ?_
  refine lv_iload_n hx hb d_Arrays_fill_f26_11 rfl (lv_at hl 0 rfl) ?_
  refine lv_iload_n hx hb d_Arrays_fill_f26_12 rfl (lv_at hl 3 rfl) ?_
  refine va_iast hx hb hK hP hD hS 0 1 rfl rfl (by unfold vp_in; decide) d_Arrays_fill_f26_13 (fun H locs hP hD hS => ?_)
  have hP : va_P D vwCl [(b, .inl (dA 1, 64, .inl (upd (upd (upd (upd (upd (upd (upd (upd (upd (upd (upd (upd (upd (upd (upd (upd (upd (upd (upd (upd (upd (upd (upd (upd (upd (upd (upd (upd (upd (upd (upd (upd (upd (upd (upd (upd g 0 0) 1 0) 2 0) 3 0) 4 0) 5 0) 6 0) 7 0) 8 0) 9 0) 10 0) 11 0) 12 0) 13 0) 14 0) 15 0) 16 0) 17 0) 18 0) 19 0) 20 0) 21 0) 22 0) 23 0) 24 0) 25 0) 26 0) 27 0) 28 0) 29 0) 30 0) 31 0) 32 0) 33 0) 34 0) 35 0)))] H := hP
  have hD : va_D A [(b, .inl (dA 1, 64, .inl (upd (upd (upd (upd (upd (upd (upd (upd (upd (upd (upd (upd (upd (upd (upd (upd (upd (upd (upd (upd (upd (upd (upd (upd (upd (upd (upd (upd (upd (upd (upd (upd (upd (upd (upd (upd g 0 0) 1 0) 2 0) 3 0) 4 0) 5 0) 6 0) 7 0) 8 0) 9 0) 10 0) 11 0) 12 0) 13 0) 14 0) 15 0) 16 0) 17 0) 18 0) 19 0) 20 0) 21 0) 22 0) 23 0) 24 0) 25 0) 26 0) 27 0) 28 0) 29 0) 30 0) 31 0) 32 0) 33 0) 34 0) 35 0)))] := hD
  refine lv_iinc (k := 0) (v := 36) hx hb d_Arrays_fill_f26_14 hl rfl (by decide) (by decide) rfl (fun ls hl => ?_)
  have hl : lv_has ls 4 [(2, .int 36), (3, .int 64), (0, .ref b), (1, .int 0)] := hl
  refine lv_goto hx hb d_Arrays_fill_f26_17 (tgt := 5) rfl ?_
  refine lv_iload_n hx hb d_Arrays_fill_f26_5 rfl (lv_at hl 0 rfl) ?_
  refine lv_iload_n hx hb d_Arrays_fill_f26_6 rfl (lv_at hl 1 rfl) ?_
  refine lv_icmp_ge hx hb d_Arrays_fill_f26_7 (tgt := 20) rfl (fun h9 => absurd h9 (by decide)) (fun _ => ?_)
  refine lv_aload_n hx hb d_Arrays_fill_f26_10 rfl (lv_at hl 2 rfl) ?_
  refine lv_iload_n hx hb d_Arrays_fill_f26_11 rfl (lv_at hl 0 rfl) ?_
  refine lv_iload_n hx hb d_Arrays_fill_f26_12 rfl (lv_at hl 3 rfl) ?_
  refine va_iast hx hb hK hP hD hS 0 1 rfl rfl (by unfold vp_in; decide) d_Arrays_fill_f26_13 (fun H locs hP hD hS => ?_)
  have hP : va_P D vwCl [(b, .inl (dA 1, 64, .inl (upd (upd (upd (upd (upd (upd (upd (upd (upd (upd (upd (upd (upd (upd (upd (upd (upd (upd (upd (upd (upd (upd (upd (upd (upd (upd (upd (upd (upd (upd (upd (upd (upd (upd (upd (upd (upd g 0 0) 1 0) 2 0) 3 0) 4 0) 5 0) 6 0) 7 0) 8 0) 9 0) 10 0) 11 0) 12 0) 13 0) 14 0) 15 0) 16 0) 17 0) 18 0) 19 0) 20 0) 21 0) 22 0) 23 0) 24 0) 25 0) 26 0) 27 0) 28 0) 29 0) 30 0) 31 0) 32 0) 33 0) 34 0) 35 0) 36 0)))] H := hP
  have hD : va_D A [(b, .inl (dA 1, 64, .inl (upd (upd (upd (upd (upd (upd (upd (upd (upd (upd (upd (upd (upd (upd (upd (upd (upd (upd (upd (upd (upd (upd (upd (upd (upd (upd (upd (upd (upd (upd (upd (upd (upd (upd (upd (upd (upd g 0 0) 1 0) 2 0) 3 0) 4 0) 5 0) 6 0) 7 0) 8 0) 9 0) 10 0) 11 0) 12 0) 13 0) 14 0) 15 0) 16 0) 17 0) 18 0) 19 0) 20 0) 21 0) 22 0) 23 0) 24 0) 25 0) 26 0) 27 0) 28 0) 29 0) 30 0) 31 0) 32 0) 33 0) 34 0) 35 0) 36 0)))] := hD
  refine lv_iinc (k := 0) (v := 37) hx hb d_Arrays_fill_f26_14 hl rfl (by decide) (by decide) rfl (fun ls hl => ?_)
  have hl : lv_has ls 4 [(2, .int 37), (3, .int 64), (0, .ref b), (1, .int 0)] := hl
  refine lv_goto hx hb d_Arrays_fill_f26_17 (tgt := 5) rfl ?_
  refine lv_iload_n hx hb d_Arrays_fill_f26_5 rfl (lv_at hl 0 rfl) ?_
  refine lv_iload_n hx hb d_Arrays_fill_f26_6 rfl (lv_at hl 1 rfl) ?_
  refine lv_icmp_ge hx hb d_Arrays_fill_f26_7 (tgt := 20) rfl (fun h9 => absurd h9 (by decide)) (fun _ => ?_)
  refine lv_aload_n hx hb d_Arrays_fill_f26_10 rfl (lv_at hl 2 rfl) ?_
  refine lv_iload_n hx hb d_Arrays_fill_f26_11 rfl (lv_at hl 0 rfl) ?_
  refine lv_iload_n hx hb d_Arrays_fill_f26_12 rfl (lv_at hl 3 rfl) ?_
  refine va_iast hx hb hK hP hD hS 0 1 rfl rfl (by unfold vp_in; decide) d_Arrays_fill_f26_13 (fun H locs hP hD hS => ?_)
  have hP : va_P D vwCl [(b, .inl (dA 1, 64, .inl (upd (upd (upd (upd (upd (upd (upd (upd (upd (upd (upd (upd (upd (upd (upd (upd (upd (upd (upd (upd (upd (upd (upd (upd (upd (upd (upd (upd (upd (upd (upd (upd (upd (upd (upd (upd (upd (upd g 0 0) 1 0) 2 0) 3 0) 4 0) 5 0) 6 0) 7 0) 8 0) 9 0) 10 0) 11 0) 12 0) 13 0) 14 0) 15 0) 16 0) 17 0) 18 0) 19 0) 20 0) 21 0) 22 0) 23 0) 24 0) 25 0) 26 0) 27 0) 28 0) 29 0) 30 0) 31 0) 32 0) 33 0) 34 0) 35 0) 36 0) 37 0)))] H := hP
  have hD : va_D A [(b, .inl (dA 1, 64, .inl (upd (upd (upd (upd (upd (upd (upd (upd (upd (upd (upd (upd (upd (upd (upd (upd (upd (upd (upd (upd (upd (upd (upd (upd (upd (upd (upd (upd (upd (upd (upd (upd (upd (upd (upd (upd (upd (upd g 0 0) 1 0) 2 0) 3 0) 4 0) 5 0) 6 0) 7 0) 8 0) 9 0) 10 0) 11 0) 12 0) 13 0) 14 0) 15 0) 16 0) 17 0) 18 0) 19 0) 20 0) 21 0) 22 0) 23 0) 24 0) 25 0) 26 0) 27 0) 28 0) 29 0) 30 0) 31 0) 32 0) 33 0) 34 0) 35 0) 36 0) 37 0)))] := hD
  refine lv_iinc (k := 0) (v := 38) hx hb d_Arrays_fill_f26_14 hl rfl (by decide) (by decide) rfl (fun ls hl => ?_)
  have hl : lv_has ls 4 [(2, .int 38), (3, .int 64), (0, .ref b), (1, .int 0)] := hl
  refine lv_goto hx hb d_Arrays_fill_f26_17 (tgt := 5) rfl ?_
  refine lv_iload_n hx hb d_Arrays_fill_f26_5 rfl (lv_at hl 0 rfl) ?_
  refine lv_iload_n hx hb d_Arrays_fill_f26_6 rfl (lv_at hl 1 rfl) ?_
  refine lv_icmp_ge hx hb d_Arrays_fill_f26_7 (tgt := 20) rfl (fun h9 => absurd h9 (by decide)) (fun _ => ?_)
  refine lv_aload_n hx hb d_Arrays_fill_f26_10 rfl (lv_at hl 2 rfl) ?_
  refine lv_iload_n hx hb d_Arrays_fill_f26_11 rfl (lv_at hl 0 rfl) ?_
  refine lv_iload_n hx hb d_Arrays_fill_f26_12 rfl (lv_at hl 3 rfl) ?_
  refine va_iast hx hb hK hP hD hS 0 1 rfl rfl (by unfold vp_in; decide) d_Arrays_fill_f26_13 (fun H locs hP hD hS => ?_)
  have hP : va_P D vwCl [(b, .inl (dA 1, 64, .inl (upd (upd (upd (upd (upd (upd (upd (upd (upd (upd (upd (upd (upd (upd (upd (upd (upd (upd (upd (upd (upd (upd (upd (upd (upd (upd (upd (upd (upd (upd (upd (upd (upd (upd (upd (upd (upd (upd (upd g 0 0) 1 0) 2 0) 3 0) 4 0) 5 0) 6 0) 7 0) 8 0) 9 0) 10 0) 11 0) 12 0) 13 0) 14 0) 15 0) 16 0) 17 0) 18 0) 19 0) 20 0) 21 0) 22 0) 23 0) 24 0) 25 0) 26 0) 27 0) 28 0) 29 0) 30 0) 31 0) 32 0) 33 0) 34 0) 35 0) 36 0) 37 0) 38 0)))] H := hP
  have hD : va_D A [(b, .inl (dA 1, 64, .inl (upd (upd (upd (upd (upd (upd (upd (upd (upd (upd (upd (upd (upd (upd (upd (upd (upd (upd (upd (upd (upd (upd (upd (upd (upd (upd (upd (upd (upd (upd (upd (upd (upd (upd (upd (upd (upd (upd (upd g 0 0) 1 0) 2 0) 3 0) 4 0) 5 0) 6 0) 7 0) 8 0) 9 0) 10 0) 11 0) 12 0) 13 0) 14 0) 15 0) 16 0) 17 0) 18 0) 19 0) 20 0) 21 0) 22 0) 23 0) 24 0) 25 0) 26 0) 27 0) 28 0) 29 0) 30 0) 31 0) 32 0) 33 0) 34 0) 35 0) 36 0) 37 0) 38 0)))] := hD
  refine lv_iinc (k := 0) (v := 39) hx hb d_Arrays_fill_f26_14 hl rfl (by decide) (by decide) rfl (fun ls hl => ?_)
  have hl : lv_has ls 4 [(2, .int 39), (3, .int 64), (0, .ref b), (1, .int 0)] := hl
  refine lv_goto hx hb d_Arrays_fill_f26_17 (tgt := 5) rfl ?_
  refine lv_iload_n hx hb d_Arrays_fill_f26_5 rfl (lv_at hl 0 rfl) ?_
  refine lv_iload_n hx hb d_Arrays_fill_f26_6 rfl (lv_at hl 1 rfl) ?_
  refine lv_icmp_ge hx hb d_Arrays_fill_f26_7 (tgt := 20) rfl (fun h9 => absurd h9 (by decide)) (fun _ => ?_)
  refine lv_aload_n hx hb d_Arrays_fill_f26_10 rfl (lv_at hl 2 rfl) ?_
  refine lv_iload_n hx hb d_Arrays_fill_f26_11 rfl (lv_at hl 0 rfl) ?_
  refine lv_iload_n hx hb d_Arrays_fill_f26_12 rfl (lv_at hl 3 rfl) ?_
  refine va_iast hx hb hK hP hD hS 0 1 rfl rfl (by unfold vp_in; decide) d_Arrays_fill_f26_13 (fun H locs hP hD hS => ?_)
  have hP : va_P D vwCl [(b, .inl (dA 1, 64, .inl (upd (upd (upd (upd (upd (upd (upd (upd (upd (upd (upd (upd (upd (upd (upd (upd (upd (upd (upd (upd (upd (upd (upd (upd (upd (upd (upd (upd (upd (upd (upd (upd (upd (upd (upd (upd (upd (upd (upd (upd g 0 0) 1 0) 2 0) 3 0) 4 0) 5 0) 6 0) 7 0) 8 0) 9 0) 10 0) 11 0) 12 0) 13 0) 14 0) 15 0) 16 0) 17 0) 18 0) 19 0) 20 0) 21 0) 22 0) 23 0) 24 0) 25 0) 26 0) 27 0) 28 0) 29 0) 30 0) 31 0) 32 0) 33 0) 34 0) 35 0) 36 0) 37 0) 38 0) 39 0)))] H := hP
  have hD : va_D A [(b, .inl (dA 1, 64, .inl (upd (upd (upd (upd (upd (upd (upd (upd (upd (upd (upd (upd (upd (upd (upd (upd (upd (upd (upd (upd (upd (upd (upd (upd (upd (upd (upd (upd (upd (upd (upd (upd (upd (upd (upd (upd (upd (upd (upd (upd g 0 0) 1 0) 2 0) 3 0) 4 0) 5 0) 6 0) 7 0) 8 0) 9 0) 10 0) 11 0) 12 0) 13 0) 14 0) 15 0) 16 0) 17 0) 18 0) 19 0) 20 0) 21 0) 22 0) 23 0) 24 0) 25 0) 26 0) 27 0) 28 0) 29 0) 30 0) 31 0) 32 0) 33 0) 34 0) 35 0) 36 0) 37 0) 38 0) 39 0)))] := hD
  refine lv_iinc (k := 0) (v := 40) hx hb d_Arrays_fill_f26_14 hl rfl (by decide) (by decide) rfl (fun ls hl => ?_)
  have hl : lv_has ls 4 [(2, .int 40), (3, .int 64), (0, .ref b), (1, .int 0)] := hl
  refine lv_goto hx hb d_Arrays_fill_f26_17 (tgt := 5) rfl ?_
  refine lv_iload_n hx hb d_Arrays_fill_f26_5 rfl (lv_at hl 0 rfl) ?_
  refine lv_iload_n hx hb d_Arrays_fill_f26_6 rfl (lv_at hl 1 rfl) ?_
  refine lv_icmp_ge hx hb d_Arrays_fill_f26_7 (tgt := 20) rfl (fun h9 => absurd h9 (by decide)) (fun _ => ?_)
  refine lv_aload_n hx hb d_Arrays_fill_f26_10 rfl (lv_at hl 2 rfl) ?_
  refine lv_iload_n hx hb d_Arrays_fill_f26_11 rfl (lv_at hl 0 rfl) ?_
  refine lv_iload_n hx hb d_Arrays_fill_f26_12 rfl (lv_at hl 3 rfl) ?_
  refine va_iast hx hb hK hP hD hS 0 1 rfl rfl (by unfold vp_in; decide) d_Arrays_fill_f26_13 (fun H locs hP hD hS => ?_)
  have hP : va_P D vwCl [(b, .inl (dA 1, 64, .inl (upd (upd (upd (upd (upd (upd (upd (upd (upd (upd (upd (upd (upd (upd (upd (upd (upd (upd (upd (upd (upd (upd (upd (upd (upd (upd (upd (upd (upd (upd (upd (upd (upd (upd (upd (upd (upd (upd (upd (upd (upd g 0 0) 1 0) 2 0) 3 0) 4 0) 5 0) 6 0) 7 0) 8 0) 9 0) 10 0) 11 0) 12 0) 13 0) 14 0) 15 0) 16 0) 17 0) 18 0) 19 0) 20 0) 21 0) 22 0) 23 0) 24 0) 25 0) 26 0) 27 0) 28 0) 29 0) 30 0) 31 0) 32 0) 33 0) 34 0) 35 0) 36 0) 37 0) 38 0) 39 0) 40 0)))] H := hP
  have hD : va_D A [(b, .inl (dA 1, 64, .inl (upd (upd (upd (upd (upd (upd (upd (upd (upd (upd (upd (upd (upd (upd (upd (upd (upd (upd (upd (upd (upd (upd (upd (upd (upd (upd (upd (upd (upd (upd (upd (upd (upd (upd (upd (upd (upd (upd (upd (upd (upd g 0 0) 1 0) 2 0) 3 0) 4 0) 5 0) 6 0) 7 0) 8 0) 9 0) 10 0) 11 0) 12 0) 13 0) 14 0) 15 0) 16 0) 17 0) 18 0) 19 0) 20 0) 21 0) 22 0) 23 0) 24 0) 25 0) 26 0) 27 0) 28 0) 29 0) 30 0) 31 0) 32 0) 33 0) 34 0) 35 0) 36 0) 37 0) 38 0) 39 0) 40 0)))] := hD
  refine lv_iinc (k := 0) (v := 41) hx hb d_Arrays_fill_f26_14 hl rfl (by decide) (by decide) rfl (fun ls hl => ?_)
  have hl : lv_has ls 4 [(2, .int 41), (3, .int 64), (0, .ref b), (1, .int 0)] := hl
  refine lv_goto hx hb d_Arrays_fill_f26_17 (tgt := 5) rfl ?_
  refine lv_iload_n hx hb d_Arrays_fill_f26_5 rfl (lv_at hl 0 rfl) ?_
  refine lv_iload_n hx hb d_Arrays_fill_f26_6 rfl (lv_at hl 1 rfl) ?_
  refine lv_icmp_ge hx hb d_Arrays_fill_f26_7 (tgt := 20) rfl (fun h9 => absurd h9 (by decide)) (fun _ => ?_)
  refine lv_aload_n hx hb d_Arrays_fill_f26_10 rfl (lv_at hl 2 rfl) ?_
  refine lv_iload_n hx hb d_Arrays_fill_f26_11 rfl (lv_at hl 0 rfl) ?_
  refine lv_iload_n hx hb d_Arrays_fill_f26_12 rfl (lv_at hl 3 rfl) ?_
  refine va_iast hx hb hK hP hD hS 0 1 rfl rfl (by unfold vp_in; decide) d_Arrays_fill_f26_13 (fun H locs hP hD hS => ?_)
  have hP : va_P D vwCl [(b, .inl (dA 1, 64, .inl (upd (upd (upd (upd (upd (upd (upd (upd (upd (upd (upd (upd (upd (upd (upd (upd (upd (upd (upd (upd (upd (upd (upd (upd (upd (upd (upd (upd (upd (upd (upd (upd (upd (upd (upd (upd (upd (upd (upd (upd (upd (upd g 0 0) 1 0) 2 0) 3 0) 4 0) 5 0) 6 0) 7 0) 8 0) 9 0) 10 0) 11 0) 12 0) 13 0) 14 0) 15 0) 16 0) 17 0) 18 0) 19 0) 20 0) 21 0) 22 0) 23 0) 24 0) 25 0) 26 0) 27 0) 28 0) 29 0) 30 0) 31 0) 32 0) 33 0) 34 0) 35 0) 36 0) 37 0) 38 0) 39 0) 40 0) 41 0)))] H := hP
  have hD : va_D A [(b, .inl (dA 1, 64, .inl (upd (upd (upd (upd (upd (upd (upd (upd (upd (upd (upd (upd (upd (upd (upd (upd (upd (upd (upd (upd (upd (upd (upd (upd (upd (upd (upd (upd (upd (upd (upd (upd (upd (upd (upd (upd (upd (upd (upd (upd (upd (upd g 0 0) 1 0) 2 0) 3 0) 4 0) 5 0) 6 0) 7 0) 8 0) 9 0) 10 0) 11 0) 12 0) 13 0) 14 0) 15 0) 16 0) 17 0) 18 0) 19 0) 20 0) 21 0) 22 0) 23 0) 24 0) 25 0) 26 0) 27 0) 28 0) 29 0) 30 0) 31 0) 32 0) 33 0) 34 0) 35 0) 36 0) 37 0) 38 0) 39 0) 40 0) 41 0)))] := hD
  refine lv_iinc (k := 0) (v := 42) hx hb d_Arrays_fill_f26_14 hl rfl (by decide) (by decide) rfl (fun ls hl => ?_)
  have hl : lv_has ls 4 [(2, .int 42), (3, .int 64), (0, .ref b), (1, .int 0)] := hl
  refine lv_goto hx hb d_Arrays_fill_f26_17 (tgt := 5) rfl ?_
  refine lv_iload_n hx hb d_Arrays_fill_f26_5 rfl (lv_at hl 0 rfl) ?_
  refine lv_iload_n hx hb d_Arrays_fill_f26_6 rfl (lv_at hl 1 rfl) ?_
  refine lv_icmp_ge hx hb d_Arrays_fill_f26_7 (tgt := 20) rfl (fun h9 => absurd h9 (by decide)) (fun _ => ?_)
  refine lv_aload_n hx hb d_Arrays_fill_f26_10 rfl (lv_at hl 2 rfl) ?_
  refine lv_iload_n hx hb d_Arrays_fill_f26_11 rfl (lv_at hl 0 rfl) ?_
  refine lv_iload_n hx hb d_Arrays_fill_f26_12 rfl (lv_at hl 3 rfl) ?_
  refine va_iast hx hb hK hP hD hS 0 1 rfl rfl (by unfold vp_in; decide) d_Arrays_fill_f26_13 (fun H locs hP hD hS => ?_)
  have hP : va_P D vwCl [(b, .inl (dA 1, 64, .inl (upd (upd (upd (upd (upd (upd (upd (upd (upd (upd (upd (upd (upd (upd (upd (upd (upd (upd (upd (upd (upd (upd (upd (upd (upd (upd (upd (upd (upd (upd (upd (upd (upd (upd (upd (upd (upd (upd (upd (upd (upd (upd (upd g 0 0) 1 0) 2 0) 3 0) 4 0) 5 0) 6 0) 7 0) 8 0) 9 0) 10 0) 11 0) 12 0) 13 0) 14 0) 15 0) 16 0) 17 0) 18 0) 19 0) 20 0) 21 0) 22 0) 23 0) 24 0) 25 0) 26 0) 27 0) 28 0) 29 0) 30 0) 31 0) 32 0) 33 0) 34 0) 35 0) 36 0) 37 0) 38 0) 39 0) 40 0) 41 0) 42 0)))] H := hP
  have hD : va_D A [(b, .inl (dA 1, 64, .inl (upd (upd (upd (upd (upd (upd (upd (upd (upd (upd (upd (upd (upd (upd (upd (upd (upd (upd (upd (upd (upd (upd (upd (upd (upd (upd (upd (upd (upd (upd (upd (upd (upd (upd (upd (upd (upd (upd (upd (upd (upd (upd (upd g 0 0) 1 0) 2 0) 3 0) 4 0) 5 0) 6 0) 7 0) 8 0) 9 0) 10 0) 11 0) 12 0) 13 0) 14 0) 15 0) 16 0) 17 0) 18 0) 19 0) 20 0) 21 0) 22 0) 23 0) 24 0) 25 0) 26 0) 27 0) 28 0) 29 0) 30 0) 31 0) 32 0) 33 0) 34 0) 35 0) 36 0) 37 0) 38 0) 39 0) 40 0) 41 0) 42 0)))] := hD
  refine lv_iinc (k := 0) (v := 43) hx hb d_Arrays_fill_f26_14 hl rfl (by decide) (by decide) rfl (fun ls hl => ?_)
  have hl : lv_has ls 4 [(2, .int 43), (3, .int 64), (0, .ref b), (1, .int 0)] := hl
  refine lv_goto hx hb d_Arrays_fill_f26_17 (tgt := 5) rfl ?_
  refine lv_iload_n hx hb d_Arrays_fill_f26_5 rfl (lv_at hl 0 rfl) ?_
  refine lv_iload_n hx hb d_Arrays_fill_f26_6 rfl (lv_at hl 1 rfl) ?_
  refine lv_icmp_ge hx hb d_Arrays_fill_f26_7 (tgt := 20) rfl (fun h9 => absurd h9 (by decide)) (fun _ => ?_)
  refine lv_aload_n hx hb d_Arrays_fill_f26_10 rfl (lv_at hl 2 rfl) ?_
  refine lv_iload_n hx hb d_Arrays_fill_f26_11 rfl (lv_at hl 0 rfl) ?_
  refine lv_iload_n hx hb d_Arrays_fill_f26_12 rfl (lv_at hl 3 rfl) ?_
  refine va_iast hx hb hK hP hD hS 0 1 rfl rfl (by unfold vp_in; decide) d_Arrays_fill_f26_13 (fun H locs hP hD hS => ?_)
  have hP : va_P D vwCl [(b, .inl (dA 1, 64, .inl (upd (upd (upd (upd (upd (upd (upd (upd (upd (upd (upd (upd (upd (upd (upd (upd (upd (upd (upd (upd (upd (upd (upd (upd (upd (upd (upd (upd (upd (upd (upd (upd (upd (upd (upd (upd (upd (upd (upd (upd (upd (upd (upd (upd g 0 0) 1 0) 2 0) 3 0) 4 0) 5 0) 6 0) 7 0) 8 0) 9 0) 10 0) 11 0) 12 0) 13 0) 14 0) 15 0) 16 0) 17 0) 18 0) 19 0) 20 0) 21 0) 22 0) 23 0) 24 0) 25 0) 26 0) 27 0) 28 0) 29 0) 30 0) 31 0) 32 0) 33 0) 34 0) 35 0) 36 0) 37 0) 38 0) 39 0) 40 0) 41 0) 42 0) 43 0)))] H := hP
  have hD : va_D A [(b, .inl (dA 1, 64, .inl (upd (upd (upd (upd (upd (upd (upd (upd (upd (upd (upd (upd (upd (upd (upd (upd (upd (upd (upd (upd (upd (upd (upd (upd (upd (upd (upd (upd (upd (upd (upd (upd (upd (upd (upd (upd (upd (upd (upd (upd (upd (upd (upd (upd g 0 0) 1 0) 2 0) 3 0) 4 0) 5 0) 6 0) 7 0) 8 0) 9 0) 10 0) 11 0) 12 0) 13 0) 14 0) 15 0) 16 0) 17 0) 18 0) 19 0) 20 0) 21 0) 22 0) 23 0) 24 0) 25 0) 26 0) 27 0) 28 0) 29 0) 30 0) 31 0) 32 0) 33 0) 34 0) 35 0) 36 0) 37 0) 38 0) 39 0) 40 0) 41 0) 42 0) 43 0)))] := hD
  refine lv_iinc (k := 0) (v := 44) hx hb d_Arrays_fill_f26_14 hl rfl (by decide) (by decide) rfl (fun ls hl => ?_)
  have hl : lv_has ls 4 [(2, .int 44), (3, .int 64), (0, .ref b), (1, .int 0)] := hl
  refine lv_goto hx hb d_Arrays_fill_f26_17 (tgt := 5) rfl ?_
  refine lv_iload_n hx hb d_Arrays_fill_f26_5 rfl (lv_at hl 0 rfl) ?_
  refine lv_iload_n hx hb d_Arrays_fill_f26_6 rfl (lv_at hl 1 rfl) ?_
  refine lv_icmp_ge hx hb d_Arrays_fill_f26_7 (tgt := 20) rfl (fun h9 => absurd h9 (by decide)) (fun _ => ?_)
  refine lv_aload_n hx hb d_Arrays_fill_f26_10 rfl (lv_at hl 2 rfl) ?_
  refine lv_iload_n hx hb d_Arrays_fill_f26_11 rfl (lv_at hl 0 rfl) ?_
  refine lv_iload_n hx hb d_Arrays_fill_f26_12 rfl (lv_at hl 3 rfl) ?_
  refine va_iast hx hb hK hP hD hS 0 1 rfl rfl (by unfold vp_in; decide) d_Arrays_fill_f26_13 (fun H locs hP hD hS => ?_)
  have hP : va_P D vwCl [(b, .inl (dA 1, 64, .inl (upd (upd (upd (upd (upd (upd (upd (upd (upd (upd (upd (upd (upd (upd (upd (upd (upd (upd (upd (upd (upd (upd (upd (upd (upd (upd (upd (upd (upd (upd (upd (upd (upd (upd (upd (upd (upd (upd (upd (upd (upd (upd (upd (upd (upd g 0 0) 1 0) 2 0) 3 0) 4 0) 5 0) 6 0) 7 0) 8 0) 9 0) 10 0) 11 0) 12 0) 13 0) 14 0) 15 0) 16 0) 17 0) 18 0) 19 0) 20 0) 21 0) 22 0) 23 0) 24 0) 25 0) 26 0) 27 0) 28 0) 29 0) 30 0) 31 0) 32 0) 33 0) 34 0) 35 0) 36 0) 37 0) 38 0) 39 0) 40 0) 41 0) 42 0) 43 0) 44 0)))] H := hP
  have hD : va_D A [(b, .inl (dA 1, 64, .inl (upd (upd (upd (upd (upd (upd (upd (upd (upd (upd (upd (upd (upd (upd (upd (upd (upd (upd (upd (upd (upd (upd (upd (upd (upd (upd (upd (upd (upd (upd (upd (upd (upd (upd (upd (upd (upd (upd (upd (upd (upd (upd (upd (upd (upd g 0 0) 1 0) 2 0) 3 0) 4 0) 5 0) 6 0) 7 0) 8 0) 9 0) 10 0) 11 0) 12 0) 13 0) 14 0) 15 0) 16 0) 17 0) 18 0) 19 0) 20 0) 21 0) 22 0) 23 0) 24 0) 25 0) 26 0) 27 0) 28 0) 29 0) 30 0) 31 0) 32 0) 33 0) 34 0) 35 0) 36 0) 37 0) 38 0) 39 0) 40 0) 41 0) 42 0) 43 0) 44 0)))] := hD
  refine lv_iinc (k := 0) (v := 45) hx hb d_Arrays_fill_f26_14 hl rfl (by decide) (by decide) rfl (fun ls hl => ?_)
  have hl : lv_has ls 4 [(2, .int 45), (3, .int 64), (0, .ref b), (1, .int 0)] := hl
  refine lv_goto hx hb d_Arrays_fill_f26_17 (tgt := 5) rfl ?_
  refine lv_iload_n hx hb d_Arrays_fill_f26_5 rfl (lv_at hl 0 rfl) ?_
  refine lv_iload_n hx hb d_Arrays_fill_f26_6 rfl (lv_at hl 1 rfl) ?_
  refine lv_icmp_ge hx hb d_Arrays_fill_f26_7 (tgt := 20) rfl (fun h9 => absurd h9 (by decide)) (fun _ => ?_)
  refine lv_aload_n hx hb d_Arrays_fill_f26_10 rfl (lv_at hl 2 rfl) ?_
  refine lv_iload_n hx hb d_Arrays_fill_f26_11 rfl (lv_at hl 0 rfl) ?_
  refine lv_iload_n hx hb d_Arrays_fill_f26_12 rfl (lv_at hl 3 rfl) ?_
  refine va_iast hx hb hK hP hD hS 0 1 rfl rfl (by unfold vp_in; decide) d_Arrays_fill_f26_13 (fun H locs hP hD hS => ?_)
  have hP : va_P D vwCl [(b, .inl (dA 1, 64, .inl (upd (upd (upd (upd (upd (upd (upd (upd (upd (upd (upd (upd (upd (upd (upd (upd (upd (upd (upd (upd (upd (upd (upd (upd (upd (upd (upd (upd (upd (upd (upd (upd (upd (upd (upd (upd (upd (upd (upd (upd (upd (upd (upd (upd (upd (upd g 0 0) 1 0) 2 0) 3 0) 4 0) 5 0) 6 0) 7 0) 8 0) 9 0) 10 0) 11 0) 12 0) 13 0) 14 0) 15 0) 16 0) 17 0) 18 0) 19 0) 20 0) 21 0) 22 0) 23 0) 24 0) 25 0) 26 0) 27 0) 28 0) 29 0) 30 0) 31 0) 32 0) 33 0) 34 0) 35 0) 36 0) 37 0) 38 0) 39 0) 40 0) 41 0) 42 0) 43 0) 44 0) 45 0)))] H := hP
  have hD : va_D A [(b, .inl (dA 1, 64, .inl (upd (upd (upd (upd (upd (upd (upd (upd (upd (upd (upd (upd (upd (upd (upd (upd (upd (upd (upd (upd (upd (upd (upd (upd (upd (upd (upd (upd (upd (upd (upd (upd (upd (upd (upd (upd (upd (upd (upd (upd (upd (upd (upd (upd (upd (upd g 0 0) 1 0) 2 0) 3 0) 4 0) 5 0) 6 0) 7 0) 8 0) 9 0) 10 0) 11 0) 12 0) 13 0) 14 0) 15 0) 16 0) 17 0) 18 0) 19 0) 20 0) 21 0) 22 0) 23 0) 24 0) 25 0) 26 0) 27 0) 28 0) 29 0) 30 0) 31 0) 32 0) 33 0) 34 0) 35 0) 36 0) 37 0) 38 0) 39 0) 40 0) 41 0) 42 0) 43 0) 44 0) 45 0)))] := hD
  refine lv_iinc (k := 0) (v := 46) hx hb d_Arrays_fill_f26_14 hl rfl (by decide) (by decide) rfl (fun ls hl => ?_)
  have hl : lv_has ls 4 [(2, .int 46), (3, .int 64), (0, .ref b), (1, .int 0)] := hl
  refine lv_goto hx hb d_Arrays_fill_f26_17 (tgt := 5) rfl ?_
  refine lv_iload_n hx hb d_Arrays_fill_f26_5 rfl (lv_at hl 0 rfl) ?_
  refine lv_iload_n hx hb d_Arrays_fill_f26_6 rfl (lv_at hl 1 rfl) ?_
  refine lv_icmp_ge hx hb d_Arrays_fill_f26_7 (tgt := 20) rfl (fun h9 => absurd h9 (by decide)) (fun _ => ?_)
  refine lv_aload_n hx hb d_Arrays_fill_f26_10 rfl (lv_at hl 2 rfl) ?_
  refine lv_iload_n hx hb d_Arrays_fill_f26_11 rfl (lv_at hl 0 rfl) ?_
  refine lv_iload_n hx hb d_Arrays_fill_f26_12 rfl (lv_at hl 3 rfl) ?_
  refine va_iast hx hb hK hP hD hS 0 1 rfl rfl (by unfold vp_in; decide) d_Arrays_fill_f26_13 (fun H locs hP hD hS => ?_)
  have hP : va_P D vwCl [(b, .inl (dA 1, 64, .inl (upd (upd (upd (upd (upd (upd (upd (upd (upd (upd (upd (upd (upd (upd (upd (upd (upd (upd (upd (upd (upd (upd (upd (upd (upd (upd (upd (upd (upd (upd (upd (upd (upd (upd (upd (upd (upd (upd (upd (upd (upd (upd (upd (upd (upd (upd (upd g 0 0) 1 0) 2 0) 3 0) 4 0) 5 0) 6 0) 7 0) 8 0) 9 0) 10 0) 11 0) 12 0) 13 0) 14 0) 15 0) 16 0) 17 0) 18 0) 19 0) 20 0) 21 0) 22 0) 23 0) 24 0) 25 0) 26 0) 27 0) 28 0) 29 0) 30 0) 31 0) 32 0) 33 0) 34 0) 35 0) 36 0) 37 0) 38 0) 39 0) 40 0) 41 0) 42 0) 43 0) 44 0) 45 0) 46 0)))] H := hP
  have hD : va_D A [(b, .inl (dA 1, 64, .inl (upd (upd (upd (upd (upd (upd (upd (upd (upd (upd (upd (upd (upd (upd (upd (upd (upd (upd (upd (upd (upd (upd (upd (upd (upd (upd (upd (upd (upd (upd (upd (upd (upd (upd (upd (upd (upd (upd (upd (upd (upd (upd (upd (upd (upd (upd (upd g 0 0) 1 0) 2 0) 3 0) 4 0) 5 0) 6 0) 7 0) 8 0) 9 0) 10 0) 11 0) 12 0) 13 0) 14 0) 15 0) 16 0) 17 0) 18 0) 19 0) 20 0) 21 0) 22 0) 23 0) 24 0) 25 0) 26 0) 27 0) 28 0) 29 0) 30 0) 31 0) 32 0) 33 0) 34 0) 35 0) 36 0) 37 0) 38 0) 39 0) 40 0) 41 0) 42 0) 43 0) 44 0) 45 0) 46 0)))] := hD
  refine lv_iinc (k := 0) (v := 47) hx hb d_Arrays_fill_f26_14 hl rfl (by decide) (by decide) rfl (fun ls hl => ?_)
  have hl : lv_has ls 4 [(2, .int 47), (3, .int 64), (0, .ref b), (1, .int 0)] := hl
  refine lv_goto hx hb d_Arrays_fill_f26_17 (tgt := 5) rfl ?_
  refine lv_iload_n hx hb d_Arrays_fill_f26_5 rfl (lv_at hl 0 rfl) ?_
  refine lv_iload_n hx hb d_Arrays_fill_f26_6 rfl (lv_at hl 1 rfl) ?_
  refine lv_icmp_ge hx hb d_Arrays_fill_f26_7 (tgt := 20) rfl (fun h9 => absurd h9 (by decide)) (fun _ => ?_)
  refine lv_aload_n hx hb d_Arrays_fill_f26_10 rfl (lv_at hl 2 rfl) ?_
  refine lv_iload_n hx hb d_Arrays_fill_f26_11 rfl (lv_at hl 0 rfl) ?_
  refine lv_iload_n hx hb d_Arrays_fill_f26_12 rfl (lv_at hl 3 rfl) ?_
  refine va_iast hx hb hK hP hD hS 0 1 rfl rfl (by unfold vp_in; decide) d_Arrays_fill_f26_13 (fun H locs hP hD hS => ?_)
  have hP : va_P D vwCl [(b, .inl (dA 1, 64, .inl (upd (upd (upd (upd (upd (upd (upd (upd (upd (upd (upd (upd (upd (upd (upd (upd (upd (upd (upd (upd (upd (upd (upd (upd (upd (upd (upd (upd (upd (upd (upd (upd (upd (upd (upd (upd (upd (upd (upd (upd (upd (upd (upd (upd (upd (upd (upd (upd g 0 0) 1 0) 2 0) 3 0) 4 0) 5 0) 6 0) 7 0) 8 0) 9 0) 10 0) 11 0) 12 0) 13 0) 14 0) 15 0) 16 0) 17 0) 18 0) 19 0) 20 0) 21 0) 22 0) 23 0) 24 0) 25 0) 26 0) 27 0) 28 0) 29 0) 30 0) 31 0) 32 0) 33 0) 34 0) 35 0) 36 0) 37 0) 38 0) 39 0) 40 0) 41 0) 42 0) 43 0) 44 0) 45 0) 46 0) 47 0)))] H := hP
  have hD : va_D A [(b, .inl (dA 1, 64, .inl (upd (upd (upd (upd (upd (upd (upd (upd (upd (upd (upd (upd (upd (upd (upd (upd (upd (upd (upd (upd (upd (upd (upd (upd (upd (upd (upd (upd (upd (upd (upd (upd (upd (upd (upd (upd (upd (upd (upd (upd (upd (upd (upd (upd (upd (upd (upd (upd g 0 0) 1 0) 2 0) 3 0) 4 0) 5 0) 6 0) 7 0) 8 0) 9 0) 10 0) 11 0) 12 0) 13 0) 14 0) 15 0) 16 0) 17 0) 18 0) 19 0) 20 0) 21 0) 22 0) 23 0) 24 0) 25 0) 26 0) 27 0) 28 0) 29 0) 30 0) 31 0) 32 0) 33 0) 34 0) 35 0) 36 0) 37 0) 38 0) 39 0) 40 0) 41 0) 42 0) 43 0) 44 0) 45 0) 46 0) 47 0)))] := hD
  refine lv_iinc (k := 0) (v := 48) hx hb d_Arrays_fill_f26_14 hl rfl (by decide) (by decide) rfl (fun ls hl => ?_)
  have hl : lv_has ls 4 [(2, .int 48), (3, .int 64), (0, .ref b), (1, .int 0)] := hl
  refine lv_goto hx hb d_Arrays_fill_f26_17 (tgt := 5) rfl ?_
  refine lv_iload_n hx hb d_Arrays_fill_f26_5 rfl (lv_at hl 0 rfl) ?_
  refine lv_iload_n hx hb d_Arrays_fill_f26_6 rfl (lv_at hl 1 rfl) ?_
  refine lv_icmp_ge hx hb d_Arrays_fill_f26_7 (tgt := 20) rfl (fun h9 => absurd h9 (by decide)) (fun _ => ?_)
  refine lv_aload_n hx hb d_Arrays_fill_f26_10 rfl (lv_at hl 2 rfl) ?_
  refine lv_iload_n hx hb d_Arrays_fill_f26_11 rfl (lv_at hl 0 rfl) ?_
  refine lv_iload_n hx hb d_Arrays_fill_f26_12 rfl (lv_at hl 3 rfl) ?_
  refine va_iast hx hb hK hP hD hS 0 1 rfl rfl (by unfold vp_in; decide) d_Arrays_fill_f26_13 (fun H locs hP hD hS => ?_)
  have hP : va_P D vwCl [(b, .inl (dA 1, 64, .inl (upd (upd (upd (upd (upd (upd (upd (upd (upd (upd (upd (upd (upd (upd (upd (upd (upd (upd (upd (upd (upd (upd (upd (upd (upd (upd (upd (upd (upd (upd (upd (upd (upd (upd (upd (upd (upd (upd (upd (upd (upd (upd (upd (upd (upd (upd (upd (upd (upd g 0 0) 1 0) 2 0) 3 0) 4 0) 5 0) 6 0) 7 0) 8 0) 9 0) 10 0) 11 0) 12 0) 13 0) 14 0) 15 0) 16 0) 17 0) 18 0) 19 0) 20 0) 21 0) 22 0) 23 0) 24 0) 25 0) 26 0) 27 0) 28 0) 29 0) 30 0) 31 0) 32 0) 33 0) 34 0) 35 0) 36 0) 37 0) 38 0) 39 0) 40 0) 41 0) 42 0) 43 0) 44 0) 45 0) 46 0) 47 0) 48 0)))] H := hP
  have hD : va_D A [(b, .inl (dA 1, 64, .inl (upd (upd (upd (upd (upd (upd (upd (upd (upd (upd (upd (upd (upd (upd (upd (upd (upd (upd (upd (upd (upd (upd (upd (upd (upd (upd (upd (upd (upd (upd (upd (upd (upd (upd (upd (upd (upd (upd (upd (upd (upd (upd (upd (upd (upd (upd (upd (upd (upd g 0 0) 1 0) 2 0) 3 0) 4 0) 5 0) 6 0) 7 0) 8 0) 9 0) 10 0) 11 0) 12 0) 13 0) 14 0) 15 0) 16 0) 17 0) 18 0) 19 0) 20 0) 21 0) 22 0) 23 0) 24 0) 25 0) 26 0) 27 0) 28 0) 29 0) 30 0) 31 0) 32 0) 33 0) 34 0) 35 0) 36 0) 37 0) 38 0) 39 0) 40 0) 41 0) 42 0) 43 0) 44 0) 45 0) 46 0) 47 0) 48 0)))] := hD
  refine lv_iinc (k := 0) (v := 49) hx hb d_Arrays_fill_f26_14 hl rfl (by decide) (by decide) rfl (fun ls hl => ?_)
  have hl : lv_has ls 4 [(2, .int 49), (3, .int 64), (0, .ref b), (1, .int 0)] := hl
  refine lv_goto hx hb d_Arrays_fill_f26_17 (tgt := 5) rfl ?_
  refine lv_iload_n hx hb d_Arrays_fill_f26_5 rfl (lv_at hl 0 rfl) ?_
  refine lv_iload_n hx hb d_Arrays_fill_f26_6 rfl (lv_at hl 1 rfl) ?_
  refine lv_icmp_ge hx hb d_Arrays_fill_f26_7 (tgt := 20) rfl (fun h9 => absurd h9 (by decide)) (fun _ => ?_)
  refine lv_aload_n hx hb d_Arrays_fill_f26_10 rfl (lv_at hl 2 rfl) ?_
  refine lv_iload_n hx hb d_Arrays_fill_f26_11 rfl (lv_at hl 0 rfl) ?_
  refine lv_iload_n hx hb d_Arrays_fill_f26_12 rfl (lv_at hl 3 rfl) ?_
  refine va_iast hx hb hK hP hD hS 0 1 rfl rfl (by unfold vp_in; decide) d_Arrays_fill_f26_13 (fun H locs hP hD hS => ?_)
  have hP : va_P D vwCl [(b, .inl (dA 1, 64, .inl (upd (upd (upd (upd (upd (upd (upd (upd (upd (upd (upd (upd (upd (upd (upd (upd (upd (upd (upd (upd (upd (upd (upd (upd (upd (upd (upd (upd (upd (upd (upd (upd (upd (upd (upd (upd (upd (upd (upd (upd (upd (upd (upd (upd (upd (upd (upd (upd (upd (upd g 0 0) 1 0) 2 0) 3 0) 4 0) 5 0) 6 0) 7 0) 8 0) 9 0) 10 0) 11 0) 12 0) 13 0) 14 0) 15 0) 16 0) 17 0) 18 0) 19 0) 20 0) 21 0) 22 0) 23 0) 24 0) 25 0) 26 0) 27 0) 28 0) 29 0) 30 0) 31 0) 32 0) 33 0) 34 0) 35 0) 36 0) 37 0) 38 0) 39 0) 40 0) 41 0) 42 0) 43 0) 44 0) 45 0) 46 0) 47 0) 48 0) 49 0)))] H := hP
  have hD : va_D A [(b, .inl (dA 1, 64, .inl (upd (upd (upd (upd (upd (upd (upd (upd (upd (upd (upd (upd (upd (upd (upd (upd (upd (upd (upd (upd (upd (upd (upd (upd (upd (upd (upd (upd (upd (upd (upd (upd (upd (upd (upd (upd (upd (upd (upd (upd (upd (upd (upd (upd (upd (upd (upd (upd (upd (upd g 0 0) 1 0) 2 0) 3 0) 4 0) 5 0) 6 0) 7 0) 8 0) 9 0) 10 0) 11 0) 12 0) 13 0) 14 0) 15 0) 16 0) 17 0) 18 0) 19 0) 20 0) 21 0) 22 0) 23 0) 24 0) 25 0) 26 0) 27 0) 28 0) 29 0) 30 0) 31 0) 32 0) 33 0) 34 0) 35 0) 36 0) 37 0) 38 0) 39 0) 40 0) 41 0) 42 0) 43 0) 44 0) 45 0) 46 0) 47 0) 48 0) 49 0)))] := hD
  refine lv_iinc (k := 0) (v := 50) hx hb d_Arrays_fill_f26_14 hl rfl (by decide) (by decide) rfl (fun ls hl => ?_)
  have hl : lv_has ls 4 [(2, .int 50), (3, .int 64), (0, .ref b), (1, .int 0)] := hl
  refine lv_goto hx hb d_Arrays_fill_f26_17 (tgt := 5) rfl ?_
  refine lv_iload_n hx hb d_Arrays_fill_f26_5 rfl (lv_at hl 0 rfl) ?_
  refine lv_iload_n hx hb d_Arrays_fill_f26_6 rfl (lv_at hl 1 rfl) ?_
  refine lv_icmp_ge hx hb d_Arrays_fill_f26_7 (tgt := 20) rfl (fun h9 => absurd h9 (by decide)) (fun _ => ?_)
  refine lv_aload_n hx hb d_Arrays_fill_f26_10 rfl (lv_at hl 2 rfl) ?_
  refine lv_iload_n hx hb d_Arrays_fill_f26_11 rfl (lv_at hl 0 rfl) ?_
  refine lv_iload_n hx hb d_Arrays_fill_f26_12 rfl (lv_at hl 3 rfl) ?_
  refine va_iast hx hb hK hP hD hS 0 1 rfl rfl (by unfold vp_in; decide) d_Arrays_fill_f26_13 (fun H locs hP hD hS => ?_)
  have hP : va_P D vwCl [(b, .inl (dA 1, 64, .inl (upd (upd (upd (upd (upd (upd (upd (upd (upd (upd (upd (upd (upd (upd (upd (upd (upd (upd (upd (upd (upd (upd (upd (upd (upd (upd (upd (upd (upd (upd (upd (upd (upd (upd (upd (upd (upd (upd (upd (upd (upd (upd (upd (upd (upd (upd (upd (upd (upd (upd (upd g 0 0) 1 0) 2 0) 3 0) 4 0) 5 0) 6 0) 7 0) 8 0) 9 0) 10 0) 11 0) 12 0) 13 0) 14 0) 15 0) 16 0) 17 0) 18 0) 19 0) 20 0) 21 0) 22 0) 23 0) 24 0) 25 0) 26 0) 27 0) 28 0) 29 0) 30 0) 31 0) 32 0) 33 0) 34 0) 35 0) 36 0) 37 0) 38 0) 39 0) 40 0) 41 0) 42 0) 43 0) 44 0) 45 0) 46 0) 47 0) 48 0) 49 0) 50 0)))] H := hP
  have hD : va_D A [(b, .inl (dA 1, 64, .inl (upd (upd (upd (upd (upd (upd (upd (upd (upd (upd (upd (upd (upd (upd (upd (upd (upd (upd (upd (upd (upd (upd (upd (upd (upd (upd (upd (upd (upd (upd (upd (upd (upd (upd (upd (upd (upd (upd (upd (upd (upd (upd (upd (upd (upd (upd (upd (upd (upd (upd (upd g 0 0) 1 0) 2 0) 3 0) 4 0) 5 0) 6 0) 7 0) 8 0) 9 0) 10 0) 11 0) 12 0) 13 0) 14 0) 15 0) 16 0) 17 0) 18 0) 19 0) 20 0) 21 0) 22 0) 23 0) 24 0) 25 0) 26 0) 27 0) 28 0) 29 0) 30 0) 31 0) 32 0) 33 0) 34 0) 35 0) 36 0) 37 0) 38 0) 39 0) 40 0) 41 0) 42 0) 43 0) 44 0) 45 0) 46 0) 47 0) 48 0) 49 0) 50 0)))] := hD
  refine lv_iinc (k := 0) (v := 51) hx hb d_Arrays_fill_f26_14 hl rfl (by decide) (by decide) rfl (fun ls hl => ?_)
  have hl : lv_has ls 4 [(2, .int 51), (3, .int 64), (0, .ref b), (1, .int 0)] := hl
  refine lv_goto hx hb d_Arrays_fill_f26_17 (tgt := 5) rfl ?_
  refine lv_iload_n hx hb d_Arrays_fill_f26_5 rfl (lv_at hl 0 rfl) ?_
  refine lv_iload_n hx hb d_Arrays_fill_f26_6 rfl (lv_at hl 1 rfl) ?_
  refine lv_icmp_ge hx hb d_Arrays_fill_f26_7 (tgt := 20) rfl (fun h9 => absurd h9 (by decide)) (fun _ => ?_)
  refine lv_aload_n hx hb d_Arrays_fill_f26_10 rfl (lv_at hl 2 rfl) ?_
  refine lv_iload_n hx hb d_Arrays_fill_f26_11 rfl (lv_at hl 0 rfl) ?_
  refine lv_iload_n hx hb d_Arrays_fill_f26_12 rfl (lv_at hl 3 rfl) ?_
  refine va_iast hx hb hK hP hD hS 0 1 rfl rfl (by unfold vp_in; decide) d_Arrays_fill_f26_13 (fun H locs hP hD hS => ?_)
  have hP : va_P D vwCl [(b, .inl (dA 1, 64, .inl (upd (upd (upd (upd (upd (upd (upd (upd (upd (upd (upd (upd (upd (upd (upd (upd (upd (upd (upd (upd (upd (upd (upd (upd (upd (upd (upd (upd (upd (upd (upd (upd (upd (upd (upd (upd (upd (upd (upd (upd (upd (upd (upd (upd (upd (upd (upd (upd (upd (upd (upd (upd g 0 0) 1 0) 2 0) 3 0) 4 0) 5 0) 6 0) 7 0) 8 0) 9 0) 10 0) 11 0) 12 0) 13 0) 14 0) 15 0) 16 0) 17 0) 18 0) 19 0) 20 0) 21 0) 22 0) 23 0) 24 0) 25 0) 26 0) 27 0) 28 0) 29 0) 30 0) 31 0) 32 0) 33 0) 34 0) 35 0) 36 0) 37 0) 38 0) 39 0) 40 0) 41 0) 42 0) 43 0) 44 0) 45 0) 46 0) 47 0) 48 0) 49 0) 50 0) 51 0)))] H := hP
  have hD : va_D A [(b, .inl (dA 1, 64, .inl (upd (upd (upd (upd (upd (upd (upd (upd (upd (upd (upd (upd (upd (upd (upd (upd (upd (upd (upd (upd (upd (upd (upd (upd (upd (upd (upd (upd (upd (upd (upd (upd (upd (upd (upd (upd (upd (upd (upd (upd (upd (upd (upd (upd (upd (upd (upd (upd (upd (upd (upd (upd g 0 0) 1 0) 2 0) 3 0) 4 0) 5 0) 6 0) 7 0) 8 0) 9 0) 10 0) 11 0) 12 0) 13 0) 14 0) 15 0) 16 0) 17 0) 18 0) 19 0) 20 0) 21 0) 22 0) 23 0) 24 0) 25 0) 26 0) 27 0) 28 0) 29 0) 30 0) 31 0) 32 0) 33 0) 34 0) 35 0) 36 0) 37 0) 38 0) 39 0) 40 0) 41 0) 42 0) 43 0) 44 0) 45 0) 46 0) 47 0) 48 0) 49 0) 50 0) 51 0)))] := hD
  refine lv_iinc (k := 0) (v := 52) hx hb d_Arrays_fill_f26_14 hl rfl (by decide) (by decide) rfl (fun ls hl => ?_)
  have hl : lv_has ls 4 [(2, .int 52), (3, .int 64), (0, .ref b), (1, .int 0)] := hl
  refine lv_goto hx hb d_Arrays_fill_f26_17 (tgt := 5) rfl ?_
  refine lv_iload_n hx hb d_Arrays_fill_f26_5 rfl (lv_at hl 0 rfl) ?_
  refine lv_iload_n hx hb d_Arrays_fill_f26_6 rfl (lv_at hl 1 rfl) ?_
  refine lv_icmp_ge hx hb d_Arrays_fill_f26_7 (tgt := 20) rfl (fun h9 => absurd h9 (by decide)) (fun _ => ?_)
  refine lv_aload_n hx hb d_Arrays_fill_f26_10 rfl (lv_at hl 2 rfl) ?_
  refine lv_iload_n hx hb d_Arrays_fill_f26_11 rfl (lv_at hl 0 rfl) ?_
  refine lv_iload_n hx hb d_Arrays_fill_f26_12 rfl (lv_at hl 3 rfl) ?_
  refine va_iast hx hb hK hP hD hS 0 1 rfl rfl (by unfold vp_in; decide) d_Arrays_fill_f26_13 (fun H locs hP hD hS => ?_)
  have hP : va_P D vwCl [(b, .inl (dA 1, 64, .inl (upd (upd (upd (upd (upd (upd (upd (upd (upd (upd (upd (upd (upd (upd (upd (upd (upd (upd (upd (upd (upd (upd (upd (upd (upd (upd (upd (upd (upd (upd (upd (upd (upd (upd (upd (upd (upd (upd (upd (upd (upd (upd (upd (upd (upd (upd (upd (upd (upd (upd (upd (upd (upd g 0 0) 1 0) 2 0) 3 0) 4 0) 5 0) 6 0) 7 0) 8 0) 9 0) 10 0) 11 0) 12 0) 13 0) 14 0) 15 0) 16 0) 17 0) 18 0) 19 0) 20 0) 21 0) 22 0) 23 0) 24 0) 25 0) 26 0) 27 0) 28 0) 29 0) 30 0) 31 0) 32 0) 33 0) 34 0) 35 0) 36 0) 37 0) 38 0) 39 0) 40 0) 41 0) 42 0) 43 0) 44 0) 45 0) 46 0) 47 0) 48 0) 49 0) 50 0) 51 0) 52 0)))] H := hP
  have hD : va_D A [(b, .inl (dA 1, 64, .inl (upd (upd (upd (upd (upd (upd (upd (upd (upd (upd (upd (upd (upd (upd (upd (upd (upd (upd (upd (upd (upd (upd (upd (upd (upd (upd (upd (upd (upd (upd (upd (upd (upd (upd (upd (upd (upd (upd (upd (upd (upd (upd (upd (upd (upd (upd (upd (upd (upd (upd (upd (upd (upd g 0 0) 1 0) 2 0) 3 0) 4 0) 5 0) 6 0) 7 0) 8 0) 9 0) 10 0) 11 0) 12 0) 13 0) 14 0) 15 0) 16 0) 17 0) 18 0) 19 0) 20 0) 21 0) 22 0) 23 0) 24 0) 25 0) 26 0) 27 0) 28 0) 29 0) 30 0) 31 0) 32 0) 33 0) 34 0) 35 0) 36 0) 37 0) 38 0) 39 0) 40 0) 41 0) 42 0) 43 0) 44 0) 45 0) 46 0) 47 0) 48 0) 49 0) 50 0) 51 0) 52 0)))] := hD
  refine lv_iinc (k := 0) (v := 53) hx hb d_Arrays_fill_f26_14 hl rfl (by decide) (by decide) rfl (fun ls hl => ?_)
  have hl : lv_has ls 4 [(2, .int 53), (3, .int 64), (0, .ref b), (1, .int 0)] := hl
  refine lv_goto hx hb d_Arrays_fill_f26_17 (tgt := 5) rfl ?_
  refine lv_iload_n hx hb d_Arrays_fill_f26_5 rfl (lv_at hl 0 rfl) ?_
  refine lv_iload_n hx hb d_Arrays_fill_f26_6 rfl (lv_at hl 1 rfl) ?_
  refine lv_icmp_ge hx hb d_Arrays_fill_f26_7 (tgt := 20) rfl (fun h9 => absurd h9 (by decide)) (fun _ => ?_)
  refine lv_aload_n hx hb d_Arrays_fill_f26_10 rfl (lv_at hl 2 rfl) ?_
  refine lv_iload_n hx hb d_Arrays_fill_f26_11 rfl (lv_at hl 0 rfl) ?_
  refine lv_iload_n hx hb d_Arrays_fill_f26_12 rfl (lv_at hl 3 rfl) ?_
  refine va_iast hx hb hK hP hD hS 0 1 rfl rfl (by unfold vp_in; decide) d_Arrays_fill_f26_13 (fun H locs hP hD hS => ?_)
  have hP : va_P D vwCl [(b, .inl (dA 1, 64, .inl (upd (upd (upd (upd (upd (upd (upd (upd (upd (upd (upd (upd (upd (upd (upd (upd (upd (upd (upd (upd (upd (upd (upd (upd (upd (upd (upd (upd (upd (upd (upd (upd (upd (upd (upd (upd (upd (upd (upd (upd (upd (upd (upd (upd (upd (upd (upd (upd (upd (upd (upd (upd (upd (upd g 0 0) 1 0) 2 0) 3 0) 4 0) 5 0) 6 0) 7 0) 8 0) 9 0) 10 0) 11 0) 12 0) 13 0) 14 0) 15 0) 16 0) 17 0) 18 0) 19 0) 20 0) 21 0) 22 0) 23 0) 24 0) 25 0) 26 0) 27 0) 28 0) 29 0) 30 0) 31 0) 32 0) 33 0) 34 0) 35 0) 36 0) 37 0) 38 0) 39 0) 40 0) 41 0) 42 0) 43 0) 44 0) 45 0) 46 0) 47 0) 48 0) 49 0) 50 0) 51 0) 52 0) 53 0)))] H := hP
  have hD : va_D A [(b, .inl (dA 1, 64, .inl (upd (upd (upd (upd (upd (upd (upd (upd (upd (upd (upd (upd (upd (upd (upd (upd (upd (upd (upd (upd (upd (upd (upd (upd (upd (upd (upd (upd (upd (upd (upd (upd (upd (upd (upd (upd (upd (upd (upd (upd (upd (upd (upd (upd (upd (upd (upd (upd (upd (upd (upd (upd (upd (upd g 0 0) 1 0) 2 0) 3 0) 4 0) 5 0) 6 0) 7 0) 8 0) 9 0) 10 0) 11 0) 12 0) 13 0) 14 0) 15 0) 16 0) 17 0) 18 0) 19 0) 20 0) 21 0) 22 0) 23 0) 24 0) 25 0) 26 0) 27 0) 28 0) 29 0) 30 0) 31 0) 32 0) 33 0) 34 0) 35 0) 36 0) 37 0) 38 0) 39 0) 40 0) 41 0) 42 0) 43 0) 44 0) 45 0) 46 0) 47 0) 48 0) 49 0) 50 0) 51 0) 52 0) 53 0)))] := hD
  refine lv_iinc (k := 0) (v := 54) hx hb d_Arrays_fill_f26_14 hl rfl (by decide) (by decide) rfl (fun ls hl => ?_)
  have hl : lv_has ls 4 [(2, .int 54), (3, .int 64), (0, .ref b), (1, .int 0)] := hl
  refine lv_goto hx hb d_Arrays_fill_f26_17 (tgt := 5) rfl ?_
  refine lv_iload_n hx hb d_Arrays_fill_f26_5 rfl (lv_at hl 0 rfl) ?_
  refine lv_iload_n hx hb d_Arrays_fill_f26_6 rfl (lv_at hl 1 rfl) ?_
  refine lv_icmp_ge hx hb d_Arrays_fill_f26_7 (tgt := 20) rfl (fun h9 => absurd h9 (by decide)) (fun _ => ?_)
  refine lv_aload_n hx hb d_Arrays_fill_f26_10 rfl (lv_at hl 2 rfl) ?_
  refine lv_iload_n hx hb d_Arrays_fill_f26_11 rfl (lv_at hl 0 rfl) ?_
  refine lv_iload_n hx hb d_Arrays_fill_f26_12 rfl (lv_at hl 3 rfl) ?_
  refine va_iast hx hb hK hP hD hS 0 1 rfl rfl (by unfold vp_in; decide) d_Arrays_fill_f26_13 (fun H locs hP hD hS => ?_)
  have hP : va_P D vwCl [(b, .inl (dA 1, 64, .inl (upd (upd (upd (upd (upd (upd (upd (upd (upd (upd (upd (upd (upd (upd (upd (upd (upd (upd (upd (upd (upd (upd (upd (upd (upd (upd (upd (upd (upd (upd (upd (upd (upd (upd (upd (upd (upd (upd (upd (upd (upd (upd (upd (upd (upd (upd (upd (upd (upd (upd (upd (upd (upd (upd (upd g 0 0) 1 0) 2 0) 3 0) 4 0) 5 0) 6 0) 7 0) 8 0) 9 0) 10 0) 11 0) 12 0) 13 0) 14 0) 15 0) 16 0) 17 0) 18 0) 19 0) 20 0) 21 0) 22 0) 23 0) 24 0) 25 0) 26 0) 27 0) 28 0) 29 0) 30 0) 31 0) 32 0) 33 0) 34 0) 35 0) 36 0) 37 0) 38 0) 39 0) 40 0) 41 0) 42 0) 43 0) 44 0) 45 0) 46 0) 47 0) 48 0) 49 0) 50 0) 51 0) 52 0) 53 0) 54 0)))] H := hP
  have hD : va_D A [(b, .inl (dA 1, 64, .inl (upd (upd (upd (upd (upd (upd (upd (upd (upd (upd (upd (upd (upd (upd (upd (upd (upd (upd (upd (upd (upd (upd (upd (upd (upd (upd (upd (upd (upd (upd (upd (upd (upd (upd (upd (upd (upd (upd (upd (upd (upd (upd (upd (upd (upd (upd (upd (upd (upd (upd (upd (upd (upd (upd (upd g 0 0) 1 0) 2 0) 3 0) 4 0) 5 0) 6 0) 7 0) 8 0) 9 0) 10 0) 11 0) 12 0) 13 0) 14 0) 15 0) 16 0) 17 0) 18 0) 19 0) 20 0) 21 0) 22 0) 23 0) 24 0) 25 0) 26 0) 27 0) 28 0) 29 0) 30 0) 31 0) 32 0) 33 0) 34 0) 35 0) 36 0) 37 0) 38 0) 39 0) 40 0) 41 0) 42 0) 43 0) 44 0) 45 0) 46 0) 47 0) 48 0) 49 0) 50 0) 51 0) 52 0) 53 0) 54 0)))] := hD
  refine lv_iinc (k := 0) (v := 55) hx hb d_Arrays_fill_f26_14 hl rfl (by decide) (by decide) rfl (fun ls hl => ?_)
  have hl : lv_has ls 4 [(2, .int 55), (3, .int 64), (0, .ref b), (1, .int 0)] := hl
  refine lv_goto hx hb d_Arrays_fill_f26_17 (tgt := 5) rfl ?_
  refine lv_iload_n hx hb d_Arrays_fill_f26_5 rfl (lv_at hl 0 rfl) ?_
  refine lv_iload_n hx hb d_Arrays_fill_f26_6 rfl (lv_at hl 1 rfl) ?_
  refine lv_icmp_ge hx hb d_Arrays_fill_f26_7 (tgt := 20) rfl (fun h9 => absurd h9 (by decide)) (fun _ => ?_)
  refine lv_aload_n hx hb d_Arrays_fill_f26_10 rfl (lv_at hl 2 rfl) ?_
  refine lv_iload_n hx hb d_Arrays_fill_f26_11 rfl (lv_at hl 0 rfl) ?_
  refine lv_iload_n hx hb d_Arrays_fill_f26_12 rfl (lv_at hl 3 rfl) ?_
  refine va_iast hx hb hK hP hD hS 0 1 rfl rfl (by unfold vp_in; decide) d_Arrays_fill_f26_13 (fun H locs hP hD hS => ?_)
  have hP : va_P D vwCl [(b, .inl (dA 1, 64, .inl (upd (upd (upd (upd (upd (upd (upd (upd (upd (upd (upd (upd (upd (upd (upd (upd (upd (upd (upd (upd (upd (upd (upd (upd (upd (upd (upd (upd (upd (upd (upd (upd (upd (upd (upd (upd (upd (upd (upd (upd (upd (upd (upd (upd (upd (upd (upd (upd (upd (upd (upd (upd (upd (upd (upd (upd g 0 0) 1 0) 2 0) 3 0) 4 0) 5 0) 6 0) 7 0) 8 0) 9 0) 10 0) 11 0) 12 0) 13 0) 14 0) 15 0) 16 0) 17 0) 18 0) 19 0) 20 0) 21 0) 22 0) 23 0) 24 0) 25 0) 26 0) 27 0) 28 0) 29 0) 30 0) 31 0) 32 0) 33 0) 34 0) 35 0) 36 0) 37 0) 38 0) 39 0) 40 0) 41 0) 42 0) 43 0) 44 0) 45 0) 46 0) 47 0) 48 0) 49 0) 50 0) 51 0) 52 0) 53 0) 54 0) 55 0)))] H := hP
  have hD : va_D A [(b, .inl (dA 1, 64, .inl (upd (upd (upd (upd (upd (upd (upd (upd (upd (upd (upd (upd (upd (upd (upd (upd (upd (upd (upd (upd (upd (upd (upd (upd (upd (upd (upd (upd (upd (upd (upd (upd (upd (upd (upd (upd (upd (upd (upd (upd (upd (upd (upd (upd (upd (upd (upd (upd (upd (upd (upd (upd (upd (upd (upd (upd g 0 0) 1 0) 2 0) 3 0) 4 0) 5 0) 6 0) 7 0) 8 0) 9 0) 10 0) 11 0) 12 0) 13 0) 14 0) 15 0) 16 0) 17 0) 18 0) 19 0) 20 0) 21 0) 22 0) 23 0) 24 0) 25 0) 26 0) 27 0) 28 0) 29 0) 30 0) 31 0) 32 0) 33 0) 34 0) 35 0) 36 0) 37 0) 38 0) 39 0) 40 0) 41 0) 42 0) 43 0) 44 0) 45 0) 46 0) 47 0) 48 0) 49 0) 50 0) 51 0) 52 0) 53 0) 54 0) 55 0)))] := hD
  refine lv_iinc (k := 0) (v := 56) hx hb d_Arrays_fill_f26_14 hl rfl (by decide) (by decide) rfl (fun ls hl => ?_)
  have hl : lv_has ls 4 [(2, .int 56), (3, .int 64), (0, .ref b), (1, .int 0)] := hl
  refine lv_goto hx hb d_Arrays_fill_f26_17 (tgt := 5) rfl ?_
  refine lv_iload_n hx hb d_Arrays_fill_f26_5 rfl (lv_at hl 0 rfl) ?_
  refine lv_iload_n hx hb d_Arrays_fill_f26_6 rfl (lv_at hl 1 rfl) ?_
  refine lv_icmp_ge hx hb d_Arrays_fill_f26_7 (tgt := 20) rfl (fun h9 => absurd h9 (by decide)) (fun _ => ?_)
  refine lv_aload_n hx hb d_Arrays_fill_f26_10 rfl (lv_at hl 2 rfl) ?_
  refine lv_iload_n hx hb d_Arrays_fill_f26_11 rfl (lv_at hl 0 rfl) ?_
  refine lv_iload_n hx hb d_Arrays_fill_f26_12 rfl (lv_at hl 3 rfl) ?_
  refine va_iast hx hb hK hP hD hS 0 1 rfl rfl (by unfold vp_in; decide) d_Arrays_fill_f26_13 (fun H locs hP hD hS => ?_)
  have hP : va_P D vwCl [(b, .inl (dA 1, 64, .inl (upd (upd (upd (upd (upd (upd (upd (upd (upd (upd (upd (upd (upd (upd (upd (upd (upd (upd (upd (upd (upd (upd (upd (upd (upd (upd (upd (upd (upd (upd (upd (upd (upd (upd (upd (upd (upd (upd (upd (upd (upd (upd (upd (upd (upd (upd (upd (upd (upd (upd (upd (upd (upd (upd (upd (upd (upd g 0 0) 1 0) 2 0) 3 0) 4 0) 5 0) 6 0) 7 0) 8 0) 9 0) 10 0) 11 0) 12 0) 13 0) 14 0) 15 0) 16 0) 17 0) 18 0) 19 0) 20 0) 21 0) 22 0) 23 0) 24 0) 25 0) 26 0) 27 0) 28 0) 29 0) 30 0) 31 0) 32 0) 33 0) 34 0) 35 0) 36 0) 37 0) 38 0) 39 0) 40 0) 41 0) 42 0) 43 0) 44 0) 45 0) 46 0) 47 0) 48 0) 49 0) 50 0) 51 0) 52 0) 53 0) 54 0) 55 0) 56 0)))] H := hP
  have hD : va_D A [(b, .inl (dA 1, 64, .inl (upd (upd (upd (upd (upd (upd (upd (upd (upd (upd (upd (upd (upd (upd (upd (upd (upd (upd (upd (upd (upd (upd (upd (upd (upd (upd (upd (upd (upd (upd (upd (upd (upd (upd (upd (upd (upd (upd (upd (upd (upd (upd (upd (upd (upd (upd (upd (upd (upd (upd (upd (upd (upd (upd (upd (upd (upd g 0 0) 1 0) 2 0) 3 0) 4 0) 5 0) 6 0) 7 0) 8 0) 9 0) 10 0) 11 0) 12 0) 13 0) 14 0) 15 0) 16 0) 17 0) 18 0) 19 0) 20 0) 21 0) 22 0) 23 0) 24 0) 25 0) 26 0) 27 0) 28 0) 29 0) 30 0) 31 0) 32 0) 33 0) 34 0) 35 0) 36 0) 37 0) 38 0) 39 0) 40 0) 41 0) 42 0) 43 0) 44 0) 45 0) 46 0) 47 0) 48 0) 49 0) 50 0) 51 0) 52 0) 53 0) 54 0) 55 0) 56 0)))] := hD
  refine lv_iinc (k := 0) (v := 57) hx hb d_Arrays_fill_f26_14 hl rfl (by decide) (by decide) rfl (fun ls hl => ?_)
  have hl : lv_has ls 4 [(2, .int 57), (3, .int 64), (0, .ref b), (1, .int 0)] := hl
  refine lv_goto hx hb d_Arrays_fill_f26_17 (tgt := 5) rfl ?_
  refine lv_iload_n hx hb d_Arrays_fill_f26_5 rfl (lv_at hl 0 rfl) ?_
  refine lv_iload_n hx hb d_Arrays_fill_f26_6 rfl (lv_at hl 1 rfl) ?_
  refine lv_icmp_ge hx hb d_Arrays_fill_f26_7 (tgt := 20) rfl (fun h9 => absurd h9 (by decide)) (fun _ => ?_)
  refine lv_aload_n hx hb d_Arrays_fill_f26_10 rfl (lv_at hl 2 rfl) ?_
  refine lv_iload_n hx hb d_Arrays_fill_f26_11 rfl (lv_at hl 0 rfl) ?_
  refine lv_iload_n hx hb d_Arrays_fill_f26_12 rfl (lv_at hl 3 rfl) ?_
  refine va_iast hx hb hK hP hD hS 0 1 rfl rfl (by unfold vp_in; decide) d_Arrays_fill_f26_13 (fun H locs hP hD hS => ?_)
  have hP : va_P D vwCl [(b, .inl (dA 1, 64, .inl (upd (upd (upd (upd (upd (upd (upd (upd (upd (upd (upd (upd (upd (upd (upd (upd (upd (upd (upd (upd (upd (upd (upd (upd (upd (upd (upd (upd (upd (upd (upd (upd (upd (upd (upd (upd (upd (upd (upd (upd (upd (upd (upd (upd (upd (upd (upd (upd (upd (upd (upd (upd (upd (upd (upd (upd (upd (upd g 0 0) 1 0) 2 0) 3 0) 4 0) 5 0) 6 0) 7 0) 8 0) 9 0) 10 0) 11 0) 12 0) 13 0) 14 0) 15 0) 16 0) 17 0) 18 0) 19 0) 20 0) 21 0) 22 0) 23 0) 24 0) 25 0) 26 0) 27 0) 28 0) 29 0) 30 0) 31 0) 32 0) 33 0) 34 0) 35 0) 36 0) 37 0) 38 0) 39 0) 40 0) 41 0) 42 0) 43 0) 44 0) 45 0) 46 0) 47 0) 48 0) 49 0) 50 0) 51 0) 52 0) 53 0) 54 0) 55 0) 56 0) 57 0)))] H := hP
  have hD : va_D A [(b, .inl (dA 1, 64, .inl (upd (upd (upd (upd (upd (upd (upd (upd (upd (upd (upd (upd (upd (upd (upd (upd (upd (upd (upd (upd (upd (upd (upd (upd (upd (upd (upd (upd (upd (upd (upd (upd (upd (upd (upd (upd (upd (upd (upd (upd (upd (upd (upd (upd (upd (upd (upd (upd (upd (upd (upd (upd (upd (upd (upd (upd (upd (upd g 0 0) 1 0) 2 0) 3 0) 4 0) 5 0) 6 0) 7 0) 8 0) 9 0) 10 0) 11 0) 12 0) 13 0) 14 0) 15 0) 16 0) 17 0) 18 0) 19 0) 20 0) 21 0) 22 0) 23 0) 24 0) 25 0) 26 0) 27 0) 28 0) 29 0) 30 0) 31 0) 32 0) 33 0) 34 0) 35 0) 36 0) 37 0) 38 0) 39 0) 40 0) 41 0) 42 0) 43 0) 44 0) 45 0) 46 0) 47 0) 48 0) 49 0) 50 0) 51 0) 52 0) 53 0) 54 0) 55 0) 56 0) 57 0)))] := hD
  refine lv_iinc (k := 0) (v := 58) hx hb d_Arrays_fill_f26_14 hl rfl (by decide) (by decide) rfl (fun ls hl => ?_)
  have hl : lv_has ls 4 [(2, .int 58), (3, .int 64), (0, .ref b), (1, .int 0)] := hl
  refine lv_goto hx hb d_Arrays_fill_f26_17 (tgt := 5) rfl ?_
  refine lv_iload_n hx hb d_Arrays_fill_f26_5 rfl (lv_at hl 0 rfl) ?_
  refine lv_iload_n hx hb d_Arrays_fill_f26_6 rfl (lv_at hl 1 rfl) ?_
  refine lv_icmp_ge hx hb d_Arrays_fill_f26_7 (tgt := 20) rfl (fun h9 => absurd h9 (by decide)) (fun _ => ?_)
  refine lv_aload_n hx hb d_Arrays_fill_f26_10 rfl (lv_at hl 2 rfl) ?_
  refine lv_iload_n hx hb d_Arrays_fill_f26_11 rfl (lv_at hl 0 rfl) ?_
  refine lv_iload_n hx hb d_Arrays_fill_f26_12 rfl (lv_at hl 3 rfl) ?_
  refine va_iast hx hb hK hP hD hS 0 1 rfl rfl (by unfold vp_in; decide) d_Arrays_fill_f26_13 (fun H locs hP hD hS => ?_)
  have hP : va_P D vwCl [(b, .inl (dA 1, 64, .inl (upd (upd (upd (upd (upd (upd (upd (upd (upd (upd (upd (upd (upd (upd (upd (upd (upd (upd (upd (upd (upd (upd (upd (upd (upd (upd (upd (upd (upd (upd (upd (upd (upd (upd (upd (upd (upd (upd (upd (upd (upd (upd (upd (upd (upd (upd (upd (upd (upd (upd (upd (upd (upd (upd (upd (upd (upd (upd (upd g 0 0) 1 0) 2 0) 3 0) 4 0) 5 0) 6 0) 7 0) 8 0) 9 0) 10 0) 11 0) 12 0) 13 0) 14 0) 15 0) 16 0) 17 0) 18 0) 19 0) 20 0) 21 0) 22 0) 23 0) 24 0) 25 0) 26 0) 27 0) 28 0) 29 0) 30 0) 31 0) 32 0) 33 0) 34 0) 35 0) 36 0) 37 0) 38 0) 39 0) 40 0) 41 0) 42 0) 43 0) 44 0) 45 0) 46 0) 47 0) 48 0) 49 0) 50 0) 51 0) 52 0) 53 0) 54 0) 55 0) 56 0) 57 0) 58 0)))] H := hP
  have hD : va_D A [(b, .inl (dA 1, 64, .inl (upd (upd (upd (upd (upd (upd (upd (upd (upd (upd (upd (upd (upd (upd (upd (upd (upd (upd (upd (upd (upd (upd (upd (upd (upd (upd (upd (upd (upd (upd (upd (upd (upd (upd (upd (upd (upd (upd (upd (upd (upd (upd (upd (upd (upd (upd (upd (upd (upd (upd (upd (upd (upd (upd (upd (upd (upd (upd (upd g 0 0) 1 0) 2 0) 3 0) 4 0) 5 0) 6 0) 7 0) 8 0) 9 0) 10 0) 11 0) 12 0) 13 0) 14 0) 15 0) 16 0) 17 0) 18 0) 19 0) 20 0) 21 0) 22 0) 23 0) 24 0) 25 0) 26 0) 27 0) 28 0) 29 0) 30 0) 31 0) 32 0) 33 0) 34 0) 35 0) 36 0) 37 0) 38 0) 39 0) 40 0) 41 0) 42 0) 43 0) 44 0) 45 0) 46 0) 47 0) 48 0) 49 0) 50 0) 51 0) 52 0) 53 0) 54 0) 55 0) 56 0) 57 0) 58 0)))] := hD
  refine lv_iinc (k := 0) (v := 59) hx hb d_Arrays_fill_f26_14 hl rfl (by decide) (by decide) rfl (fun ls hl => ?_)
  have hl : lv_has ls 4 [(2, .int 59), (3, .int 64), (0, .ref b), (1, .int 0)] := hl
  refine lv_goto hx hb d_Arrays_fill_f26_17 (tgt := 5) rfl ?_
  refine lv_iload_n hx hb d_Arrays_fill_f26_5 rfl (lv_at hl 0 rfl) ?_
  refine lv_iload_n hx hb d_Arrays_fill_f26_6 rfl (lv_at hl 1 rfl) ?_
  refine lv_icmp_ge hx hb d_Arrays_fill_f26_7 (tgt := 20) rfl (fun h9 => absurd h9 (by decide)) (fun _ => ?_)
  refine lv_aload_n hx hb d_Arrays_fill_f26_10 rfl (lv_at hl 2 rfl) ?_
  refine lv_iload_n hx hb d_Arrays_fill_f26_11 rfl (lv_at hl 0 rfl) ?_
  refine lv_iload_n hx hb d_Arrays_fill_f26_12 rfl (lv_at hl 3 rfl) ?_
  refine va_iast hx hb hK hP hD hS 0 1 rfl rfl (by unfold vp_in; decide) d_Arrays_fill_f26_13 (fun H locs hP hD hS => ?_)
  have hP : va_P D vwCl [(b, .inl (dA 1, 64, .inl (upd (upd (upd (upd (upd (upd (upd (upd (upd (upd (upd (upd (upd (upd (upd (upd (upd (upd (upd (upd (upd (upd (upd (upd (upd (upd (upd (upd (upd (upd (upd (upd (upd (upd (upd (upd (upd (upd (upd (upd (upd (upd (upd (upd (upd (upd (upd (upd (upd (upd (upd (upd (upd (upd (upd (upd (upd (upd (upd (upd g 0 0) 1 0) 2 0) 3 0) 4 0) 5 0) 6 0) 7 0) 8 0) 9 0) 10 0) 11 0) 12 0) 13 0) 14 0) 15 0) 16 0) 17 0) 18 0) 19 0) 20 0) 21 0) 22 0) 23 0) 24 0) 25 0) 26 0) 27 0) 28 0) 29 0) 30 0) 31 0) 32 0) 33 0) 34 0) 35 0) 36 0) 37 0) 38 0) 39 0) 40 0) 41 0) 42 0) 43 0) 44 0) 45 0) 46 0) 47 0) 48 0) 49 0) 50 0) 51 0) 52 0) 53 0) 54 0) 55 0) 56 0) 57 0) 58 0) 59 0)))] H := hP
  have hD : va_D A [(b, .inl (dA 1, 64, .inl (upd (upd (upd (upd (upd (upd (upd (upd (upd (upd (upd (upd (upd (upd (upd (upd (upd (upd (upd (upd (upd (upd (upd (upd (upd (upd (upd (upd (upd (upd (upd (upd (upd (upd (upd (upd (upd (upd (upd (upd (upd (upd (upd (upd (upd (upd (upd (upd (upd (upd (upd (upd (upd (upd (upd (upd (upd (upd (upd (upd g 0 0) 1 0) 2 0) 3 0) 4 0) 5 0) 6 0) 7 0) 8 0) 9 0) 10 0) 11 0) 12 0) 13 0) 14 0) 15 0) 16 0) 17 0) 18 0) 19 0) 20 0) 21 0) 22 0) 23 0) 24 0) 25 0) 26 0) 27 0) 28 0) 29 0) 30 0) 31 0) 32 0) 33 0) 34 0) 35 0) 36 0) 37 0) 38 0) 39 0) 40 0) 41 0) 42 0) 43 0) 44 0) 45 0) 46 0) 47 0) 48 0) 49 0) 50 0) 51 0) 52 0) 53 0) 54 0) 55 0) 56 0) 57 0) 58 0) 59 0)))] := hD
  refine lv_iinc (k := 0) (v := 60) hx hb d_Arrays_fill_f26_14 hl rfl (by decide) (by decide) rfl (fun ls hl => ?_)
  have hl : lv_has ls 4 [(2, .int 60), (3, .int 64), (0, .ref b), (1, .int 0)] := hl
  refine lv_goto hx hb d_Arrays_fill_f26_17 (tgt := 5) rfl ?_
  refine lv_iload_n hx hb d_Arrays_fill_f26_5 rfl (lv_at hl 0 rfl) ?_
  refine lv_iload_n hx hb d_Arrays_fill_f26_6 rfl (lv_at hl 1 rfl) ?_
  refine lv_icmp_ge hx hb d_Arrays_fill_f26_7 (tgt := 20) rfl (fun h9 => absurd h9 (by decide)) (fun _ => ?_)
  refine lv_aload_n hx hb d_Arrays_fill_f26_10 rfl (lv_at hl 2 rfl) ?_
  refine lv_iload_n hx hb d_Arrays_fill_f26_11 rfl (lv_at hl 0 rfl) ?_
  refine lv_iload_n hx hb d_Arrays_fill_f26_12 rfl (lv_at hl 3 rfl) ?_
  refine va_iast hx hb hK hP hD hS 0 1 rfl rfl (by unfold vp_in; decide) d_Arrays_fill_f26_13 (fun H locs hP hD hS => ?_)
  have hP : va_P D vwCl [(b, .inl (dA 1, 64, .inl (upd (upd (upd (upd (upd (upd (upd (upd (upd (upd (upd (upd (upd (upd (upd (upd (upd (upd (upd (upd (upd (upd (upd (upd (upd (upd (upd (upd (upd (upd (upd (upd (upd (upd (upd (upd (upd (upd (upd (upd (upd (upd (upd (upd (upd (upd (upd (upd (upd (upd (upd (upd (upd (upd (upd (upd (upd (upd (upd (upd (upd g 0 0) 1 0) 2 0) 3 0) 4 0) 5 0) 6 0) 7 0) 8 0) 9 0) 10 0) 11 0) 12 0) 13 0) 14 0) 15 0) 16 0) 17 0) 18 0) 19 0) 20 0) 21 0) 22 0) 23 0) 24 0) 25 0) 26 0) 27 0) 28 0) 29 0) 30 0) 31 0) 32 0) 33 0) 34 0) 35 0) 36 0) 37 0) 38 0) 39 0) 40 0) 41 0) 42 0) 43 0) 44 0) 45 0) 46 0) 47 0) 48 0) 49 0) 50 0) 51 0) 52 0) 53 0) 54 0) 55 0) 56 0) 57 0) 58 0) 59 0) 60 0)))] H := hP
  have hD : va_D A [(b, .inl (dA 1, 64, .inl (upd (upd (upd (upd (upd (upd (upd (upd (upd (upd (upd (upd (upd (upd (upd (upd (upd (upd (upd (upd (upd (upd (upd (upd (upd (upd (upd (upd (upd (upd (upd (upd (upd (upd (upd (upd (upd (upd (upd (upd (upd (upd (upd (upd (upd (upd (upd (upd (upd (upd (upd (upd (upd (upd (upd (upd (upd (upd (upd (upd (upd g 0 0) 1 0) 2 0) 3 0) 4 0) 5 0) 6 0) 7 0) 8 0) 9 0) 10 0) 11 0) 12 0) 13 0) 14 0) 15 0) 16 0) 17 0) 18 0) 19 0) 20 0) 21 0) 22 0) 23 0) 24 0) 25 0) 26 0) 27 0) 28 0) 29 0) 30 0) 31 0) 32 0) 33 0) 34 0) 35 0) 36 0) 37 0) 38 0) 39 0) 40 0) 41 0) 42 0) 43 0) 44 0) 45 0) 46 0) 47 0) 48 0) 49 0) 50 0) 51 0) 52 0) 53 0) 54 0) 55 0) 56 0) 57 0) 58 0) 59 0) 60 0)))] := hD
  refine lv_iinc (k := 0) (v := 61) hx hb d_Arrays_fill_f26_14 hl rfl (by decide) (by decide) rfl (fun ls hl => ?_)
  have hl : lv_has ls 4 [(2, .int 61), (3, .int 64), (0, .ref b), (1, .int 0)] := hl
  refine lv_goto hx hb d_Arrays_fill_f26_17 (tgt := 5) rfl ?_
  refine lv_iload_n hx hb d_Arrays_fill_f26_5 rfl (lv_at hl 0 rfl) ?_
  refine lv_iload_n hx hb d_Arrays_fill_f26_6 rfl (lv_at hl 1 rfl) ?_
  refine lv_icmp_ge hx hb d_Arrays_fill_f26_7 (tgt := 20) rfl (fun h9 => absurd h9 (by decide)) (fun _ => ?_)
  refine lv_aload_n hx hb d_Arrays_fill_f26_10 rfl (lv_at hl 2 rfl) ?_
  refine lv_iload_n hx hb d_Arrays_fill_f26_11 rfl (lv_at hl 0 rfl) ?_
  refine lv_iload_n hx hb d_Arrays_fill_f26_12 rfl (lv_at hl 3 rfl) ?_
  refine va_iast hx hb hK hP hD hS 0 1 rfl rfl (by unfold vp_in; decide) d_Arrays_fill_f26_13 (fun H locs hP hD hS => ?_)
  have hP : va_P D vwCl [(b, .inl (dA 1, 64, .inl (upd (upd (upd (upd (upd (upd (upd (upd (upd (upd (upd (upd (upd (upd (upd (upd (upd (upd (upd (upd (upd (upd (upd (upd (upd (upd (upd (upd (upd (upd (upd (upd (upd (upd (upd (upd (upd (upd (upd (upd (upd (upd (upd (upd (upd (upd (upd (upd (upd (upd (upd (upd (upd (upd (upd (upd (upd (upd (upd (upd (upd (upd g 0 0) 1 0) 2 0) 3 0) 4 0) 5 0) 6 0) 7 0) 8 0) 9 0) 10 0) 11 0) 12 0) 13 0) 14 0) 15 0) 16 0) 17 0) 18 0) 19 0) 20 0) 21 0) 22 0) 23 0) 24 0) 25 0) 26 0) 27 0) 28 0) 29 0) 30 0) 31 0) 32 0) 33 0) 34 0) 35 0) 36 0) 37 0) 38 0) 39 0) 40 0) 41 0) 42 0) 43 0) 44 0) 45 0) 46 0) 47 0) 48 0) 49 0) 50 0) 51 0) 52 0) 53 0) 54 0) 55 0) 56 0) 57 0) 58 0) 59 0) 60 0) 61 0)))] H := hP
  have hD : va_D A [(b, .inl (dA 1, 64, .inl (upd (upd (upd (upd (upd (upd (upd (upd (upd (upd (upd (upd (upd (upd (upd (upd (upd (upd (upd (upd (upd (upd (upd (upd (upd (upd (upd (upd (upd (upd (upd (upd (upd (upd (upd (upd (upd (upd (upd (upd (upd (upd (upd (upd (upd (upd (upd (upd (upd (upd (upd (upd (upd (upd (upd (upd (upd (upd (upd (upd (upd (upd g 0 0) 1 0) 2 0) 3 0) 4 0) 5 0) 6 0) 7 0) 8 0) 9 0) 10 0) 11 0) 12 0) 13 0) 14 0) 15 0) 16 0) 17 0) 18 0) 19 0) 20 0) 21 0) 22 0) 23 0) 24 0) 25 0) 26 0) 27 0) 28 0) 29 0) 30 0) 31 0) 32 0) 33 0) 34 0) 35 0) 36 0) 37 0) 38 0) 39 0) 40 0) 41 0) 42 0) 43 0) 44 0) 45 0) 46 0) 47 0) 48 0) 49 0) 50 0) 51 0) 52 0) 53 0) 54 0) 55 0) 56 0) 57 0) 58 0) 59 0) 60 0) 61 0)))] := hD
  refine lv_iinc (k := 0) (v := 62) hx hb d_Arrays_fill_f26_14 hl rfl (by decide) (by decide) rfl (fun ls hl => ?_)
  have hl : lv_has ls 4 [(2, .int 62), (3, .int 64), (0, .ref b), (1, .int 0)] := hl
  refine lv_goto hx hb d_Arrays_fill_f26_17 (tgt := 5) rfl ?_
  refine lv_iload_n hx hb d_Arrays_fill_f26_5 rfl (lv_at hl 0 rfl) ?_
  refine lv_iload_n hx hb d_Arrays_fill_f26_6 rfl (lv_at hl 1 rfl) ?_
  refine lv_icmp_ge hx hb d_Arrays_fill_f26_7 (tgt := 20) rfl (fun h9 => absurd h9 (by decide)) (fun _ => ?_)
  refine lv_aload_n hx hb d_Arrays_fill_f26_10 rfl (lv_at hl 2 rfl) ?_
  refine lv_iload_n hx hb d_Arrays_fill_f26_11 rfl (lv_at hl 0 rfl) ?_
  refine lv_iload_n hx hb d_Arrays_fill_f26_12 rfl (lv_at hl 3 rfl) ?_
  refine va_iast hx hb hK hP hD hS 0 1 rfl rfl (by unfold vp_in; decide) d_Arrays_fill_f26_13 (fun H locs hP hD hS => ?_)
  have hP : va_P D vwCl [(b, .inl (dA 1, 64, .inl (upd (upd (upd (upd (upd (upd (upd (upd (upd (upd (upd (upd (upd (upd (upd (upd (upd (upd (upd (upd (upd (upd (upd (upd (upd (upd (upd (upd (upd (upd (upd (upd (upd (upd (upd (upd (upd (upd (upd (upd (upd (upd (upd (upd (upd (upd (upd (upd (upd (upd (upd (upd (upd (upd (upd (upd (upd (upd (upd (upd (upd (upd (upd g 0 0) 1 0) 2 0) 3 0) 4 0) 5 0) 6 0) 7 0) 8 0) 9 0) 10 0) 11 0) 12 0) 13 0) 14 0) 15 0) 16 0) 17 0) 18 0) 19 0) 20 0) 21 0) 22 0) 23 0) 24 0) 25 0) 26 0) 27 0) 28 0) 29 0) 30 0) 31 0) 32 0) 33 0) 34 0) 35 0) 36 0) 37 0) 38 0) 39 0) 40 0) 41 0) 42 0) 43 0) 44 0) 45 0) 46 0) 47 0) 48 0) 49 0) 50 0) 51 0) 52 0) 53 0) 54 0) 55 0) 56 0) 57 0) 58 0) 59 0) 60 0) 61 0) 62 0)))] H := hP
  have hD : va_D A [(b, .inl (dA 1, 64, .inl (upd (upd (upd (upd (upd (upd (upd (upd (upd (upd (upd (upd (upd (upd (upd (upd (upd (upd (upd (upd (upd (upd (upd (upd (upd (upd (upd (upd (upd (upd (upd (upd (upd (upd (upd (upd (upd (upd (upd (upd (upd (upd (upd (upd (upd (upd (upd (upd (upd (upd (upd (upd (upd (upd (upd (upd (upd (upd (upd (upd (upd (upd (upd g 0 0) 1 0) 2 0) 3 0) 4 0) 5 0) 6 0) 7 0) 8 0) 9 0) 10 0) 11 0) 12 0) 13 0) 14 0) 15 0) 16 0) 17 0) 18 0) 19 0) 20 0) 21 0) 22 0) 23 0) 24 0) 25 0) 26 0) 27 0) 28 0) 29 0) 30 0) 31 0) 32 0) 33 0) 34 0) 35 0) 36 0) 37 0) 38 0) 39 0) 40 0) 41 0) 42 0) 43 0) 44 0) 45 0) 46 0) 47 0) 48 0) 49 0) 50 0) 51 0) 52 0) 53 0) 54 0) 55 0) 56 0) 57 0) 58 0) 59 0) 60 0) 61 0) 62 0)))] := hD
  refine lv_iinc (k := 0) (v := 63) hx hb d_Arrays_fill_f26_14 hl rfl (by decide) (by decide) rfl (fun ls hl => ?_)
  have hl : lv_has ls 4 [(2, .int 63), (3, .int 64), (0, .ref b), (1, .int 0)] := hl
  refine lv_goto hx hb d_Arrays_fill_f26_17 (tgt := 5) rfl ?_
  refine lv_iload_n hx hb d_Arrays_fill_f26_5 rfl (lv_at hl 0 rfl) ?_
  refine lv_iload_n hx hb d_Arrays_fill_f26_6 rfl (lv_at hl 1 rfl) ?_
  refine lv_icmp_ge hx hb d_Arrays_fill_f26_7 (tgt := 20) rfl (fun h9 => absurd h9 (by decide)) (fun _ => ?_)
  refine lv_aload_n hx hb d_Arrays_fill_f26_10 rfl (lv_at hl 2 rfl) ?_
  refine lv_iload_n hx hb d_Arrays_fill_f26_11 rfl (lv_at hl 0 rfl) ?_
  refine lv_iload_n hx hb d_Arrays_fill_f26_12 rfl (lv_at hl 3 rfl) ?_
  refine va_iast hx hb hK hP hD hS 0 1 rfl rfl (by unfold vp_in; decide) d_Arrays_fill_f26_13 (fun H locs hP hD hS => ?_)
  have hP : va_P D vwCl [(b, .inl (dA 1, 64, .inl (upd (upd (upd (upd (upd (upd (upd (upd (upd (upd (upd (upd (upd (upd (upd (upd (upd (upd (upd (upd (upd (upd (upd (upd (upd (upd (upd (upd (upd (upd (upd (upd (upd (upd (upd (upd (upd (upd (upd (upd (upd (upd (upd (upd (upd (upd (upd (upd (upd (upd (upd (upd (upd (upd (upd (upd (upd (upd (upd (upd (upd (upd (upd (upd g 0 0) 1 0) 2 0) 3 0) 4 0) 5 0) 6 0) 7 0) 8 0) 9 0) 10 0) 11 0) 12 0) 13 0) 14 0) 15 0) 16 0) 17 0) 18 0) 19 0) 20 0) 21 0) 22 0) 23 0) 24 0) 25 0) 26 0) 27 0) 28 0) 29 0) 30 0) 31 0) 32 0) 33 0) 34 0) 35 0) 36 0) 37 0) 38 0) 39 0) 40 0) 41 0) 42 0) 43 0) 44 0) 45 0) 46 0) 47 0) 48 0) 49 0) 50 0) 51 0) 52 0) 53 0) 54 0) 55 0) 56 0) 57 0) 58 0) 59 0) 60 0) 61 0) 62 0) 63 0)))] H := hP
  have hD : va_D A [(b, .inl (dA 1, 64, .inl (upd (upd (upd (upd (upd (upd (upd (upd (upd (upd (upd (upd (upd (upd (upd (upd (upd (upd (upd (upd (upd (upd (upd (upd (upd (upd (upd (upd (upd (upd (upd (upd (upd (upd (upd (upd (upd (upd (upd (upd (upd (upd (upd (upd (upd (upd (upd (upd (upd (upd (upd (upd (upd (upd (upd (upd (upd (upd (upd (upd (upd (upd (upd (upd g 0 0) 1 0) 2 0) 3 0) 4 0) 5 0) 6 0) 7 0) 8 0) 9 0) 10 0) 11 0) 12 0) 13 0) 14 0) 15 0) 16 0) 17 0) 18 0) 19 0) 20 0) 21 0) 22 0) 23 0) 24 0) 25 0) 26 0) 27 0) 28 0) 29 0) 30 0) 31 0) 32 0) 33 0) 34 0) 35 0) 36 0) 37 0) 38 0) 39 0) 40 0) 41 0) 42 0) 43 0) 44 0) 45 0) 46 0) 47 0) 48 0) 49 0) 50 0) 51 0) 52 0) 53 0) 54 0) 55 0) 56 0) 57 0) 58 0) 59 0) 60 0) 61 0) 62 0) 63 0)))] := hD
  refine lv_iinc (k := 0) (v := 64) hx hb d_Arrays_fill_f26_14 hl rfl (by decide) (by decide) rfl (fun ls hl => ?_)
  have hl : lv_has ls 4 [(2, .int 64), (3, .int 64), (0, .ref b), (1, .int 0)] := hl
  refine lv_goto hx hb d_Arrays_fill_f26_17 (tgt := 5) rfl ?_
  refine lv_iload_n hx hb d_Arrays_fill_f26_5 rfl (lv_at hl 0 rfl) ?_
  refine lv_iload_n hx hb d_Arrays_fill_f26_6 rfl (lv_at hl 1 rfl) ?_
  refine lv_icmp_ge hx hb d_Arrays_fill_f26_7 (tgt := 20) rfl (fun _ => ?_) (fun h9 => absurd (by decide) h9)
  exact rtV hx hb hr hlk hP hD hS () trivial [0] rfl rfl (by decide) (Nat.le_of_ble_eq_true rfl) (Nat.le_of_ble_eq_true rfl) d_Arrays_fill_f26_20
theorem d_H_endScars_0 : decode prog_9_method_12_code 0 = .ok (.aload_n 0, 1) := by decide +kernel
theorem d_H_endScars_1 : decode prog_9_method_12_code 1 = .ok (.getfield 28, 3) := by decide +kernel
theorem d_H_endScars_4 : decode prog_9_method_12_code 4 = .ok (.iconst 0, 1) := by decide +kernel
theorem d_H_endScars_5 : decode prog_9_method_12_code 5 = .ok (.invokestatic 74, 3) := by decide +kernel
theorem d_H_endScars_8 : decode prog_9_method_12_code 8 = .ok (.iconst 0, 1) := by decide +kernel
theorem d_H_endScars_9 : decode prog_9_method_12_code 9 = .ok (.istore_n 1, 1) := by decide +kernel
theorem d_H_endScars_10 : decode prog_9_method_12_code 10 = .ok (.iload_n 1, 1) := by decide +kernel
theorem d_H_endScars_11 : decode prog_9_method_12_code 11 = .ok (.aload_n 0, 1) := by decide +kernel
theorem d_H_endScars_12 : decode prog_9_method_12_code 12 = .ok (.getfield 34, 3) := by decide +kernel
theorem d_H_endScars_15 : decode prog_9_method_12_code 15 = .ok (.if_icmp .ge 19, 3) := by decide +kernel
theorem d_H_endScars_34 : decode prog_9_method_12_code 34 = .ok (.iconst 0, 1) := by decide +kernel
theorem d_H_endScars_35 : decode prog_9_method_12_code 35 = .ok (.istore_n 1, 1) := by decide +kernel
theorem d_H_endScars_36 : decode prog_9_method_12_code 36 = .ok (.iconst 0, 1) := by decide +kernel
theorem d_H_endScars_37 : decode prog_9_method_12_code 37 = .ok (.istore_n 2, 1) := by decide +kernel
theorem d_H_endScars_38 : decode prog_9_method_12_code 38 = .ok (.iload_n 2, 1) := by decide +kernel
theorem d_H_endScars_39 : decode prog_9_method_12_code 39 = .ok (.aload_n 0, 1) := by decide +kernel
theorem d_H_endScars_40 : decode prog_9_method_12_code 40 = .ok (.getfield 38, 3) := by decide +kernel
theorem d_H_endScars_43 : decode prog_9_method_12_code 43 = .ok (.if_icmp .ge 57, 3) := by decide +kernel
theorem d_H_endScars_100 : decode prog_9_method_12_code 100 = .ok (.aload_n 0, 1) := by decide +kernel
theorem d_H_endScars_101 : decode prog_9_method_12_code 101 = .ok (.iload_n 1, 1) := by decide +kernel
theorem d_H_endScars_102 : decode prog_9_method_12_code 102 = .ok (.putfield 38, 3) := by decide +kernel
theorem d_H_endScars_105 : decode prog_9_method_12_code 105 = .ok (.return_, 1) := by decide +kernel
theorem w711 : Cond.methodLink "SeriesVault$Shelf" 74 ⟨"java/util/Arrays", "fill", "([II)V"⟩ ∈ aW := aw_of (tb_6 (List.mem_of_getElem? (i := 140) rfl)) rfl
theorem w712 : Cond.initialized "java/util/Arrays" ∈ aW := aw_of (tb_1 (List.mem_of_getElem? (i := 14) rfl)) rfl
theorem w713 : Cond.code ⟨"java/util/Arrays", "fill", "([II)V"⟩ prog_38_method_103_code 4 none ∈ aW := aw_of (tb_6 (List.mem_of_getElem? (i := 142) rfl)) rfl
theorem w714 : Cond.static ⟨"java/util/Arrays", "fill", "([II)V"⟩ ∈ aW := aw_of (tb_6 (List.mem_of_getElem? (i := 141) rfl)) rfl
set_option maxHeartbeats 4000000 in
set_option maxRecDepth 100000 in
theorem c_H_endScars_0 (l : Launch) (D : va_G) (dA : Nat → ClassId) (sz : Nat) (a : Nat) (fs : List Value) (b : Nat) (g : Nat → Int32) (h_fs_parcelCount : fs[1]? = some (.int 0)) (h_fs_scarPoints : fs[5]? = some (.ref b)) (h_fs_scarCount : fs[6]? = some (.int 0)) (hl_fs : fs.length = 11) : Met l ⟨"SeriesVault$Shelf", "endScars", "()V"⟩ [Cond.code ⟨"SeriesVault$Shelf", "endScars", "()V"⟩ prog_9_method_12_code 3 none] { frames := 2, cells := 0, slots := 0, locals := 23 } (pC D dA [.ref a] [(a, .inr (3, fs)), (b, .inl (dA 1, 64, .inl g))] sz) (va_Qv (fun (_ : Unit) => True) (fun (u9 : Unit) t9 => bW D (va_A [(a, .inr (3, fs)), (b, .inl (dA 1, 64, .inl g))] sz) [(a, .inr (3, (fs.set 6 (.int 0)))), (b, .inl (dA 1, 64, .inl (upd (upd (upd (upd (upd (upd (upd (upd (upd (upd (upd (upd (upd (upd (upd (upd (upd (upd (upd (upd (upd (upd (upd (upd (upd (upd (upd (upd (upd (upd (upd (upd (upd (upd (upd (upd (upd (upd (upd (upd (upd (upd (upd (upd (upd (upd (upd (upd (upd (upd (upd (upd (upd (upd (upd (upd (upd (upd (upd (upd (upd (upd (upd (upd g 0 0) 1 0) 2 0) 3 0) 4 0) 5 0) 6 0) 7 0) 8 0) 9 0) 10 0) 11 0) 12 0) 13 0) 14 0) 15 0) 16 0) 17 0) 18 0) 19 0) 20 0) 21 0) 22 0) 23 0) 24 0) 25 0) 26 0) 27 0) 28 0) 29 0) 30 0) 31 0) 32 0) 33 0) 34 0) 35 0) 36 0) 37 0) 38 0) 39 0) 40 0) 41 0) 42 0) 43 0) 44 0) 45 0) 46 0) 47 0) 48 0) 49 0) 50 0) 51 0) 52 0) 53 0) 54 0) 55 0) 56 0) 57 0) 58 0) 59 0) 60 0) 61 0) 62 0) 63 0)))] t9) (va_A [(a, .inr (3, fs)), (b, .inl (dA 1, 64, .inl g))] sz)) 0 0 (va_A [(a, .inr (3, fs)), (b, .inl (dA 1, 64, .inl g))] sz) := by
  refine mkC (y := ⟨"SeriesVault$Shelf", "endScars", "()V"⟩) (cc := prog_9_method_12_code) (maxL := 3) (av := [.ref a]) (ws := [(a, .inr (3, fs)), (b, .inl (dA 1, 64, .inl g))]) (sz := sz) (Qc := fun A => va_Qv (fun (_ : Unit) => True) (fun (u9 : Unit) t9 => bW D A [(a, .inr (3, (fs.set 6 (.int 0)))), (b, .inl (dA 1, 64, .inl (upd (upd (upd (upd (upd (upd (upd (upd (upd (upd (upd (upd (upd (upd (upd (upd (upd (upd (upd (upd (upd (upd (upd (upd (upd (upd (upd (upd (upd (upd (upd (upd (upd (upd (upd (upd (upd (upd (upd (upd (upd (upd (upd (upd (upd (upd (upd (upd (upd (upd (upd (upd (upd (upd (upd (upd (upd (upd (upd (upd (upd (upd (upd (upd g 0 0) 1 0) 2 0) 3 0) 4 0) 5 0) 6 0) 7 0) 8 0) 9 0) 10 0) 11 0) 12 0) 13 0) 14 0) 15 0) 16 0) 17 0) 18 0) 19 0) 20 0) 21 0) 22 0) 23 0) 24 0) 25 0) 26 0) 27 0) 28 0) 29 0) 30 0) 31 0) 32 0) 33 0) 34 0) 35 0) 36 0) 37 0) 38 0) 39 0) 40 0) 41 0) 42 0) 43 0) 44 0) 45 0) 46 0) 47 0) 48 0) 49 0) 50 0) 51 0) 52 0) 53 0) 54 0) 55 0) 56 0) 57 0) 58 0) 59 0) 60 0) 61 0) 62 0) 63 0)))] t9) A) (by decide) (Nat.le_of_ble_eq_true rfl) ?_
  intro A p e s m below meth c ls hsz hB
  obtain ⟨hx, hb, hr, hml, hown, hin, hlk, hE, hK, hP, hD, hS, hA, hN, hl⟩ := hB
  have hown : s.vm.findClass "SeriesVault$Shelf" = some m.cls := hown
  have hin : meth.name = "endScars" := hin
  have hl : lv_has ls 3 [(0, .ref a)] := hl
  obtain ⟨H, hH⟩ : ∃ z, z = s.heap := ⟨_, rfl⟩
  have hP : va_P D vwCl [(a, .inr (3, fs)), (b, .inl (dA 1, 64, .inl g))] H := by rw [hH]; exact hP
  have hS : va_S A s.heap H [] := by rw [hH]; exact hS
  rw [← hH]
  refine lv_aload_n hx hb d_H_endScars_0 rfl (lv_at hl 0 rfl) ?_
  refine gF (v := .ref b) hx hb hown hE hK hP 0 rfl rfl layH 5 (by decide) w203 h_fs_scarPoints d_H_endScars_1 ?_
  refine lv_iconst (v := 0) hx hb d_H_endScars_4 (by decide) ?_
  have hPc := hP.sub (ws' := [(b, .inl (dA 1, 64, .inl g))]) [1] rfl
  have hDc := hD.sub (ws' := [(b, .inl (dA 1, 64, .inl g))]) [1] (by decide) rfl
  refine jnV (rnS (As := [.ref b, .int 0]) (rest := []) hx hb hml hown hE hK (hN _ _ hS) hPc hDc (c_fill64 l D dA H.size b g) w713 w711 w714 w712 rfl rfl ⟨⟨by decide, by decide⟩, rfl⟩ ⟨(Nat.le_of_ble_eq_true rfl), (Nat.le_of_ble_eq_true rfl)⟩ rfl hl.1 rfl (Nat.le_of_ble_eq_true rfl) d_H_endScars_5 ⟨(Nat.le_of_ble_eq_true rfl), (Nat.le_of_ble_eq_true rfl)⟩) hP hD hS hA [1] [0] (wr := [(a, .inr (3, fs))]) rfl rfl (by decide) (by decide) (fun u9 H locs hp9 hP hD hS => ?_)
  have hP : va_P D vwCl [(a, .inr (3, fs)), (b, .inl (dA 1, 64, .inl (upd (upd (upd (upd (upd (upd (upd (upd (upd (upd (upd (upd (upd (upd (upd (upd (upd (upd (upd (upd (upd (upd (upd (upd (upd (upd (upd (upd (upd (upd (upd (upd (upd (upd (upd (upd (upd (upd (upd (upd (upd (upd (upd (upd (upd (upd (upd (upd (upd (upd (upd (upd (upd (upd (upd (upd (upd (upd (upd (upd (upd (upd (upd (upd g 0 0) 1 0) 2 0) 3 0) 4 0) 5 0) 6 0) 7 0) 8 0) 9 0) 10 0) 11 0) 12 0) 13 0) 14 0) 15 0) 16 0) 17 0) 18 0) 19 0) 20 0) 21 0) 22 0) 23 0) 24 0) 25 0) 26 0) 27 0) 28 0) 29 0) 30 0) 31 0) 32 0) 33 0) 34 0) 35 0) 36 0) 37 0) 38 0) 39 0) 40 0) 41 0) 42 0) 43 0) 44 0) 45 0) 46 0) 47 0) 48 0) 49 0) 50 0) 51 0) 52 0) 53 0) 54 0) 55 0) 56 0) 57 0) 58 0) 59 0) 60 0) 61 0) 62 0) 63 0)))] H := hP
  have hD : va_D A [(a, .inr (3, fs)), (b, .inl (dA 1, 64, .inl (upd (upd (upd (upd (upd (upd (upd (upd (upd (upd (upd (upd (upd (upd (upd (upd (upd (upd (upd (upd (upd (upd (upd (upd (upd (upd (upd (upd (upd (upd (upd (upd (upd (upd (upd (upd (upd (upd (upd (upd (upd (upd (upd (upd (upd (upd (upd (upd (upd (upd (upd (upd (upd (upd (upd (upd (upd (upd (upd (upd (upd (upd (upd (upd g 0 0) 1 0) 2 0) 3 0) 4 0) 5 0) 6 0) 7 0) 8 0) 9 0) 10 0) 11 0) 12 0) 13 0) 14 0) 15 0) 16 0) 17 0) 18 0) 19 0) 20 0) 21 0) 22 0) 23 0) 24 0) 25 0) 26 0) 27 0) 28 0) 29 0) 30 0) 31 0) 32 0) 33 0) 34 0) 35 0) 36 0) 37 0) 38 0) 39 0) 40 0) 41 0) 42 0) 43 0) 44 0) 45 0) 46 0) 47 0) 48 0) 49 0) 50 0) 51 0) 52 0) 53 0) 54 0) 55 0) 56 0) 57 0) 58 0) 59 0) 60 0) 61 0) 62 0) 63 0)))] := hD
  refine lv_iconst (v := 0) hx hb d_H_endScars_8 (by decide) ?_
  refine lv_istore_n hx hb d_H_endScars_9 rfl hl (by decide) rfl (fun ls hl => ?_)
  have hl : lv_has ls 3 [(1, .int 0), (0, .ref a)] := hl
  refine lv_iload_n hx hb d_H_endScars_10 rfl (lv_at hl 0 rfl) ?_
  refine lv_aload_n hx hb d_H_endScars_11 rfl (lv_at hl 1 rfl) ?_
  refine gF (v := .int 0) hx hb hown hE hK hP 0 rfl rfl layH 1 (by decide) w566 h_fs_parcelCount d_H_endScars_12 ?_
  refine lv_icmp_ge hx hb d_H_endScars_15 (tgt := 34) rfl (fun _ => ?_) (fun h9 => absurd (by decide) h9)
  refine lv_iconst (v := 0) hx hb d_H_endScars_34 (by decide) ?_
  refine lv_istore_n hx hb d_H_endScars_35 rfl hl (by decide) rfl (fun ls hl => ?_)
  have hl : lv_has ls 3 [(1, .int 0), (0, .ref a)] := hl
  refine lv_iconst (v := 0) hx hb d_H_endScars_36 (by decide) ?_
  refine lv_istore_n hx hb d_H_endScars_37 rfl hl (by decide) rfl (fun ls hl => ?_)
  have hl : lv_has ls 3 [(2, .int 0), (1, .int 0), (0, .ref a)] := hl
  refine lv_iload_n hx hb d_H_endScars_38 rfl (lv_at hl 0 rfl) ?_
  refine lv_aload_n hx hb d_H_endScars_39 rfl (lv_at hl 2 rfl) ?_
  refine gF (v := .int 0) hx hb hown hE hK hP 0 rfl rfl layH 6 (by decide) w567 h_fs_scarCount d_H_endScars_40 ?_
  refine lv_icmp_ge hx hb d_H_endScars_43 (tgt := 100) rfl (fun _ => ?_) (fun h9 => absurd (by decide) h9)
  refine lv_aload_n hx hb d_H_endScars_100 rfl (lv_at hl 2 rfl) ?_
  refine lv_iload_n hx hb d_H_endScars_101 rfl (lv_at hl 1 rfl) ?_
  refine pF hx hb hown hE hK hP hD hS 0 rfl rfl layH tyH tokH nmH 6 (by decide) w567 rfl rfl rfl (by simp [hl_fs]) d_H_endScars_102 (fun H locs hP hD hS => ?_)
  have hP : va_P D vwCl [(a, .inr (3, (fs.set 6 (.int 0)))), (b, .inl (dA 1, 64, .inl (upd (upd (upd (upd (upd (upd (upd (upd (upd (upd (upd (upd (upd (upd (upd (upd (upd (upd (upd (upd (upd (upd (upd (upd (upd (upd (upd (upd (upd (upd (upd (upd (upd (upd (upd (upd (upd (upd (upd (upd (upd (upd (upd (upd (upd (upd (upd (upd (upd (upd (upd (upd (upd (upd (upd (upd (upd (upd (upd (upd (upd (upd (upd (upd g 0 0) 1 0) 2 0) 3 0) 4 0) 5 0) 6 0) 7 0) 8 0) 9 0) 10 0) 11 0) 12 0) 13 0) 14 0) 15 0) 16 0) 17 0) 18 0) 19 0) 20 0) 21 0) 22 0) 23 0) 24 0) 25 0) 26 0) 27 0) 28 0) 29 0) 30 0) 31 0) 32 0) 33 0) 34 0) 35 0) 36 0) 37 0) 38 0) 39 0) 40 0) 41 0) 42 0) 43 0) 44 0) 45 0) 46 0) 47 0) 48 0) 49 0) 50 0) 51 0) 52 0) 53 0) 54 0) 55 0) 56 0) 57 0) 58 0) 59 0) 60 0) 61 0) 62 0) 63 0)))] H := hP
  have hD : va_D A [(a, .inr (3, (fs.set 6 (.int 0)))), (b, .inl (dA 1, 64, .inl (upd (upd (upd (upd (upd (upd (upd (upd (upd (upd (upd (upd (upd (upd (upd (upd (upd (upd (upd (upd (upd (upd (upd (upd (upd (upd (upd (upd (upd (upd (upd (upd (upd (upd (upd (upd (upd (upd (upd (upd (upd (upd (upd (upd (upd (upd (upd (upd (upd (upd (upd (upd (upd (upd (upd (upd (upd (upd (upd (upd (upd (upd (upd (upd g 0 0) 1 0) 2 0) 3 0) 4 0) 5 0) 6 0) 7 0) 8 0) 9 0) 10 0) 11 0) 12 0) 13 0) 14 0) 15 0) 16 0) 17 0) 18 0) 19 0) 20 0) 21 0) 22 0) 23 0) 24 0) 25 0) 26 0) 27 0) 28 0) 29 0) 30 0) 31 0) 32 0) 33 0) 34 0) 35 0) 36 0) 37 0) 38 0) 39 0) 40 0) 41 0) 42 0) 43 0) 44 0) 45 0) 46 0) 47 0) 48 0) 49 0) 50 0) 51 0) 52 0) 53 0) 54 0) 55 0) 56 0) 57 0) 58 0) 59 0) 60 0) 61 0) 62 0) 63 0)))] := hD
  exact rtV hx hb hr hlk hP hD hS () trivial [0, 1] rfl rfl (by decide) (Nat.le_of_ble_eq_true rfl) (Nat.le_of_ble_eq_true rfl) d_H_endScars_105
