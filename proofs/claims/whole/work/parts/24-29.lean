section
theorem d_V_retain_0 : decode prog_1_method_41_code 0 = .ok (.aload_n 0, 1) := by decide +kernel
theorem d_V_retain_1 : decode prog_1_method_41_code 1 = .ok (.invokevirtual 124, 3) := by decide +kernel
theorem d_V_retain_4 : decode prog_1_method_41_code 4 = .ok (.lload_n 1, 1) := by decide +kernel
theorem d_V_retain_5 : decode prog_1_method_41_code 5 = .ok (.invokestatic 262, 3) := by decide +kernel
theorem d_V_retain_8 : decode prog_1_method_41_code 8 = .ok (.ifCond .eq 15, 3) := by decide +kernel
theorem d_V_retain_23 : decode prog_1_method_41_code 23 = .ok (.new 89, 3) := by decide +kernel
theorem d_V_retain_26 : decode prog_1_method_41_code 26 = .ok (.dup, 1) := by decide +kernel
theorem d_V_retain_27 : decode prog_1_method_41_code 27 = .ok (.invokespecial 91, 3) := by decide +kernel
theorem d_V_retain_30 : decode prog_1_method_41_code 30 = .ok (.athrow, 1) := by decide +kernel
set_option maxHeartbeats 4000000 in
set_option maxRecDepth 100000 in
theorem c_V_retain_x (l : Launch) (htr : l.stackTraces = false) (D : va_G) (dA : Nat → ClassId) (sz : Nat) (a : Nat) (fs : List Value) (t : Int64) (h0 : t < 0 ∨ 1099511627775 < t) (h_fs_powered : fs[5]? = some (.int 1)) (hl_fs : fs.length = 18) : mX l ⟨"SeriesVault", "retain", "(J)I"⟩ [Cond.code ⟨"SeriesVault", "retain", "(J)I"⟩ prog_1_method_41_code 4 (some FieldType.int)] { frames := 6, cells := 1, slots := 6, locals := 81 } (pC D dA [.ref a, .long t] [(a, .inr (0, fs))] sz) "java/lang/IllegalArgumentException" (fun st9 t9 => va_F (va_A [(a, .inr (0, fs))] sz) st9 t9 ∧ bW D (va_A [(a, .inr (0, fs))] sz) [(a, .inr (0, fs))] t9) 1 6 (va_A [(a, .inr (0, fs))] sz) := by
  refine mkX (y := ⟨"SeriesVault", "retain", "(J)I"⟩) (cc := prog_1_method_41_code) (maxL := 4) (av := [.ref a, .long t]) (B := fun A => fun st9 t9 => va_F A st9 t9 ∧ bW D A [(a, .inr (0, fs))] t9) (by decide) (Nat.le_of_ble_eq_true rfl) ?_
  intro A p e s m below meth c ls hsz hno hB
  obtain ⟨hx, hb, hr, hml, hown, hin, hlk, hE, hK, hP, hD, hS, hA, hN, hl⟩ := hB
  have hown : s.vm.findClass "SeriesVault" = some m.cls := hown
  have hin : meth.name = "retain" := hin
  have hl : lv_has ls 4 [(0, .ref a), (1, .long t)] := hl
  obtain ⟨H, hH⟩ : ∃ z, z = s.heap := ⟨_, rfl⟩
  have hP : va_P D vwCl [(a, .inr (0, fs))] H := by rw [hH]; exact hP
  have hS : va_S A s.heap H [] := by rw [hH]; exact hS
  rw [← hH]
  refine lv_aload_n hx hb d_V_retain_0 rfl (lv_at hl 0 rfl) ?_
  have hPc := hP.sub (ws' := [(a, .inr (0, fs))]) [0] rfl
  have hDc := hD.sub (ws' := [(a, .inr (0, fs))]) [0] (by decide) rfl
  refine jnV (rnV (As := []) (rest := []) hx hb hml hown hE hK (hN _ _ hS) hPc hDc (c_V_checkPower l D dA H.size a fs h_fs_powered hl_fs) (q0 := 0) rfl rfl w278 w276 w279 w280 w277 rfl rfl ⟨⟨by decide, by decide⟩, rfl⟩ ⟨(Nat.le_of_ble_eq_true rfl), (Nat.le_of_ble_eq_true rfl)⟩ rfl hl.1 rfl (Nat.le_of_ble_eq_true rfl) d_V_retain_1 ⟨(Nat.le_of_ble_eq_true rfl), (Nat.le_of_ble_eq_true rfl)⟩) hP hD hS hA [0] [] (wr := []) rfl rfl (by decide) (by decide) (fun u9 H locs hp9 hP hD hS => ?_)
  have hP : va_P D vwCl [(a, .inr (0, fs))] H := hP
  have hD : va_D A [(a, .inr (0, fs))] := hD
  refine lv_lload_n hx hb d_V_retain_4 rfl (lv_at hl 1 rfl) ?_
  have hPc := hP.sub (ws' := []) [] rfl
  have hDc := hD.sub (ws' := []) [] (by decide) rfl
  refine jnI (rnS (As := [.long t]) (rest := []) hx hb hml hown hE hK (hN _ _ hS) hPc hDc (c_V_isTime_0 l D dA H.size t h0) w693 w692 w694 w277 rfl rfl ⟨⟨by decide, by decide⟩, rfl⟩ ⟨(Nat.le_of_ble_eq_true rfl), (Nat.le_of_ble_eq_true rfl)⟩ rfl hl.1 rfl (Nat.le_of_ble_eq_true rfl) d_V_retain_5 ⟨(Nat.le_of_ble_eq_true rfl), (Nat.le_of_ble_eq_true rfl)⟩) hP hD hS hA [] [0] (wr := [(a, .inr (0, fs))]) rfl rfl (by decide) (by decide) (fun r2 u9 H locs hp9 hP hD hS => ?_)
  have hP : va_P D vwCl [(a, .inr (0, fs))] H := hP
  have hD : va_D A [(a, .inr (0, fs))] := hD
  have hp9 : 0 = r2 := Eq.symm hp9
  subst hp9
  refine lv_if_eq hx hb d_V_retain_8 (tgt := 23) rfl (fun _ => ?_) (fun h9 => absurd (by decide) h9)
  exact xNew (E := "java/lang/IllegalArgumentException") (names := ["java/lang/RuntimeException", "java/lang/Exception"]) hx hb htr hown (by decide) (by decide) hE w273 w274 (fun U hU => at_V_IAE hU) (hN _ _ hS) (hl.1.trans hml.symm) d_V_retain_23 d_V_retain_26 d_V_retain_27 d_V_retain_30 hno (by decide) (Nat.le_of_ble_eq_true rfl) (Nat.le_of_ble_eq_true rfl) (Nat.le_of_ble_eq_true rfl) hlk (fun t h1 h2 => xEnd hP hD hS [0] rfl rfl (by decide) t h1 h2) hS.2.2 (Nat.le_of_ble_eq_true rfl) (Nat.le_of_ble_eq_true rfl)
theorem d_V_retain_11 : decode prog_1_method_41_code 11 = .ok (.lload_n 1, 1) := by decide +kernel
theorem d_V_retain_12 : decode prog_1_method_41_code 12 = .ok (.aload_n 0, 1) := by decide +kernel
theorem d_V_retain_13 : decode prog_1_method_41_code 13 = .ok (.getfield 33, 3) := by decide +kernel
theorem d_V_retain_16 : decode prog_1_method_41_code 16 = .ok (.getfield 266, 3) := by decide +kernel
theorem d_V_retain_19 : decode prog_1_method_41_code 19 = .ok (.lcmp, 1) := by decide +kernel
theorem d_V_retain_20 : decode prog_1_method_41_code 20 = .ok (.ifCond .ge 11, 3) := by decide +kernel
theorem d_V_retain_31 : decode prog_1_method_41_code 31 = .ok (.lload_n 1, 1) := by decide +kernel
theorem d_V_retain_32 : decode prog_1_method_41_code 32 = .ok (.aload_n 0, 1) := by decide +kernel
theorem d_V_retain_33 : decode prog_1_method_41_code 33 = .ok (.getfield 33, 3) := by decide +kernel
theorem d_V_retain_36 : decode prog_1_method_41_code 36 = .ok (.getfield 266, 3) := by decide +kernel
theorem d_V_retain_39 : decode prog_1_method_41_code 39 = .ok (.lcmp, 1) := by decide +kernel
theorem d_V_retain_40 : decode prog_1_method_41_code 40 = .ok (.ifCond .ne 5, 3) := by decide +kernel
theorem d_V_retain_43 : decode prog_1_method_41_code 43 = .ok (.iconst 0, 1) := by decide +kernel
theorem d_V_retain_44 : decode prog_1_method_41_code 44 = .ok (.ireturn, 1) := by decide +kernel
theorem w710 : Cond.fieldLinkNest "SeriesVault" 266 "SeriesVault$Shelf" "horizon" "J" "SeriesVault" ∈ aW := aw_of (tb_1 (List.mem_of_getElem? (i := 153) rfl)) rfl
set_option maxHeartbeats 4000000 in
set_option maxRecDepth 100000 in
theorem c_V_retain_0 (l : Launch) (D : va_G) (dA : Nat → ClassId) (sz : Nat) (a : Nat) (fs : List Value) (b : Nat) (gs : List Value) (h_fs_powered : fs[5]? = some (.int 1)) (h_fs_now : fs[11]? = some (.ref b)) (hl_fs : fs.length = 18) (h_gs_horizon : gs[7]? = some (.long 0)) (hl_gs : gs.length = 11) : Met l ⟨"SeriesVault", "retain", "(J)I"⟩ [Cond.code ⟨"SeriesVault", "retain", "(J)I"⟩ prog_1_method_41_code 4 (some FieldType.int)] { frames := 2, cells := 0, slots := 0, locals := 21 } (pC D dA [.ref a, .long 0] [(a, .inr (0, fs)), (b, .inr (3, gs))] sz) (va_Qi (fun (r : Int32) (_ : Unit) => r = 0) (fun (u9 : Unit) t9 => bW D (va_A [(a, .inr (0, fs)), (b, .inr (3, gs))] sz) [(a, .inr (0, fs)), (b, .inr (3, gs))] t9) (va_A [(a, .inr (0, fs)), (b, .inr (3, gs))] sz)) 0 0 (va_A [(a, .inr (0, fs)), (b, .inr (3, gs))] sz) := by
  refine mkC (y := ⟨"SeriesVault", "retain", "(J)I"⟩) (cc := prog_1_method_41_code) (maxL := 4) (av := [.ref a, .long 0]) (ws := [(a, .inr (0, fs)), (b, .inr (3, gs))]) (sz := sz) (Qc := fun A => va_Qi (fun (r : Int32) (_ : Unit) => r = 0) (fun (u9 : Unit) t9 => bW D A [(a, .inr (0, fs)), (b, .inr (3, gs))] t9) A) (by decide) (Nat.le_of_ble_eq_true rfl) ?_
  intro A p e s m below meth c ls hsz hB
  obtain ⟨hx, hb, hr, hml, hown, hin, hlk, hE, hK, hP, hD, hS, hA, hN, hl⟩ := hB
  have hown : s.vm.findClass "SeriesVault" = some m.cls := hown
  have hin : meth.name = "retain" := hin
  have hl : lv_has ls 4 [(0, .ref a), (1, .long 0)] := hl
  obtain ⟨H, hH⟩ : ∃ z, z = s.heap := ⟨_, rfl⟩
  have hP : va_P D vwCl [(a, .inr (0, fs)), (b, .inr (3, gs))] H := by rw [hH]; exact hP
  have hS : va_S A s.heap H [] := by rw [hH]; exact hS
  rw [← hH]
  refine lv_aload_n hx hb d_V_retain_0 rfl (lv_at hl 0 rfl) ?_
  have hPc := hP.sub (ws' := [(a, .inr (0, fs))]) [0] rfl
  have hDc := hD.sub (ws' := [(a, .inr (0, fs))]) [0] (by decide) rfl
  refine jnV (rnV (As := []) (rest := []) hx hb hml hown hE hK (hN _ _ hS) hPc hDc (c_V_checkPower l D dA H.size a fs h_fs_powered hl_fs) (q0 := 0) rfl rfl w278 w276 w279 w280 w277 rfl rfl ⟨⟨by decide, by decide⟩, rfl⟩ ⟨(Nat.le_of_ble_eq_true rfl), (Nat.le_of_ble_eq_true rfl)⟩ rfl hl.1 rfl (Nat.le_of_ble_eq_true rfl) d_V_retain_1 ⟨(Nat.le_of_ble_eq_true rfl), (Nat.le_of_ble_eq_true rfl)⟩) hP hD hS hA [0] [1] (wr := [(b, .inr (3, gs))]) rfl rfl (by decide) (by decide) (fun u9 H locs hp9 hP hD hS => ?_)
  have hP : va_P D vwCl [(b, .inr (3, gs)), (a, .inr (0, fs))] H := hP
  have hD : va_D A [(b, .inr (3, gs)), (a, .inr (0, fs))] := hD
  refine lv_lload_n hx hb d_V_retain_4 rfl (lv_at hl 1 rfl) ?_
  have hPc := hP.sub (ws' := []) [] rfl
  have hDc := hD.sub (ws' := []) [] (by decide) rfl
  refine jnI (rnS (As := [.long 0]) (rest := []) hx hb hml hown hE hK (hN _ _ hS) hPc hDc (c_V_isTime_1 l D dA H.size 0 (by decide) (by decide)) w693 w692 w694 w277 rfl rfl ⟨⟨by decide, by decide⟩, rfl⟩ ⟨(Nat.le_of_ble_eq_true rfl), (Nat.le_of_ble_eq_true rfl)⟩ rfl hl.1 rfl (Nat.le_of_ble_eq_true rfl) d_V_retain_5 ⟨(Nat.le_of_ble_eq_true rfl), (Nat.le_of_ble_eq_true rfl)⟩) hP hD hS hA [] [0, 1] (wr := [(b, .inr (3, gs)), (a, .inr (0, fs))]) rfl rfl (by decide) (by decide) (fun r2 u9 H locs hp9 hP hD hS => ?_)
  have hP : va_P D vwCl [(b, .inr (3, gs)), (a, .inr (0, fs))] H := hP
  have hD : va_D A [(b, .inr (3, gs)), (a, .inr (0, fs))] := hD
  have hp9 : 1 = r2 := Eq.symm hp9
  subst hp9
  refine lv_if_eq hx hb d_V_retain_8 (tgt := 23) rfl (fun h9 => absurd h9 (by decide)) (fun _ => ?_)
  refine lv_lload_n hx hb d_V_retain_11 rfl (lv_at hl 1 rfl) ?_
  refine lv_aload_n hx hb d_V_retain_12 rfl (lv_at hl 0 rfl) ?_
  refine gF (v := .ref b) hx hb hown hE hK hP 1 rfl rfl layV 11 (by decide) w297 h_fs_now d_V_retain_13 ?_
  refine gFN (v := .long 0) hx hb hown hE hK hP 0 rfl rfl layH 7 (by decide) w710 h_gs_horizon d_V_retain_16 ?_
  refine W.lcmp hx hb d_V_retain_19 (tpi (y := 0) (by decide) ?_)
  refine lv_if_ge hx hb d_V_retain_20 (tgt := 31) rfl (fun _ => ?_) (fun h9 => absurd (by decide) h9)
  refine lv_lload_n hx hb d_V_retain_31 rfl (lv_at hl 1 rfl) ?_
  refine lv_aload_n hx hb d_V_retain_32 rfl (lv_at hl 0 rfl) ?_
  refine gF (v := .ref b) hx hb hown hE hK hP 1 rfl rfl layV 11 (by decide) w297 h_fs_now d_V_retain_33 ?_
  refine gFN (v := .long 0) hx hb hown hE hK hP 0 rfl rfl layH 7 (by decide) w710 h_gs_horizon d_V_retain_36 ?_
  refine W.lcmp hx hb d_V_retain_39 (tpi (y := 0) (by decide) ?_)
  refine lv_if_ne hx hb d_V_retain_40 (tgt := 45) rfl (fun h9 => absurd (by decide) h9) (fun _ => ?_)
  refine lv_iconst (v := 0) hx hb d_V_retain_43 (by decide) ?_
  exact rtI hx hb hr hlk hP hD hS () rfl [1, 0] rfl rfl (by decide) (Nat.le_of_ble_eq_true rfl) (Nat.le_of_ble_eq_true rfl) d_V_retain_44
theorem d_P_countBelow_0 : decode prog_5_method_8_code 0 = .ok (.iconst 0, 1) := by decide +kernel
theorem d_P_countBelow_1 : decode prog_5_method_8_code 1 = .ok (.istore_n 3, 1) := by decide +kernel
theorem d_P_countBelow_2 : decode prog_5_method_8_code 2 = .ok (.iconst 0, 1) := by decide +kernel
theorem d_P_countBelow_3 : decode prog_5_method_8_code 3 = .ok (.istore 4, 2) := by decide +kernel
theorem d_P_countBelow_5 : decode prog_5_method_8_code 5 = .ok (.iload 4, 2) := by decide +kernel
theorem d_P_countBelow_7 : decode prog_5_method_8_code 7 = .ok (.aload_n 0, 1) := by decide +kernel
theorem d_P_countBelow_8 : decode prog_5_method_8_code 8 = .ok (.getfield 20, 3) := by decide +kernel
theorem d_P_countBelow_11 : decode prog_5_method_8_code 11 = .ok (.if_icmp .ge 24, 3) := by decide +kernel
theorem d_P_countBelow_35 : decode prog_5_method_8_code 35 = .ok (.iload_n 3, 1) := by decide +kernel
theorem d_P_countBelow_36 : decode prog_5_method_8_code 36 = .ok (.ireturn, 1) := by decide +kernel
set_option maxHeartbeats 4000000 in
set_option maxRecDepth 100000 in
theorem c_P_countBelow_0 (l : Launch) (D : va_G) (dA : Nat → ClassId) (sz : Nat) (a : Nat) (fs : List Value) (t : Int64) (h_fs_size : fs[3]? = some (.int 0)) (hl_fs : fs.length = 4) : Met l ⟨"SeriesVault$Points", "countBelow", "(J)I"⟩ [Cond.code ⟨"SeriesVault$Points", "countBelow", "(J)I"⟩ prog_5_method_8_code 5 (some FieldType.int)] { frames := 1, cells := 0, slots := 0, locals := 0 } (pC D dA [.ref a, .long t] [(a, .inr (2, fs))] sz) (va_Qi (fun (r : Int32) (_ : Unit) => r = 0) (fun (u9 : Unit) t9 => bW D (va_A [(a, .inr (2, fs))] sz) [(a, .inr (2, fs))] t9) (va_A [(a, .inr (2, fs))] sz)) 0 0 (va_A [(a, .inr (2, fs))] sz) := by
  refine mkC (y := ⟨"SeriesVault$Points", "countBelow", "(J)I"⟩) (cc := prog_5_method_8_code) (maxL := 5) (av := [.ref a, .long t]) (ws := [(a, .inr (2, fs))]) (sz := sz) (Qc := fun A => va_Qi (fun (r : Int32) (_ : Unit) => r = 0) (fun (u9 : Unit) t9 => bW D A [(a, .inr (2, fs))] t9) A) (by decide) (Nat.le_of_ble_eq_true rfl) ?_
  intro A p e s m below meth c ls hsz hB
  obtain ⟨hx, hb, hr, hml, hown, hin, hlk, hE, hK, hP, hD, hS, hA, hN, hl⟩ := hB
  have hown : s.vm.findClass "SeriesVault$Points" = some m.cls := hown
  have hin : meth.name = "countBelow" := hin
  have hl : lv_has ls 5 [(0, .ref a), (1, .long t)] := hl
  obtain ⟨H, hH⟩ : ∃ z, z = s.heap := ⟨_, rfl⟩
  have hP : va_P D vwCl [(a, .inr (2, fs))] H := by rw [hH]; exact hP
  have hS : va_S A s.heap H [] := by rw [hH]; exact hS
  rw [← hH]
  refine lv_iconst (v := 0) hx hb d_P_countBelow_0 (by decide) ?_
  refine lv_istore_n hx hb d_P_countBelow_1 rfl hl (by decide) rfl (fun ls hl => ?_)
  have hl : lv_has ls 5 [(3, .int 0), (0, .ref a), (1, .long t)] := hl
  refine lv_iconst (v := 0) hx hb d_P_countBelow_2 (by decide) ?_
  refine lv_istore hx hb d_P_countBelow_3 hl (by decide) rfl (fun ls hl => ?_)
  have hl : lv_has ls 5 [(4, .int 0), (3, .int 0), (0, .ref a), (1, .long t)] := hl
  refine lv_iload hx hb d_P_countBelow_5 (lv_at hl 0 rfl) ?_
  refine lv_aload_n hx hb d_P_countBelow_7 rfl (lv_at hl 2 rfl) ?_
  refine gF (v := .int 0) hx hb hown hE hK hP 0 rfl rfl layP 3 (by decide) w565 h_fs_size d_P_countBelow_8 ?_
  refine lv_icmp_ge hx hb d_P_countBelow_11 (tgt := 35) rfl (fun _ => ?_) (fun h9 => absurd (by decide) h9)
  refine lv_iload_n hx hb d_P_countBelow_35 rfl (lv_at hl 1 rfl) ?_
  exact rtI hx hb hr hlk hP hD hS () rfl [0] rfl rfl (by decide) (Nat.le_of_ble_eq_true rfl) (Nat.le_of_ble_eq_true rfl) d_P_countBelow_36
theorem d_P_dropBelow_0 : decode prog_5_method_9_code 0 = .ok (.iconst 0, 1) := by decide +kernel
theorem d_P_dropBelow_1 : decode prog_5_method_9_code 1 = .ok (.istore_n 3, 1) := by decide +kernel
theorem d_P_dropBelow_2 : decode prog_5_method_9_code 2 = .ok (.iconst 0, 1) := by decide +kernel
theorem d_P_dropBelow_3 : decode prog_5_method_9_code 3 = .ok (.istore 4, 2) := by decide +kernel
theorem d_P_dropBelow_5 : decode prog_5_method_9_code 5 = .ok (.iload 4, 2) := by decide +kernel
theorem d_P_dropBelow_7 : decode prog_5_method_9_code 7 = .ok (.aload_n 0, 1) := by decide +kernel
theorem d_P_dropBelow_8 : decode prog_5_method_9_code 8 = .ok (.getfield 20, 3) := by decide +kernel
theorem d_P_dropBelow_11 : decode prog_5_method_9_code 11 = .ok (.if_icmp .ge 50, 3) := by decide +kernel
theorem d_P_dropBelow_61 : decode prog_5_method_9_code 61 = .ok (.aload_n 0, 1) := by decide +kernel
theorem d_P_dropBelow_62 : decode prog_5_method_9_code 62 = .ok (.iload_n 3, 1) := by decide +kernel
theorem d_P_dropBelow_63 : decode prog_5_method_9_code 63 = .ok (.putfield 20, 3) := by decide +kernel
theorem d_P_dropBelow_66 : decode prog_5_method_9_code 66 = .ok (.return_, 1) := by decide +kernel
set_option maxHeartbeats 4000000 in
set_option maxRecDepth 100000 in
theorem c_P_dropBelow_0 (l : Launch) (D : va_G) (dA : Nat → ClassId) (sz : Nat) (a : Nat) (fs : List Value) (t : Int64) (h_fs_size : fs[3]? = some (.int 0)) (hl_fs : fs.length = 4) : Met l ⟨"SeriesVault$Points", "dropBelow", "(J)V"⟩ [Cond.code ⟨"SeriesVault$Points", "dropBelow", "(J)V"⟩ prog_5_method_9_code 5 none] { frames := 1, cells := 0, slots := 0, locals := 0 } (pC D dA [.ref a, .long t] [(a, .inr (2, fs))] sz) (va_Qv (fun (_ : Unit) => True) (fun (u9 : Unit) t9 => bW D (va_A [(a, .inr (2, fs))] sz) [(a, .inr (2, (fs.set 3 (.int 0))))] t9) (va_A [(a, .inr (2, fs))] sz)) 0 0 (va_A [(a, .inr (2, fs))] sz) := by
  refine mkC (y := ⟨"SeriesVault$Points", "dropBelow", "(J)V"⟩) (cc := prog_5_method_9_code) (maxL := 5) (av := [.ref a, .long t]) (ws := [(a, .inr (2, fs))]) (sz := sz) (Qc := fun A => va_Qv (fun (_ : Unit) => True) (fun (u9 : Unit) t9 => bW D A [(a, .inr (2, (fs.set 3 (.int 0))))] t9) A) (by decide) (Nat.le_of_ble_eq_true rfl) ?_
  intro A p e s m below meth c ls hsz hB
  obtain ⟨hx, hb, hr, hml, hown, hin, hlk, hE, hK, hP, hD, hS, hA, hN, hl⟩ := hB
  have hown : s.vm.findClass "SeriesVault$Points" = some m.cls := hown
  have hin : meth.name = "dropBelow" := hin
  have hl : lv_has ls 5 [(0, .ref a), (1, .long t)] := hl
  obtain ⟨H, hH⟩ : ∃ z, z = s.heap := ⟨_, rfl⟩
  have hP : va_P D vwCl [(a, .inr (2, fs))] H := by rw [hH]; exact hP
  have hS : va_S A s.heap H [] := by rw [hH]; exact hS
  rw [← hH]
  refine lv_iconst (v := 0) hx hb d_P_dropBelow_0 (by decide) ?_
  refine lv_istore_n hx hb d_P_dropBelow_1 rfl hl (by decide) rfl (fun ls hl => ?_)
  have hl : lv_has ls 5 [(3, .int 0), (0, .ref a), (1, .long t)] := hl
  refine lv_iconst (v := 0) hx hb d_P_dropBelow_2 (by decide) ?_
  refine lv_istore hx hb d_P_dropBelow_3 hl (by decide) rfl (fun ls hl => ?_)
  have hl : lv_has ls 5 [(4, .int 0), (3, .int 0), (0, .ref a), (1, .long t)] := hl
  refine lv_iload hx hb d_P_dropBelow_5 (lv_at hl 0 rfl) ?_
  refine lv_aload_n hx hb d_P_dropBelow_7 rfl (lv_at hl 2 rfl) ?_
  refine gF (v := .int 0) hx hb hown hE hK hP 0 rfl rfl layP 3 (by decide) w565 h_fs_size d_P_dropBelow_8 ?_
  refine lv_icmp_ge hx hb d_P_dropBelow_11 (tgt := 61) rfl (fun _ => ?_) (fun h9 => absurd (by decide) h9)
  refine lv_aload_n hx hb d_P_dropBelow_61 rfl (lv_at hl 2 rfl) ?_
  refine lv_iload_n hx hb d_P_dropBelow_62 rfl (lv_at hl 1 rfl) ?_
  refine pF hx hb hown hE hK hP hD hS 0 rfl rfl layP tyP tokP nmP 3 (by decide) w565 rfl rfl rfl (by simp [hl_fs]) d_P_dropBelow_63 (fun H locs hP hD hS => ?_)
  have hP : va_P D vwCl [(a, .inr (2, (fs.set 3 (.int 0))))] H := hP
  have hD : va_D A [(a, .inr (2, (fs.set 3 (.int 0))))] := hD
  exact rtV hx hb hr hlk hP hD hS () trivial [0] rfl rfl (by decide) (Nat.le_of_ble_eq_true rfl) (Nat.le_of_ble_eq_true rfl) d_P_dropBelow_66
theorem d_H_moveHorizon_0 : decode prog_9_method_9_code 0 = .ok (.aload_n 0, 1) := by decide +kernel
theorem d_H_moveHorizon_1 : decode prog_9_method_9_code 1 = .ok (.lload_n 1, 1) := by decide +kernel
theorem d_H_moveHorizon_2 : decode prog_9_method_9_code 2 = .ok (.putfield 41, 3) := by decide +kernel
theorem d_H_moveHorizon_5 : decode prog_9_method_9_code 5 = .ok (.iconst 0, 1) := by decide +kernel
theorem d_H_moveHorizon_6 : decode prog_9_method_9_code 6 = .ok (.istore_n 3, 1) := by decide +kernel
theorem d_H_moveHorizon_7 : decode prog_9_method_9_code 7 = .ok (.iconst 0, 1) := by decide +kernel
theorem d_H_moveHorizon_8 : decode prog_9_method_9_code 8 = .ok (.istore 4, 2) := by decide +kernel
theorem d_H_moveHorizon_10 : decode prog_9_method_9_code 10 = .ok (.iload 4, 2) := by decide +kernel
theorem d_H_moveHorizon_12 : decode prog_9_method_9_code 12 = .ok (.aload_n 0, 1) := by decide +kernel
theorem d_H_moveHorizon_13 : decode prog_9_method_9_code 13 = .ok (.getfield 34, 3) := by decide +kernel
theorem d_H_moveHorizon_16 : decode prog_9_method_9_code 16 = .ok (.if_icmp .ge 40, 3) := by decide +kernel
theorem d_H_moveHorizon_56 : decode prog_9_method_9_code 56 = .ok (.aload_n 0, 1) := by decide +kernel
theorem d_H_moveHorizon_57 : decode prog_9_method_9_code 57 = .ok (.iload_n 3, 1) := by decide +kernel
theorem d_H_moveHorizon_58 : decode prog_9_method_9_code 58 = .ok (.putfield 34, 3) := by decide +kernel
theorem d_H_moveHorizon_61 : decode prog_9_method_9_code 61 = .ok (.return_, 1) := by decide +kernel
set_option maxHeartbeats 4000000 in
set_option maxRecDepth 100000 in
theorem c_H_moveHorizon_0 (l : Launch) (D : va_G) (dA : Nat → ClassId) (sz : Nat) (a : Nat) (fs : List Value) (t : Int64) (h_fs_parcelCount : fs[1]? = some (.int 0)) (hl_fs : fs.length = 11) : Met l ⟨"SeriesVault$Shelf", "moveHorizon", "(J)V"⟩ [Cond.code ⟨"SeriesVault$Shelf", "moveHorizon", "(J)V"⟩ prog_9_method_9_code 5 none] { frames := 1, cells := 0, slots := 0, locals := 0 } (pC D dA [.ref a, .long t] [(a, .inr (3, fs))] sz) (va_Qv (fun (_ : Unit) => True) (fun (u9 : Unit) t9 => bW D (va_A [(a, .inr (3, fs))] sz) [(a, .inr (3, ((fs.set 7 (.long t)).set 1 (.int 0))))] t9) (va_A [(a, .inr (3, fs))] sz)) 0 0 (va_A [(a, .inr (3, fs))] sz) := by
  refine mkC (y := ⟨"SeriesVault$Shelf", "moveHorizon", "(J)V"⟩) (cc := prog_9_method_9_code) (maxL := 5) (av := [.ref a, .long t]) (ws := [(a, .inr (3, fs))]) (sz := sz) (Qc := fun A => va_Qv (fun (_ : Unit) => True) (fun (u9 : Unit) t9 => bW D A [(a, .inr (3, ((fs.set 7 (.long t)).set 1 (.int 0))))] t9) A) (by decide) (Nat.le_of_ble_eq_true rfl) ?_
  intro A p e s m below meth c ls hsz hB
  obtain ⟨hx, hb, hr, hml, hown, hin, hlk, hE, hK, hP, hD, hS, hA, hN, hl⟩ := hB
  have hown : s.vm.findClass "SeriesVault$Shelf" = some m.cls := hown
  have hin : meth.name = "moveHorizon" := hin
  have hl : lv_has ls 5 [(0, .ref a), (1, .long t)] := hl
  obtain ⟨H, hH⟩ : ∃ z, z = s.heap := ⟨_, rfl⟩
  have hP : va_P D vwCl [(a, .inr (3, fs))] H := by rw [hH]; exact hP
  have hS : va_S A s.heap H [] := by rw [hH]; exact hS
  rw [← hH]
  refine lv_aload_n hx hb d_H_moveHorizon_0 rfl (lv_at hl 0 rfl) ?_
  refine lv_lload_n hx hb d_H_moveHorizon_1 rfl (lv_at hl 1 rfl) ?_
  refine pF hx hb hown hE hK hP hD hS 0 rfl rfl layH tyH tokH nmH 7 (by decide) w568 rfl rfl rfl (by simp [hl_fs]) d_H_moveHorizon_2 (fun H locs hP hD hS => ?_)
  have hP : va_P D vwCl [(a, .inr (3, (fs.set 7 (.long t))))] H := hP
  have hD : va_D A [(a, .inr (3, (fs.set 7 (.long t))))] := hD
  refine lv_iconst (v := 0) hx hb d_H_moveHorizon_5 (by decide) ?_
  refine lv_istore_n hx hb d_H_moveHorizon_6 rfl hl (by decide) rfl (fun ls hl => ?_)
  have hl : lv_has ls 5 [(3, .int 0), (0, .ref a), (1, .long t)] := hl
  refine lv_iconst (v := 0) hx hb d_H_moveHorizon_7 (by decide) ?_
  refine lv_istore hx hb d_H_moveHorizon_8 hl (by decide) rfl (fun ls hl => ?_)
  have hl : lv_has ls 5 [(4, .int 0), (3, .int 0), (0, .ref a), (1, .long t)] := hl
  refine lv_iload hx hb d_H_moveHorizon_10 (lv_at hl 0 rfl) ?_
  refine lv_aload_n hx hb d_H_moveHorizon_12 rfl (lv_at hl 2 rfl) ?_
  refine gF (v := .int 0) hx hb hown hE hK hP 0 rfl rfl layH 1 (by decide) w566 (by simp [h_fs_parcelCount]) d_H_moveHorizon_13 ?_
  refine lv_icmp_ge hx hb d_H_moveHorizon_16 (tgt := 56) rfl (fun _ => ?_) (fun h9 => absurd (by decide) h9)
  refine lv_aload_n hx hb d_H_moveHorizon_56 rfl (lv_at hl 2 rfl) ?_
  refine lv_iload_n hx hb d_H_moveHorizon_57 rfl (lv_at hl 1 rfl) ?_
  refine pF hx hb hown hE hK hP hD hS 0 rfl rfl layH tyH tokH nmH 1 (by decide) w566 rfl rfl rfl (by simp [hl_fs]) d_H_moveHorizon_58 (fun H locs hP hD hS => ?_)
  have hP : va_P D vwCl [(a, .inr (3, ((fs.set 7 (.long t)).set 1 (.int 0))))] H := hP
  have hD : va_D A [(a, .inr (3, ((fs.set 7 (.long t)).set 1 (.int 0))))] := hD
  exact rtV hx hb hr hlk hP hD hS () trivial [0] rfl rfl (by decide) (Nat.le_of_ble_eq_true rfl) (Nat.le_of_ble_eq_true rfl) d_H_moveHorizon_61
theorem d_V_writeBlock_0 : decode prog_1_method_15_code 0 = .ok (.aload_n 0, 1) := by decide +kernel
theorem d_V_writeBlock_1 : decode prog_1_method_15_code 1 = .ok (.getfield 108, 3) := by decide +kernel
theorem d_V_writeBlock_4 : decode prog_1_method_15_code 4 = .ok (.ifCond .ne 21, 3) := by decide +kernel
theorem d_V_writeBlock_25 : decode prog_1_method_15_code 25 = .ok (.aload_n 0, 1) := by decide +kernel
theorem d_V_writeBlock_26 : decode prog_1_method_15_code 26 = .ok (.getfield 108, 3) := by decide +kernel
theorem d_V_writeBlock_29 : decode prog_1_method_15_code 29 = .ok (.ifCond .le 13, 3) := by decide +kernel
theorem d_V_writeBlock_42 : decode prog_1_method_15_code 42 = .ok (.aload_n 0, 1) := by decide +kernel
theorem d_V_writeBlock_43 : decode prog_1_method_15_code 43 = .ok (.dup, 1) := by decide +kernel
theorem d_V_writeBlock_44 : decode prog_1_method_15_code 44 = .ok (.getfield 111, 3) := by decide +kernel
theorem d_V_writeBlock_47 : decode prog_1_method_15_code 47 = .ok (.iconst 1, 1) := by decide +kernel
theorem d_V_writeBlock_48 : decode prog_1_method_15_code 48 = .ok (.iadd, 1) := by decide +kernel
theorem d_V_writeBlock_49 : decode prog_1_method_15_code 49 = .ok (.putfield 111, 3) := by decide +kernel
theorem d_V_writeBlock_52 : decode prog_1_method_15_code 52 = .ok (.return_, 1) := by decide +kernel
set_option maxHeartbeats 4000000 in
set_option maxRecDepth 100000 in
theorem c_V_writeBlock_m (l : Launch) (D : va_G) (dA : Nat → ClassId) (sz : Nat) (a : Nat) (fs : List Value) (k : Int32) (h_fs_cutLeft : fs[6]? = some (.int (-1))) (h_fs_writes : fs[7]? = some (.int k)) (hl_fs : fs.length = 18) : Met l ⟨"SeriesVault", "writeBlock", "()V"⟩ [Cond.code ⟨"SeriesVault", "writeBlock", "()V"⟩ prog_1_method_15_code 1 none] { frames := 1, cells := 0, slots := 0, locals := 0 } (pC D dA [.ref a] [(a, .inr (0, fs))] sz) (va_Qv (fun (_ : Unit) => True) (fun (u9 : Unit) t9 => bW D (va_A [(a, .inr (0, fs))] sz) [(a, .inr (0, (fs.set 7 (.int (k + 1)))))] t9) (va_A [(a, .inr (0, fs))] sz)) 0 0 (va_A [(a, .inr (0, fs))] sz) := by
  refine mkC (y := ⟨"SeriesVault", "writeBlock", "()V"⟩) (cc := prog_1_method_15_code) (maxL := 1) (av := [.ref a]) (ws := [(a, .inr (0, fs))]) (sz := sz) (Qc := fun A => va_Qv (fun (_ : Unit) => True) (fun (u9 : Unit) t9 => bW D A [(a, .inr (0, (fs.set 7 (.int (k + 1)))))] t9) A) (by decide) (Nat.le_of_ble_eq_true rfl) ?_
  intro A p e s m below meth c ls hsz hB
  obtain ⟨hx, hb, hr, hml, hown, hin, hlk, hE, hK, hP, hD, hS, hA, hN, hl⟩ := hB
  have hown : s.vm.findClass "SeriesVault" = some m.cls := hown
  have hin : meth.name = "writeBlock" := hin
  have hl : lv_has ls 1 [(0, .ref a)] := hl
  obtain ⟨H, hH⟩ : ∃ z, z = s.heap := ⟨_, rfl⟩
  have hP : va_P D vwCl [(a, .inr (0, fs))] H := by rw [hH]; exact hP
  have hS : va_S A s.heap H [] := by rw [hH]; exact hS
  rw [← hH]
  refine lv_aload_n hx hb d_V_writeBlock_0 rfl (lv_at hl 0 rfl) ?_
  refine gF (v := .int (-1)) hx hb hown hE hK hP 0 rfl rfl layV 6 (by decide) w281 h_fs_cutLeft d_V_writeBlock_1 ?_
  refine lv_if_ne hx hb d_V_writeBlock_4 (tgt := 25) rfl (fun _ => ?_) (fun h9 => absurd h9 (by decide))
  refine lv_aload_n hx hb d_V_writeBlock_25 rfl (lv_at hl 0 rfl) ?_
  refine gF (v := .int (-1)) hx hb hown hE hK hP 0 rfl rfl layV 6 (by decide) w281 h_fs_cutLeft d_V_writeBlock_26 ?_
  refine lv_if_le hx hb d_V_writeBlock_29 (tgt := 42) rfl (fun _ => ?_) (fun h9 => absurd (by decide) h9)
  refine lv_aload_n hx hb d_V_writeBlock_42 rfl (lv_at hl 0 rfl) ?_
  refine lv_dup hx hb d_V_writeBlock_43 rfl ?_
  refine gF (v := .int k) hx hb hown hE hK hP 0 rfl rfl layV 7 (by decide) w209 h_fs_writes d_V_writeBlock_44 ?_
  refine lv_iconst (v := 1) hx hb d_V_writeBlock_47 (by decide) ?_
  refine lv_iadd hx hb d_V_writeBlock_48 ?_
  refine pF hx hb hown hE hK hP hD hS 0 rfl rfl layV tyV tokV nmV 7 (by decide) w209 rfl rfl rfl (by simp [hl_fs]) d_V_writeBlock_49 (fun H locs hP hD hS => ?_)
  have hP : va_P D vwCl [(a, .inr (0, (fs.set 7 (.int (k + 1)))))] H := hP
  have hD : va_D A [(a, .inr (0, (fs.set 7 (.int (k + 1)))))] := hD
  exact rtV hx hb hr hlk hP hD hS () trivial [0] rfl rfl (by decide) (Nat.le_of_ble_eq_true rfl) (Nat.le_of_ble_eq_true rfl) d_V_writeBlock_52
theorem d_V_writeBlock_7 : decode prog_1_method_15_code 7 = .ok (.aload_n 0, 1) := by decide +kernel
theorem d_V_writeBlock_8 : decode prog_1_method_15_code 8 = .ok (.iconst 0, 1) := by decide +kernel
theorem d_V_writeBlock_9 : decode prog_1_method_15_code 9 = .ok (.putfield 104, 3) := by decide +kernel
theorem d_V_writeBlock_12 : decode prog_1_method_15_code 12 = .ok (.aload_n 0, 1) := by decide +kernel
theorem d_V_writeBlock_13 : decode prog_1_method_15_code 13 = .ok (.iconst (-1), 1) := by decide +kernel
theorem d_V_writeBlock_14 : decode prog_1_method_15_code 14 = .ok (.putfield 108, 3) := by decide +kernel
theorem d_V_writeBlock_17 : decode prog_1_method_15_code 17 = .ok (.new 127, 3) := by decide +kernel
theorem d_V_writeBlock_20 : decode prog_1_method_15_code 20 = .ok (.dup, 1) := by decide +kernel
theorem d_V_writeBlock_21 : decode prog_1_method_15_code 21 = .ok (.invokespecial 129, 3) := by decide +kernel
theorem d_V_writeBlock_24 : decode prog_1_method_15_code 24 = .ok (.athrow, 1) := by decide +kernel
set_option maxHeartbeats 4000000 in
set_option maxRecDepth 100000 in
theorem c_V_writeBlock_x (l : Launch) (htr : l.stackTraces = false) (D : va_G) (dA : Nat → ClassId) (sz : Nat) (a : Nat) (fs : List Value) (h_fs_cutLeft : fs[6]? = some (.int 0)) (hl_fs : fs.length = 18) : mX l ⟨"SeriesVault", "writeBlock", "()V"⟩ [Cond.code ⟨"SeriesVault", "writeBlock", "()V"⟩ prog_1_method_15_code 1 none] { frames := 6, cells := 1, slots := 6, locals := 81 } (pC D dA [.ref a] [(a, .inr (0, fs))] sz) "java/lang/IllegalStateException" (fun st9 t9 => va_F (va_A [(a, .inr (0, fs))] sz) st9 t9 ∧ bW D (va_A [(a, .inr (0, fs))] sz) [(a, .inr (0, ((fs.set 5 (.int 0)).set 6 (.int (-1)))))] t9) 1 6 (va_A [(a, .inr (0, fs))] sz) := by
  refine mkX (y := ⟨"SeriesVault", "writeBlock", "()V"⟩) (cc := prog_1_method_15_code) (maxL := 1) (av := [.ref a]) (B := fun A => fun st9 t9 => va_F A st9 t9 ∧ bW D A [(a, .inr (0, ((fs.set 5 (.int 0)).set 6 (.int (-1)))))] t9) (by decide) (Nat.le_of_ble_eq_true rfl) ?_
  intro A p e s m below meth c ls hsz hno hB
  obtain ⟨hx, hb, hr, hml, hown, hin, hlk, hE, hK, hP, hD, hS, hA, hN, hl⟩ := hB
  have hown : s.vm.findClass "SeriesVault" = some m.cls := hown
  have hin : meth.name = "writeBlock" := hin
  have hl : lv_has ls 1 [(0, .ref a)] := hl
  obtain ⟨H, hH⟩ : ∃ z, z = s.heap := ⟨_, rfl⟩
  have hP : va_P D vwCl [(a, .inr (0, fs))] H := by rw [hH]; exact hP
  have hS : va_S A s.heap H [] := by rw [hH]; exact hS
  rw [← hH]
  refine lv_aload_n hx hb d_V_writeBlock_0 rfl (lv_at hl 0 rfl) ?_
  refine gF (v := .int 0) hx hb hown hE hK hP 0 rfl rfl layV 6 (by decide) w281 h_fs_cutLeft d_V_writeBlock_1 ?_
  refine lv_if_ne hx hb d_V_writeBlock_4 (tgt := 25) rfl (fun h9 => absurd (by decide) h9) (fun _ => ?_)
  refine lv_aload_n hx hb d_V_writeBlock_7 rfl (lv_at hl 0 rfl) ?_
  refine lv_iconst (v := 0) hx hb d_V_writeBlock_8 (by decide) ?_
  refine pF hx hb hown hE hK hP hD hS 0 rfl rfl layV tyV tokV nmV 5 (by decide) w275 rfl rfl rfl (by simp [hl_fs]) d_V_writeBlock_9 (fun H locs hP hD hS => ?_)
  have hP : va_P D vwCl [(a, .inr (0, (fs.set 5 (.int 0))))] H := hP
  have hD : va_D A [(a, .inr (0, (fs.set 5 (.int 0))))] := hD
  refine lv_aload_n hx hb d_V_writeBlock_12 rfl (lv_at hl 0 rfl) ?_
  refine lv_iconst (v := (-1)) hx hb d_V_writeBlock_13 (by decide) ?_
  refine pF hx hb hown hE hK hP hD hS 0 rfl rfl layV tyV tokV nmV 6 (by decide) w281 rfl rfl rfl (by simp [hl_fs]) d_V_writeBlock_14 (fun H locs hP hD hS => ?_)
  have hP : va_P D vwCl [(a, .inr (0, ((fs.set 5 (.int 0)).set 6 (.int (-1)))))] H := hP
  have hD : va_D A [(a, .inr (0, ((fs.set 5 (.int 0)).set 6 (.int (-1)))))] := hD
  exact xNew (E := "java/lang/IllegalStateException") (names := ["java/lang/RuntimeException", "java/lang/Exception"]) hx hb htr hown (by decide) (by decide) hE w295 w296 (fun U hU => at_V_ISE hU) (hN _ _ hS) (hl.1.trans hml.symm) d_V_writeBlock_17 d_V_writeBlock_20 d_V_writeBlock_21 d_V_writeBlock_24 hno (by decide) (Nat.le_of_ble_eq_true rfl) (Nat.le_of_ble_eq_true rfl) (Nat.le_of_ble_eq_true rfl) hlk (fun t h1 h2 => xEnd hP hD hS [0] rfl rfl (by decide) t h1 h2) hS.2.2 (Nat.le_of_ble_eq_true rfl) (Nat.le_of_ble_eq_true rfl)
theorem d_Arrays_fill_f26_0 : decode prog_38_method_103_code 0 = .ok (.iconst 0, 1) := by decide +kernel
theorem d_Arrays_fill_f26_1 : decode prog_38_method_103_code 1 = .ok (.istore_n 2, 1) := by decide +kernel
theorem d_Arrays_fill_f26_2 : decode prog_38_method_103_code 2 = .ok (.aload_n 0, 1) := by decide +kernel
theorem d_Arrays_fill_f26_3 : decode prog_38_method_103_code 3 = .ok (.arraylength, 1) := by decide +kernel
theorem d_Arrays_fill_f26_4 : decode prog_38_method_103_code 4 = .ok (.istore_n 3, 1) := by decide +kernel
theorem d_Arrays_fill_f26_5 : decode prog_38_method_103_code 5 = .ok (.iload_n 2, 1) := by decide +kernel
theorem d_Arrays_fill_f26_6 : decode prog_38_method_103_code 6 = .ok (.iload_n 3, 1) := by decide +kernel
theorem d_Arrays_fill_f26_7 : decode prog_38_method_103_code 7 = .ok (.if_icmp .ge 13, 3) := by decide +kernel
theorem d_Arrays_fill_f26_10 : decode prog_38_method_103_code 10 = .ok (.aload_n 0, 1) := by decide +kernel
theorem d_Arrays_fill_f26_11 : decode prog_38_method_103_code 11 = .ok (.iload_n 2, 1) := by decide +kernel
theorem d_Arrays_fill_f26_12 : decode prog_38_method_103_code 12 = .ok (.iload_n 1, 1) := by decide +kernel
theorem d_Arrays_fill_f26_13 : decode prog_38_method_103_code 13 = .ok (.iastore, 1) := by decide +kernel
theorem d_Arrays_fill_f26_14 : decode prog_38_method_103_code 14 = .ok (.iinc 2 1, 3) := by decide +kernel
theorem d_Arrays_fill_f26_17 : decode prog_38_method_103_code 17 = .ok (.goto (-12), 3) := by decide +kernel
theorem d_Arrays_fill_f26_20 : decode prog_38_method_103_code 20 = .ok (.return_, 1) := by decide +kernel
set_option maxHeartbeats 4000000 in
set_option maxRecDepth 100000 in
theorem c_fill64 (l : Launch) (D : va_G) (dA : Nat → ClassId) (sz : Nat) (b : Nat) (g : Nat → Int32) : Met l ⟨"java/util/Arrays", "fill", "([II)V"⟩ [Cond.code ⟨"java/util/Arrays", "fill", "([II)V"⟩ prog_38_method_103_code 4 none] { frames := 1, cells := 0, slots := 0, locals := 0 } (pC D dA [.ref b, .int 0] [(b, .inl (dA 1, 64, .inl g))] sz) (va_Qv (fun (_ : Unit) => True) (fun (u9 : Unit) t9 => bW D (va_A [(b, .inl (dA 1, 64, .inl g))] sz) [(b, .inl (dA 1, 64, .inl (upd (upd (upd (upd (upd (upd (upd (upd (upd (upd (upd (upd (upd (upd (upd (upd (upd (upd (upd (upd (upd (upd (upd (upd (upd (upd (upd (upd (upd (upd (upd (upd (upd (upd (upd (upd (upd (upd (upd (upd (upd (upd (upd (upd (upd (upd (upd (upd (upd (upd (upd (upd (upd (upd (upd (upd (upd (upd (upd (upd (upd (upd (upd (upd g 0 0) 1 0) 2 0) 3 0) 4 0) 5 0) 6 0) 7 0) 8 0) 9 0) 10 0) 11 0) 12 0) 13 0) 14 0) 15 0) 16 0) 17 0) 18 0) 19 0) 20 0) 21 0) 22 0) 23 0) 24 0) 25 0) 26 0) 27 0) 28 0) 29 0) 30 0) 31 0) 32 0) 33 0) 34 0) 35 0) 36 0) 37 0) 38 0) 39 0) 40 0) 41 0) 42 0) 43 0) 44 0) 45 0) 46 0) 47 0) 48 0) 49 0) 50 0) 51 0) 52 0) 53 0) 54 0) 55 0) 56 0) 57 0) 58 0) 59 0) 60 0) 61 0) 62 0) 63 0)))] t9) (va_A [(b, .inl (dA 1, 64, .inl g))] sz)) 0 0 (va_A [(b, .inl (dA 1, 64, .inl g))] sz) := by
  refine mkC (y := ⟨"java/util/Arrays", "fill", "([II)V"⟩) (cc := prog_38_method_103_code) (maxL := 4) (av := [.ref b, .int 0]) (ws := [(b, .inl (dA 1, 64, .inl g))]) (sz := sz) (Qc := fun A => va_Qv (fun (_ : Unit) => True) (fun (u9 : Unit) t9 => bW D A [(b, .inl (dA 1, 64, .inl (upd (upd (upd (upd (upd (upd (upd (upd (upd (upd (upd (upd (upd (upd (upd (upd (upd (upd (upd (upd (upd (upd (upd (upd (upd (upd (upd (upd (upd (upd (upd (upd (upd (upd (upd (upd (upd (upd (upd (upd (upd (upd (upd (upd (upd (upd (upd (upd (upd (upd (upd (upd (upd (upd (upd (upd (upd (upd (upd (upd (upd (upd (upd (upd g 0 0) 1 0) 2 0) 3 0) 4 0) 5 0) 6 0) 7 0) 8 0) 9 0) 10 0) 11 0) 12 0) 13 0) 14 0) 15 0) 16 0) 17 0) 18 0) 19 0) 20 0) 21 0) 22 0) 23 0) 24 0) 25 0) 26 0) 27 0) 28 0) 29 0) 30 0) 31 0) 32 0) 33 0) 34 0) 35 0) 36 0) 37 0) 38 0) 39 0) 40 0) 41 0) 42 0) 43 0) 44 0) 45 0) 46 0) 47 0) 48 0) 49 0) 50 0) 51 0) 52 0) 53 0) 54 0) 55 0) 56 0) 57 0) 58 0) 59 0) 60 0) 61 0) 62 0) 63 0)))] t9) A) (by decide) (Nat.le_of_ble_eq_true rfl) ?_
  intro A p e s m below meth c ls hsz hB
  obtain ⟨hx, hb, hr, hml, hown, hin, hlk, hE, hK, hP, hD, hS, hA, hN, hl⟩ := hB
  have hown : s.vm.findClass "java/util/Arrays" = some m.cls := hown
  have hin : meth.name = "fill" := hin
  have hl : lv_has ls 4 [(0, .ref b), (1, .int 0)] := hl
  obtain ⟨H, hH⟩ : ∃ z, z = s.heap := ⟨_, rfl⟩
  have hP : va_P D vwCl [(b, .inl (dA 1, 64, .inl g))] H := by rw [hH]; exact hP
  have hS : va_S A s.heap H [] := by rw [hH]; exact hS
  rw [← hH]
  refine lv_iconst (v := 0) hx hb d_Arrays_fill_f26_0 (by decide) ?_
  refine lv_istore_n hx hb d_Arrays_fill_f26_1 rfl hl (by decide) rfl (fun ls hl => ?_)
  have hl : lv_has ls 4 [(2, .int 0), (0, .ref b), (1, .int 0)] := hl
  refine lv_aload_n hx hb d_Arrays_fill_f26_2 rfl (lv_at hl 1 rfl) ?_
  refine va_alen (v := 64) hx hb hK hP 0 1 rfl rfl rfl d_Arrays_fill_f26_3 ?_
  refine lv_istore_n hx hb d_Arrays_fill_f26_4 rfl hl (by decide) rfl (fun ls hl => ?_)
  have hl : lv_has ls 4 [(3, .int 64), (2, .int 0), (0, .ref b), (1, .int 0)] := hl
  refine lv_iload_n hx hb d_Arrays_fill_f26_5 rfl (lv_at hl 1 rfl) ?_
  refine lv_iload_n hx hb d_Arrays_fill_f26_6 rfl (lv_at hl 0 rfl) ?_
  refine lv_icmp_ge hx hb d_Arrays_fill_f26_7 (tgt := 20) rfl (fun h9 => absurd h9 (by decide)) (fun _ => ?_)
  refine lv_aload_n hx hb d_Arrays_fill_f26_10 rfl (lv_at hl 2 rfl) ?_
  refine lv_iload_n hx hb d_Arrays_fill_f26_11 rfl (lv_at hl 1 rfl) ?_
  refine lv_iload_n hx hb d_Arrays_fill_f26_12 rfl (lv_at hl 3 rfl) ?_
  refine va_iast hx hb hK hP hD hS 0 1 rfl rfl (by unfold vp_in; decide) d_Arrays_fill_f26_13 (fun H locs hP hD hS => ?_)
  have hP : va_P D vwCl [(b, .inl (dA 1, 64, .inl (upd g 0 0)))] H := hP
  have hD : va_D A [(b, .inl (dA 1, 64, .inl (upd g 0 0)))] := hD
  refine lv_iinc (k := 1) (v := 1) hx hb d_Arrays_fill_f26_14 hl rfl (by decide) (by decide) rfl (fun ls hl => ?_)
  have hl : lv_has ls 4 [(2, .int 1), (3, .int 64), (0, .ref b), (1, .int 0)] := hl
  refine lv_goto hx hb d_Arrays_fill_f26_17 (tgt := 5) rfl ?_
  refine lv_iload_n hx hb d_Arrays_fill_f26_5 rfl (lv_at hl 0 rfl) ?_
  refine lv_iload_n hx hb d_Arrays_fill_f26_6 rfl (lv_at hl 1 rfl) ?_
  refine lv_icmp_ge hx hb d_Arrays_fill_f26_7 (tgt := 20) rfl (fun h9 => absurd h9 (by decide)) (fun _ => ?_)
  refine lv_aload_n hx hb d_Arrays_fill_f26_10 rfl (lv_at hl 2 rfl) ?_
  refine lv_iload_n hx hb d_Arrays_fill_f26_11 rfl (lv_at hl 0 rfl) ?_
  refine lv_iload_n hx hb d_Arrays_fill_f26_12 rfl (lv_at hl 3 rfl) ?_
  refine va_iast hx hb hK hP hD hS 0 1 rfl rfl (by unfold vp_in; decide) d_Arrays_fill_f26_13 (fun H locs hP hD hS => ?_)
  have hP : va_P D vwCl [(b, .inl (dA 1, 64, .inl (upd (upd g 0 0) 1 0)))] H := hP
  have hD : va_D A [(b, .inl (dA 1, 64, .inl (upd (upd g 0 0) 1 0)))] := hD
  refine lv_iinc (k := 0) (v := 2) hx hb d_Arrays_fill_f26_14 hl rfl (by decide) (by decide) rfl (fun ls hl => ?_)
  have hl : lv_has ls 4 [(2, .int 2), (3, .int 64), (0, .ref b), (1, .int 0)] := hl
  refine lv_goto hx hb d_Arrays_fill_f26_17 (tgt := 5) rfl ?_
  refine lv_iload_n hx hb d_Arrays_fill_f26_5 rfl (lv_at hl 0 rfl) ?_
  refine lv_iload_n hx hb d_Arrays_fill_f26_6 rfl (lv_at hl 1 rfl) ?_
  refine lv_icmp_ge hx hb d_Arrays_fill_f26_7 (tgt := 20) rfl (fun h9 => absurd h9 (by decide)) (fun _ => ?_)
  refine lv_aload_n hx hb d_Arrays_fill_f26_10 rfl (lv_at hl 2 rfl) ?_
  refine lv_iload_n hx hb d_Arrays_fill_f26_11 rfl (lv_at hl 0 rfl) ?_
  refine lv_iload_n hx hb d_Arrays_fill_f26_12 rfl (lv_at hl 3 rfl) ?_
  refine va_iast hx hb hK hP hD hS 0 1 rfl rfl (by unfold vp_in; decide) d_Arrays_fill_f26_13 (fun H locs hP hD hS => ?_)
  have hP : va_P D vwCl [(b, .inl (dA 1, 64, .inl (upd (upd (upd g 0 0) 1 0) 2 0)))] H := hP
  have hD : va_D A [(b, .inl (dA 1, 64, .inl (upd (upd (upd g 0 0) 1 0) 2 0)))] := hD
  refine lv_iinc (k := 0) (v := 3) hx hb d_Arrays_fill_f26_14 hl rfl (by decide) (by decide) rfl (fun ls hl => ?_)
  have hl : lv_has ls 4 [(2, .int 3), (3, .int 64), (0, .ref b), (1, .int 0)] := hl
  refine lv_goto hx hb d_Arrays_fill_f26_17 (tgt := 5) rfl ?_
  refine lv_iload_n hx hb d_Arrays_fill_f26_5 rfl (lv_at hl 0 rfl) ?_
  refine lv_iload_n hx hb d_Arrays_fill_f26_6 rfl (lv_at hl 1 rfl) ?_
  refine lv_icmp_ge hx hb d_Arrays_fill_f26_7 (tgt := 20) rfl (fun h9 => absurd h9 (by decide)) (fun _ => ?_)
  refine lv_aload_n hx hb d_Arrays_fill_f26_10 rfl (lv_at hl 2 rfl) ?_
  refine lv_iload_n hx hb d_Arrays_fill_f26_11 rfl (lv_at hl 0 rfl) ?_
  refine lv_iload_n hx hb d_Arrays_fill_f26_12 rfl (lv_at hl 3 rfl) ?_
  refine va_iast hx hb hK hP hD hS 0 1 rfl rfl (by unfold vp_in; decide) d_Arrays_fill_f26_13 (fun H locs hP hD hS => ?_)
  have hP : va_P D vwCl [(b, .inl (dA 1, 64, .inl (upd (upd (upd (upd g 0 0) 1 0) 2 0) 3 0)))] H := hP
  have hD : va_D A [(b, .inl (dA 1, 64, .inl (upd (upd (upd (upd g 0 0) 1 0) 2 0) 3 0)))] := hD
  refine lv_iinc (k := 0) (v := 4) hx hb d_Arrays_fill_f26_14 hl rfl (by decide) (by decide) rfl (fun ls hl => ?_)
  have hl : lv_has ls 4 [(2, .int 4), (3, .int 64), (0, .ref b), (1, .int 0)] := hl
  refine lv_goto hx hb d_Arrays_fill_f26_17 (tgt := 5) rfl ?_
  refine lv_iload_n hx hb d_Arrays_fill_f26_5 rfl (lv_at hl 0 rfl) ?_
  refine lv_iload_n hx hb d_Arrays_fill_f26_6 rfl (lv_at hl 1 rfl) ?_
  refine lv_icmp_ge hx hb d_Arrays_fill_f26_7 (tgt := 20) rfl (fun h9 => absurd h9 (by decide)) (fun _ => ?_)
  refine lv_aload_n hx hb d_Arrays_fill_f26_10 rfl (lv_at hl 2 rfl) ?_
  refine lv_iload_n hx hb d_Arrays_fill_f26_11 rfl (lv_at hl 0 rfl) ?_
  refine lv_iload_n hx hb d_Arrays_fill_f26_12 rfl (lv_at hl 3 rfl) ?_
  refine va_iast hx hb hK hP hD hS 0 1 rfl rfl (by unfold vp_in; decide) d_Arrays_fill_f26_13 (fun H locs hP hD hS => ?_)
  have hP : va_P D vwCl [(b, .inl (dA 1, 64, .inl (upd (upd (upd (upd (upd g 0 0) 1 0) 2 0) 3 0) 4 0)))] H := hP
  have hD : va_D A [(b, .inl (dA 1, 64, .inl (upd (upd (upd (upd (upd g 0 0) 1 0) 2 0) 3 0) 4 0)))] := hD
  refine lv_iinc (k := 0) (v := 5) hx hb d_Arrays_fill_f26_14 hl rfl (by decide) (by decide) rfl (fun ls hl => ?_)
  have hl : lv_has ls 4 [(2, .int 5), (3, .int 64), (0, .ref b), (1, .int 0)] := hl
  refine lv_goto hx hb d_Arrays_fill_f26_17 (tgt := 5) rfl ?_
  refine lv_iload_n hx hb d_Arrays_fill_f26_5 rfl (lv_at hl 0 rfl) ?_
  refine lv_iload_n hx hb d_Arrays_fill_f26_6 rfl (lv_at hl 1 rfl) ?_
  refine lv_icmp_ge hx hb d_Arrays_fill_f26_7 (tgt := 20) rfl (fun h9 => absurd h9 (by decide)) (fun _ => ?_)
  refine lv_aload_n hx hb d_Arrays_fill_f26_10 rfl (lv_at hl 2 rfl) ?_
  refine lv_iload_n hx hb d_Arrays_fill_f26_11 rfl (lv_at hl 0 rfl) ?_
  refine lv_iload_n hx hb d_Arrays_fill_f26_12 rfl (lv_at hl 3 rfl) ?_
  refine va_iast hx hb hK hP hD hS 0 1 rfl rfl (by unfold vp_in; decide) d_Arrays_fill_f26_13 (fun H locs hP hD hS => ?_)
  have hP : va_P D vwCl [(b, .inl (dA 1, 64, .inl (upd (upd (upd (upd (upd (upd g 0 0) 1 0) 2 0) 3 0) 4 0) 5 0)))] H := hP
  have hD : va_D A [(b, .inl (dA 1, 64, .inl (upd (upd (upd (upd (upd (upd g 0 0) 1 0) 2 0) 3 0) 4 0) 5 0)))] := hD
  refine lv_iinc (k := 0) (v := 6) hx hb d_Arrays_fill_f26_14 hl rfl (by decide) (by decide) rfl (fun ls hl => ?_)
  have hl : lv_has ls 4 [(2, .int 6), (3, .int 64), (0, .ref b), (1, .int 0)] := hl
  refine lv_goto hx hb d_Arrays_fill_f26_17 (tgt := 5) rfl ?_
  refine lv_iload_n hx hb d_Arrays_fill_f26_5 rfl (lv_at hl 0 rfl) ?_
  refine lv_iload_n hx hb d_Arrays_fill_f26_6 rfl (lv_at hl 1 rfl) ?_
  refine lv_icmp_ge hx hb d_Arrays_fill_f26_7 (tgt := 20) rfl (fun h9 => absurd h9 (by decide)) (fun _ => ?_)
  refine lv_aload_n hx hb d_Arrays_fill_f26_10 rfl (lv_at hl 2 rfl) ?_
  refine lv_iload_n hx hb d_Arrays_fill_f26_11 rfl (lv_at hl 0 rfl) ?_
  refine lv_iload_n hx hb d_Arrays_fill_f26_12 rfl (lv_at hl 3 rfl) ?_
  refine va_iast hx hb hK hP hD hS 0 1 rfl rfl (by unfold vp_in; decide) d_Arrays_fill_f26_13 (fun H locs hP hD hS => ?_)
  have hP : va_P D vwCl [(b, .inl (dA 1, 64, .inl (upd (upd (upd (upd (upd (upd (upd g 0 0) 1 0) 2 0) 3 0) 4 0) 5 0) 6 0)))] H := hP
  have hD : va_D A [(b, .inl (dA 1, 64, .inl (upd (upd (upd (upd (upd (upd (upd g 0 0) 1 0) 2 0) 3 0) 4 0) 5 0) 6 0)))] := hD
  refine lv_iinc (k := 0) (v := 7) hx hb d_Arrays_fill_f26_14 hl rfl (by decide) (by decide) rfl (fun ls hl => ?_)
  have hl : lv_has ls 4 [(2, .int 7), (3, .int 64), (0, .ref b), (1, .int 0)] := hl
  refine lv_goto hx hb d_Arrays_fill_f26_17 (tgt := 5) rfl ?_
  refine lv_iload_n hx hb d_Arrays_fill_f26_5 rfl (lv_at hl 0 rfl) ?_
  refine lv_iload_n hx hb d_Arrays_fill_f26_6 rfl (lv_at hl 1 rfl) ?_
  refine lv_icmp_ge hx hb d_Arrays_fill_f26_7 (tgt := 20) rfl (fun h9 => absurd h9 (by decide)) (fun _ => ?_)
  refine lv_aload_n hx hb d_Arrays_fill_f26_10 rfl (lv_at hl 2 rfl) ?_
  refine lv_iload_n hx hb d_Arrays_fill_f26_11 rfl (lv_at hl 0 rfl) ?_
  refine lv_iload_n hx hb d_Arrays_fill_f26_12 rfl (lv_at hl 3 rfl) ?_
  refine va_iast hx hb hK hP hD hS 0 1 rfl rfl (by unfold vp_in; decide) d_Arrays_fill_f26_13 (fun H locs hP hD hS => ?_)
  have hP : va_P D vwCl [(b, .inl (dA 1, 64, .inl (upd (upd (upd (upd (upd (upd (upd (upd g 0 0) 1 0) 2 0) 3 0) 4 0) 5 0) 6 0) 7 0)))] H := hP
  have hD : va_D A [(b, .inl (dA 1, 64, .inl (upd (upd (upd (upd (upd (upd (upd (upd g 0 0) 1 0) 2 0) 3 0) 4 0) 5 0) 6 0) 7 0)))] := hD
  refine lv_iinc (k := 0) (v := 8) hx hb d_Arrays_fill_f26_14 hl rfl (by decide) (by decide) rfl (fun ls hl => ?_)
  have hl : lv_has ls 4 [(2, .int 8), (3, .int 64), (0, .ref b), (1, .int 0)] := hl
  refine lv_goto hx hb d_Arrays_fill_f26_17 (tgt := 5) rfl ?_
  refine lv_iload_n hx hb d_Arrays_fill_f26_5 rfl (lv_at hl 0 rfl) ?_
  refine lv_iload_n hx hb d_Arrays_fill_f26_6 rfl (lv_at hl 1 rfl) ?_
  refine lv_icmp_ge hx hb d_Arrays_fill_f26_7 (tgt := 20) rfl (fun h9 => absurd h9 (by decide)) (fun _ => ?_)
  refine lv_aload_n hx hb d_Arrays_fill_f26_10 rfl (lv_at hl 2 rfl) ?_
  refine lv_iload_n hx hb d_Arrays_fill_f26_11 rfl (lv_at hl 0 rfl) ?_
  refine lv_iload_n hx hb d_Arrays_fill_f26_12 rfl (lv_at hl 3 rfl) ?_
  refine va_iast hx hb hK hP hD hS 0 1 rfl rfl (by unfold vp_in; decide) d_Arrays_fill_f26_13 (fun H locs hP hD hS => ?_)
  have hP : va_P D vwCl [(b, .inl (dA 1, 64, .inl (upd (upd (upd (upd (upd (upd (upd (upd (upd g 0 0) 1 0) 2 0) 3 0) 4 0) 5 0) 6 0) 7 0) 8 0)))] H := hP
  have hD : va_D A [(b, .inl (dA 1, 64, .inl (upd (upd (upd (upd (upd (upd (upd (upd (upd g 0 0) 1 0) 2 0) 3 0) 4 0) 5 0) 6 0) 7 0) 8 0)))] := hD
  refine lv_iinc (k := 0) (v := 9) hx hb d_Arrays_fill_f26_14 hl rfl (by decide) (by decide) rfl (fun ls hl => ?_)
  have hl : lv_has ls 4 [(2, .int 9), (3, .int 64), (0, .ref b), (1, .int 0)] := hl
  refine lv_goto hx hb d_Arrays_fill_f26_17 (tgt := 5) rfl ?_
  refine lv_iload_n hx hb d_Arrays_fill_f26_5 rfl (lv_at hl 0 rfl) ?_
  refine lv_iload_n hx hb d_Arrays_fill_f26_6 rfl (lv_at hl 1 rfl) ?_
  refine lv_icmp_ge hx hb d_Arrays_fill_f26_7 (tgt := 20) rfl (fun h9 => absurd h9 (by decide)) (fun _ => ?_)
  refine lv_aload_n hx hb d_Arrays_fill_f26_10 rfl (lv_at hl 2 rfl) ?_
  refine lv_iload_n hx hb d_Arrays_fill_f26_11 rfl (lv_at hl 0 rfl) ?_
  refine lv_iload_n hx hb d_Arrays_fill_f26_12 rfl (lv_at hl 3 rfl) ?_
  refine va_iast hx hb hK hP hD hS 0 1 rfl rfl (by unfold vp_in; decide) d_Arrays_fill_f26_13 (fun H locs hP hD hS => ?_)
  have hP : va_P D vwCl [(b, .inl (dA 1, 64, .inl (upd (upd (upd (upd (upd (upd (upd (upd (upd (upd g 0 0) 1 0) 2 0) 3 0) 4 0) 5 0) 6 0) 7 0) 8 0) 9 0)))] H := hP
  have hD : va_D A [(b, .inl (dA 1, 64, .inl (upd (upd (upd (upd (upd (upd (upd (upd (upd (upd g 0 0) 1 0) 2 0) 3 0) 4 0) 5 0) 6 0) 7 0) 8 0) 9 0)))] := hD
  refine lv_iinc (k := 0) (v := 10) hx hb d_Arrays_fill_f26_14 hl rfl (by decide) (by decide) rfl (fun ls hl => ?_)
  have hl : lv_has ls 4 [(2, .int 10), (3, .int 64), (0, .ref b), (1, .int 0)] := hl
  refine lv_goto hx hb d_Arrays_fill_f26_17 (tgt := 5) rfl ?_
  refine lv_iload_n hx hb d_Arrays_fill_f26_5 rfl (lv_at hl 0 rfl) ?_
  refine lv_iload_n hx hb d_Arrays_fill_f26_6 rfl (lv_at hl 1 rfl) ?_
  refine lv_icmp_ge hx hb d_Arrays_fill_f26_7 (tgt := 20) rfl (fun h9 => absurd h9 (by decide)) (fun _ => ?_)
  refine lv_aload_n hx hb d_Arrays_fill_f26_10 rfl (lv_at hl 2 rfl) ?_
  refine lv_iload_n hx hb d_Arrays_fill_f26_11 rfl (lv_at hl 0 rfl) ?_
  refine lv_iload_n hx hb d_Arrays_fill_f26_12 rfl (lv_at hl 3 rfl) ?_
  refine va_iast hx hb hK hP hD hS 0 1 rfl rfl (by unfold vp_in; decide) d_Arrays_fill_f26_13 (fun H locs hP hD hS => ?_)
  have hP : va_P D vwCl [(b, .inl (dA 1, 64, .inl (upd (upd (upd (upd (upd (upd (upd (upd (upd (upd (upd g 0 0) 1 0) 2 0) 3 0) 4 0) 5 0) 6 0) 7 0) 8 0) 9 0) 10 0)))] H := hP
  have hD : va_D A [(b, .inl (dA 1, 64, .inl (upd (upd (upd (upd (upd (upd (upd (upd (upd (upd (upd g 0 0) 1 0) 2 0) 3 0) 4 0) 5 0) 6 0) 7 0) 8 0) 9 0) 10 0)))] := hD
  refine lv_iinc (k := 0) (v := 11) hx hb d_Arrays_fill_f26_14 hl rfl (by decide) (by decide) rfl (fun ls hl => ?_)
  have hl : lv_has ls 4 [(2, .int 11), (3, .int 64), (0, .ref b), (1, .int 0)] := hl
  refine lv_goto hx hb d_Arrays_fill_f26_17 (tgt := 5) rfl ?_
  refine lv_iload_n hx hb d_Arrays_fill_f26_5 rfl (lv_at hl 0 rfl) ?_
  refine lv_iload_n hx hb d_Arrays_fill_f26_6 rfl (lv_at hl 1 rfl) ?_
  refine lv_icmp_ge hx hb d_Arrays_fill_f26_7 (tgt := 20) rfl (fun h9 => absurd h9 (by decide)) (fun _ => ?_)
  refine lv_aload_n hx hb d_Arrays_fill_f26_10 rfl (lv_at hl 2 rfl) ?_
  refine lv_iload_n hx hb d_Arrays_fill_f26_11 rfl (lv_at hl 0 rfl) ?_
  refine lv_iload_n hx hb d_Arrays_fill_f26_12 rfl (lv_at hl 3 rfl) ?_
  refine va_iast hx hb hK hP hD hS 0 1 rfl rfl (by unfold vp_in; decide) d_Arrays_fill_f26_13 (fun H locs hP hD hS => ?_)
  have hP : va_P D vwCl [(b, .inl (dA 1, 64, .inl (upd (upd (upd (upd (upd (upd (upd (upd (upd (upd (upd (upd g 0 0) 1 0) 2 0) 3 0) 4 0) 5 0) 6 0) 7 0) 8 0) 9 0) 10 0) 11 0)))] H := hP
  have hD : va_D A [(b, .inl (dA 1, 64, .inl (upd (upd (upd (upd (upd (upd (upd (upd (upd (upd (upd (upd g 0 0) 1 0) 2 0) 3 0) 4 0) 5 0) 6 0) 7 0) 8 0) 9 0) 10 0) 11 0)))] := hD
  refine lv_iinc (k := 0) (v := 12) hx hb d_Arrays_fill_f26_14 hl rfl (by decide) (by decide) rfl (fun ls hl => ?_)
  have hl : lv_has ls 4 [(2, .int 12), (3, .int 64), (0, .ref b), (1, .int 0)] := hl
  refine lv_goto hx hb d_Arrays_fill_f26_17 (tgt := 5) rfl ?_
  refine lv_iload_n hx hb d_Arrays_fill_f26_5 rfl (lv_at hl 0 rfl) ?_
  refine lv_iload_n hx hb d_Arrays_fill_f26_6 rfl (lv_at hl 1 rfl) ?_
  refine lv_icmp_ge hx hb d_Arrays_fill_f26_7 (tgt := 20) rfl (fun h9 => absurd h9 (by decide)) (fun _ => ?_)
  refine lv_aload_n hx hb d_Arrays_fill_f26_10 rfl (lv_at hl 2 rfl) ?_
  refine lv_iload_n hx hb d_Arrays_fill_f26_11 rfl (lv_at hl 0 rfl) ?_
  refine lv_iload_n hx hb d_Arrays_fill_f26_12 rfl (lv_at hl 3 rfl) ?_
  refine va_iast hx hb hK hP hD hS 0 1 rfl rfl (by unfold vp_in; decide) d_Arrays_fill_f26_13 (fun H locs hP hD hS => ?_)
  have hP : va_P D vwCl [(b, .inl (dA 1, 64, .inl (upd (upd (upd (upd (upd (upd (upd (upd (upd (upd (upd (upd (upd g 0 0) 1 0) 2 0) 3 0) 4 0) 5 0) 6 0) 7 0) 8 0) 9 0) 10 0) 11 0) 12 0)))] H := hP
  have hD : va_D A [(b, .inl (dA 1, 64, .inl (upd (upd (upd (upd (upd (upd (upd (upd (upd (upd (upd (upd (upd g 0 0) 1 0) 2 0) 3 0) 4 0) 5 0) 6 0) 7 0) 8 0) 9 0) 10 0) 11 0) 12 0)))] := hD
  refine lv_iinc (k := 0) (v := 13) hx hb d_Arrays_fill_f26_14 hl rfl (by decide) (by decide) rfl (fun ls hl => ?_)
  have hl : lv_has ls 4 [(2, .int 13), (3, .int 64), (0, .ref b), (1, .int 0)] := hl
  refine lv_goto hx hb d_Arrays_fill_f26_17 (tgt := 5) rfl ?_
  refine lv_iload_n hx hb d_Arrays_fill_f26_5 rfl (lv_at hl 0 rfl) ?_
  refine lv_iload_n hx hb d_Arrays_fill_f26_6 rfl (lv_at hl 1 rfl) ?_
  refine lv_icmp_ge hx hb d_Arrays_fill_f26_7 (tgt := 20) rfl (fun h9 => absurd h9 (by decide)) (fun _ => ?_)
  refine lv_aload_n hx hb d_Arrays_fill_f26_10 rfl (lv_at hl 2 rfl) ?_
  refine lv_iload_n hx hb d_Arrays_fill_f26_11 rfl (lv_at hl 0 rfl) ?_
  refine lv_iload_n hx hb d_Arrays_fill_f26_12 rfl (lv_at hl 3 rfl) ?_
  refine va_iast hx hb hK hP hD hS 0 1 rfl rfl (by unfold vp_in; decide) d_Arrays_fill_f26_13 (fun H locs hP hD hS => ?_)
  have hP : va_P D vwCl [(b, .inl (dA 1, 64, .inl (upd (upd (upd (upd (upd (upd (upd (upd (upd (upd (upd (upd (upd (upd g 0 0) 1 0) 2 0) 3 0) 4 0) 5 0) 6 0) 7 0) 8 0) 9 0) 10 0) 11 0) 12 0) 13 0)))] H := hP
  have hD : va_D A [(b, .inl (dA 1, 64, .inl (upd (upd (upd (upd (upd (upd (upd (upd (upd (upd (upd (upd (upd (upd g 0 0) 1 0) 2 0) 3 0) 4 0) 5 0) 6 0) 7 0) 8 0) 9 0) 10 0) 11 0) 12 0) 13 0)))] := hD
  refine lv_iinc (k := 0) (v := 14) hx hb d_Arrays_fill_f26_14 hl rfl (by decide) (by decide) rfl (fun ls hl => ?_)
  have hl : lv_has ls 4 [(2, .int 14), (3, .int 64), (0, .ref b), (1, .int 0)] := hl
  refine lv_goto hx hb d_Arrays_fill_f26_17 (tgt := 5) rfl ?_
  refine lv_iload_n hx hb d_Arrays_fill_f26_5 rfl (lv_at hl 0 rfl) ?_
  refine lv_iload_n hx hb d_Arrays_fill_f26_6 rfl (lv_at hl 1 rfl) ?_
  refine lv_icmp_ge hx hb d_Arrays_fill_f26_7 (tgt := 20) rfl (fun h9 => absurd h9 (by decide)) (fun _ => ?_)
  refine lv_aload_n hx hb d_Arrays_fill_f26_10 rfl (lv_at hl 2 rfl) ?_
  refine lv_iload_n hx hb d_Arrays_fill_f26_11 rfl (lv_at hl 0 rfl) ?_
  refine lv_iload_n hx hb d_Arrays_fill_f26_12 rfl (lv_at hl 3 rfl) ?_
  refine va_iast hx hb hK hP hD hS 0 1 rfl rfl (by unfold vp_in; decide) d_Arrays_fill_f26_13 (fun H locs hP hD hS => ?_)
  have hP : va_P D vwCl [(b, .inl (dA 1, 64, .inl (upd (upd (upd (upd (upd (upd (upd (upd (upd (upd (upd (upd (upd (upd (upd g 0 0) 1 0) 2 0) 3 0) 4 0) 5 0) 6 0) 7 0) 8 0) 9 0) 10 0) 11 0) 12 0) 13 0) 14 0)))] H := hP
  have hD : va_D A [(b, .inl (dA 1, 64, .inl (upd (upd (upd (upd (upd (upd (upd (upd (upd (upd (upd (upd (upd (upd (upd g 0 0) 1 0) 2 0) 3 0) 4 0) 5 0) 6 0) 7 0) 8 0) 9 0) 10 0) 11 0) 12 0) 13 0) 14 0)))] := hD
  refine lv_iinc (k := 0) (v := 15) hx hb d_Arrays_fill_f26_14 hl rfl (by decide) (by decide) rfl (fun ls hl => ?_)
  have hl : lv_has ls 4 [(2, .int 15), (3, .int 64), (0, .ref b), (1, .int 0)] := hl
  refine lv_goto hx hb d_Arrays_fill_f26_17 (tgt := 5) rfl ?_
  refine lv_iload_n hx hb d_Arrays_fill_f26_5 rfl (lv_at hl 0 rfl) ?_
  refine lv_iload_n hx hb d_Arrays_fill_f26_6 rfl (lv_at hl 1 rfl) ?_
  refine lv_icmp_ge hx hb d_Arrays_fill_f26_7 (tgt := 20) rfl (fun h9 => absurd h9 (by decide)) (fun _ => ?_)
  refine lv_aload_n hx hb d_Arrays_fill_f26_10 rfl (lv_at hl 2 rfl) ?_
  refine lv_iload_n hx hb d_Arrays_fill_f26_11 rfl (lv_at hl 0 rfl) ?_
  refine lv_iload_n hx hb d_Arrays_fill_f26_12 rfl (lv_at hl 3 rfl) ?_
  refine va_iast hx hb hK hP hD hS 0 1 rfl rfl (by unfold vp_in; decide) d_Arrays_fill_f26_13 (fun H locs hP hD hS => ?_)
  have hP : va_P D vwCl [(b, .inl (dA 1, 64, .inl (upd (upd (upd (upd (upd (upd (upd (upd (upd (upd (upd (upd (upd (upd (upd (upd g 0 0) 1 0) 2 0) 3 0) 4 0) 5 0) 6 0) 7 0) 8 0) 9 0) 10 0) 11 0) 12 0) 13 0) 14 0) 15 0)))] H := hP
  have hD : va_D A [(b, .inl (dA 1, 64, .inl (upd (upd (upd (upd (upd (upd (upd (upd (upd (upd (upd (upd (upd (upd (upd (upd g 0 0) 1 0) 2 0) 3 0) 4 0) 5 0) 6 0) 7 0) 8 0) 9 0) 10 0) 11 0) 12 0) 13 0) 14 0) 15 0)))] := hD
  refine lv_iinc (k := 0) (v := 16) hx hb d_Arrays_fill_f26_14 hl rfl (by decide) (by decide) rfl (fun ls hl => ?_)
  have hl : lv_has ls 4 [(2, .int 16), (3, .int 64), (0, .ref b), (1, .int 0)] := hl
  refine lv_goto hx hb d_Arrays_fill_f26_17 (tgt := 5) rfl ?_
  refine lv_iload_n hx hb d_Arrays_fill_f26_5 rfl (lv_at hl 0 rfl) ?_
  refine lv_iload_n hx hb d_Arrays_fill_f26_6 rfl (lv_at hl 1 rfl) ?_
  refine lv_icmp_ge hx hb d_Arrays_fill_f26_7 (tgt := 20) rfl (fun h9 => absurd h9 (by decide)) (fun _ => ?_)
  refine lv_aload_n hx hb d_Arrays_fill_f26_10 rfl (lv_at hl 2 rfl) ?_
  refine lv_iload_n hx hb d_Arrays_fill_f26_11 rfl (lv_at hl 0 rfl) ?_
  refine lv_iload_n hx hb d_Arrays_fill_f26_12 rfl (lv_at hl 3 rfl) ?_
  refine va_iast hx hb hK hP hD hS 0 1 rfl rfl (by unfold vp_in; decide) d_Arrays_fill_f26_13 (fun H locs hP hD hS => ?_)
  have hP : va_P D vwCl [(b, .inl (dA 1, 64, .inl (upd (upd (upd (upd (upd (upd (upd (upd (upd (upd (upd (upd (upd (upd (upd (upd (upd g 0 0) 1 0) 2 0) 3 0) 4 0) 5 0) 6 0) 7 0) 8 0) 9 0) 10 0) 11 0) 12 0) 13 0) 14 0) 15 0) 16 0)))] H := hP
  have hD : va_D A [(b, .inl (dA 1, 64, .inl (upd (upd (upd (upd (upd (upd (upd (upd (upd (upd (upd (upd (upd (upd (upd (upd (upd g 0 0) 1 0) 2 0) 3 0) 4 0) 5 0) 6 0) 7 0) 8 0) 9 0) 10 0) 11 0) 12 0) 13 0) 14 0) 15 0) 16 0)))] := hD
  refine lv_iinc (k := 0) (v := 17) hx hb d_Arrays_fill_f26_14 hl rfl (by decide) (by decide) rfl (fun ls hl => ?_)
  have hl : lv_has ls 4 [(2, .int 17), (3, .int 64), (0, .ref b), (1, .int 0)] := hl
  refine lv_goto hx hb d_Arrays_fill_f26_17 (tgt := 5) rfl ?_
  refine lv_iload_n hx hb d_Arrays_fill_f26_5 rfl (lv_at hl 0 rfl) ?_
  refine lv_iload_n hx hb d_Arrays_fill_f26_6 rfl (lv_at hl 1 rfl) ?_
  refine lv_icmp_ge hx hb d_Arrays_fill_f26_7 (tgt := 20) rfl (fun h9 => absurd h9 (by decide)) (fun _ => ?_)
  refine lv_aload_n hx hb d_Arrays_fill_f26_10 rfl (lv_at hl 2 rfl) ?_
  refine lv_iload_n hx hb d_Arrays_fill_f26_11 rfl (lv_at hl 0 rfl) ?_
  refine lv_iload_n hx hb d_Arrays_fill_f26_12 rfl (lv_at hl 3 rfl) ?_
  refine va_iast hx hb hK hP hD hS 0 1 rfl rfl (by unfold vp_in; decide) d_Arrays_fill_f26_13 (fun H locs hP hD hS => ?_)
  have hP : va_P D vwCl [(b, .inl (dA 1, 64, .inl (upd (upd (upd (upd (upd (upd (upd (upd (upd (upd (upd (upd (upd (upd (upd (upd (upd (upd g 0 0) 1 0) 2 0) 3 0) 4 0) 5 0) 6 0) 7 0) 8 0) 9 0) 10 0) 11 0) 12 0) 13 0) 14 0) 15 0) 16 0) 17 0)))] H := hP
  have hD : va_D A [(b, .inl (dA 1, 64, .inl (upd (upd (upd (upd (upd (upd (upd (upd (upd (upd (upd (upd (upd (upd (upd (upd (upd (upd g 0 0) 1 0) 2 0) 3 0) 4 0) 5 0) 6 0) 7 0) 8 0) 9 0) 10 0) 11 0) 12 0) 13 0) 14 0) 15 0) 16 0) 17 0)))] := hD
  refine lv_iinc (k := 0) (v := 18) hx hb d_Arrays_fill_f26_14 hl rfl (by decide) (by decide) rfl (fun ls hl => ?_)
  have hl : lv_has ls 4 [(2, .int 18), (3, .int 64), (0, .ref b), (1, .int 0)] := hl
  refine lv_goto hx hb d_Arrays_fill_f26_17 (tgt := 5) rfl ?_
  refine lv_iload_n hx hb d_Arrays_fill_f26_5 rfl (lv_at hl 0 rfl) ?_
  refine lv_iload_n hx hb d_Arrays_fill_f26_6 rfl (lv_at hl 1 rfl) ?_
  refine lv_icmp_ge hx hb d_Arrays_fill_f26_7 (tgt := 20) rfl (fun h9 => absurd h9 (by decide)) (fun _ => ?_)
  refine lv_aload_n hx hb d_Arrays_fill_f26_10 rfl (lv_at hl 2 rfl) ?_
  refine lv_iload_n hx hb d_Arrays_fill_f26_11 rfl (lv_at hl 0 rfl) ?_
  refine lv_iload_n hx hb d_Arrays_fill_f26_12 rfl (lv_at hl 3 rfl) ?_
  refine va_iast hx hb hK hP hD hS 0 1 rfl rfl (by unfold vp_in; decide) d_Arrays_fill_f26_13 (fun H locs hP hD hS => ?_)
  have hP : va_P D vwCl [(b, .inl (dA 1, 64, .inl (upd (upd (upd (upd (upd (upd (upd (upd (upd (upd (upd (upd (upd (upd (upd (upd (upd (upd (upd g 0 0) 1 0) 2 0) 3 0) 4 0) 5 0) 6 0) 7 0) 8 0) 9 0) 10 0) 11 0) 12 0) 13 0) 14 0) 15 0) 16 0) 17 0) 18 0)))] H := hP
  have hD : va_D A [(b, .inl (dA 1, 64, .inl (upd (upd (upd (upd (upd (upd (upd (upd (upd (upd (upd (upd (upd (upd (upd (upd (upd (upd (upd g 0 0) 1 0) 2 0) 3 0) 4 0) 5 0) 6 0) 7 0) 8 0) 9 0) 10 0) 11 0) 12 0) 13 0) 14 0) 15 0) 16 0) 17 0) 18 0)))] := hD
  refine lv_iinc (k := 0) (v := 19) hx hb d_Arrays_fill_f26_14 hl rfl (by decide) (by decide) rfl (fun ls hl => ?_)
  have hl : lv_has ls 4 [(2, .int 19), (3, .int 64), (0, .ref b), (1, .int 0)] := hl
  refine lv_goto hx hb d_Arrays_fill_f26_17 (tgt := 5) rfl ?_
  refine lv_iload_n hx hb d_Arrays_fill_f26_5 rfl (lv_at hl 0 rfl) ?_
  refine lv_iload_n hx hb d_Arrays_fill_f26_6 rfl (lv_at hl 1 rfl) ?_
  refine lv_icmp_ge hx hb d_Arrays_fill_f26_7 (tgt := 20) rfl (fun h9 => absurd h9 (by decide)) (fun _ => ?_)
  refine lv_aload_n hx hb d_Arrays_fill_f26_10 rfl (lv_at hl 2 rfl) ?_
  refine lv_iload_n hx hb d_Arrays_fill_f26_11 rfl (lv_at hl 0 rfl) ?_
  refine lv_iload_n hx hb d_Arrays_fill_f26_12 rfl (lv_at hl 3 rfl) ?_
  refine va_iast hx hb hK hP hD hS 0 1 rfl rfl (by unfold vp_in; decide) d_Arrays_fill_f26_13 (fun H locs hP hD hS => ?_)
  have hP : va_P D vwCl [(b, .inl (dA 1, 64, .inl (upd (upd (upd (upd (upd (upd (upd (upd (upd (upd (upd (upd (upd (upd (upd (upd (upd (upd (upd (upd g 0 0) 1 0) 2 0) 3 0) 4 0) 5 0) 6 0) 7 0) 8 0) 9 0) 10 0) 11 0) 12 0) 13 0) 14 0) 15 0) 16 0) 17 0) 18 0) 19 0)))] H := hP
  have hD : va_D A [(b, .inl (dA 1, 64, .inl (upd (upd (upd (upd (upd (upd (upd (upd (upd (upd (upd (upd (upd (upd (upd (upd (upd (upd (upd (upd g 0 0) 1 0) 2 0) 3 0) 4 0) 5 0) 6 0) 7 0) 8 0) 9 0) 10 0) 11 0) 12 0) 13 0) 14 0) 15 0) 16 0) 17 0) 18 0) 19 0)))] := hD
  refine lv_iinc (k := 0) (v := 20) hx hb d_Arrays_fill_f26_14 hl rfl (by decide) (by decide) rfl (fun ls hl => ?_)
  have hl : lv_has ls 4 [(2, .int 20), (3, .int 64), (0, .ref b), (1, .int 0)] := hl
  refine lv_goto hx hb d_Arrays_fill_f26_17 (tgt := 5) rfl ?_
  refine lv_iload_n hx hb d_Arrays_fill_f26_5 rfl (lv_at hl 0 rfl) ?_
  refine lv_iload_n hx hb d_Arrays_fill_f26_6 rfl (lv_at hl 1 rfl) ?_
  refine lv_icmp_ge hx hb d_Arrays_fill_f26_7 (tgt := 20) rfl (fun h9 => absurd h9 (by decide)) (fun _ => ?_)
  refine lv_aload_n hx hb d_Arrays_fill_f26_10 rfl (lv_at hl 2 rfl) ?_
  refine lv_iload_n hx hb d_Arrays_fill_f26_11 rfl (lv_at hl 0 rfl) ?_
  refine lv_iload_n hx hb d_Arrays_fill_f26_12 rfl (lv_at hl 3 rfl) ?_
  refine va_iast hx hb hK hP hD hS 0 1 rfl rfl (by unfold vp_in; decide) d_Arrays_fill_f26_13 (fun H locs hP hD hS => ?_)
  have hP : va_P D vwCl [(b, .inl (dA 1, 64, .inl (upd (upd (upd (upd (upd (upd (upd (upd (upd (upd (upd (upd (upd (upd (upd (upd (upd (upd (upd (upd (upd g 0 0) 1 0) 2 0) 3 0) 4 0) 5 0) 6 0) 7 0) 8 0) 9 0) 10 0) 11 0) 12 0) 13 0) 14 0) 15 0) 16 0) 17 0) 18 0) 19 0) 20 0)))] H := hP
  have hD : va_D A [(b, .inl (dA 1, 64, .inl (upd (upd (upd (upd (upd (upd (upd (upd (upd (upd (upd (upd (upd (upd (upd (upd (upd (upd (upd (upd (upd g 0 0) 1 0) 2 0) 3 0) 4 0) 5 0) 6 0) 7 0) 8 0) 9 0) 10 0) 11 0) 12 0) 13 0) 14 0) 15 0) 16 0) 17 0) 18 0) 19 0) 20 0)))] := hD
  refine lv_iinc (k := 0) (v := 21) hx hb d_Arrays_fill_f26_14 hl rfl (by decide) (by decide) rfl (fun ls hl => ?_)
  have hl : lv_has ls 4 [(2, .int 21), (3, .int 64), (0, .ref b), (1, .int 0)] := hl
  refine lv_goto hx hb d_Arrays_fill_f26_17 (tgt := 5) rfl ?_
  refine lv_iload_n hx hb d_Arrays_fill_f26_5 rfl (lv_at hl 0 rfl) ?_
  refine lv_iload_n hx hb d_Arrays_fill_f26_6 rfl (lv_at hl 1 rfl) ?_
  refine lv_icmp_ge hx hb d_Arrays_fill_f26_7 (tgt := 20) rfl (fun h9 => absurd h9 (by decide)) (fun _ => ?_)
  refine lv_aload_n hx hb d_Arrays_fill_f26_10 rfl (lv_at hl 2 rfl) ?_
  refine lv_iload_n hx hb d_Arrays_fill_f26_11 rfl (lv_at hl 0 rfl) ?_
  refine lv_iload_n hx hb d_Arrays_fill_f26_12 rfl (lv_at hl 3 rfl) ?_
  refine va_iast hx hb hK hP hD hS 0 1 rfl rfl (by unfold vp_in; decide) d_Arrays_fill_f26_13 (fun H locs hP hD hS => ?_)
  have hP : va_P D vwCl [(b, .inl (dA 1, 64, .inl (upd (upd (upd (upd (upd (upd (upd (upd (upd (upd (upd (upd (upd (upd (upd (upd (upd (upd (upd (upd (upd (upd g 0 0) 1 0) 2 0) 3 0) 4 0) 5 0) 6 0) 7 0) 8 0) 9 0) 10 0) 11 0) 12 0) 13 0) 14 0) 15 0) 16 0) 17 0) 18 0) 19 0) 20 0) 21 0)))] H := hP
  have hD : va_D A [(b, .inl (dA 1, 64, .inl (upd (upd (upd (upd (upd (upd (upd (upd (upd (upd (upd (upd (upd (upd (upd (upd (upd (upd (upd (upd (upd (upd g 0 0) 1 0) 2 0) 3 0) 4 0) 5 0) 6 0) 7 0) 8 0) 9 0) 10 0) 11 0) 12 0) 13 0) 14 0) 15 0) 16 0) 17 0) 18 0) 19 0) 20 0) 21 0)))] := hD
  refine lv_iinc (k := 0) (v := 22) hx hb d_Arrays_fill_f26_14 hl rfl (by decide) (by decide) rfl (fun ls hl => ?_)
  have hl : lv_has ls 4 [(2, .int 22), (3, .int 64), (0, .ref b), (1, .int 0)] := hl
  refine lv_goto hx hb d_Arrays_fill_f26_17 (tgt := 5) rfl ?_
  refine lv_iload_n hx hb d_Arrays_fill_f26_5 rfl (lv_at hl 0 rfl) ?_
  refine lv_iload_n hx hb d_Arrays_fill_f26_6 rfl (lv_at hl 1 rfl) ?_
  refine lv_icmp_ge hx hb d_Arrays_fill_f26_7 (tgt := 20) rfl (fun h9 => absurd h9 (by decide)) (fun _ => ?_)
  refine lv_aload_n hx hb d_Arrays_fill_f26_10 rfl (lv_at hl 2 rfl) ?_
  refine lv_iload_n hx hb d_Arrays_fill_f26_11 rfl (lv_at hl 0 rfl) ?_
  refine lv_iload_n hx hb d_Arrays_fill_f26_12 rfl (lv_at hl 3 rfl) ?_
  refine va_iast hx hb hK hP hD hS 0 1 rfl rfl (by unfold vp_in; decide) d_Arrays_fill_f26_13 (fun H locs hP hD hS => ?_)
  have hP : va_P D vwCl [(b, .inl (dA 1, 64, .inl (upd (upd (upd (upd (upd (upd (upd (upd (upd (upd (upd (upd (upd (upd (upd (upd (upd (upd (upd (upd (upd (upd (upd g 0 0) 1 0) 2 0) 3 0) 4 0) 5 0) 6 0) 7 0) 8 0) 9 0) 10 0) 11 0) 12 0) 13 0) 14 0) 15 0) 16 0) 17 0) 18 0) 19 0) 20 0) 21 0) 22 0)))] H := hP
  have hD : va_D A [(b, .inl (dA 1, 64, .inl (upd (upd (upd (upd (upd (upd (upd (upd (upd (upd (upd (upd (upd (upd (upd (upd (upd (upd (upd (upd (upd (upd (upd g 0 0) 1 0) 2 0) 3 0) 4 0) 5 0) 6 0) 7 0) 8 0) 9 0) 10 0) 11 0) 12 0) 13 0) 14 0) 15 0) 16 0) 17 0) 18 0) 19 0) 20 0) 21 0) 22 0)))] := hD
  refine lv_iinc (k := 0) (v := 23) hx hb d_Arrays_fill_f26_14 hl rfl (by decide) (by decide) rfl (fun ls hl => ?_)
  have hl : lv_has ls 4 [(2, .int 23), (3, .int 64), (0, .ref b), (1, .int 0)] := hl
  refine lv_goto hx hb d_Arrays_fill_f26_17 (tgt := 5) rfl ?_
  refine lv_iload_n hx hb d_Arrays_fill_f26_5 rfl (lv_at hl 0 rfl) ?_
  refine lv_iload_n hx hb d_Arrays_fill_f26_6 rfl (lv_at hl 1 rfl) ?_
  refine lv_icmp_ge hx hb d_Arrays_fill_f26_7 (tgt := 20) rfl (fun h9 => absurd h9 (by decide)) (fun _ => ?_)
  refine lv_aload_n hx hb d_Arrays_fill_f26_10 rfl (lv_at hl 2 rfl) ?_
  refine lv_iload_n hx hb d_Arrays_fill_f26_11 rfl (lv_at hl 0 rfl) ?_
  refine lv_iload_n hx hb d_Arrays_fill_f26_12 rfl (lv_at hl 3 rfl) ?_
  refine va_iast hx hb hK hP hD hS 0 1 rfl rfl (by unfold vp_in; decide) d_Arrays_fill_f26_13 (fun H locs hP hD hS => ?_)
  have hP : va_P D vwCl [(b, .inl (dA 1, 64, .inl (upd (upd (upd (upd (upd (upd (upd (upd (upd (upd (upd (upd (upd (upd (upd (upd (upd (upd (upd (upd (upd (upd (upd (upd g 0 0) 1 0) 2 0) 3 0) 4 0) 5 0) 6 0) 7 0) 8 0) 9 0) 10 0) 11 0) 12 0) 13 0) 14 0) 15 0) 16 0) 17 0) 18 0) 19 0) 20 0) 21 0) 22 0) 23 0)))] H := hP
  have hD : va_D A [(b, .inl (dA 1, 64, .inl (upd (upd (upd (upd (upd (upd (upd (upd (upd (upd (upd (upd (upd (upd (upd (upd (upd (upd (upd (upd (upd (upd (upd (upd g 0 0) 1 0) 2 0) 3 0) 4 0) 5 0) 6 0) 7 0) 8 0) 9 0) 10 0) 11 0) 12 0) 13 0) 14 0) 15 0) 16 0) 17 0) 18 0) 19 0) 20 0) 21 0) 22 0) 23 0)))] := hD
  refine lv_iinc (k := 0) (v := 24) hx hb d_Arrays_fill_f26_14 hl rfl (by decide) (by decide) rfl (fun ls hl => ?_)
  have hl : lv_has ls 4 [(2, .int 24), (3, .int 64), (0, .ref b), (1, .int 0)] := hl
  refine lv_goto hx hb d_Arrays_fill_f26_17 (tgt := 5) rfl ?_
  refine lv_iload_n hx hb d_Arrays_fill_f26_5 rfl (lv_at hl 0 rfl) ?_
  refine lv_iload_n hx hb d_Arrays_fill_f26_6 rfl (lv_at hl 1 rfl) ?_
  refine lv_icmp_ge hx hb d_Arrays_fill_f26_7 (tgt := 20) rfl (fun h9 => absurd h9 (by decide)) (fun _ => ?_)
  refine lv_aload_n hx hb d_Arrays_fill_f26_10 rfl (lv_at hl 2 rfl) ?_
  refine lv_iload_n hx hb d_Arrays_fill_f26_11 rfl (lv_at hl 0 rfl) ?_
  refine lv_iload_n hx hb d_Arrays_fill_f26_12 rfl (lv_at hl 3 rfl) ?_
  refine va_iast hx hb hK hP hD hS 0 1 rfl rfl (by unfold vp_in; decide) d_Arrays_fill_f26_13 (fun H locs hP hD hS => ?_)
  have hP : va_P D vwCl [(b, .inl (dA 1, 64, .inl (upd (upd (upd (upd (upd (upd (upd (upd (upd (upd (upd (upd (upd (upd (upd (upd (upd (upd (upd (upd (upd (upd (upd (upd (upd g 0 0) 1 0) 2 0) 3 0) 4 0) 5 0) 6 0) 7 0) 8 0) 9 0) 10 0) 11 0) 12 0) 13 0) 14 0) 15 0) 16 0) 17 0) 18 0) 19 0) 20 0) 21 0) 22 0) 23 0) 24 0)))] H := hP
  have hD : va_D A [(b, .inl (dA 1, 64, .inl (upd (upd (upd (upd (upd (upd (upd (upd (upd (upd (upd (upd (upd (upd (upd (upd (upd (upd (upd (upd (upd (upd (upd (upd (upd g 0 0) 1 0) 2 0) 3 0) 4 0) 5 0) 6 0) 7 0) 8 0) 9 0) 10 0) 11 0) 12 0) 13 0) 14 0) 15 0) 16 0) 17 0) 18 0) 19 0) 20 0) 21 0) 22 0) 23 0) 24 0)))] := hD
  refine lv_iinc (k := 0) (v := 25) hx hb d_Arrays_fill_f26_14 hl rfl (by decide) (by decide) rfl (fun ls hl => ?_)
  have hl : lv_has ls 4 [(2, .int 25), (3, .int 64), (0, .ref b), (1, .int 0)] := hl
  refine lv_goto hx hb d_Arrays_fill_f26_17 (tgt := 5) rfl ?_
  refine lv_iload_n hx hb d_Arrays_fill_f26_5 rfl (lv_at hl 0 rfl) ?_
  refine lv_iload_n hx hb d_Arrays_fill_f26_6 rfl (lv_at hl 1 rfl) ?_
  refine lv_icmp_ge hx hb d_Arrays_fill_f26_7 (tgt := 20) rfl (fun h9 => absurd h9 (by decide)) (fun _ => ?_)
  refine lv_aload_n hx hb d_Arrays_fill_f26_10 rfl (lv_at hl 2 rfl) ?_
  refine lv_iload_n hx hb d_Arrays_fill_f26_11 rfl (lv_at hl 0 rfl) ?_
  refine lv_iload_n hx hb d_Arrays_fill_f26_12 rfl (lv_at hl 3 rfl) ?_
  refine va_iast hx hb hK hP hD hS 0 1 rfl rfl (by unfold vp_in; decide) d_Arrays_fill_f26_13 (fun H locs hP hD hS => ?_)
  have hP : va_P D vwCl [(b, .inl (dA 1, 64, .inl (upd (upd (upd (upd (upd (upd (upd (upd (upd (upd (upd (upd (upd (upd (upd (upd (upd (upd (upd (upd (upd (upd (upd (upd (upd (upd g 0 0) 1 0) 2 0) 3 0) 4 0) 5 0) 6 0) 7 0) 8 0) 9 0) 10 0) 11 0) 12 0) 13 0) 14 0) 15 0) 16 0) 17 0) 18 0) 19 0) 20 0) 21 0) 22 0) 23 0) 24 0) 25 0)))] H := hP
  have hD : va_D A [(b, .inl (dA 1, 64, .inl (upd (upd (upd (upd (upd (upd (upd (upd (upd (upd (upd (upd (upd (upd (upd (upd (upd (upd (upd (upd (upd (upd (upd (upd (upd (upd g 0 0) 1 0) 2 0) 3 0) 4 0) 5 0) 6 0) 7 0) 8 0) 9 0) 10 0) 11 0) 12 0) 13 0) 14 0) 15 0) 16 0) 17 0) 18 0) 19 0) 20 0) 21 0) 22 0) 23 0) 24 0) 25 0)))] := hD
  refine lv_iinc (k := 0) (v := 26) hx hb d_Arrays_fill_f26_14 hl rfl (by decide) (by decide) rfl (fun ls hl => ?_)
  have hl : lv_has ls 4 [(2, .int 26), (3, .int 64), (0, .ref b), (1, .int 0)] := hl
  refine lv_goto hx hb d_Arrays_fill_f26_17 (tgt := 5) rfl ?_
  refine lv_iload_n hx hb d_Arrays_fill_f26_5 rfl (lv_at hl 0 rfl) ?_
  refine lv_iload_n hx hb d_Arrays_fill_f26_6 rfl (lv_at hl 1 rfl) ?_
  refine lv_icmp_ge hx hb d_Arrays_fill_f26_7 (tgt := 20) rfl (fun h9 => absurd h9 (by decide)) (fun _ => ?_)
  refine lv_aload_n hx hb d_Arrays_fill_f26_10 rfl (lv_at hl 2 rfl) ?_
  refine lv_iload_n hx hb d_Arrays_fill_f26_11 rfl (lv_at hl 0 rfl) ?_
  refine lv_iload_n hx hb d_Arrays_fill_f26_12 rfl (lv_at hl 3 rfl) ?_
  refine va_iast hx hb hK hP hD hS 0 1 rfl rfl (by unfold vp_in; decide) d_Arrays_fill_f26_13 (fun H locs hP hD hS => ?_)
  have hP : va_P D vwCl [(b, .inl (dA 1, 64, .inl (upd (upd (upd (upd (upd (upd (upd (upd (upd (upd (upd (upd (upd (upd (upd (upd (upd (upd (upd (upd (upd (upd (upd (upd (upd (upd (upd g 0 0) 1 0) 2 0) 3 0) 4 0) 5 0) 6 0) 7 0) 8 0) 9 0) 10 0) 11 0) 12 0) 13 0) 14 0) 15 0) 16 0) 17 0) 18 0) 19 0) 20 0) 21 0) 22 0) 23 0) 24 0) 25 0) 26 0)))] H := hP
  have hD : va_D A [(b, .inl (dA 1, 64, .inl (upd (upd (upd (upd (upd (upd (upd (upd (upd (upd (upd (upd (upd (upd (upd (upd (upd (upd (upd (upd (upd (upd (upd (upd (upd (upd (upd g 0 0) 1 0) 2 0) 3 0) 4 0) 5 0) 6 0) 7 0) 8 0) 9 0) 10 0) 11 0) 12 0) 13 0) 14 0) 15 0) 16 0) 17 0) 18 0) 19 0) 20 0) 21 0) 22 0) 23 0) 24 0) 25 0) 26 0)))] := hD
  refine lv_iinc (k := 0) (v := 27) hx hb d_Arrays_fill_f26_14 hl rfl (by decide) (by decide) rfl (fun ls hl => ?_)
  have hl : lv_has ls 4 [(2, .int 27), (3, .int 64), (0, .ref b), (1, .int 0)] := hl
  refine lv_goto hx hb d_Arrays_fill_f26_17 (tgt := 5) rfl ?_
  refine lv_iload_n hx hb d_Arrays_fill_f26_5 rfl (lv_at hl 0 rfl) ?_
  refine lv_iload_n hx hb d_Arrays_fill_f26_6 rfl (lv_at hl 1 rfl) ?_
  refine lv_icmp_ge hx hb d_Arrays_fill_f26_7 (tgt := 20) rfl (fun h9 => absurd h9 (by decide)) (fun _ => ?_)
  refine lv_aload_n hx hb d_Arrays_fill_f26_10 rfl (lv_at hl 2 rfl) ?_
  refine lv_iload_n hx hb d_Arrays_fill_f26_11 rfl (lv_at hl 0 rfl) ?_
  refine lv_iload_n hx hb d_Arrays_fill_f26_12 rfl (lv_at hl 3 rfl) ?_
  refine va_iast hx hb hK hP hD hS 0 1 rfl rfl (by unfold vp_in; decide) d_Arrays_fill_f26_13 (fun H locs hP hD hS => ?_)
  have hP : va_P D vwCl [(b, .inl (dA 1, 64, .inl (upd (upd (upd (upd (upd (upd (upd (upd (upd (upd (upd (upd (upd (upd (upd (upd (upd (upd (upd (upd (upd (upd (upd (upd (upd (upd (upd (upd g 0 0) 1 0) 2 0) 3 0) 4 0) 5 0) 6 0) 7 0) 8 0) 9 0) 10 0) 11 0) 12 0) 13 0) 14 0) 15 0) 16 0) 17 0) 18 0) 19 0) 20 0) 21 0) 22 0) 23 0) 24 0) 25 0) 26 0) 27 0)))] H := hP
  have hD : va_D A [(b, .inl (dA 1, 64, .inl (upd (upd (upd (upd (upd (upd (upd (upd (upd (upd (upd (upd (upd (upd (upd (upd (upd (upd (upd (upd (upd (upd (upd (upd (upd (upd (upd (upd g 0 0) 1 0) 2 0) 3 0) 4 0) 5 0) 6 0) 7 0) 8 0) 9 0) 10 0) 11 0) 12 0) 13 0) 14 0) 15 0) 16 0) 17 0) 18 0) 19 0) 20 0) 21 0) 22 0) 23 0) 24 0) 25 0) 26 0) 27 0)))] := hD
  refine lv_iinc (k := 0) (v := 28) hx hb d_Arrays_fill_f26_14 hl rfl (by decide) (by decide) rfl (fun ls hl => ?_)
  have hl : lv_has ls 4 [(2, .int 28), (3, .int 64), (0, .ref b), (1, .int 0)] := hl
  refine lv_goto hx hb d_Arrays_fill_f26_17 (tgt := 5) rfl ?_
  refine lv_iload_n hx hb d_Arrays_fill_f26_5 rfl (lv_at hl 0 rfl) ?_
  refine lv_iload_n hx hb d_Arrays_fill_f26_6 rfl (lv_at hl 1 rfl) ?_
  refine lv_icmp_ge hx hb d_Arrays_fill_f26_7 (tgt := 20) rfl (fun h9 => absurd h9 (by decide)) (fun _ => ?_)
  refine lv_aload_n hx hb d_Arrays_fill_f26_10 rfl (lv_at hl 2 rfl) ?_
  refine lv_iload_n hx hb d_Arrays_fill_f26_11 rfl (lv_at hl 0 rfl) ?_
  refine lv_iload_n hx hb d_Arrays_fill_f26_12 rfl (lv_at hl 3 rfl) ?_
  refine va_iast hx hb hK hP hD hS 0 1 rfl rfl (by unfold vp_in; decide) d_Arrays_fill_f26_13 (fun H locs hP hD hS => ?_)
  have hP : va_P D vwCl [(b, .inl (dA 1, 64, .inl (upd (upd (upd (upd (upd (upd (upd (upd (upd (upd (upd (upd (upd (upd (upd (upd (upd (upd (upd (upd (upd (upd (upd (upd (upd (upd (upd (upd (upd g 0 0) 1 0) 2 0) 3 0) 4 0) 5 0) 6 0) 7 0) 8 0) 9 0) 10 0) 11 0) 12 0) 13 0) 14 0) 15 0) 16 0) 17 0) 18 0) 19 0) 20 0) 21 0) 22 0) 23 0) 24 0) 25 0) 26 0) 27 0) 28 0)))] H := hP
  have hD : va_D A [(b, .inl (dA 1, 64, .inl (upd (upd (upd (upd (upd (upd (upd (upd (upd (upd (upd (upd (upd (upd (upd (upd (upd (upd (upd (upd (upd (upd (upd (upd (upd (upd (upd (upd (upd g 0 0) 1 0) 2 0) 3 0) 4 0) 5 0) 6 0) 7 0) 8 0) 9 0) 10 0) 11 0) 12 0) 13 0) 14 0) 15 0) 16 0) 17 0) 18 0) 19 0) 20 0) 21 0) 22 0) 23 0) 24 0) 25 0) 26 0) 27 0) 28 0)))] := hD
  refine lv_iinc (k := 0) (v := 29) hx hb d_Arrays_fill_f26_14 hl rfl (by decide) (by decide) rfl (fun ls hl => ?_)
  have hl : lv_has ls 4 [(2, .int 29), (3, .int 64), (0, .ref b), (1, .int 0)] := hl
  refine lv_goto hx hb d_Arrays_fill_f26_17 (tgt := 5) rfl ?_
  refine lv_iload_n hx hb d_Arrays_fill_f26_5 rfl (lv_at hl 0 rfl) ?_
  refine lv_iload_n hx hb d_Arrays_fill_f26_6 rfl (lv_at hl 1 rfl) ?_
  refine lv_icmp_ge hx hb d_Arrays_fill_f26_7 (tgt := 20) rfl (fun h9 => absurd h9 (by decide)) (fun _ => ?_)
  refine lv_aload_n hx hb d_Arrays_fill_f26_10 rfl (lv_at hl 2 rfl) ?_
  refine lv_iload_n hx hb d_Arrays_fill_f26_11 rfl (lv_at hl 0 rfl) ?_
  refine lv_iload_n hx hb d_Arrays_fill_f26_12 rfl (lv_at hl 3 rfl) ?_
  refine va_iast hx hb hK hP hD hS 0 1 rfl rfl (by unfold vp_in; decide) d_Arrays_fill_f26_13 (fun H locs hP hD hS => ?_)
  have hP : va_P D vwCl [(b, .inl (dA 1, 64, .inl (upd (upd (upd (upd (upd (upd (upd (upd (upd (upd (upd (upd (upd (upd (upd (upd (upd (upd (upd (upd (upd (upd (upd (upd (upd (upd (upd (upd (upd (upd g 0 0) 1 0) 2 0) 3 0) 4 0) 5 0) 6 0) 7 0) 8 0) 9 0) 10 0) 11 0) 12 0) 13 0) 14 0) 15 0) 16 0) 17 0) 18 0) 19 0) 20 0) 21 0) 22 0) 23 0) 24 0) 25 0) 26 0) 27 0) 28 0) 29 0)))] H := hP
  have hD : va_D A [(b, .inl (dA 1, 64, .inl (upd (upd (upd (upd (upd (upd (upd (upd (upd (upd (upd (upd (upd (upd (upd (upd (upd (upd (upd (upd (upd (upd (upd (upd (upd (upd (upd (upd (upd (upd g 0 0) 1 0) 2 0) 3 0) 4 0) 5 0) 6 0) 7 0) 8 0) 9 0) 10 0) 11 0) 12 0) 13 0) 14 0) 15 0) 16 0) 17 0) 18 0) 19 0) 20 0) 21 0) 22 0) 23 0) 24 0) 25 0) 26 0) 27 0) 28 0) 29 0)))] := hD
  refine lv_iinc (k := 0) (v := 30) hx hb d_Arrays_fill_f26_14 hl rfl (by decide) (by decide) rfl (fun ls hl => ?_)
  have hl : lv_has ls 4 [(2, .int 30), (3, .int 64), (0, .ref b), (1, .int 0)] := hl
  refine lv_goto hx hb d_Arrays_fill_f26_17 (tgt := 5) rfl ?_
  refine lv_iload_n hx hb d_Arrays_fill_f26_5 rfl (lv_at hl 0 rfl) ?_
  refine lv_iload_n hx hb d_Arrays_fill_f26_6 rfl (lv_at hl 1 rfl) ?_
  refine lv_icmp_ge hx hb d_Arrays_fill_f26_7 (tgt := 20) rfl (fun h9 => absurd h9 (by decide)) (fun _ => ?_)
  refine lv_aload_n hx hb d_Arrays_fill_f26_10 rfl (lv_at hl 2 rfl) ?_
  refine lv_iload_n hx hb d_Arrays_fill_f26_11 rfl (lv_at hl 0 rfl) ?_
  refine lv_iload_n hx hb d_Arrays_fill_f26_12 rfl (lv_at hl 3 rfl) ?_
  refine va_iast hx hb hK hP hD hS 0 1 rfl rfl (by unfold vp_in; decide) d_Arrays_fill_f26_13 (fun H locs hP hD hS => ?_)
  have hP : va_P D vwCl [(b, .inl (dA 1, 64, .inl (upd (upd (upd (upd (upd (upd (upd (upd (upd (upd (upd (upd (upd (upd (upd (upd (upd (upd (upd (upd (upd (upd (upd (upd (upd (upd (upd (upd (upd (upd (upd g 0 0) 1 0) 2 0) 3 0) 4 0) 5 0) 6 0) 7 0) 8 0) 9 0) 10 0) 11 0) 12 0) 13 0) 14 0) 15 0) 16 0) 17 0) 18 0) 19 0) 20 0) 21 0) 22 0) 23 0) 24 0) 25 0) 26 0) 27 0) 28 0) 29 0) 30 0)))] H := hP
  have hD : va_D A [(b, .inl (dA 1, 64, .inl (upd (upd (upd (upd (upd (upd (upd (upd (upd (upd (upd (upd (upd (upd (upd (upd (upd (upd (upd (upd (upd (upd (upd (upd (upd (upd (upd (upd (upd (upd (upd g 0 0) 1 0) 2 0) 3 0) 4 0) 5 0) 6 0) 7 0) 8 0) 9 0) 10 0) 11 0) 12 0) 13 0) 14 0) 15 0) 16 0) 17 0) 18 0) 19 0) 20 0) 21 0) 22 0) 23 0) 24 0) 25 0) 26 0) 27 0) 28 0) 29 0) 30 0)))] := hD
  refine lv_iinc (k := 0) (v := 31) hx hb d_Arrays_fill_f26_14 hl rfl (by decide) (by decide) rfl (fun ls hl => ?_)
  have hl : lv_has ls 4 [(2, .int 31), (3, .int 64), (0, .ref b), (1, .int 0)] := hl
  refine lv_goto hx hb d_Arrays_fill_f26_17 (tgt := 5) rfl ?_
  refine lv_iload_n hx hb d_Arrays_fill_f26_5 rfl (lv_at hl 0 rfl) ?_
  refine lv_iload_n hx hb d_Arrays_fill_f26_6 rfl (lv_at hl 1 rfl) ?_
  refine lv_icmp_ge hx hb d_Arrays_fill_f26_7 (tgt := 20) rfl (fun h9 => absurd h9 (by decide)) (fun _ => ?_)
  refine lv_aload_n hx hb d_Arrays_fill_f26_10 rfl (lv_at hl 2 rfl) ?_
  refine lv_iload_n hx hb d_Arrays_fill_f26_11 rfl (lv_at hl 0 rfl) ?_
  refine lv_iload_n hx hb d_Arrays_fill_f26_12 rfl (lv_at hl 3 rfl) ?_
  refine va_iast hx hb hK hP hD hS 0 1 rfl rfl (by unfold vp_in; decide) d_Arrays_fill_f26_13 (fun H locs hP hD hS => ?_)
  have hP : va_P D vwCl [(b, .inl (dA 1, 64, .inl (upd (upd (upd (upd (upd (upd (upd (upd (upd (upd (upd (upd (upd (upd (upd (upd (upd (upd (upd (upd (upd (upd (upd (upd (upd (upd (upd (upd (upd (upd (upd (upd g 0 0) 1 0) 2 0) 3 0) 4 0) 5 0) 6 0) 7 0) 8 0) 9 0) 10 0) 11 0) 12 0) 13 0) 14 0) 15 0) 16 0) 17 0) 18 0) 19 0) 20 0) 21 0) 22 0) 23 0) 24 0) 25 0) 26 0) 27 0) 28 0) 29 0) 30 0) 31 0)))] H := hP
  have hD : va_D A [(b, .inl (dA 1, 64, .inl (upd (upd (upd (upd (upd (upd (upd (upd (upd (upd (upd (upd (upd (upd (upd (upd (upd (upd (upd (upd (upd (upd (upd (upd (upd (upd (upd (upd (upd (upd (upd (upd g 0 0) 1 0) 2 0) 3 0) 4 0) 5 0) 6 0) 7 0) 8 0) 9 0) 10 0) 11 0) 12 0) 13 0) 14 0) 15 0) 16 0) 17 0) 18 0) 19 0) 20 0) 21 0) 22 0) 23 0) 24 0) 25 0) 26 0) 27 0) 28 0) 29 0) 30 0) 31 0)))] := hD
  refine lv_iinc (k := 0) (v := 32) hx hb d_Arrays_fill_f26_14 hl rfl (by decide) (by decide) rfl (fun ls hl => ?_)
  have hl : lv_has ls 4 [(2, .int 32), (3, .int 64), (0, .ref b), (1, .int 0)] := hl
  refine lv_goto hx hb d_Arrays_fill_f26_17 (tgt := 5) rfl ?_
  refine lv_iload_n hx hb d_Arrays_fill_f26_5 rfl (lv_at hl 0 rfl) ?_
  refine lv_iload_n hx hb d_Arrays_fill_f26_6 rfl (lv_at hl 1 rfl) ?_
  refine lv_icmp_ge hx hb d_Arrays_fill_f26_7 (tgt := 20) rfl (fun h9 => absurd h9 (by decide)) (fun _ => ?_)
  refine lv_aload_n hx hb d_Arrays_fill_f26_10 rfl (lv_at hl 2 rfl) ?_
  refine lv_iload_n hx hb d_Arrays_fill_f26_11 rfl (lv_at hl 0 rfl) ?_
  refine lv_iload_n hx hb d_Arrays_fill_f26_12 rfl (lv_at hl 3 rfl) ?_
  refine va_iast hx hb hK hP hD hS 0 1 rfl rfl (by unfold vp_in; decide) d_Arrays_fill_f26_13 (fun H locs hP hD hS => ?_)
  have hP : va_P D vwCl [(b, .inl (dA 1, 64, .inl (upd (upd (upd (upd (upd (upd (upd (upd (upd (upd (upd (upd (upd (upd (upd (upd (upd (upd (upd (upd (upd (upd (upd (upd (upd (upd (upd (upd (upd (upd (upd (upd (upd g 0 0) 1 0) 2 0) 3 0) 4 0) 5 0) 6 0) 7 0) 8 0) 9 0) 10 0) 11 0) 12 0) 13 0) 14 0) 15 0) 16 0) 17 0) 18 0) 19 0) 20 0) 21 0) 22 0) 23 0) 24 0) 25 0) 26 0) 27 0) 28 0) 29 0) 30 0) 31 0) 32 0)))] H := hP
  have hD : va_D A [(b, .inl (dA 1, 64, .inl (upd (upd (upd (upd (upd (upd (upd (upd (upd (upd (upd (upd (upd (upd (upd (upd (upd (upd (upd (upd (upd (upd (upd (upd (upd (upd (upd (upd (upd (upd (upd (upd (upd g 0 0) 1 0) 2 0) 3 0) 4 0) 5 0) 6 0) 7 0) 8 0) 9 0) 10 0) 11 0) 12 0) 13 0) 14 0) 15 0) 16 0) 17 0) 18 0) 19 0) 20 0) 21 0) 22 0) 23 0) 24 0) 25 0) 26 0) 27 0) 28 0) 29 0) 30 0) 31 0) 32 0)))] := hD
  refine lv_iinc (k := 0) (v := 33) hx hb d_Arrays_fill_f26_14 hl rfl (by decide) (by decide) rfl (fun ls hl => ?_)
  have hl : lv_has ls 4 [(2, .int 33), (3, .int 64), (0, .ref b), (1, .int 0)] := hl
  refine lv_goto hx hb d_Arrays_fill_f26_17 (tgt := 5) rfl ?_
  refine lv_iload_n hx hb d_Arrays_fill_f26_5 rfl (lv_at hl 0 rfl) ?_
  refine lv_iload_n hx hb d_Arrays_fill_f26_6 rfl (lv_at hl 1 rfl) ?_
  refine lv_icmp_ge hx hb d_Arrays_fill_f26_7 (tgt := 20) rfl (fun h9 => absurd h9 (by decide)) (fun _ => ?_)
  refine lv_aload_n hx hb d_Arrays_fill_f26_10 rfl (lv_at hl 2 rfl) ?_
  refine lv_iload_n hx hb d_Arrays_fill_f26_11 rfl (lv_at hl 0 rfl) ?_
  refine lv_iload_n hx hb d_Arrays_fill_f26_12 rfl (lv_at hl 3 rfl) ?_
  refine va_iast hx hb hK hP hD hS 0 1 rfl rfl (by unfold vp_in; decide) d_Arrays_fill_f26_13 (fun H locs hP hD hS => ?_)
  have hP : va_P D vwCl [(b, .inl (dA 1, 64, .inl (upd (upd (upd (upd (upd (upd (upd (upd (upd (upd (upd (upd (upd (upd (upd (upd (upd (upd (upd (upd (upd (upd (upd (upd (upd (upd (upd (upd (upd (upd (upd (upd (upd (upd g 0 0) 1 0) 2 0) 3 0) 4 0) 5 0) 6 0) 7 0) 8 0) 9 0) 10 0) 11 0) 12 0) 13 0) 14 0) 15 0) 16 0) 17 0) 18 0) 19 0) 20 0) 21 0) 22 0) 23 0) 24 0) 25 0) 26 0) 27 0) 28 0) 29 0) 30 0) 31 0) 32 0) 33 0)))] H := hP
  have hD : va_D A [(b, .inl (dA 1, 64, .inl (upd (upd (upd (upd (upd (upd (upd (upd (upd (upd (upd (upd (upd (upd (upd (upd (upd (upd (upd (upd (upd (upd (upd (upd (upd (upd (upd (upd (upd (upd (upd (upd (upd (upd g 0 0) 1 0) 2 0) 3 0) 4 0) 5 0) 6 0) 7 0) 8 0) 9 0) 10 0) 11 0) 12 0) 13 0) 14 0) 15 0) 16 0) 17 0) 18 0) 19 0) 20 0) 21 0) 22 0) 23 0) 24 0) 25 0) 26 0) 27 0) 28 0) 29 0) 30 0) 31 0) 32 0) 33 0)))] := hD
  refine lv_iinc (k := 0) (v := 34) hx hb d_Arrays_fill_f26_14 hl rfl (by decide) (by decide) rfl (fun ls hl => ?_)
  have hl : lv_has ls 4 [(2, .int 34), (3, .int 64), (0, .ref b), (1, .int 0)] := hl
  refine lv_goto hx hb d_Arrays_fill_f26_17 (tgt := 5) rfl ?_
  refine lv_iload_n hx hb d_Arrays_fill_f26_5 rfl (lv_at hl 0 rfl) ?_
  refine lv_iload_n hx hb d_Arrays_fill_f26_6 rfl (lv_at hl 1 rfl) ?_
  refine lv_icmp_ge hx hb d_Arrays_fill_f26_7 (tgt := 20) rfl (fun h9 => absurd h9 (by decide)) (fun _ => ?_)
  refine lv_aload_n hx hb d_Arrays_fill_f26_10 rfl (lv_at hl 2 rfl) ?_
  refine lv_iload_n hx hb d_Arrays_fill_f26_11 rfl (lv_at hl 0 rfl) ?_
  refine lv_iload_n hx hb d_Arrays_fill_f26_12 rfl (lv_at hl 3 rfl) ?_
  refine va_iast hx hb hK hP hD hS 0 1 rfl rfl (by unfold vp_in; decide) d_Arrays_fill_f26_13 (fun H locs hP hD hS => ?_)
  have hP : va_P D vwCl [(b, .inl (dA 1, 64, .inl (upd (upd (upd (upd (upd (upd (upd (upd (upd (upd (upd (upd (upd (upd (upd (upd (upd (upd (upd (upd (upd (upd (upd (upd (upd (upd (upd (upd (upd (upd (upd (upd (upd (upd (upd g 0 0) 1 0) 2 0) 3 0) 4 0) 5 0) 6 0) 7 0) 8 0) 9 0) 10 0) 11 0) 12 0) 13 0) 14 0) 15 0) 16 0) 17 0) 18 0) 19 0) 20 0) 21 0) 22 0) 23 0) 24 0) 25 0) 26 0) 27 0) 28 0) 29 0) 30 0) 31 0) 32 0) 33 0) 34 0)))] H := hP
  have hD : va_D A [(b, .inl (dA 1, 64, .inl (upd (upd (upd (upd (upd (upd (upd (upd (upd (upd (upd (upd (upd (upd (upd (upd (upd (upd (upd (upd (upd (upd (upd (upd (upd (upd (upd (upd (upd (upd (upd (upd (upd (upd (upd g 0 0) 1 0) 2 0) 3 0) 4 0) 5 0) 6 0) 7 0) 8 0) 9 0) 10 0) 11 0) 12 0) 13 0) 14 0) 15 0) 16 0) 17 0) 18 0) 19 0) 20 0) 21 0) 22 0) 23 0) 24 0) 25 0) 26 0) 27 0) 28 0) 29 0) 30 0) 31 0) 32 0) 33 0) 34 0)))] := hD
  refine lv_iinc (k := 0) (v := 35) hx hb d_Arrays_fill_f26_14 hl rfl (by decide) (by decide) rfl (fun ls hl => ?_)
  have hl : lv_has ls 4 [(2, .int 35), (3, .int 64), (0, .ref b), (1, .int 0)] := hl
  refine lv_goto hx hb d_Arrays_fill_f26_17 (tgt := 5) rfl ?_
  refine lv_iload_n hx hb d_Arrays_fill_f26_5 rfl (lv_at hl 0 rfl) ?_
  refine lv_iload_n hx hb d_Arrays_fill_f26_6 rfl (lv_at hl 1 rfl) ?_
  refine lv_icmp_ge hx hb d_Arrays_fill_f26_7 (tgt := 20) rfl (fun h9 => absurd h9 (by decide)) (fun _ => ?_)
  refine lv_aload_n hx hb d_Arrays_fill_f26_10 rfl (lv_at hl 2 rfl) ?_
  refine lv_iload_n hx hb d_Arrays_fill_f26_11 rfl (lv_at hl 0 rfl) ?_
  refine lv_iload_n hx hb d_Arrays_fill_f26_12 rfl (lv_at hl 3 rfl) ?_
  refine va_iast hx hb hK hP hD hS 0 1 rfl rfl (by unfold vp_in; decide) d_Arrays_fill_f26_13 (fun H locs hP hD hS => ?_)
  have hP : va_P D vwCl [(b, .inl (dA 1, 64, .inl (upd (upd (upd (upd (upd (upd (upd (upd (upd (upd (upd (upd (upd (upd (upd (upd (upd (upd (upd (upd (upd (upd (upd (upd (upd (upd (upd (upd (upd (upd (upd (upd (upd (upd (upd (upd g 0 0) 1 0) 2 0) 3 0) 4 0) 5 0) 6 0) 7 0) 8 0) 9 0) 10 0) 11 0) 12 0) 13 0) 14 0) 15 0) 16 0) 17 0) 18 0) 19 0) 20 0) 21 0) 22 0) 23 0) 24 0) 25 0) 26 0) 27 0) 28 0) 29 0) 30 0) 31 0) 32 0) 33 0) 34 0) 35 0)))] H := hP
  have hD : va_D A [(b, .inl (dA 1, 64, .inl (upd (upd (upd (upd (upd (upd (upd (upd (upd (upd (upd (upd (upd (upd (upd (upd (upd (upd (upd (upd (upd (upd (upd (upd (upd (upd (upd (upd (upd (upd (upd (upd (upd (upd (upd (upd g 0 0) 1 0) 2 0) 3 0) 4 0) 5 0) 6 0) 7 0) 8 0) 9 0) 10 0) 11 0) 12 0) 13 0) 14 0) 15 0) 16 0) 17 0) 18 0) 19 0) 20 0) 21 0) 22 0) 23 0) 24 0) 25 0) 26 0) 27 0) 28 0) 29 0) 30 0) 31 0) 32 0) 33 0) 34 0) 35 0)))] := hD
  refine lv_iinc (k := 0) (v := 36) hx hb d_Arrays_fill_f26_14 hl rfl (by decide) (by decide) rfl (fun ls hl => ?_)
  have hl : lv_has ls 4 [(2, .int 36), (3, .int 64), (0, .ref b), (1, .int 0)] := hl
  refine lv_goto hx hb d_Arrays_fill_f26_17 (tgt := 5) rfl ?_
  refine lv_iload_n hx hb d_Arrays_fill_f26_5 rfl (lv_at hl 0 rfl) ?_
  refine lv_iload_n hx hb d_Arrays_fill_f26_6 rfl (lv_at hl 1 rfl) ?_
  refine lv_icmp_ge hx hb d_Arrays_fill_f26_7 (tgt := 20) rfl (fun h9 => absurd h9 (by decide)) (fun _ => ?_)
  refine lv_aload_n hx hb d_Arrays_fill_f26_10 rfl (lv_at hl 2 rfl) ?_
  refine lv_iload_n hx hb d_Arrays_fill_f26_11 rfl (lv_at hl 0 rfl) ?_
  refine lv_iload_n hx hb d_Arrays_fill_f26_12 rfl (lv_at hl 3 rfl) ?_
  refine va_iast hx hb hK hP hD hS 0 1 rfl rfl (by unfold vp_in; decide) d_Arrays_fill_f26_13 (fun H locs hP hD hS => ?_)
  have hP : va_P D vwCl [(b, .inl (dA 1, 64, .inl (upd (upd (upd (upd (upd (upd (upd (upd (upd (upd (upd (upd (upd (upd (upd (upd (upd (upd (upd (upd (upd (upd (upd (upd (upd (upd (upd (upd (upd (upd (upd (upd (upd (upd (upd (upd (upd g 0 0) 1 0) 2 0) 3 0) 4 0) 5 0) 6 0) 7 0) 8 0) 9 0) 10 0) 11 0) 12 0) 13 0) 14 0) 15 0) 16 0) 17 0) 18 0) 19 0) 20 0) 21 0) 22 0) 23 0) 24 0) 25 0) 26 0) 27 0) 28 0) 29 0) 30 0) 31 0) 32 0) 33 0) 34 0) 35 0) 36 0)))] H := hP
  have hD : va_D A [(b, .inl (dA 1, 64, .inl (upd (upd (upd (upd (upd (upd (upd (upd (upd (upd (upd (upd (upd (upd (upd (upd (upd (upd (upd (upd (upd (upd (upd (upd (upd (upd (upd (upd (upd (upd (upd (upd (upd (upd (upd (upd (upd g 0 0) 1 0) 2 0) 3 0) 4 0) 5 0) 6 0) 7 0) 8 0) 9 0) 10 0) 11 0) 12 0) 13 0) 14 0) 15 0) 16 0) 17 0) 18 0) 19 0) 20 0) 21 0) 22 0) 23 0) 24 0) 25 0) 26 0) 27 0) 28 0) 29 0) 30 0) 31 0) 32 0) 33 0) 34 0) 35 0) 36 0)))] := hD
  refine lv_iinc (k := 0) (v := 37) hx hb d_Arrays_fill_f26_14 hl rfl (by decide) (by decide) rfl (fun ls hl => ?_)
  have hl : lv_has ls 4 [(2, .int 37), (3, .int 64), (0, .ref b), (1, .int 0)] := hl
  refine lv_goto hx hb d_Arrays_fill_f26_17 (tgt := 5) rfl ?_
  refine lv_iload_n hx hb d_Arrays_fill_f26_5 rfl (lv_at hl 0 rfl) ?_
  refine lv_iload_n hx hb d_Arrays_fill_f26_6 rfl (lv_at hl 1 rfl) ?_
  refine lv_icmp_ge hx hb d_Arrays_fill_f26_7 (tgt := 20) rfl (fun h9 => absurd h9 (by decide)) (fun _ => ?_)
  refine lv_aload_n hx hb d_Arrays_fill_f26_10 rfl (lv_at hl 2 rfl) ?_
  refine lv_iload_n hx hb d_Arrays_fill_f26_11 rfl (lv_at hl 0 rfl) ?_
  refine lv_iload_n hx hb d_Arrays_fill_f26_12 rfl (lv_at hl 3 rfl) ?_
  refine va_iast hx hb hK hP hD hS 0 1 rfl rfl (by unfold vp_in; decide) d_Arrays_fill_f26_13 (fun H locs hP hD hS => ?_)
  have hP : va_P D vwCl [(b, .inl (dA 1, 64, .inl (upd (upd (upd (upd (upd (upd (upd (upd (upd (upd (upd (upd (upd (upd (upd (upd (upd (upd (upd (upd (upd (upd (upd (upd (upd (upd (upd (upd (upd (upd (upd (upd (upd (upd (upd (upd (upd (upd g 0 0) 1 0) 2 0) 3 0) 4 0) 5 0) 6 0) 7 0) 8 0) 9 0) 10 0) 11 0) 12 0) 13 0) 14 0) 15 0) 16 0) 17 0) 18 0) 19 0) 20 0) 21 0) 22 0) 23 0) 24 0) 25 0) 26 0) 27 0) 28 0) 29 0) 30 0) 31 0) 32 0) 33 0) 34 0) 35 0) 36 0) 37 0)))] H := hP
  have hD : va_D A [(b, .inl (dA 1, 64, .inl (upd (upd (upd (upd (upd (upd (upd (upd (upd (upd (upd (upd (upd (upd (upd (upd (upd (upd (upd (upd (upd (upd (upd (upd (upd (upd (upd (upd (upd (upd (upd (upd (upd (upd (upd (upd (upd (upd g 0 0) 1 0) 2 0) 3 0) 4 0) 5 0) 6 0) 7 0) 8 0) 9 0) 10 0) 11 0) 12 0) 13 0) 14 0) 15 0) 16 0) 17 0) 18 0) 19 0) 20 0) 21 0) 22 0) 23 0) 24 0) 25 0) 26 0) 27 0) 28 0) 29 0) 30 0) 31 0) 32 0) 33 0) 34 0) 35 0) 36 0) 37 0)))] := hD
  refine lv_iinc (k := 0) (v := 38) hx hb d_Arrays_fill_f26_14 hl rfl (by decide) (by decide) rfl (fun ls hl => ?_)
  have hl : lv_has ls 4 [(2, .int 38), (3, .int 64), (0, .ref b), (1, .int 0)] := hl
  refine lv_goto hx hb d_Arrays_fill_f26_17 (tgt := 5) rfl ?_
  refine lv_iload_n hx hb d_Arrays_fill_f26_5 rfl (lv_at hl 0 rfl) ?_
  refine lv_iload_n hx hb d_Arrays_fill_f26_6 rfl (lv_at hl 1 rfl) ?_
  refine lv_icmp_ge hx hb d_Arrays_fill_f26_7 (tgt := 20) rfl (fun h9 => absurd h9 (by decide)) (fun _ => ?_)
  refine lv_aload_n hx hb d_Arrays_fill_f26_10 rfl (lv_at hl 2 rfl) ?_
  refine lv_iload_n hx hb d_Arrays_fill_f26_11 rfl (lv_at hl 0 rfl) ?_
  refine lv_iload_n hx hb d_Arrays_fill_f26_12 rfl (lv_at hl 3 rfl) ?_
  refine va_iast hx hb hK hP hD hS 0 1 rfl rfl (by unfold vp_in; decide) d_Arrays_fill_f26_13 (fun H locs hP hD hS => ?_)
  have hP : va_P D vwCl [(b, .inl (dA 1, 64, .inl (upd (upd (upd (upd (upd (upd (upd (upd (upd (upd (upd (upd (upd (upd (upd (upd (upd (upd (upd (upd (upd (upd (upd (upd (upd (upd (upd (upd (upd (upd (upd (upd (upd (upd (upd (upd (upd (upd (upd g 0 0) 1 0) 2 0) 3 0) 4 0) 5 0) 6 0) 7 0) 8 0) 9 0) 10 0) 11 0) 12 0) 13 0) 14 0) 15 0) 16 0) 17 0) 18 0) 19 0) 20 0) 21 0) 22 0) 23 0) 24 0) 25 0) 26 0) 27 0) 28 0) 29 0) 30 0) 31 0) 32 0) 33 0) 34 0) 35 0) 36 0) 37 0) 38 0)))] H := hP
  have hD : va_D A [(b, .inl (dA 1, 64, .inl (upd (upd (upd (upd (upd (upd (upd (upd (upd (upd (upd (upd (upd (upd (upd (upd (upd (upd (upd (upd (upd (upd (upd (upd (upd (upd (upd (upd (upd (upd (upd (upd (upd (upd (upd (upd (upd (upd (upd g 0 0) 1 0) 2 0) 3 0) 4 0) 5 0) 6 0) 7 0) 8 0) 9 0) 10 0) 11 0) 12 0) 13 0) 14 0) 15 0) 16 0) 17 0) 18 0) 19 0) 20 0) 21 0) 22 0) 23 0) 24 0) 25 0) 26 0) 27 0) 28 0) 29 0) 30 0) 31 0) 32 0) 33 0) 34 0) 35 0) 36 0) 37 0) 38 0)))] := hD
  refine lv_iinc (k := 0) (v := 39) hx hb d_Arrays_fill_f26_14 hl rfl (by decide) (by decide) rfl (fun ls hl => ?_)
  have hl : lv_has ls 4 [(2, .int 39), (3, .int 64), (0, .ref b), (1, .int 0)] := hl
  refine lv_goto hx hb d_Arrays_fill_f26_17 (tgt := 5) rfl ?_
  refine lv_iload_n hx hb d_Arrays_fill_f26_5 rfl (lv_at hl 0 rfl) ?_
  refine lv_iload_n hx hb d_Arrays_fill_f26_6 rfl (lv_at hl 1 rfl) ?_
  refine lv_icmp_ge hx hb d_Arrays_fill_f26_7 (tgt := 20) rfl (fun h9 => absurd h9 (by decide)) (fun _ => ?_)
  refine lv_aload_n hx hb d_Arrays_fill_f26_10 rfl (lv_at hl 2 rfl) ?_
  refine lv_iload_n hx hb d_Arrays_fill_f26_11 rfl (lv_at hl 0 rfl) ?_
  refine lv_iload_n hx hb d_Arrays_fill_f26_12 rfl (lv_at hl 3 rfl) ?_
  refine va_iast hx hb hK hP hD hS 0 1 rfl rfl (by unfold vp_in; decide) d_Arrays_fill_f26_13 (fun H locs hP hD hS => ?_)
  have hP : va_P D vwCl [(b, .inl (dA 1, 64, .inl (upd (upd (upd (upd (upd (upd (upd (upd (upd (upd (upd (upd (upd (upd (upd (upd (upd (upd (upd (upd (upd (upd (upd (upd (upd (upd (upd (upd (upd (upd (upd (upd (upd (upd (upd (upd (upd (upd (upd (upd g 0 0) 1 0) 2 0) 3 0) 4 0) 5 0) 6 0) 7 0) 8 0) 9 0) 10 0) 11 0) 12 0) 13 0) 14 0) 15 0) 16 0) 17 0) 18 0) 19 0) 20 0) 21 0) 22 0) 23 0) 24 0) 25 0) 26 0) 27 0) 28 0) 29 0) 30 0) 31 0) 32 0) 33 0) 34 0) 35 0) 36 0) 37 0) 38 0) 39 0)))] H := hP
  have hD : va_D A [(b, .inl (dA 1, 64, .inl (upd (upd (upd (upd (upd (upd (upd (upd (upd (upd (upd (upd (upd (upd (upd (upd (upd (upd (upd (upd (upd (upd (upd (upd (upd (upd (upd (upd (upd (upd (upd (upd (upd (upd (upd (upd (upd (upd (upd (upd g 0 0) 1 0) 2 0) 3 0) 4 0) 5 0) 6 0) 7 0) 8 0) 9 0) 10 0) 11 0) 12 0) 13 0) 14 0) 15 0) 16 0) 17 0) 18 0) 19 0) 20 0) 21 0) 22 0) 23 0) 24 0) 25 0) 26 0) 27 0) 28 0) 29 0) 30 0) 31 0) 32 0) 33 0) 34 0) 35 0) 36 0) 37 0) 38 0) 39 0)))] := hD
  refine lv_iinc (k := 0) (v := 40) hx hb d_Arrays_fill_f26_14 hl rfl (by decide) (by decide) rfl (fun ls hl => ?_)
  have hl : lv_has ls 4 [(2, .int 40), (3, .int 64), (0, .ref b), (1, .int 0)] := hl
  refine lv_goto hx hb d_Arrays_fill_f26_17 (tgt := 5) rfl ?_
  refine lv_iload_n hx hb d_Arrays_fill_f26_5 rfl (lv_at hl 0 rfl) ?_
  refine lv_iload_n hx hb d_Arrays_fill_f26_6 rfl (lv_at hl 1 rfl) ?_
  refine lv_icmp_ge hx hb d_Arrays_fill_f26_7 (tgt := 20) rfl (fun h9 => absurd h9 (by decide)) (fun _ => ?_)
  refine lv_aload_n hx hb d_Arrays_fill_f26_10 rfl (lv_at hl 2 rfl) ?_
  refine lv_iload_n hx hb d_Arrays_fill_f26_11 rfl (lv_at hl 0 rfl) ?_
  refine lv_iload_n hx hb d_Arrays_fill_f26_12 rfl (lv_at hl 3 rfl) ?_
  refine va_iast hx hb hK hP hD hS 0 1 rfl rfl (by unfold vp_in; decide) d_Arrays_fill_f26_13 (fun H locs hP hD hS => ?_)
  have hP : va_P D vwCl [(b, .inl (dA 1, 64, .inl (upd (upd (upd (upd (upd (upd (upd (upd (upd (upd (upd (upd (upd (upd (upd (upd (upd (upd (upd (upd (upd (upd (upd (upd (upd (upd (upd (upd (upd (upd (upd (upd (upd (upd (upd (upd (upd (upd (upd (upd (upd g 0 0) 1 0) 2 0) 3 0) 4 0) 5 0) 6 0) 7 0) 8 0) 9 0) 10 0) 11 0) 12 0) 13 0) 14 0) 15 0) 16 0) 17 0) 18 0) 19 0) 20 0) 21 0) 22 0) 23 0) 24 0) 25 0) 26 0) 27 0) 28 0) 29 0) 30 0) 31 0) 32 0) 33 0) 34 0) 35 0) 36 0) 37 0) 38 0) 39 0) 40 0)))] H := hP
  have hD : va_D A [(b, .inl (dA 1, 64, .inl (upd (upd (upd (upd (upd (upd (upd (upd (upd (upd (upd (upd (upd (upd (upd (upd (upd (upd (upd (upd (upd (upd (upd (upd (upd (upd (upd (upd (upd (upd (upd (upd (upd (upd (upd (upd (upd (upd (upd (upd (upd g 0 0) 1 0) 2 0) 3 0) 4 0) 5 0) 6 0) 7 0) 8 0) 9 0) 10 0) 11 0) 12 0) 13 0) 14 0) 15 0) 16 0) 17 0) 18 0) 19 0) 20 0) 21 0) 22 0) 23 0) 24 0) 25 0) 26 0) 27 0) 28 0) 29 0) 30 0) 31 0) 32 0) 33 0) 34 0) 35 0) 36 0) 37 0) 38 0) 39 0) 40 0)))] := hD
  refine lv_iinc (k := 0) (v := 41) hx hb d_Arrays_fill_f26_14 hl rfl (by decide) (by decide) rfl (fun ls hl => ?_)
  have hl : lv_has ls 4 [(2, .int 41), (3, .int 64), (0, .ref b), (1, .int 0)] := hl
  refine lv_goto hx hb d_Arrays_fill_f26_17 (tgt := 5) rfl ?_
  refine lv_iload_n hx hb d_Arrays_fill_f26_5 rfl (lv_at hl 0 rfl) ?_
  refine lv_iload_n hx hb d_Arrays_fill_f26_6 rfl (lv_at hl 1 rfl) ?_
  refine lv_icmp_ge hx hb d_Arrays_fill_f26_7 (tgt := 20) rfl (fun h9 => absurd h9 (by decide)) (fun _ => ?_)
  refine lv_aload_n hx hb d_Arrays_fill_f26_10 rfl (lv_at hl 2 rfl) ?_
  refine lv_iload_n hx hb d_Arrays_fill_f26_11 rfl (lv_at hl 0 rfl) ?_
  refine lv_iload_n hx hb d_Arrays_fill_f26_12 rfl (lv_at hl 3 rfl) ?_
  refine va_iast hx hb hK hP hD hS 0 1 rfl rfl (by unfold vp_in; decide) d_Arrays_fill_f26_13 (fun H locs hP hD hS => ?_)
  have hP : va_P D vwCl [(b, .inl (dA 1, 64, .inl (upd (upd (upd (upd (upd (upd (upd (upd (upd (upd (upd (upd (upd (upd (upd (upd (upd (upd (upd (upd (upd (upd (upd (upd (upd (upd (upd (upd (upd (upd (upd (upd (upd (upd (upd (upd (upd (upd (upd (upd (upd (upd g 0 0) 1 0) 2 0) 3 0) 4 0) 5 0) 6 0) 7 0) 8 0) 9 0) 10 0) 11 0) 12 0) 13 0) 14 0) 15 0) 16 0) 17 0) 18 0) 19 0) 20 0) 21 0) 22 0) 23 0) 24 0) 25 0) 26 0) 27 0) 28 0) 29 0) 30 0) 31 0) 32 0) 33 0) 34 0) 35 0) 36 0) 37 0) 38 0) 39 0) 40 0) 41 0)))] H := hP
  have hD : va_D A [(b, .inl (dA 1, 64, .inl (upd (upd (upd (upd (upd (upd (upd (upd (upd (upd (upd (upd (upd (upd (upd (upd (upd (upd (upd (upd (upd (upd (upd (upd (upd (upd (upd (upd (upd (upd (upd (upd (upd (upd (upd (upd (upd (upd (upd (upd (upd (upd g 0 0) 1 0) 2 0) 3 0) 4 0) 5 0) 6 0) 7 0) 8 0) 9 0) 10 0) 11 0) 12 0) 13 0) 14 0) 15 0) 16 0) 17 0) 18 0) 19 0) 20 0) 21 0) 22 0) 23 0) 24 0) 25 0) 26 0) 27 0) 28 0) 29 0) 30 0) 31 0) 32 0) 33 0) 34 0) 35 0) 36 0) 37 0) 38 0) 39 0) 40 0) 41 0)))] := hD
  refine lv_iinc (k := 0) (v := 42) hx hb d_Arrays_fill_f26_14 hl rfl (by decide) (by decide) rfl (fun ls hl => ?_)
  have hl : lv_has ls 4 [(2, .int 42), (3, .int 64), (0, .ref b), (1, .int 0)] := hl
  refine lv_goto hx hb d_Arrays_fill_f26_17 (tgt := 5) rfl ?_
  refine lv_iload_n hx hb d_Arrays_fill_f26_5 rfl (lv_at hl 0 rfl) ?_
  refine lv_iload_n hx hb d_Arrays_fill_f26_6 rfl (lv_at hl 1 rfl) ?_
  refine lv_icmp_ge hx hb d_Arrays_fill_f26_7 (tgt := 20) rfl (fun h9 => absurd h9 (by decide)) (fun _ => ?_)
  refine lv_aload_n hx hb d_Arrays_fill_f26_10 rfl (lv_at hl 2 rfl) ?_
  refine lv_iload_n hx hb d_Arrays_fill_f26_11 rfl (lv_at hl 0 rfl) ?_
  refine lv_iload_n hx hb d_Arrays_fill_f26_12 rfl (lv_at hl 3 rfl) ?_
  refine va_iast hx hb hK hP hD hS 0 1 rfl rfl (by unfold vp_in; decide) d_Arrays_fill_f26_13 (fun H locs hP hD hS => ?_)
  have hP : va_P D vwCl [(b, .inl (dA 1, 64, .inl (upd (upd (upd (upd (upd (upd (upd (upd (upd (upd (upd (upd (upd (upd (upd (upd (upd (upd (upd (upd (upd (upd (upd (upd (upd (upd (upd (upd (upd (upd (upd (upd (upd (upd (upd (upd (upd (upd (upd (upd (upd (upd (upd g 0 0) 1 0) 2 0) 3 0) 4 0) 5 0) 6 0) 7 0) 8 0) 9 0) 10 0) 11 0) 12 0) 13 0) 14 0) 15 0) 16 0) 17 0) 18 0) 19 0) 20 0) 21 0) 22 0) 23 0) 24 0) 25 0) 26 0) 27 0) 28 0) 29 0) 30 0) 31 0) 32 0) 33 0) 34 0) 35 0) 36 0) 37 0) 38 0) 39 0) 40 0) 41 0) 42 0)))] H := hP
  have hD : va_D A [(b, .inl (dA 1, 64, .inl (upd (upd (upd (upd (upd (upd (upd (upd (upd (upd (upd (upd (upd (upd (upd (upd (upd (upd (upd (upd (upd (upd (upd (upd (upd (upd (upd (upd (upd (upd (upd (upd (upd (upd (upd (upd (upd (upd (upd (upd (upd (upd (upd g 0 0) 1 0) 2 0) 3 0) 4 0) 5 0) 6 0) 7 0) 8 0) 9 0) 10 0) 11 0) 12 0) 13 0) 14 0) 15 0) 16 0) 17 0) 18 0) 19 0) 20 0) 21 0) 22 0) 23 0) 24 0) 25 0) 26 0) 27 0) 28 0) 29 0) 30 0) 31 0) 32 0) 33 0) 34 0) 35 0) 36 0) 37 0) 38 0) 39 0) 40 0) 41 0) 42 0)))] := hD
  refine lv_iinc (k := 0) (v := 43) hx hb d_Arrays_fill_f26_14 hl rfl (by decide) (by decide) rfl (fun ls hl => ?_)
  have hl : lv_has ls 4 [(2, .int 43), (3, .int 64), (0, .ref b), (1, .int 0)] := hl
  refine lv_goto hx hb d_Arrays_fill_f26_17 (tgt := 5) rfl ?_
  refine lv_iload_n hx hb d_Arrays_fill_f26_5 rfl (lv_at hl 0 rfl) ?_
  refine lv_iload_n hx hb d_Arrays_fill_f26_6 rfl (lv_at hl 1 rfl) ?_
  refine lv_icmp_ge hx hb d_Arrays_fill_f26_7 (tgt := 20) rfl (fun h9 => absurd h9 (by decide)) (fun _ => ?_)
  refine lv_aload_n hx hb d_Arrays_fill_f26_10 rfl (lv_at hl 2 rfl) ?_
  refine lv_iload_n hx hb d_Arrays_fill_f26_11 rfl (lv_at hl 0 rfl) ?_
  refine lv_iload_n hx hb d_Arrays_fill_f26_12 rfl (lv_at hl 3 rfl) ?_
  refine va_iast hx hb hK hP hD hS 0 1 rfl rfl (by unfold vp_in; decide) d_Arrays_fill_f26_13 (fun H locs hP hD hS => ?_)
  have hP : va_P D vwCl [(b, .inl (dA 1, 64, .inl (upd (upd (upd (upd (upd (upd (upd (upd (upd (upd (upd (upd (upd (upd (upd (upd (upd (upd (upd (upd (upd (upd (upd (upd (upd (upd (upd (upd (upd (upd (upd (upd (upd (upd (upd (upd (upd (upd (upd (upd (upd (upd (upd (upd g 0 0) 1 0) 2 0) 3 0) 4 0) 5 0) 6 0) 7 0) 8 0) 9 0) 10 0) 11 0) 12 0) 13 0) 14 0) 15 0) 16 0) 17 0) 18 0) 19 0) 20 0) 21 0) 22 0) 23 0) 24 0) 25 0) 26 0) 27 0) 28 0) 29 0) 30 0) 31 0) 32 0) 33 0) 34 0) 35 0) 36 0) 37 0) 38 0) 39 0) 40 0) 41 0) 42 0) 43 0)))] H := hP
  have hD : va_D A [(b, .inl (dA 1, 64, .inl (upd (upd (upd (upd (upd (upd (upd (upd (upd (upd (upd (upd (upd (upd (upd (upd (upd (upd (upd (upd (upd (upd (upd (upd (upd (upd (upd (upd (upd (upd (upd (upd (upd (upd (upd (upd (upd (upd (upd (upd (upd (upd (upd (upd g 0 0) 1 0) 2 0) 3 0) 4 0) 5 0) 6 0) 7 0) 8 0) 9 0) 10 0) 11 0) 12 0) 13 0) 14 0) 15 0) 16 0) 17 0) 18 0) 19 0) 20 0) 21 0) 22 0) 23 0) 24 0) 25 0) 26 0) 27 0) 28 0) 29 0) 30 0) 31 0) 32 0) 33 0) 34 0) 35 0) 36 0) 37 0) 38 0) 39 0) 40 0) 41 0) 42 0) 43 0)))] := hD
  refine lv_iinc (k := 0) (v := 44) hx hb d_Arrays_fill_f26_14 hl rfl (by decide) (by decide) rfl (fun ls hl => ?_)
  have hl : lv_has ls 4 [(2, .int 44), (3, .int 64), (0, .ref b), (1, .int 0)] := hl
  refine lv_goto hx hb d_Arrays_fill_f26_17 (tgt := 5) rfl ?_
  refine lv_iload_n hx hb d_Arrays_fill_f26_5 rfl (lv_at hl 0 rfl) ?_
  refine lv_iload_n hx hb d_Arrays_fill_f26_6 rfl (lv_at hl 1 rfl) ?_
  refine lv_icmp_ge hx hb d_Arrays_fill_f26_7 (tgt := 20) rfl (fun h9 => absurd h9 (by decide)) (fun _ => ?_)
  refine lv_aload_n hx hb d_Arrays_fill_f26_10 rfl (lv_at hl 2 rfl) ?_
  refine lv_iload_n hx hb d_Arrays_fill_f26_11 rfl (lv_at hl 0 rfl) ?_
  refine lv_iload_n hx hb d_Arrays_fill_f26_12 rfl (lv_at hl 3 rfl) ?_
  refine va_iast hx hb hK hP hD hS 0 1 rfl rfl (by unfold vp_in; decide) d_Arrays_fill_f26_13 (fun H locs hP hD hS => ?_)
  have hP : va_P D vwCl [(b, .inl (dA 1, 64, .inl (upd (upd (upd (upd (upd (upd (upd (upd (upd (upd (upd (upd (upd (upd (upd (upd (upd (upd (upd (upd (upd (upd (upd (upd (upd (upd (upd (upd (upd (upd (upd (upd (upd (upd (upd (upd (upd (upd (upd (upd (upd (upd (upd (upd (upd g 0 0) 1 0) 2 0) 3 0) 4 0) 5 0) 6 0) 7 0) 8 0) 9 0) 10 0) 11 0) 12 0) 13 0) 14 0) 15 0) 16 0) 17 0) 18 0) 19 0) 20 0) 21 0) 22 0) 23 0) 24 0) 25 0) 26 0) 27 0) 28 0) 29 0) 30 0) 31 0) 32 0) 33 0) 34 0) 35 0) 36 0) 37 0) 38 0) 39 0) 40 0) 41 0) 42 0) 43 0) 44 0)))] H := hP
  have hD : va_D A [(b, .inl (dA 1, 64, .inl (upd (upd (upd (upd (upd (upd (upd (upd (upd (upd (upd (upd (upd (upd (upd (upd (upd (upd (upd (upd (upd (upd (upd (upd (upd (upd (upd (upd (upd (upd (upd (upd (upd (upd (upd (upd (upd (upd (upd (upd (upd (upd (upd (upd (upd g 0 0) 1 0) 2 0) 3 0) 4 0) 5 0) 6 0) 7 0) 8 0) 9 0) 10 0) 11 0) 12 0) 13 0) 14 0) 15 0) 16 0) 17 0) 18 0) 19 0) 20 0) 21 0) 22 0) 23 0) 24 0) 25 0) 26 0) 27 0) 28 0) 29 0) 30 0) 31 0) 32 0) 33 0) 34 0) 35 0) 36 0) 37 0) 38 0) 39 0) 40 0) 41 0) 42 0) 43 0) 44 0)))] := hD
  refine lv_iinc (k := 0) (v := 45) hx hb d_Arrays_fill_f26_14 hl rfl (by decide) (by decide) rfl (fun ls hl => ?_)
  have hl : lv_has ls 4 [(2, .int 45), (3, .int 64), (0, .ref b), (1, .int 0)] := hl
  refine lv_goto hx hb d_Arrays_fill_f26_17 (tgt := 5) rfl ?_
  refine lv_iload_n hx hb d_Arrays_fill_f26_5 rfl (lv_at hl 0 rfl) ?_
  refine lv_iload_n hx hb d_Arrays_fill_f26_6 rfl (lv_at hl 1 rfl) ?_
  refine lv_icmp_ge hx hb d_Arrays_fill_f26_7 (tgt := 20) rfl (fun h9 => absurd h9 (by decide)) (fun _ => ?_)
  refine lv_aload_n hx hb d_Arrays_fill_f26_10 rfl (lv_at hl 2 rfl) ?_
  refine lv_iload_n hx hb d_Arrays_fill_f26_11 rfl (lv_at hl 0 rfl) ?_
  refine lv_iload_n hx hb d_Arrays_fill_f26_12 rfl (lv_at hl 3 rfl) ?_
  refine va_iast hx hb hK hP hD hS 0 1 rfl rfl (by unfold vp_in; decide) d_Arrays_fill_f26_13 (fun H locs hP hD hS => ?_)
  have hP : va_P D vwCl [(b, .inl (dA 1, 64, .inl (upd (upd (upd (upd (upd (upd (upd (upd (upd (upd (upd (upd (upd (upd (upd (upd (upd (upd (upd (upd (upd (upd (upd (upd (upd (upd (upd (upd (upd (upd (upd (upd (upd (upd (upd (upd (upd (upd (upd (upd (upd (upd (upd (upd (upd (upd g 0 0) 1 0) 2 0) 3 0) 4 0) 5 0) 6 0) 7 0) 8 0) 9 0) 10 0) 11 0) 12 0) 13 0) 14 0) 15 0) 16 0) 17 0) 18 0) 19 0) 20 0) 21 0) 22 0) 23 0) 24 0) 25 0) 26 0) 27 0) 28 0) 29 0) 30 0) 31 0) 32 0) 33 0) 34 0) 35 0) 36 0) 37 0) 38 0) 39 0) 40 0) 41 0) 42 0) 43 0) 44 0) 45 0)))] H := hP
  have hD : va_D A [(b, .inl (dA 1, 64, .inl (upd (upd (upd (upd (upd (upd (upd (upd (upd (upd (upd (upd (upd (upd (upd (upd (upd (upd (upd (upd (upd (upd (upd (upd (upd (upd (upd (upd (upd (upd (upd (upd (upd (upd (upd (upd (upd (upd (upd (upd (upd (upd (upd (upd (upd (upd g 0 0) 1 0) 2 0) 3 0) 4 0) 5 0) 6 0) 7 0) 8 0) 9 0) 10 0) 11 0) 12 0) 13 0) 14 0) 15 0) 16 0) 17 0) 18 0) 19 0) 20 0) 21 0) 22 0) 23 0) 24 0) 25 0) 26 0) 27 0) 28 0) 29 0) 30 0) 31 0) 32 0) 33 0) 34 0) 35 0) 36 0) 37 0) 38 0) 39 0) 40 0) 41 0) 42 0) 43 0) 44 0) 45 0)))] := hD
  refine lv_iinc (k := 0) (v := 46) hx hb d_Arrays_fill_f26_14 hl rfl (by decide) (by decide) rfl (fun ls hl => ?_)
  have hl : lv_has ls 4 [(2, .int 46), (3, .int 64), (0, .ref b), (1, .int 0)] := hl
  refine lv_goto hx hb d_Arrays_fill_f26_17 (tgt := 5) rfl ?_
  refine lv_iload_n hx hb d_Arrays_fill_f26_5 rfl (lv_at hl 0 rfl) ?_
  refine lv_iload_n hx hb d_Arrays_fill_f26_6 rfl (lv_at hl 1 rfl) ?_
  refine lv_icmp_ge hx hb d_Arrays_fill_f26_7 (tgt := 20) rfl (fun h9 => absurd h9 (by decide)) (fun _ => ?_)
  refine lv_aload_n hx hb d_Arrays_fill_f26_10 rfl (lv_at hl 2 rfl) ?_
  refine lv_iload_n hx hb d_Arrays_fill_f26_11 rfl (lv_at hl 0 rfl) ?_
  refine lv_iload_n hx hb d_Arrays_fill_f26_12 rfl (lv_at hl 3 rfl) ?_
  refine va_iast hx hb hK hP hD hS 0 1 rfl rfl (by unfold vp_in; decide) d_Arrays_fill_f26_13 (fun H locs hP hD hS => ?_)
  have hP : va_P D vwCl [(b, .inl (dA 1, 64, .inl (upd (upd (upd (upd (upd (upd (upd (upd (upd (upd (upd (upd (upd (upd (upd (upd (upd (upd (upd (upd (upd (upd (upd (upd (upd (upd (upd (upd (upd (upd (upd (upd (upd (upd (upd (upd (upd (upd (upd (upd (upd (upd (upd (upd (upd (upd (upd g 0 0) 1 0) 2 0) 3 0) 4 0) 5 0) 6 0) 7 0) 8 0) 9 0) 10 0) 11 0) 12 0) 13 0) 14 0) 15 0) 16 0) 17 0) 18 0) 19 0) 20 0) 21 0) 22 0) 23 0) 24 0) 25 0) 26 0) 27 0) 28 0) 29 0) 30 0) 31 0) 32 0) 33 0) 34 0) 35 0) 36 0) 37 0) 38 0) 39 0) 40 0) 41 0) 42 0) 43 0) 44 0) 45 0) 46 0)))] H := hP
  have hD : va_D A [(b, .inl (dA 1, 64, .inl (upd (upd (upd (upd (upd (upd (upd (upd (upd (upd (upd (upd (upd (upd (upd (upd (upd (upd (upd (upd (upd (upd (upd (upd (upd (upd (upd (upd (upd (upd (upd (upd (upd (upd (upd (upd (upd (upd (upd (upd (upd (upd (upd (upd (upd (upd (upd g 0 0) 1 0) 2 0) 3 0) 4 0) 5 0) 6 0) 7 0) 8 0) 9 0) 10 0) 11 0) 12 0) 13 0) 14 0) 15 0) 16 0) 17 0) 18 0) 19 0) 20 0) 21 0) 22 0) 23 0) 24 0) 25 0) 26 0) 27 0) 28 0) 29 0) 30 0) 31 0) 32 0) 33 0) 34 0) 35 0) 36 0) 37 0) 38 0) 39 0) 40 0) 41 0) 42 0) 43 0) 44 0) 45 0) 46 0)))] := hD
  refine lv_iinc (k := 0) (v := 47) hx hb d_Arrays_fill_f26_14 hl rfl (by decide) (by decide) rfl (fun ls hl => ?_)
  have hl : lv_has ls 4 [(2, .int 47), (3, .int 64), (0, .ref b), (1, .int 0)] := hl
  refine lv_goto hx hb d_Arrays_fill_f26_17 (tgt := 5) rfl ?_
  refine lv_iload_n hx hb d_Arrays_fill_f26_5 rfl (lv_at hl 0 rfl) ?_
  refine lv_iload_n hx hb d_Arrays_fill_f26_6 rfl (lv_at hl 1 rfl) ?_
  refine lv_icmp_ge hx hb d_Arrays_fill_f26_7 (tgt := 20) rfl (fun h9 => absurd h9 (by decide)) (fun _ => ?_)
  refine lv_aload_n hx hb d_Arrays_fill_f26_10 rfl (lv_at hl 2 rfl) ?_
  refine lv_iload_n hx hb d_Arrays_fill_f26_11 rfl (lv_at hl 0 rfl) ?_
  refine lv_iload_n hx hb d_Arrays_fill_f26_12 rfl (lv_at hl 3 rfl) ?_
  refine va_iast hx hb hK hP hD hS 0 1 rfl rfl (by unfold vp_in; decide) d_Arrays_fill_f26_13 (fun H locs hP hD hS => ?_)
  have hP : va_P D vwCl [(b, .inl (dA 1, 64, .inl (upd (upd (upd (upd (upd (upd (upd (upd (upd (upd (upd (upd (upd (upd (upd (upd (upd (upd (upd (upd (upd (upd (upd (upd (upd (upd (upd (upd (upd (upd (upd (upd (upd (upd (upd (upd (upd (upd (upd (upd (upd (upd (upd (upd (upd (upd (upd (upd g 0 0) 1 0) 2 0) 3 0) 4 0) 5 0) 6 0) 7 0) 8 0) 9 0) 10 0) 11 0) 12 0) 13 0) 14 0) 15 0) 16 0) 17 0) 18 0) 19 0) 20 0) 21 0) 22 0) 23 0) 24 0) 25 0) 26 0) 27 0) 28 0) 29 0) 30 0) 31 0) 32 0) 33 0) 34 0) 35 0) 36 0) 37 0) 38 0) 39 0) 40 0) 41 0) 42 0) 43 0) 44 0) 45 0) 46 0) 47 0)))] H := hP
  have hD : va_D A [(b, .inl (dA 1, 64, .inl (upd (upd (upd (upd (upd (upd (upd (upd (upd (upd (upd (upd (upd (upd (upd (upd (upd (upd (upd (upd (upd (upd (upd (upd (upd (upd (upd (upd (upd (upd (upd (upd (upd (upd (upd (upd (upd (upd (upd (upd (upd (upd (upd (upd (upd (upd (upd (upd g 0 0) 1 0) 2 0) 3 0) 4 0) 5 0) 6 0) 7 0) 8 0) 9 0) 10 0) 11 0) 12 0) 13 0) 14 0) 15 0) 16 0) 17 0) 18 0) 19 0) 20 0) 21 0) 22 0) 23 0) 24 0) 25 0) 26 0) 27 0) 28 0) 29 0) 30 0) 31 0) 32 0) 33 0) 34 0) 35 0) 36 0) 37 0) 38 0) 39 0) 40 0) 41 0) 42 0) 43 0) 44 0) 45 0) 46 0) 47 0)))] := hD
  refine lv_iinc (k := 0) (v := 48) hx hb d_Arrays_fill_f26_14 hl rfl (by decide) (by decide) rfl (fun ls hl => ?_)
  have hl : lv_has ls 4 [(2, .int 48), (3, .int 64), (0, .ref b), (1, .int 0)] := hl
  refine lv_goto hx hb d_Arrays_fill_f26_17 (tgt := 5) rfl ?_
  refine lv_iload_n hx hb d_Arrays_fill_f26_5 rfl (lv_at hl 0 rfl) ?_
  refine lv_iload_n hx hb d_Arrays_fill_f26_6 rfl (lv_at hl 1 rfl) ?_
  refine lv_icmp_ge hx hb d_Arrays_fill_f26_7 (tgt := 20) rfl (fun h9 => absurd h9 (by decide)) (fun _ => ?_)
  refine lv_aload_n hx hb d_Arrays_fill_f26_10 rfl (lv_at hl 2 rfl) ?_
  refine lv_iload_n hx hb d_Arrays_fill_f26_11 rfl (lv_at hl 0 rfl) ?_
  refine lv_iload_n hx hb d_Arrays_fill_f26_12 rfl (lv_at hl 3 rfl) ?_
  refine va_iast hx hb hK hP hD hS 0 1 rfl rfl (by unfold vp_in; decide) d_Arrays_fill_f26_13 (fun H locs hP hD hS => ?_)
  have hP : va_P D vwCl [(b, .inl (dA 1, 64, .inl (upd (upd (upd (upd (upd (upd (upd (upd (upd (upd (upd (upd (upd (upd (upd (upd (upd (upd (upd (upd (upd (upd (upd (upd (upd (upd (upd (upd (upd (upd (upd (upd (upd (upd (upd (upd (upd (upd (upd (upd (upd (upd (upd (upd (upd (upd (upd (upd (upd g 0 0) 1 0) 2 0) 3 0) 4 0) 5 0) 6 0) 7 0) 8 0) 9 0) 10 0) 11 0) 12 0) 13 0) 14 0) 15 0) 16 0) 17 0) 18 0) 19 0) 20 0) 21 0) 22 0) 23 0) 24 0) 25 0) 26 0) 27 0) 28 0) 29 0) 30 0) 31 0) 32 0) 33 0) 34 0) 35 0) 36 0) 37 0) 38 0) 39 0) 40 0) 41 0) 42 0) 43 0) 44 0) 45 0) 46 0) 47 0) 48 0)))] H := hP
  have hD : va_D A [(b, .inl (dA 1, 64, .inl (upd (upd (upd (upd (upd (upd (upd (upd (upd (upd (upd (upd (upd (upd (upd (upd (upd (upd (upd (upd (upd (upd (upd (upd (upd (upd (upd (upd (upd (upd (upd (upd (upd (upd (upd (upd (upd (upd (upd (upd (upd (upd (upd (upd (upd (upd (upd (upd (upd g 0 0) 1 0) 2 0) 3 0) 4 0) 5 0) 6 0) 7 0) 8 0) 9 0) 10 0) 11 0) 12 0) 13 0) 14 0) 15 0) 16 0) 17 0) 18 0) 19 0) 20 0) 21 0) 22 0) 23 0) 24 0) 25 0) 26 0) 27 0) 28 0) 29 0) 30 0) 31 0) 32 0) 33 0) 34 0) 35 0) 36 0) 37 0) 38 0) 39 0) 40 0) 41 0) 42 0) 43 0) 44 0) 45 0) 46 0) 47 0) 48 0)))] := hD
  refine lv_iinc (k := 0) (v := 49) hx hb d_Arrays_fill_f26_14 hl rfl (by decide) (by decide) rfl (fun ls hl => ?_)
  have hl : lv_has ls 4 [(2, .int 49), (3, .int 64), (0, .ref b), (1, .int 0)] := hl
  refine lv_goto hx hb d_Arrays_fill_f26_17 (tgt := 5) rfl ?_
  refine lv_iload_n hx hb d_Arrays_fill_f26_5 rfl (lv_at hl 0 rfl) ?_
  refine lv_iload_n hx hb d_Arrays_fill_f26_6 rfl (lv_at hl 1 rfl) ?_
  refine lv_icmp_ge hx hb d_Arrays_fill_f26_7 (tgt := 20) rfl (fun h9 => absurd h9 (by decide)) (fun _ => ?_)
  refine lv_aload_n hx hb d_Arrays_fill_f26_10 rfl (lv_at hl 2 rfl) ?_
  refine lv_iload_n hx hb d_Arrays_fill_f26_11 rfl (lv_at hl 0 rfl) ?_
  refine lv_iload_n hx hb d_Arrays_fill_f26_12 rfl (lv_at hl 3 rfl) ?_
  refine va_iast hx hb hK hP hD hS 0 1 rfl rfl (by unfold vp_in; decide) d_Arrays_fill_f26_13 (fun H locs hP hD hS => ?_)
  have hP : va_P D vwCl [(b, .inl (dA 1, 64, .inl (upd (upd (upd (upd (upd (upd (upd (upd (upd (upd (upd (upd (upd (upd (upd (upd (upd (upd (upd (upd (upd (upd (upd (upd (upd (upd (upd (upd (upd (upd (upd (upd (upd (upd (upd (upd (upd (upd (upd (upd (upd (upd (upd (upd (upd (upd (upd (upd (upd (upd g 0 0) 1 0) 2 0) 3 0) 4 0) 5 0) 6 0) 7 0) 8 0) 9 0) 10 0) 11 0) 12 0) 13 0) 14 0) 15 0) 16 0) 17 0) 18 0) 19 0) 20 0) 21 0) 22 0) 23 0) 24 0) 25 0) 26 0) 27 0) 28 0) 29 0) 30 0) 31 0) 32 0) 33 0) 34 0) 35 0) 36 0) 37 0) 38 0) 39 0) 40 0) 41 0) 42 0) 43 0) 44 0) 45 0) 46 0) 47 0) 48 0) 49 0)))] H := hP
  have hD : va_D A [(b, .inl (dA 1, 64, .inl (upd (upd (upd (upd (upd (upd (upd (upd (upd (upd (upd (upd (upd (upd (upd (upd (upd (upd (upd (upd (upd (upd (upd (upd (upd (upd (upd (upd (upd (upd (upd (upd (upd (upd (upd (upd (upd (upd (upd (upd (upd (upd (upd (upd (upd (upd (upd (upd (upd (upd g 0 0) 1 0) 2 0) 3 0) 4 0) 5 0) 6 0) 7 0) 8 0) 9 0) 10 0) 11 0) 12 0) 13 0) 14 0) 15 0) 16 0) 17 0) 18 0) 19 0) 20 0) 21 0) 22 0) 23 0) 24 0) 25 0) 26 0) 27 0) 28 0) 29 0) 30 0) 31 0) 32 0) 33 0) 34 0) 35 0) 36 0) 37 0) 38 0) 39 0) 40 0) 41 0) 42 0) 43 0) 44 0) 45 0) 46 0) 47 0) 48 0) 49 0)))] := hD
  refine lv_iinc (k := 0) (v := 50) hx hb d_Arrays_fill_f26_14 hl rfl (by decide) (by decide) rfl (fun ls hl => ?_)
  have hl : lv_has ls 4 [(2, .int 50), (3, .int 64), (0, .ref b), (1, .int 0)] := hl
  refine lv_goto hx hb d_Arrays_fill_f26_17 (tgt := 5) rfl ?_
  refine lv_iload_n hx hb d_Arrays_fill_f26_5 rfl (lv_at hl 0 rfl) ?_
  refine lv_iload_n hx hb d_Arrays_fill_f26_6 rfl (lv_at hl 1 rfl) ?_
  refine lv_icmp_ge hx hb d_Arrays_fill_f26_7 (tgt := 20) rfl (fun h9 => absurd h9 (by decide)) (fun _ => ?_)
  refine lv_aload_n hx hb d_Arrays_fill_f26_10 rfl (lv_at hl 2 rfl) ?_
  refine lv_iload_n hx hb d_Arrays_fill_f26_11 rfl (lv_at hl 0 rfl) ?_
  refine lv_iload_n hx hb d_Arrays_fill_f26_12 rfl (lv_at hl 3 rfl) ?_
  refine va_iast hx hb hK hP hD hS 0 1 rfl rfl (by unfold vp_in; decide) d_Arrays_fill_f26_13 (fun H locs hP hD hS => ?_)
  have hP : va_P D vwCl [(b, .inl (dA 1, 64, .inl (upd (upd (upd (upd (upd (upd (upd (upd (upd (upd (upd (upd (upd (upd (upd (upd (upd (upd (upd (upd (upd (upd (upd (upd (upd (upd (upd (upd (upd (upd (upd (upd (upd (upd (upd (upd (upd (upd (upd (upd (upd (upd (upd (upd (upd (upd (upd (upd (upd (upd (upd g 0 0) 1 0) 2 0) 3 0) 4 0) 5 0) 6 0) 7 0) 8 0) 9 0) 10 0) 11 0) 12 0) 13 0) 14 0) 15 0) 16 0) 17 0) 18 0) 19 0) 20 0) 21 0) 22 0) 23 0) 24 0) 25 0) 26 0) 27 0) 28 0) 29 0) 30 0) 31 0) 32 0) 33 0) 34 0) 35 0) 36 0) 37 0) 38 0) 39 0) 40 0) 41 0) 42 0) 43 0) 44 0) 45 0) 46 0) 47 0) 48 0) 49 0) 50 0)))] H := hP
  have hD : va_D A [(b, .inl (dA 1, 64, .inl (upd (upd (upd (upd (upd (upd (upd (upd (upd (upd (upd (upd (upd (upd (upd (upd (upd (upd (upd (upd (upd (upd (upd (upd (upd (upd (upd (upd (upd (upd (upd (upd (upd (upd (upd (upd (upd (upd (upd (upd (upd (upd (upd (upd (upd (upd (upd (upd (upd (upd (upd g 0 0) 1 0) 2 0) 3 0) 4 0) 5 0) 6 0) 7 0) 8 0) 9 0) 10 0) 11 0) 12 0) 13 0) 14 0) 15 0) 16 0) 17 0) 18 0) 19 0) 20 0) 21 0) 22 0) 23 0) 24 0) 25 0) 26 0) 27 0) 28 0) 29 0) 30 0) 31 0) 32 0) 33 0) 34 0) 35 0) 36 0) 37 0) 38 0) 39 0) 40 0) 41 0) 42 0) 43 0) 44 0) 45 0) 46 0) 47 0) 48 0) 49 0) 50 0)))] := hD
  refine lv_iinc (k := 0) (v := 51) hx hb d_Arrays_fill_f26_14 hl rfl (by decide) (by decide) rfl (fun ls hl => ?_)
  have hl : lv_has ls 4 [(2, .int 51), (3, .int 64), (0, .ref b), (1, .int 0)] := hl
  refine lv_goto hx hb d_Arrays_fill_f26_17 (tgt := 5) rfl ?_
  refine lv_iload_n hx hb d_Arrays_fill_f26_5 rfl (lv_at hl 0 rfl) ?_
  refine lv_iload_n hx hb d_Arrays_fill_f26_6 rfl (lv_at hl 1 rfl) ?_
  refine lv_icmp_ge hx hb d_Arrays_fill_f26_7 (tgt := 20) rfl (fun h9 => absurd h9 (by decide)) (fun _ => ?_)
  refine lv_aload_n hx hb d_Arrays_fill_f26_10 rfl (lv_at hl 2 rfl) ?_
  refine lv_iload_n hx hb d_Arrays_fill_f26_11 rfl (lv_at hl 0 rfl) ?_
  refine lv_iload_n hx hb d_Arrays_fill_f26_12 rfl (lv_at hl 3 rfl) ?_
  refine va_iast hx hb hK hP hD hS 0 1 rfl rfl (by unfold vp_in; decide) d_Arrays_fill_f26_13 (fun H locs hP hD hS => ?_)
  have hP : va_P D vwCl [(b, .inl (dA 1, 64, .inl (upd (upd (upd (upd (upd (upd (upd (upd (upd (upd (upd (upd (upd (upd (upd (upd (upd (upd (upd (upd (upd (upd (upd (upd (upd (upd (upd (upd (upd (upd (upd (upd (upd (upd (upd (upd (upd (upd (upd (upd (upd (upd (upd (upd (upd (upd (upd (upd (upd (upd (upd (upd g 0 0) 1 0) 2 0) 3 0) 4 0) 5 0) 6 0) 7 0) 8 0) 9 0) 10 0) 11 0) 12 0) 13 0) 14 0) 15 0) 16 0) 17 0) 18 0) 19 0) 20 0) 21 0) 22 0) 23 0) 24 0) 25 0) 26 0) 27 0) 28 0) 29 0) 30 0) 31 0) 32 0) 33 0) 34 0) 35 0) 36 0) 37 0) 38 0) 39 0) 40 0) 41 0) 42 0) 43 0) 44 0) 45 0) 46 0) 47 0) 48 0) 49 0) 50 0) 51 0)))] H := hP
  have hD : va_D A [(b, .inl (dA 1, 64, .inl (upd (upd (upd (upd (upd (upd (upd (upd (upd (upd (upd (upd (upd (upd (upd (upd (upd (upd (upd (upd (upd (upd (upd (upd (upd (upd (upd (upd (upd (upd (upd (upd (upd (upd (upd (upd (upd (upd (upd (upd (upd (upd (upd (upd (upd (upd (upd (upd (upd (upd (upd (upd g 0 0) 1 0) 2 0) 3 0) 4 0) 5 0) 6 0) 7 0) 8 0) 9 0) 10 0) 11 0) 12 0) 13 0) 14 0) 15 0) 16 0) 17 0) 18 0) 19 0) 20 0) 21 0) 22 0) 23 0) 24 0) 25 0) 26 0) 27 0) 28 0) 29 0) 30 0) 31 0) 32 0) 33 0) 34 0) 35 0) 36 0) 37 0) 38 0) 39 0) 40 0) 41 0) 42 0) 43 0) 44 0) 45 0) 46 0) 47 0) 48 0) 49 0) 50 0) 51 0)))] := hD
  refine lv_iinc (k := 0) (v := 52) hx hb d_Arrays_fill_f26_14 hl rfl (by decide) (by decide) rfl (fun ls hl => ?_)
  have hl : lv_has ls 4 [(2, .int 52), (3, .int 64), (0, .ref b), (1, .int 0)] := hl
  refine lv_goto hx hb d_Arrays_fill_f26_17 (tgt := 5) rfl ?_
  refine lv_iload_n hx hb d_Arrays_fill_f26_5 rfl (lv_at hl 0 rfl) ?_
  refine lv_iload_n hx hb d_Arrays_fill_f26_6 rfl (lv_at hl 1 rfl) ?_
  refine lv_icmp_ge hx hb d_Arrays_fill_f26_7 (tgt := 20) rfl (fun h9 => absurd h9 (by decide)) (fun _ => ?_)
  refine lv_aload_n hx hb d_Arrays_fill_f26_10 rfl (lv_at hl 2 rfl) ?_
  refine lv_iload_n hx hb d_Arrays_fill_f26_11 rfl (lv_at hl 0 rfl) ?_
  refine lv_iload_n hx hb d_Arrays_fill_f26_12 rfl (lv_at hl 3 rfl) ?_
  refine va_iast hx hb hK hP hD hS 0 1 rfl rfl (by unfold vp_in; decide) d_Arrays_fill_f26_13 (fun H locs hP hD hS => ?_)
  have hP : va_P D vwCl [(b, .inl (dA 1, 64, .inl (upd (upd (upd (upd (upd (upd (upd (upd (upd (upd (upd (upd (upd (upd (upd (upd (upd (upd (upd (upd (upd (upd (upd (upd (upd (upd (upd (upd (upd (upd (upd (upd (upd (upd (upd (upd (upd (upd (upd (upd (upd (upd (upd (upd (upd (upd (upd (upd (upd (upd (upd (upd (upd g 0 0) 1 0) 2 0) 3 0) 4 0) 5 0) 6 0) 7 0) 8 0) 9 0) 10 0) 11 0) 12 0) 13 0) 14 0) 15 0) 16 0) 17 0) 18 0) 19 0) 20 0) 21 0) 22 0) 23 0) 24 0) 25 0) 26 0) 27 0) 28 0) 29 0) 30 0) 31 0) 32 0) 33 0) 34 0) 35 0) 36 0) 37 0) 38 0) 39 0) 40 0) 41 0) 42 0) 43 0) 44 0) 45 0) 46 0) 47 0) 48 0) 49 0) 50 0) 51 0) 52 0)))] H := hP
  have hD : va_D A [(b, .inl (dA 1, 64, .inl (upd (upd (upd (upd (upd (upd (upd (upd (upd (upd (upd (upd (upd (upd (upd (upd (upd (upd (upd (upd (upd (upd (upd (upd (upd (upd (upd (upd (upd (upd (upd (upd (upd (upd (upd (upd (upd (upd (upd (upd (upd (upd (upd (upd (upd (upd (upd (upd (upd (upd (upd (upd (upd g 0 0) 1 0) 2 0) 3 0) 4 0) 5 0) 6 0) 7 0) 8 0) 9 0) 10 0) 11 0) 12 0) 13 0) 14 0) 15 0) 16 0) 17 0) 18 0) 19 0) 20 0) 21 0) 22 0) 23 0) 24 0) 25 0) 26 0) 27 0) 28 0) 29 0) 30 0) 31 0) 32 0) 33 0) 34 0) 35 0) 36 0) 37 0) 38 0) 39 0) 40 0) 41 0) 42 0) 43 0) 44 0) 45 0) 46 0) 47 0) 48 0) 49 0) 50 0) 51 0) 52 0)))] := hD
  refine lv_iinc (k := 0) (v := 53) hx hb d_Arrays_fill_f26_14 hl rfl (by decide) (by decide) rfl (fun ls hl => ?_)
  have hl : lv_has ls 4 [(2, .int 53), (3, .int 64), (0, .ref b), (1, .int 0)] := hl
  refine lv_goto hx hb d_Arrays_fill_f26_17 (tgt := 5) rfl ?_
  refine lv_iload_n hx hb d_Arrays_fill_f26_5 rfl (lv_at hl 0 rfl) ?_
  refine lv_iload_n hx hb d_Arrays_fill_f26_6 rfl (lv_at hl 1 rfl) ?_
  refine lv_icmp_ge hx hb d_Arrays_fill_f26_7 (tgt := 20) rfl (fun h9 => absurd h9 (by decide)) (fun _ => ?_)
  refine lv_aload_n hx hb d_Arrays_fill_f26_10 rfl (lv_at hl 2 rfl) ?_
  refine lv_iload_n hx hb d_Arrays_fill_f26_11 rfl (lv_at hl 0 rfl) ?_
  refine lv_iload_n hx hb d_Arrays_fill_f26_12 rfl (lv_at hl 3 rfl) ?_
  refine va_iast hx hb hK hP hD hS 0 1 rfl rfl (by unfold vp_in; decide) d_Arrays_fill_f26_13 (fun H locs hP hD hS => ?_)
  have hP : va_P D vwCl [(b, .inl (dA 1, 64, .inl (upd (upd (upd (upd (upd (upd (upd (upd (upd (upd (upd (upd (upd (upd (upd (upd (upd (upd (upd (upd (upd (upd (upd (upd (upd (upd (upd (upd (upd (upd (upd (upd (upd (upd (upd (upd (upd (upd (upd (upd (upd (upd (upd (upd (upd (upd (upd (upd (upd (upd (upd (upd (upd (upd g 0 0) 1 0) 2 0) 3 0) 4 0) 5 0) 6 0) 7 0) 8 0) 9 0) 10 0) 11 0) 12 0) 13 0) 14 0) 15 0) 16 0) 17 0) 18 0) 19 0) 20 0) 21 0) 22 0) 23 0) 24 0) 25 0) 26 0) 27 0) 28 0) 29 0) 30 0) 31 0) 32 0) 33 0) 34 0) 35 0) 36 0) 37 0) 38 0) 39 0) 40 0) 41 0) 42 0) 43 0) 44 0) 45 0) 46 0) 47 0) 48 0) 49 0) 50 0) 51 0) 52 0) 53 0)))] H := hP
  have hD : va_D A [(b, .inl (dA 1, 64, .inl (upd (upd (upd (upd (upd (upd (upd (upd (upd (upd (upd (upd (upd (upd (upd (upd (upd (upd (upd (upd (upd (upd (upd (upd (upd (upd (upd (upd (upd (upd (upd (upd (upd (upd (upd (upd (upd (upd (upd (upd (upd (upd (upd (upd (upd (upd (upd (upd (upd (upd (upd (upd (upd (upd g 0 0) 1 0) 2 0) 3 0) 4 0) 5 0) 6 0) 7 0) 8 0) 9 0) 10 0) 11 0) 12 0) 13 0) 14 0) 15 0) 16 0) 17 0) 18 0) 19 0) 20 0) 21 0) 22 0) 23 0) 24 0) 25 0) 26 0) 27 0) 28 0) 29 0) 30 0) 31 0) 32 0) 33 0) 34 0) 35 0) 36 0) 37 0) 38 0) 39 0) 40 0) 41 0) 42 0) 43 0) 44 0) 45 0) 46 0) 47 0) 48 0) 49 0) 50 0) 51 0) 52 0) 53 0)))] := hD
  refine lv_iinc (k := 0) (v := 54) hx hb d_Arrays_fill_f26_14 hl rfl (by decide) (by decide) rfl (fun ls hl => ?_)
  have hl : lv_has ls 4 [(2, .int 54), (3, .int 64), (0, .ref b), (1, .int 0)] := hl
  refine lv_goto hx hb d_Arrays_fill_f26_17 (tgt := 5) rfl ?_
  refine lv_iload_n hx hb d_Arrays_fill_f26_5 rfl (lv_at hl 0 rfl) ?_
  refine lv_iload_n hx hb d_Arrays_fill_f26_6 rfl (lv_at hl 1 rfl) ?_
  refine lv_icmp_ge hx hb d_Arrays_fill_f26_7 (tgt := 20) rfl (fun h9 => absurd h9 (by decide)) (fun _ => ?_)
  refine lv_aload_n hx hb d_Arrays_fill_f26_10 rfl (lv_at hl 2 rfl) ?_
  refine lv_iload_n hx hb d_Arrays_fill_f26_11 rfl (lv_at hl 0 rfl) ?_
  refine lv_iload_n hx hb d_Arrays_fill_f26_12 rfl (lv_at hl 3 rfl) ?_
  refine va_iast hx hb hK hP hD hS 0 1 rfl rfl (by unfold vp_in; decide) d_Arrays_fill_f26_13 (fun H locs hP hD hS => ?_)
  have hP : va_P D vwCl [(b, .inl (dA 1, 64, .inl (upd (upd (upd (upd (upd (upd (upd (upd (upd (upd (upd (upd (upd (upd (upd (upd (upd (upd (upd (upd (upd (upd (upd (upd (upd (upd (upd (upd (upd (upd (upd (upd (upd (upd (upd (upd (upd (upd (upd (upd (upd (upd (upd (upd (upd (upd (upd (upd (upd (upd (upd (upd (upd (upd (upd g 0 0) 1 0) 2 0) 3 0) 4 0) 5 0) 6 0) 7 0) 8 0) 9 0) 10 0) 11 0) 12 0) 13 0) 14 0) 15 0) 16 0) 17 0) 18 0) 19 0) 20 0) 21 0) 22 0) 23 0) 24 0) 25 0) 26 0) 27 0) 28 0) 29 0) 30 0) 31 0) 32 0) 33 0) 34 0) 35 0) 36 0) 37 0) 38 0) 39 0) 40 0) 41 0) 42 0) 43 0) 44 0) 45 0) 46 0) 47 0) 48 0) 49 0) 50 0) 51 0) 52 0) 53 0) 54 0)))] H := hP
  have hD : va_D A [(b, .inl (dA 1, 64, .inl (upd (upd (upd (upd (upd (upd (upd (upd (upd (upd (upd (upd (upd (upd (upd (upd (upd (upd (upd (upd (upd (upd (upd (upd (upd (upd (upd (upd (upd (upd (upd (upd (upd (upd (upd (upd (upd (upd (upd (upd (upd (upd (upd (upd (upd (upd (upd (upd (upd (upd (upd (upd (upd (upd (upd g 0 0) 1 0) 2 0) 3 0) 4 0) 5 0) 6 0) 7 0) 8 0) 9 0) 10 0) 11 0) 12 0) 13 0) 14 0) 15 0) 16 0) 17 0) 18 0) 19 0) 20 0) 21 0) 22 0) 23 0) 24 0) 25 0) 26 0) 27 0) 28 0) 29 0) 30 0) 31 0) 32 0) 33 0) 34 0) 35 0) 36 0) 37 0) 38 0) 39 0) 40 0) 41 0) 42 0) 43 0) 44 0) 45 0) 46 0) 47 0) 48 0) 49 0) 50 0) 51 0) 52 0) 53 0) 54 0)))] := hD
  refine lv_iinc (k := 0) (v := 55) hx hb d_Arrays_fill_f26_14 hl rfl (by decide) (by decide) rfl (fun ls hl => ?_)
  have hl : lv_has ls 4 [(2, .int 55), (3, .int 64), (0, .ref b), (1, .int 0)] := hl
  refine lv_goto hx hb d_Arrays_fill_f26_17 (tgt := 5) rfl ?_
  refine lv_iload_n hx hb d_Arrays_fill_f26_5 rfl (lv_at hl 0 rfl) ?_
  refine lv_iload_n hx hb d_Arrays_fill_f26_6 rfl (lv_at hl 1 rfl) ?_
  refine lv_icmp_ge hx hb d_Arrays_fill_f26_7 (tgt := 20) rfl (fun h9 => absurd h9 (by decide)) (fun _ => ?_)
  refine lv_aload_n hx hb d_Arrays_fill_f26_10 rfl (lv_at hl 2 rfl) ?_
  refine lv_iload_n hx hb d_Arrays_fill_f26_11 rfl (lv_at hl 0 rfl) ?_
  refine lv_iload_n hx hb d_Arrays_fill_f26_12 rfl (lv_at hl 3 rfl) ?_
  refine va_iast hx hb hK hP hD hS 0 1 rfl rfl (by unfold vp_in; decide) d_Arrays_fill_f26_13 (fun H locs hP hD hS => ?_)
  have hP : va_P D vwCl [(b, .inl (dA 1, 64, .inl (upd (upd (upd (upd (upd (upd (upd (upd (upd (upd (upd (upd (upd (upd (upd (upd (upd (upd (upd (upd (upd (upd (upd (upd (upd (upd (upd (upd (upd (upd (upd (upd (upd (upd (upd (upd (upd (upd (upd (upd (upd (upd (upd (upd (upd (upd (upd (upd (upd (upd (upd (upd (upd (upd (upd (upd g 0 0) 1 0) 2 0) 3 0) 4 0) 5 0) 6 0) 7 0) 8 0) 9 0) 10 0) 11 0) 12 0) 13 0) 14 0) 15 0) 16 0) 17 0) 18 0) 19 0) 20 0) 21 0) 22 0) 23 0) 24 0) 25 0) 26 0) 27 0) 28 0) 29 0) 30 0) 31 0) 32 0) 33 0) 34 0) 35 0) 36 0) 37 0) 38 0) 39 0) 40 0) 41 0) 42 0) 43 0) 44 0) 45 0) 46 0) 47 0) 48 0) 49 0) 50 0) 51 0) 52 0) 53 0) 54 0) 55 0)))] H := hP
  have hD : va_D A [(b, .inl (dA 1, 64, .inl (upd (upd (upd (upd (upd (upd (upd (upd (upd (upd (upd (upd (upd (upd (upd (upd (upd (upd (upd (upd (upd (upd (upd (upd (upd (upd (upd (upd (upd (upd (upd (upd (upd (upd (upd (upd (upd (upd (upd (upd (upd (upd (upd (upd (upd (upd (upd (upd (upd (upd (upd (upd (upd (upd (upd (upd g 0 0) 1 0) 2 0) 3 0) 4 0) 5 0) 6 0) 7 0) 8 0) 9 0) 10 0) 11 0) 12 0) 13 0) 14 0) 15 0) 16 0) 17 0) 18 0) 19 0) 20 0) 21 0) 22 0) 23 0) 24 0) 25 0) 26 0) 27 0) 28 0) 29 0) 30 0) 31 0) 32 0) 33 0) 34 0) 35 0) 36 0) 37 0) 38 0) 39 0) 40 0) 41 0) 42 0) 43 0) 44 0) 45 0) 46 0) 47 0) 48 0) 49 0) 50 0) 51 0) 52 0) 53 0) 54 0) 55 0)))] := hD
  refine lv_iinc (k := 0) (v := 56) hx hb d_Arrays_fill_f26_14 hl rfl (by decide) (by decide) rfl (fun ls hl => ?_)
  have hl : lv_has ls 4 [(2, .int 56), (3, .int 64), (0, .ref b), (1, .int 0)] := hl
  refine lv_goto hx hb d_Arrays_fill_f26_17 (tgt := 5) rfl ?_
  refine lv_iload_n hx hb d_Arrays_fill_f26_5 rfl (lv_at hl 0 rfl) ?_
  refine lv_iload_n hx hb d_Arrays_fill_f26_6 rfl (lv_at hl 1 rfl) ?_
  refine lv_icmp_ge hx hb d_Arrays_fill_f26_7 (tgt := 20) rfl (fun h9 => absurd h9 (by decide)) (fun _ => ?_)
  refine lv_aload_n hx hb d_Arrays_fill_f26_10 rfl (lv_at hl 2 rfl) ?_
  refine lv_iload_n hx hb d_Arrays_fill_f26_11 rfl (lv_at hl 0 rfl) ?_
  refine lv_iload_n hx hb d_Arrays_fill_f26_12 rfl (lv_at hl 3 rfl) ?_
  refine va_iast hx hb hK hP hD hS 0 1 rfl rfl (by unfold vp_in; decide) d_Arrays_fill_f26_13 (fun H locs hP hD hS => ?_)
  have hP : va_P D vwCl [(b, .inl (dA 1, 64, .inl (upd (upd (upd (upd (upd (upd (upd (upd (upd (upd (upd (upd (upd (upd (upd (upd (upd (upd (upd (upd (upd (upd (upd (upd (upd (upd (upd (upd (upd (upd (upd (upd (upd (upd (upd (upd (upd (upd (upd (upd (upd (upd (upd (upd (upd (upd (upd (upd (upd (upd (upd (upd (upd (upd (upd (upd (upd g 0 0) 1 0) 2 0) 3 0) 4 0) 5 0) 6 0) 7 0) 8 0) 9 0) 10 0) 11 0) 12 0) 13 0) 14 0) 15 0) 16 0) 17 0) 18 0) 19 0) 20 0) 21 0) 22 0) 23 0) 24 0) 25 0) 26 0) 27 0) 28 0) 29 0) 30 0) 31 0) 32 0) 33 0) 34 0) 35 0) 36 0) 37 0) 38 0) 39 0) 40 0) 41 0) 42 0) 43 0) 44 0) 45 0) 46 0) 47 0) 48 0) 49 0) 50 0) 51 0) 52 0) 53 0) 54 0) 55 0) 56 0)))] H := hP
  have hD : va_D A [(b, .inl (dA 1, 64, .inl (upd (upd (upd (upd (upd (upd (upd (upd (upd (upd (upd (upd (upd (upd (upd (upd (upd (upd (upd (upd (upd (upd (upd (upd (upd (upd (upd (upd (upd (upd (upd (upd (upd (upd (upd (upd (upd (upd (upd (upd (upd (upd (upd (upd (upd (upd (upd (upd (upd (upd (upd (upd (upd (upd (upd (upd (upd g 0 0) 1 0) 2 0) 3 0) 4 0) 5 0) 6 0) 7 0) 8 0) 9 0) 10 0) 11 0) 12 0) 13 0) 14 0) 15 0) 16 0) 17 0) 18 0) 19 0) 20 0) 21 0) 22 0) 23 0) 24 0) 25 0) 26 0) 27 0) 28 0) 29 0) 30 0) 31 0) 32 0) 33 0) 34 0) 35 0) 36 0) 37 0) 38 0) 39 0) 40 0) 41 0) 42 0) 43 0) 44 0) 45 0) 46 0) 47 0) 48 0) 49 0) 50 0) 51 0) 52 0) 53 0) 54 0) 55 0) 56 0)))] := hD
  refine lv_iinc (k := 0) (v := 57) hx hb d_Arrays_fill_f26_14 hl rfl (by decide) (by decide) rfl (fun ls hl => ?_)
  have hl : lv_has ls 4 [(2, .int 57), (3, .int 64), (0, .ref b), (1, .int 0)] := hl
  refine lv_goto hx hb d_Arrays_fill_f26_17 (tgt := 5) rfl ?_
  refine lv_iload_n hx hb d_Arrays_fill_f26_5 rfl (lv_at hl 0 rfl) ?_
  refine lv_iload_n hx hb d_Arrays_fill_f26_6 rfl (lv_at hl 1 rfl) ?_
  refine lv_icmp_ge hx hb d_Arrays_fill_f26_7 (tgt := 20) rfl (fun h9 => absurd h9 (by decide)) (fun _ => ?_)
  refine lv_aload_n hx hb d_Arrays_fill_f26_10 rfl (lv_at hl 2 rfl) ?_
  refine lv_iload_n hx hb d_Arrays_fill_f26_11 rfl (lv_at hl 0 rfl) ?_
  refine lv_iload_n hx hb d_Arrays_fill_f26_12 rfl (lv_at hl 3 rfl) ?_
  refine va_iast hx hb hK hP hD hS 0 1 rfl rfl (by unfold vp_in; decide) d_Arrays_fill_f26_13 (fun H locs hP hD hS => ?_)
  have hP : va_P D vwCl [(b, .inl (dA 1, 64, .inl (upd (upd (upd (upd (upd (upd (upd (upd (upd (upd (upd (upd (upd (upd (upd (upd (upd (upd (upd (upd (upd (upd (upd (upd (upd (upd (upd (upd (upd (upd (upd (upd (upd (upd (upd (upd (upd (upd (upd (upd (upd (upd (upd (upd (upd (upd (upd (upd (upd (upd (upd (upd (upd (upd (upd (upd (upd (upd g 0 0) 1 0) 2 0) 3 0) 4 0) 5 0) 6 0) 7 0) 8 0) 9 0) 10 0) 11 0) 12 0) 13 0) 14 0) 15 0) 16 0) 17 0) 18 0) 19 0) 20 0) 21 0) 22 0) 23 0) 24 0) 25 0) 26 0) 27 0) 28 0) 29 0) 30 0) 31 0) 32 0) 33 0) 34 0) 35 0) 36 0) 37 0) 38 0) 39 0) 40 0) 41 0) 42 0) 43 0) 44 0) 45 0) 46 0) 47 0) 48 0) 49 0) 50 0) 51 0) 52 0) 53 0) 54 0) 55 0) 56 0) 57 0)))] H := hP
  have hD : va_D A [(b, .inl (dA 1, 64, .inl (upd (upd (upd (upd (upd (upd (upd (upd (upd (upd (upd (upd (upd (upd (upd (upd (upd (upd (upd (upd (upd (upd (upd (upd (upd (upd (upd (upd (upd (upd (upd (upd (upd (upd (upd (upd (upd (upd (upd (upd (upd (upd (upd (upd (upd (upd (upd (upd (upd (upd (upd (upd (upd (upd (upd (upd (upd (upd g 0 0) 1 0) 2 0) 3 0) 4 0) 5 0) 6 0) 7 0) 8 0) 9 0) 10 0) 11 0) 12 0) 13 0) 14 0) 15 0) 16 0) 17 0) 18 0) 19 0) 20 0) 21 0) 22 0) 23 0) 24 0) 25 0) 26 0) 27 0) 28 0) 29 0) 30 0) 31 0) 32 0) 33 0) 34 0) 35 0) 36 0) 37 0) 38 0) 39 0) 40 0) 41 0) 42 0) 43 0) 44 0) 45 0) 46 0) 47 0) 48 0) 49 0) 50 0) 51 0) 52 0) 53 0) 54 0) 55 0) 56 0) 57 0)))] := hD
  refine lv_iinc (k := 0) (v := 58) hx hb d_Arrays_fill_f26_14 hl rfl (by decide) (by decide) rfl (fun ls hl => ?_)
  have hl : lv_has ls 4 [(2, .int 58), (3, .int 64), (0, .ref b), (1, .int 0)] := hl
  refine lv_goto hx hb d_Arrays_fill_f26_17 (tgt := 5) rfl ?_
  refine lv_iload_n hx hb d_Arrays_fill_f26_5 rfl (lv_at hl 0 rfl) ?_
  refine lv_iload_n hx hb d_Arrays_fill_f26_6 rfl (lv_at hl 1 rfl) ?_
  refine lv_icmp_ge hx hb d_Arrays_fill_f26_7 (tgt := 20) rfl (fun h9 => absurd h9 (by decide)) (fun _ => ?_)
  refine lv_aload_n hx hb d_Arrays_fill_f26_10 rfl (lv_at hl 2 rfl) ?_
  refine lv_iload_n hx hb d_Arrays_fill_f26_11 rfl (lv_at hl 0 rfl) ?_
  refine lv_iload_n hx hb d_Arrays_fill_f26_12 rfl (lv_at hl 3 rfl) ?_
  refine va_iast hx hb hK hP hD hS 0 1 rfl rfl (by unfold vp_in; decide) d_Arrays_fill_f26_13 (fun H locs hP hD hS => ?_)
  have hP : va_P D vwCl [(b, .inl (dA 1, 64, .inl (upd (upd (upd (upd (upd (upd (upd (upd (upd (upd (upd (upd (upd (upd (upd (upd (upd (upd (upd (upd (upd (upd (upd (upd (upd (upd (upd (upd (upd (upd (upd (upd (upd (upd (upd (upd (upd (upd (upd (upd (upd (upd (upd (upd (upd (upd (upd (upd (upd (upd (upd (upd (upd (upd (upd (upd (upd (upd (upd g 0 0) 1 0) 2 0) 3 0) 4 0) 5 0) 6 0) 7 0) 8 0) 9 0) 10 0) 11 0) 12 0) 13 0) 14 0) 15 0) 16 0) 17 0) 18 0) 19 0) 20 0) 21 0) 22 0) 23 0) 24 0) 25 0) 26 0) 27 0) 28 0) 29 0) 30 0) 31 0) 32 0) 33 0) 34 0) 35 0) 36 0) 37 0) 38 0) 39 0) 40 0) 41 0) 42 0) 43 0) 44 0) 45 0) 46 0) 47 0) 48 0) 49 0) 50 0) 51 0) 52 0) 53 0) 54 0) 55 0) 56 0) 57 0) 58 0)))] H := hP
  have hD : va_D A [(b, .inl (dA 1, 64, .inl (upd (upd (upd (upd (upd (upd (upd (upd (upd (upd (upd (upd (upd (upd (upd (upd (upd (upd (upd (upd (upd (upd (upd (upd (upd (upd (upd (upd (upd (upd (upd (upd (upd (upd (upd (upd (upd (upd (upd (upd (upd (upd (upd (upd (upd (upd (upd (upd (upd (upd (upd (upd (upd (upd (upd (upd (upd (upd (upd g 0 0) 1 0) 2 0) 3 0) 4 0) 5 0) 6 0) 7 0) 8 0) 9 0) 10 0) 11 0) 12 0) 13 0) 14 0) 15 0) 16 0) 17 0) 18 0) 19 0) 20 0) 21 0) 22 0) 23 0) 24 0) 25 0) 26 0) 27 0) 28 0) 29 0) 30 0) 31 0) 32 0) 33 0) 34 0) 35 0) 36 0) 37 0) 38 0) 39 0) 40 0) 41 0) 42 0) 43 0) 44 0) 45 0) 46 0) 47 0) 48 0) 49 0) 50 0) 51 0) 52 0) 53 0) 54 0) 55 0) 56 0) 57 0) 58 0)))] := hD
  refine lv_iinc (k := 0) (v := 59) hx hb d_Arrays_fill_f26_14 hl rfl (by decide) (by decide) rfl (fun ls hl => ?_)
  have hl : lv_has ls 4 [(2, .int 59), (3, .int 64), (0, .ref b), (1, .int 0)] := hl
  refine lv_goto hx hb d_Arrays_fill_f26_17 (tgt := 5) rfl ?_
  refine lv_iload_n hx hb d_Arrays_fill_f26_5 rfl (lv_at hl 0 rfl) ?_
  refine lv_iload_n hx hb d_Arrays_fill_f26_6 rfl (lv_at hl 1 rfl) ?_
  refine lv_icmp_ge hx hb d_Arrays_fill_f26_7 (tgt := 20) rfl (fun h9 => absurd h9 (by decide)) (fun _ => ?_)
  refine lv_aload_n hx hb d_Arrays_fill_f26_10 rfl (lv_at hl 2 rfl) ?_
  refine lv_iload_n hx hb d_Arrays_fill_f26_11 rfl (lv_at hl 0 rfl) ?_
  refine lv_iload_n hx hb d_Arrays_fill_f26_12 rfl (lv_at hl 3 rfl) ?_
  refine va_iast hx hb hK hP hD hS 0 1 rfl rfl (by unfold vp_in; decide) d_Arrays_fill_f26_13 (fun H locs hP hD hS => ?_)
  have hP : va_P D vwCl [(b, .inl (dA 1, 64, .inl (upd (upd (upd (upd (upd (upd (upd (upd (upd (upd (upd (upd (upd (upd (upd (upd (upd (upd (upd (upd (upd (upd (upd (upd (upd (upd (upd (upd (upd (upd (upd (upd (upd (upd (upd (upd (upd (upd (upd (upd (upd (upd (upd (upd (upd (upd (upd (upd (upd (upd (upd (upd (upd (upd (upd (upd (upd (upd (upd (upd g 0 0) 1 0) 2 0) 3 0) 4 0) 5 0) 6 0) 7 0) 8 0) 9 0) 10 0) 11 0) 12 0) 13 0) 14 0) 15 0) 16 0) 17 0) 18 0) 19 0) 20 0) 21 0) 22 0) 23 0) 24 0) 25 0) 26 0) 27 0) 28 0) 29 0) 30 0) 31 0) 32 0) 33 0) 34 0) 35 0) 36 0) 37 0) 38 0) 39 0) 40 0) 41 0) 42 0) 43 0) 44 0) 45 0) 46 0) 47 0) 48 0) 49 0) 50 0) 51 0) 52 0) 53 0) 54 0) 55 0) 56 0) 57 0) 58 0) 59 0)))] H := hP
  have hD : va_D A [(b, .inl (dA 1, 64, .inl (upd (upd (upd (upd (upd (upd (upd (upd (upd (upd (upd (upd (upd (upd (upd (upd (upd (upd (upd (upd (upd (upd (upd (upd (upd (upd (upd (upd (upd (upd (upd (upd (upd (upd (upd (upd (upd (upd (upd (upd (upd (upd (upd (upd (upd (upd (upd (upd (upd (upd (upd (upd (upd (upd (upd (upd (upd (upd (upd (upd g 0 0) 1 0) 2 0) 3 0) 4 0) 5 0) 6 0) 7 0) 8 0) 9 0) 10 0) 11 0) 12 0) 13 0) 14 0) 15 0) 16 0) 17 0) 18 0) 19 0) 20 0) 21 0) 22 0) 23 0) 24 0) 25 0) 26 0) 27 0) 28 0) 29 0) 30 0) 31 0) 32 0) 33 0) 34 0) 35 0) 36 0) 37 0) 38 0) 39 0) 40 0) 41 0) 42 0) 43 0) 44 0) 45 0) 46 0) 47 0) 48 0) 49 0) 50 0) 51 0) 52 0) 53 0) 54 0) 55 0) 56 0) 57 0) 58 0) 59 0)))] := hD
  refine lv_iinc (k := 0) (v := 60) hx hb d_Arrays_fill_f26_14 hl rfl (by decide) (by decide) rfl (fun ls hl => ?_)
  have hl : lv_has ls 4 [(2, .int 60), (3, .int 64), (0, .ref b), (1, .int 0)] := hl
  refine lv_goto hx hb d_Arrays_fill_f26_17 (tgt := 5) rfl ?_
  refine lv_iload_n hx hb d_Arrays_fill_f26_5 rfl (lv_at hl 0 rfl) ?_
  refine lv_iload_n hx hb d_Arrays_fill_f26_6 rfl (lv_at hl 1 rfl) ?_
  refine lv_icmp_ge hx hb d_Arrays_fill_f26_7 (tgt := 20) rfl (fun h9 => absurd h9 (by decide)) (fun _ => ?_)
  refine lv_aload_n hx hb d_Arrays_fill_f26_10 rfl (lv_at hl 2 rfl) ?_
  refine lv_iload_n hx hb d_Arrays_fill_f26_11 rfl (lv_at hl 0 rfl) ?_
  refine lv_iload_n hx hb d_Arrays_fill_f26_12 rfl (lv_at hl 3 rfl) ?_
  refine va_iast hx hb hK hP hD hS 0 1 rfl rfl (by unfold vp_in; decide) d_Arrays_fill_f26_13 (fun H locs hP hD hS => ?_)
  have hP : va_P D vwCl [(b, .inl (dA 1, 64, .inl (upd (upd (upd (upd (upd (upd (upd (upd (upd (upd (upd (upd (upd (upd (upd (upd (upd (upd (upd (upd (upd (upd (upd (upd (upd (upd (upd (upd (upd (upd (upd (upd (upd (upd (upd (upd (upd (upd (upd (upd (upd (upd (upd (upd (upd (upd (upd (upd (upd (upd (upd (upd (upd (upd (upd (upd (upd (upd (upd (upd (upd g 0 0) 1 0) 2 0) 3 0) 4 0) 5 0) 6 0) 7 0) 8 0) 9 0) 10 0) 11 0) 12 0) 13 0) 14 0) 15 0) 16 0) 17 0) 18 0) 19 0) 20 0) 21 0) 22 0) 23 0) 24 0) 25 0) 26 0) 27 0) 28 0) 29 0) 30 0) 31 0) 32 0) 33 0) 34 0) 35 0) 36 0) 37 0) 38 0) 39 0) 40 0) 41 0) 42 0) 43 0) 44 0) 45 0) 46 0) 47 0) 48 0) 49 0) 50 0) 51 0) 52 0) 53 0) 54 0) 55 0) 56 0) 57 0) 58 0) 59 0) 60 0)))] H := hP
  have hD : va_D A [(b, .inl (dA 1, 64, .inl (upd (upd (upd (upd (upd (upd (upd (upd (upd (upd (upd (upd (upd (upd (upd (upd (upd (upd (upd (upd (upd (upd (upd (upd (upd (upd (upd (upd (upd (upd (upd (upd (upd (upd (upd (upd (upd (upd (upd (upd (upd (upd (upd (upd (upd (upd (upd (upd (upd (upd (upd (upd (upd (upd (upd (upd (upd (upd (upd (upd (upd g 0 0) 1 0) 2 0) 3 0) 4 0) 5 0) 6 0) 7 0) 8 0) 9 0) 10 0) 11 0) 12 0) 13 0) 14 0) 15 0) 16 0) 17 0) 18 0) 19 0) 20 0) 21 0) 22 0) 23 0) 24 0) 25 0) 26 0) 27 0) 28 0) 29 0) 30 0) 31 0) 32 0) 33 0) 34 0) 35 0) 36 0) 37 0) 38 0) 39 0) 40 0) 41 0) 42 0) 43 0) 44 0) 45 0) 46 0) 47 0) 48 0) 49 0) 50 0) 51 0) 52 0) 53 0) 54 0) 55 0) 56 0) 57 0) 58 0) 59 0) 60 0)))] := hD
  refine lv_iinc (k := 0) (v := 61) hx hb d_Arrays_fill_f26_14 hl rfl (by decide) (by decide) rfl (fun ls hl => ?_)
  have hl : lv_has ls 4 [(2, .int 61), (3, .int 64), (0, .ref b), (1, .int 0)] := hl
  refine lv_goto hx hb d_Arrays_fill_f26_17 (tgt := 5) rfl ?_
  refine lv_iload_n hx hb d_Arrays_fill_f26_5 rfl (lv_at hl 0 rfl) ?_
  refine lv_iload_n hx hb d_Arrays_fill_f26_6 rfl (lv_at hl 1 rfl) ?_
  refine lv_icmp_ge hx hb d_Arrays_fill_f26_7 (tgt := 20) rfl (fun h9 => absurd h9 (by decide)) (fun _ => ?_)
  refine lv_aload_n hx hb d_Arrays_fill_f26_10 rfl (lv_at hl 2 rfl) ?_
  refine lv_iload_n hx hb d_Arrays_fill_f26_11 rfl (lv_at hl 0 rfl) ?_
  refine lv_iload_n hx hb d_Arrays_fill_f26_12 rfl (lv_at hl 3 rfl) ?_
  refine va_iast hx hb hK hP hD hS 0 1 rfl rfl (by unfold vp_in; decide) d_Arrays_fill_f26_13 (fun H locs hP hD hS => ?_)
  have hP : va_P D vwCl [(b, .inl (dA 1, 64, .inl (upd (upd (upd (upd (upd (upd (upd (upd (upd (upd (upd (upd (upd (upd (upd (upd (upd (upd (upd (upd (upd (upd (upd (upd (upd (upd (upd (upd (upd (upd (upd (upd (upd (upd (upd (upd (upd (upd (upd (upd (upd (upd (upd (upd (upd (upd (upd (upd (upd (upd (upd (upd (upd (upd (upd (upd (upd (upd (upd (upd (upd (upd g 0 0) 1 0) 2 0) 3 0) 4 0) 5 0) 6 0) 7 0) 8 0) 9 0) 10 0) 11 0) 12 0) 13 0) 14 0) 15 0) 16 0) 17 0) 18 0) 19 0) 20 0) 21 0) 22 0) 23 0) 24 0) 25 0) 26 0) 27 0) 28 0) 29 0) 30 0) 31 0) 32 0) 33 0) 34 0) 35 0) 36 0) 37 0) 38 0) 39 0) 40 0) 41 0) 42 0) 43 0) 44 0) 45 0) 46 0) 47 0) 48 0) 49 0) 50 0) 51 0) 52 0) 53 0) 54 0) 55 0) 56 0) 57 0) 58 0) 59 0) 60 0) 61 0)))] H := hP
  have hD : va_D A [(b, .inl (dA 1, 64, .inl (upd (upd (upd (upd (upd (upd (upd (upd (upd (upd (upd (upd (upd (upd (upd (upd (upd (upd (upd (upd (upd (upd (upd (upd (upd (upd (upd (upd (upd (upd (upd (upd (upd (upd (upd (upd (upd (upd (upd (upd (upd (upd (upd (upd (upd (upd (upd (upd (upd (upd (upd (upd (upd (upd (upd (upd (upd (upd (upd (upd (upd (upd g 0 0) 1 0) 2 0) 3 0) 4 0) 5 0) 6 0) 7 0) 8 0) 9 0) 10 0) 11 0) 12 0) 13 0) 14 0) 15 0) 16 0) 17 0) 18 0) 19 0) 20 0) 21 0) 22 0) 23 0) 24 0) 25 0) 26 0) 27 0) 28 0) 29 0) 30 0) 31 0) 32 0) 33 0) 34 0) 35 0) 36 0) 37 0) 38 0) 39 0) 40 0) 41 0) 42 0) 43 0) 44 0) 45 0) 46 0) 47 0) 48 0) 49 0) 50 0) 51 0) 52 0) 53 0) 54 0) 55 0) 56 0) 57 0) 58 0) 59 0) 60 0) 61 0)))] := hD
  refine lv_iinc (k := 0) (v := 62) hx hb d_Arrays_fill_f26_14 hl rfl (by decide) (by decide) rfl (fun ls hl => ?_)
  have hl : lv_has ls 4 [(2, .int 62), (3, .int 64), (0, .ref b), (1, .int 0)] := hl
  refine lv_goto hx hb d_Arrays_fill_f26_17 (tgt := 5) rfl ?_
  refine lv_iload_n hx hb d_Arrays_fill_f26_5 rfl (lv_at hl 0 rfl) ?_
  refine lv_iload_n hx hb d_Arrays_fill_f26_6 rfl (lv_at hl 1 rfl) ?_
  refine lv_icmp_ge hx hb d_Arrays_fill_f26_7 (tgt := 20) rfl (fun h9 => absurd h9 (by decide)) (fun _ => ?_)
  refine lv_aload_n hx hb d_Arrays_fill_f26_10 rfl (lv_at hl 2 rfl) ?_
  refine lv_iload_n hx hb d_Arrays_fill_f26_11 rfl (lv_at hl 0 rfl) ?_
  refine lv_iload_n hx hb d_Arrays_fill_f26_12 rfl (lv_at hl 3 rfl) ?_
  refine va_iast hx hb hK hP hD hS 0 1 rfl rfl (by unfold vp_in; decide) d_Arrays_fill_f26_13 (fun H locs hP hD hS => ?_)
  have hP : va_P D vwCl [(b, .inl (dA 1, 64, .inl (upd (upd (upd (upd (upd (upd (upd (upd (upd (upd (upd (upd (upd (upd (upd (upd (upd (upd (upd (upd (upd (upd (upd (upd (upd (upd (upd (upd (upd (upd (upd (upd (upd (upd (upd (upd (upd (upd (upd (upd (upd (upd (upd (upd (upd (upd (upd (upd (upd (upd (upd (upd (upd (upd (upd (upd (upd (upd (upd (upd (upd (upd (upd g 0 0) 1 0) 2 0) 3 0) 4 0) 5 0) 6 0) 7 0) 8 0) 9 0) 10 0) 11 0) 12 0) 13 0) 14 0) 15 0) 16 0) 17 0) 18 0) 19 0) 20 0) 21 0) 22 0) 23 0) 24 0) 25 0) 26 0) 27 0) 28 0) 29 0) 30 0) 31 0) 32 0) 33 0) 34 0) 35 0) 36 0) 37 0) 38 0) 39 0) 40 0) 41 0) 42 0) 43 0) 44 0) 45 0) 46 0) 47 0) 48 0) 49 0) 50 0) 51 0) 52 0) 53 0) 54 0) 55 0) 56 0) 57 0) 58 0) 59 0) 60 0) 61 0) 62 0)))] H := hP
  have hD : va_D A [(b, .inl (dA 1, 64, .inl (upd (upd (upd (upd (upd (upd (upd (upd (upd (upd (upd (upd (upd (upd (upd (upd (upd (upd (upd (upd (upd (upd (upd (upd (upd (upd (upd (upd (upd (upd (upd (upd (upd (upd (upd (upd (upd (upd (upd (upd (upd (upd (upd (upd (upd (upd (upd (upd (upd (upd (upd (upd (upd (upd (upd (upd (upd (upd (upd (upd (upd (upd (upd g 0 0) 1 0) 2 0) 3 0) 4 0) 5 0) 6 0) 7 0) 8 0) 9 0) 10 0) 11 0) 12 0) 13 0) 14 0) 15 0) 16 0) 17 0) 18 0) 19 0) 20 0) 21 0) 22 0) 23 0) 24 0) 25 0) 26 0) 27 0) 28 0) 29 0) 30 0) 31 0) 32 0) 33 0) 34 0) 35 0) 36 0) 37 0) 38 0) 39 0) 40 0) 41 0) 42 0) 43 0) 44 0) 45 0) 46 0) 47 0) 48 0) 49 0) 50 0) 51 0) 52 0) 53 0) 54 0) 55 0) 56 0) 57 0) 58 0) 59 0) 60 0) 61 0) 62 0)))] := hD
  refine lv_iinc (k := 0) (v := 63) hx hb d_Arrays_fill_f26_14 hl rfl (by decide) (by decide) rfl (fun ls hl => ?_)
  have hl : lv_has ls 4 [(2, .int 63), (3, .int 64), (0, .ref b), (1, .int 0)] := hl
  refine lv_goto hx hb d_Arrays_fill_f26_17 (tgt := 5) rfl ?_
  refine lv_iload_n hx hb d_Arrays_fill_f26_5 rfl (lv_at hl 0 rfl) ?_
  refine lv_iload_n hx hb d_Arrays_fill_f26_6 rfl (lv_at hl 1 rfl) ?_
  refine lv_icmp_ge hx hb d_Arrays_fill_f26_7 (tgt := 20) rfl (fun h9 => absurd h9 (by decide)) (fun _ => ?_)
  refine lv_aload_n hx hb d_Arrays_fill_f26_10 rfl (lv_at hl 2 rfl) ?_
  refine lv_iload_n hx hb d_Arrays_fill_f26_11 rfl (lv_at hl 0 rfl) ?_
  refine lv_iload_n hx hb d_Arrays_fill_f26_12 rfl (lv_at hl 3 rfl) ?_
  refine va_iast hx hb hK hP hD hS 0 1 rfl rfl (by unfold vp_in; decide) d_Arrays_fill_f26_13 (fun H locs hP hD hS => ?_)
  have hP : va_P D vwCl [(b, .inl (dA 1, 64, .inl (upd (upd (upd (upd (upd (upd (upd (upd (upd (upd (upd (upd (upd (upd (upd (upd (upd (upd (upd (upd (upd (upd (upd (upd (upd (upd (upd (upd (upd (upd (upd (upd (upd (upd (upd (upd (upd (upd (upd (upd (upd (upd (upd (upd (upd (upd (upd (upd (upd (upd (upd (upd (upd (upd (upd (upd (upd (upd (upd (upd (upd (upd (upd (upd g 0 0) 1 0) 2 0) 3 0) 4 0) 5 0) 6 0) 7 0) 8 0) 9 0) 10 0) 11 0) 12 0) 13 0) 14 0) 15 0) 16 0) 17 0) 18 0) 19 0) 20 0) 21 0) 22 0) 23 0) 24 0) 25 0) 26 0) 27 0) 28 0) 29 0) 30 0) 31 0) 32 0) 33 0) 34 0) 35 0) 36 0) 37 0) 38 0) 39 0) 40 0) 41 0) 42 0) 43 0) 44 0) 45 0) 46 0) 47 0) 48 0) 49 0) 50 0) 51 0) 52 0) 53 0) 54 0) 55 0) 56 0) 57 0) 58 0) 59 0) 60 0) 61 0) 62 0) 63 0)))] H := hP
  have hD : va_D A [(b, .inl (dA 1, 64, .inl (upd (upd (upd (upd (upd (upd (upd (upd (upd (upd (upd (upd (upd (upd (upd (upd (upd (upd (upd (upd (upd (upd (upd (upd (upd (upd (upd (upd (upd (upd (upd (upd (upd (upd (upd (upd (upd (upd (upd (upd (upd (upd (upd (upd (upd (upd (upd (upd (upd (upd (upd (upd (upd (upd (upd (upd (upd (upd (upd (upd (upd (upd (upd (upd g 0 0) 1 0) 2 0) 3 0) 4 0) 5 0) 6 0) 7 0) 8 0) 9 0) 10 0) 11 0) 12 0) 13 0) 14 0) 15 0) 16 0) 17 0) 18 0) 19 0) 20 0) 21 0) 22 0) 23 0) 24 0) 25 0) 26 0) 27 0) 28 0) 29 0) 30 0) 31 0) 32 0) 33 0) 34 0) 35 0) 36 0) 37 0) 38 0) 39 0) 40 0) 41 0) 42 0) 43 0) 44 0) 45 0) 46 0) 47 0) 48 0) 49 0) 50 0) 51 0) 52 0) 53 0) 54 0) 55 0) 56 0) 57 0) 58 0) 59 0) 60 0) 61 0) 62 0) 63 0)))] := hD
  refine lv_iinc (k := 0) (v := 64) hx hb d_Arrays_fill_f26_14 hl rfl (by decide) (by decide) rfl (fun ls hl => ?_)
  have hl : lv_has ls 4 [(2, .int 64), (3, .int 64), (0, .ref b), (1, .int 0)] := hl
  refine lv_goto hx hb d_Arrays_fill_f26_17 (tgt := 5) rfl ?_
  refine lv_iload_n hx hb d_Arrays_fill_f26_5 rfl (lv_at hl 0 rfl) ?_
  refine lv_iload_n hx hb d_Arrays_fill_f26_6 rfl (lv_at hl 1 rfl) ?_
  refine lv_icmp_ge hx hb d_Arrays_fill_f26_7 (tgt := 20) rfl (fun _ => ?_) (fun h9 => absurd (by decide) h9)
  exact rtV hx hb hr hlk hP hD hS () trivial [0] rfl rfl (by decide) (Nat.le_of_ble_eq_true rfl) (Nat.le_of_ble_eq_true rfl) d_Arrays_fill_f26_20
theorem d_H_endScars_0 : decode prog_9_method_12_code 0 = .ok (.aload_n 0, 1) := by decide +kernel
theorem d_H_endScars_1 : decode prog_9_method_12_code 1 = .ok (.getfield 28, 3) := by decide +kernel
theorem d_H_endScars_4 : decode prog_9_method_12_code 4 = .ok (.iconst 0, 1) := by decide +kernel
theorem d_H_endScars_5 : decode prog_9_method_12_code 5 = .ok (.invokestatic 74, 3) := by decide +kernel
theorem d_H_endScars_8 : decode prog_9_method_12_code 8 = .ok (.iconst 0, 1) := by decide +kernel
theorem d_H_endScars_9 : decode prog_9_method_12_code 9 = .ok (.istore_n 1, 1) := by decide +kernel
theorem d_H_endScars_10 : decode prog_9_method_12_code 10 = .ok (.iload_n 1, 1) := by decide +kernel
theorem d_H_endScars_11 : decode prog_9_method_12_code 11 = .ok (.aload_n 0, 1) := by decide +kernel
theorem d_H_endScars_12 : decode prog_9_method_12_code 12 = .ok (.getfield 34, 3) := by decide +kernel
theorem d_H_endScars_15 : decode prog_9_method_12_code 15 = .ok (.if_icmp .ge 19, 3) := by decide +kernel
theorem d_H_endScars_34 : decode prog_9_method_12_code 34 = .ok (.iconst 0, 1) := by decide +kernel
theorem d_H_endScars_35 : decode prog_9_method_12_code 35 = .ok (.istore_n 1, 1) := by decide +kernel
theorem d_H_endScars_36 : decode prog_9_method_12_code 36 = .ok (.iconst 0, 1) := by decide +kernel
theorem d_H_endScars_37 : decode prog_9_method_12_code 37 = .ok (.istore_n 2, 1) := by decide +kernel
theorem d_H_endScars_38 : decode prog_9_method_12_code 38 = .ok (.iload_n 2, 1) := by decide +kernel
theorem d_H_endScars_39 : decode prog_9_method_12_code 39 = .ok (.aload_n 0, 1) := by decide +kernel
theorem d_H_endScars_40 : decode prog_9_method_12_code 40 = .ok (.getfield 38, 3) := by decide +kernel
theorem d_H_endScars_43 : decode prog_9_method_12_code 43 = .ok (.if_icmp .ge 57, 3) := by decide +kernel
theorem d_H_endScars_100 : decode prog_9_method_12_code 100 = .ok (.aload_n 0, 1) := by decide +kernel
theorem d_H_endScars_101 : decode prog_9_method_12_code 101 = .ok (.iload_n 1, 1) := by decide +kernel
theorem d_H_endScars_102 : decode prog_9_method_12_code 102 = .ok (.putfield 38, 3) := by decide +kernel
theorem d_H_endScars_105 : decode prog_9_method_12_code 105 = .ok (.return_, 1) := by decide +kernel
theorem w711 : Cond.methodLink "SeriesVault$Shelf" 74 ⟨"java/util/Arrays", "fill", "([II)V"⟩ ∈ aW := aw_of (tb_6 (List.mem_of_getElem? (i := 140) rfl)) rfl
theorem w712 : Cond.initialized "java/util/Arrays" ∈ aW := aw_of (tb_1 (List.mem_of_getElem? (i := 14) rfl)) rfl
theorem w713 : Cond.code ⟨"java/util/Arrays", "fill", "([II)V"⟩ prog_38_method_103_code 4 none ∈ aW := aw_of (tb_6 (List.mem_of_getElem? (i := 142) rfl)) rfl
theorem w714 : Cond.static ⟨"java/util/Arrays", "fill", "([II)V"⟩ ∈ aW := aw_of (tb_6 (List.mem_of_getElem? (i := 141) rfl)) rfl
set_option maxHeartbeats 4000000 in
set_option maxRecDepth 100000 in
theorem c_H_endScars_0 (l : Launch) (D : va_G) (dA : Nat → ClassId) (sz : Nat) (a : Nat) (fs : List Value) (b : Nat) (g : Nat → Int32) (h_fs_parcelCount : fs[1]? = some (.int 0)) (h_fs_scarPoints : fs[5]? = some (.ref b)) (h_fs_scarCount : fs[6]? = some (.int 0)) (hl_fs : fs.length = 11) : Met l ⟨"SeriesVault$Shelf", "endScars", "()V"⟩ [Cond.code ⟨"SeriesVault$Shelf", "endScars", "()V"⟩ prog_9_method_12_code 3 none] { frames := 2, cells := 0, slots := 0, locals := 23 } (pC D dA [.ref a] [(a, .inr (3, fs)), (b, .inl (dA 1, 64, .inl g))] sz) (va_Qv (fun (_ : Unit) => True) (fun (u9 : Unit) t9 => bW D (va_A [(a, .inr (3, fs)), (b, .inl (dA 1, 64, .inl g))] sz) [(a, .inr (3, (fs.set 6 (.int 0)))), (b, .inl (dA 1, 64, .inl (upd (upd (upd (upd (upd (upd (upd (upd (upd (upd (upd (upd (upd (upd (upd (upd (upd (upd (upd (upd (upd (upd (upd (upd (upd (upd (upd (upd (upd (upd (upd (upd (upd (upd (upd (upd (upd (upd (upd (upd (upd (upd (upd (upd (upd (upd (upd (upd (upd (upd (upd (upd (upd (upd (upd (upd (upd (upd (upd (upd (upd (upd (upd (upd g 0 0) 1 0) 2 0) 3 0) 4 0) 5 0) 6 0) 7 0) 8 0) 9 0) 10 0) 11 0) 12 0) 13 0) 14 0) 15 0) 16 0) 17 0) 18 0) 19 0) 20 0) 21 0) 22 0) 23 0) 24 0) 25 0) 26 0) 27 0) 28 0) 29 0) 30 0) 31 0) 32 0) 33 0) 34 0) 35 0) 36 0) 37 0) 38 0) 39 0) 40 0) 41 0) 42 0) 43 0) 44 0) 45 0) 46 0) 47 0) 48 0) 49 0) 50 0) 51 0) 52 0) 53 0) 54 0) 55 0) 56 0) 57 0) 58 0) 59 0) 60 0) 61 0) 62 0) 63 0)))] t9) (va_A [(a, .inr (3, fs)), (b, .inl (dA 1, 64, .inl g))] sz)) 0 0 (va_A [(a, .inr (3, fs)), (b, .inl (dA 1, 64, .inl g))] sz) := by
  refine mkC (y := ⟨"SeriesVault$Shelf", "endScars", "()V"⟩) (cc := prog_9_method_12_code) (maxL := 3) (av := [.ref a]) (ws := [(a, .inr (3, fs)), (b, .inl (dA 1, 64, .inl g))]) (sz := sz) (Qc := fun A => va_Qv (fun (_ : Unit) => True) (fun (u9 : Unit) t9 => bW D A [(a, .inr (3, (fs.set 6 (.int 0)))), (b, .inl (dA 1, 64, .inl (upd (upd (upd (upd (upd (upd (upd (upd (upd (upd (upd (upd (upd (upd (upd (upd (upd (upd (upd (upd (upd (upd (upd (upd (upd (upd (upd (upd (upd (upd (upd (upd (upd (upd (upd (upd (upd (upd (upd (upd (upd (upd (upd (upd (upd (upd (upd (upd (upd (upd (upd (upd (upd (upd (upd (upd (upd (upd (upd (upd (upd (upd (upd (upd g 0 0) 1 0) 2 0) 3 0) 4 0) 5 0) 6 0) 7 0) 8 0) 9 0) 10 0) 11 0) 12 0) 13 0) 14 0) 15 0) 16 0) 17 0) 18 0) 19 0) 20 0) 21 0) 22 0) 23 0) 24 0) 25 0) 26 0) 27 0) 28 0) 29 0) 30 0) 31 0) 32 0) 33 0) 34 0) 35 0) 36 0) 37 0) 38 0) 39 0) 40 0) 41 0) 42 0) 43 0) 44 0) 45 0) 46 0) 47 0) 48 0) 49 0) 50 0) 51 0) 52 0) 53 0) 54 0) 55 0) 56 0) 57 0) 58 0) 59 0) 60 0) 61 0) 62 0) 63 0)))] t9) A) (by decide) (Nat.le_of_ble_eq_true rfl) ?_
  intro A p e s m below meth c ls hsz hB
  obtain ⟨hx, hb, hr, hml, hown, hin, hlk, hE, hK, hP, hD, hS, hA, hN, hl⟩ := hB
  have hown : s.vm.findClass "SeriesVault$Shelf" = some m.cls := hown
  have hin : meth.name = "endScars" := hin
  have hl : lv_has ls 3 [(0, .ref a)] := hl
  obtain ⟨H, hH⟩ : ∃ z, z = s.heap := ⟨_, rfl⟩
  have hP : va_P D vwCl [(a, .inr (3, fs)), (b, .inl (dA 1, 64, .inl g))] H := by rw [hH]; exact hP
  have hS : va_S A s.heap H [] := by rw [hH]; exact hS
  rw [← hH]
  refine lv_aload_n hx hb d_H_endScars_0 rfl (lv_at hl 0 rfl) ?_
  refine gF (v := .ref b) hx hb hown hE hK hP 0 rfl rfl layH 5 (by decide) w203 h_fs_scarPoints d_H_endScars_1 ?_
  refine lv_iconst (v := 0) hx hb d_H_endScars_4 (by decide) ?_
  have hPc := hP.sub (ws' := [(b, .inl (dA 1, 64, .inl g))]) [1] rfl
  have hDc := hD.sub (ws' := [(b, .inl (dA 1, 64, .inl g))]) [1] (by decide) rfl
  refine jnV (rnS (As := [.ref b, .int 0]) (rest := []) hx hb hml hown hE hK (hN _ _ hS) hPc hDc (c_fill64 l D dA H.size b g) w713 w711 w714 w712 rfl rfl ⟨⟨by decide, by decide⟩, rfl⟩ ⟨(Nat.le_of_ble_eq_true rfl), (Nat.le_of_ble_eq_true rfl)⟩ rfl hl.1 rfl (Nat.le_of_ble_eq_true rfl) d_H_endScars_5 ⟨(Nat.le_of_ble_eq_true rfl), (Nat.le_of_ble_eq_true rfl)⟩) hP hD hS hA [1] [0] (wr := [(a, .inr (3, fs))]) rfl rfl (by decide) (by decide) (fun u9 H locs hp9 hP hD hS => ?_)
  have hP : va_P D vwCl [(a, .inr (3, fs)), (b, .inl (dA 1, 64, .inl (upd (upd (upd (upd (upd (upd (upd (upd (upd (upd (upd (upd (upd (upd (upd (upd (upd (upd (upd (upd (upd (upd (upd (upd (upd (upd (upd (upd (upd (upd (upd (upd (upd (upd (upd (upd (upd (upd (upd (upd (upd (upd (upd (upd (upd (upd (upd (upd (upd (upd (upd (upd (upd (upd (upd (upd (upd (upd (upd (upd (upd (upd (upd (upd g 0 0) 1 0) 2 0) 3 0) 4 0) 5 0) 6 0) 7 0) 8 0) 9 0) 10 0) 11 0) 12 0) 13 0) 14 0) 15 0) 16 0) 17 0) 18 0) 19 0) 20 0) 21 0) 22 0) 23 0) 24 0) 25 0) 26 0) 27 0) 28 0) 29 0) 30 0) 31 0) 32 0) 33 0) 34 0) 35 0) 36 0) 37 0) 38 0) 39 0) 40 0) 41 0) 42 0) 43 0) 44 0) 45 0) 46 0) 47 0) 48 0) 49 0) 50 0) 51 0) 52 0) 53 0) 54 0) 55 0) 56 0) 57 0) 58 0) 59 0) 60 0) 61 0) 62 0) 63 0)))] H := hP
  have hD : va_D A [(a, .inr (3, fs)), (b, .inl (dA 1, 64, .inl (upd (upd (upd (upd (upd (upd (upd (upd (upd (upd (upd (upd (upd (upd (upd (upd (upd (upd (upd (upd (upd (upd (upd (upd (upd (upd (upd (upd (upd (upd (upd (upd (upd (upd (upd (upd (upd (upd (upd (upd (upd (upd (upd (upd (upd (upd (upd (upd (upd (upd (upd (upd (upd (upd (upd (upd (upd (upd (upd (upd (upd (upd (upd (upd g 0 0) 1 0) 2 0) 3 0) 4 0) 5 0) 6 0) 7 0) 8 0) 9 0) 10 0) 11 0) 12 0) 13 0) 14 0) 15 0) 16 0) 17 0) 18 0) 19 0) 20 0) 21 0) 22 0) 23 0) 24 0) 25 0) 26 0) 27 0) 28 0) 29 0) 30 0) 31 0) 32 0) 33 0) 34 0) 35 0) 36 0) 37 0) 38 0) 39 0) 40 0) 41 0) 42 0) 43 0) 44 0) 45 0) 46 0) 47 0) 48 0) 49 0) 50 0) 51 0) 52 0) 53 0) 54 0) 55 0) 56 0) 57 0) 58 0) 59 0) 60 0) 61 0) 62 0) 63 0)))] := hD
  refine lv_iconst (v := 0) hx hb d_H_endScars_8 (by decide) ?_
  refine lv_istore_n hx hb d_H_endScars_9 rfl hl (by decide) rfl (fun ls hl => ?_)
  have hl : lv_has ls 3 [(1, .int 0), (0, .ref a)] := hl
  refine lv_iload_n hx hb d_H_endScars_10 rfl (lv_at hl 0 rfl) ?_
  refine lv_aload_n hx hb d_H_endScars_11 rfl (lv_at hl 1 rfl) ?_
  refine gF (v := .int 0) hx hb hown hE hK hP 0 rfl rfl layH 1 (by decide) w566 h_fs_parcelCount d_H_endScars_12 ?_
  refine lv_icmp_ge hx hb d_H_endScars_15 (tgt := 34) rfl (fun _ => ?_) (fun h9 => absurd (by decide) h9)
  refine lv_iconst (v := 0) hx hb d_H_endScars_34 (by decide) ?_
  refine lv_istore_n hx hb d_H_endScars_35 rfl hl (by decide) rfl (fun ls hl => ?_)
  have hl : lv_has ls 3 [(1, .int 0), (0, .ref a)] := hl
  refine lv_iconst (v := 0) hx hb d_H_endScars_36 (by decide) ?_
  refine lv_istore_n hx hb d_H_endScars_37 rfl hl (by decide) rfl (fun ls hl => ?_)
  have hl : lv_has ls 3 [(2, .int 0), (1, .int 0), (0, .ref a)] := hl
  refine lv_iload_n hx hb d_H_endScars_38 rfl (lv_at hl 0 rfl) ?_
  refine lv_aload_n hx hb d_H_endScars_39 rfl (lv_at hl 2 rfl) ?_
  refine gF (v := .int 0) hx hb hown hE hK hP 0 rfl rfl layH 6 (by decide) w567 h_fs_scarCount d_H_endScars_40 ?_
  refine lv_icmp_ge hx hb d_H_endScars_43 (tgt := 100) rfl (fun _ => ?_) (fun h9 => absurd (by decide) h9)
  refine lv_aload_n hx hb d_H_endScars_100 rfl (lv_at hl 2 rfl) ?_
  refine lv_iload_n hx hb d_H_endScars_101 rfl (lv_at hl 1 rfl) ?_
  refine pF hx hb hown hE hK hP hD hS 0 rfl rfl layH tyH tokH nmH 6 (by decide) w567 rfl rfl rfl (by simp [hl_fs]) d_H_endScars_102 (fun H locs hP hD hS => ?_)
  have hP : va_P D vwCl [(a, .inr (3, (fs.set 6 (.int 0)))), (b, .inl (dA 1, 64, .inl (upd (upd (upd (upd (upd (upd (upd (upd (upd (upd (upd (upd (upd (upd (upd (upd (upd (upd (upd (upd (upd (upd (upd (upd (upd (upd (upd (upd (upd (upd (upd (upd (upd (upd (upd (upd (upd (upd (upd (upd (upd (upd (upd (upd (upd (upd (upd (upd (upd (upd (upd (upd (upd (upd (upd (upd (upd (upd (upd (upd (upd (upd (upd (upd g 0 0) 1 0) 2 0) 3 0) 4 0) 5 0) 6 0) 7 0) 8 0) 9 0) 10 0) 11 0) 12 0) 13 0) 14 0) 15 0) 16 0) 17 0) 18 0) 19 0) 20 0) 21 0) 22 0) 23 0) 24 0) 25 0) 26 0) 27 0) 28 0) 29 0) 30 0) 31 0) 32 0) 33 0) 34 0) 35 0) 36 0) 37 0) 38 0) 39 0) 40 0) 41 0) 42 0) 43 0) 44 0) 45 0) 46 0) 47 0) 48 0) 49 0) 50 0) 51 0) 52 0) 53 0) 54 0) 55 0) 56 0) 57 0) 58 0) 59 0) 60 0) 61 0) 62 0) 63 0)))] H := hP
  have hD : va_D A [(a, .inr (3, (fs.set 6 (.int 0)))), (b, .inl (dA 1, 64, .inl (upd (upd (upd (upd (upd (upd (upd (upd (upd (upd (upd (upd (upd (upd (upd (upd (upd (upd (upd (upd (upd (upd (upd (upd (upd (upd (upd (upd (upd (upd (upd (upd (upd (upd (upd (upd (upd (upd (upd (upd (upd (upd (upd (upd (upd (upd (upd (upd (upd (upd (upd (upd (upd (upd (upd (upd (upd (upd (upd (upd (upd (upd (upd (upd g 0 0) 1 0) 2 0) 3 0) 4 0) 5 0) 6 0) 7 0) 8 0) 9 0) 10 0) 11 0) 12 0) 13 0) 14 0) 15 0) 16 0) 17 0) 18 0) 19 0) 20 0) 21 0) 22 0) 23 0) 24 0) 25 0) 26 0) 27 0) 28 0) 29 0) 30 0) 31 0) 32 0) 33 0) 34 0) 35 0) 36 0) 37 0) 38 0) 39 0) 40 0) 41 0) 42 0) 43 0) 44 0) 45 0) 46 0) 47 0) 48 0) 49 0) 50 0) 51 0) 52 0) 53 0) 54 0) 55 0) 56 0) 57 0) 58 0) 59 0) 60 0) 61 0) 62 0) 63 0)))] := hD
  exact rtV hx hb hr hlk hP hD hS () trivial [0, 1] rfl rfl (by decide) (Nat.le_of_ble_eq_true rfl) (Nat.le_of_ble_eq_true rfl) d_H_endScars_105
end
section
theorem d_SeriesVaultLaw_retain_0 : decode method_15_code 0 = .ok (.aload_n 3, 1) := by decide +kernel
theorem d_SeriesVaultLaw_retain_1 : decode method_15_code 1 = .ok (.iconst 0, 1) := by decide +kernel
theorem d_SeriesVaultLaw_retain_2 : decode method_15_code 2 = .ok (.aload_n 0, 1) := by decide +kernel
theorem d_SeriesVaultLaw_retain_3 : decode method_15_code 3 = .ok (.lload_n 1, 1) := by decide +kernel
theorem d_SeriesVaultLaw_retain_4 : decode method_15_code 4 = .ok (.invokevirtual 61, 3) := by decide +kernel
theorem d_SeriesVaultLaw_retain_16 : decode method_15_code 16 = .ok (.astore 4, 2) := by decide +kernel
theorem d_SeriesVaultLaw_retain_18 : decode method_15_code 18 = .ok (.iconst 2, 1) := by decide +kernel
theorem d_SeriesVaultLaw_retain_19 : decode method_15_code 19 = .ok (.ireturn, 1) := by decide +kernel
theorem w715 : Cond.methodLink "SeriesVaultLaw" 61 ⟨"SeriesVault", "retain", "(J)I"⟩ ∈ aW := aw_of (tb_6 (List.mem_of_getElem? (i := 150) rfl)) rfl
theorem w716 : Cond.code ⟨"SeriesVault", "retain", "(J)I"⟩ prog_1_method_41_code 4 (some FieldType.int) ∈ aW := aw_of (tb_6 (List.mem_of_getElem? (i := 153) rfl)) rfl
theorem w717 : Cond.instanceMethod ⟨"SeriesVault", "retain", "(J)I"⟩ ∈ aW := aw_of (tb_6 (List.mem_of_getElem? (i := 151) rfl)) rfl
theorem w718 : Cond.selects "SeriesVault" ⟨"SeriesVault", "retain", "(J)I"⟩ ⟨"SeriesVault", "retain", "(J)I"⟩ ∈ aW := aw_of (tb_6 (List.mem_of_getElem? (i := 152) rfl)) rfl
set_option maxHeartbeats 4000000 in
set_option maxRecDepth 100000 in
theorem c_K_retain_x (l : Launch) (htr : l.stackTraces = false) (D : va_G) (dA : Nat → ClassId) (sz : Nat) (a : Nat) (fs : List Value) (t : Int64) (o : Nat) (og : Nat → Int64) (h0 : t < 0 ∨ 1099511627775 < t) (h_fs_powered : fs[5]? = some (.int 1)) (hl_fs : fs.length = 18) : Met l ⟨"SeriesVaultLaw", "retain", "(LSeriesVault;J[J)I"⟩ [Cond.codeWith ⟨"SeriesVaultLaw", "retain", "(LSeriesVault;J[J)I"⟩ method_15_code 5 (some FieldType.int) [(0, 9, 12, 29), (0, 9, 16, 19)]] { frames := 7, cells := 1, slots := 6, locals := 104 } (pC D dA [.ref a, .long t, .ref o] [(a, .inr (0, fs)), (o, .inl (dA 2, 1, .inr (.inl og)))] sz) (va_Qi (fun (r : Int32) (_ : Unit) => r = 2) (fun (u9 : Unit) t9 => bW D (va_A [(a, .inr (0, fs)), (o, .inl (dA 2, 1, .inr (.inl og)))] sz) [(a, .inr (0, fs)), (o, .inl (dA 2, 1, .inr (.inl og)))] t9) (va_A [(a, .inr (0, fs)), (o, .inl (dA 2, 1, .inr (.inl og)))] sz)) 1 6 (va_A [(a, .inr (0, fs)), (o, .inl (dA 2, 1, .inr (.inl og)))] sz) := by
  refine mkW (y := ⟨"SeriesVaultLaw", "retain", "(LSeriesVault;J[J)I"⟩) (cc := method_15_code) (maxL := 5) (av := [.ref a, .long t, .ref o]) (ws := [(a, .inr (0, fs)), (o, .inl (dA 2, 1, .inr (.inl og)))]) (sz := sz) (Qc := fun A => va_Qi (fun (r : Int32) (_ : Unit) => r = 2) (fun (u9 : Unit) t9 => bW D A [(a, .inr (0, fs)), (o, .inl (dA 2, 1, .inr (.inl og)))] t9) A) (by decide) (Nat.le_of_ble_eq_true rfl) ?_
  intro A p e s m below meth c ls hsz htab hB
  obtain ⟨hx, hb, hr, hml, hown, hin, hlk, hE, hK, hP, hD, hS, hA, hN, hl⟩ := hB
  have hown : s.vm.findClass "SeriesVaultLaw" = some m.cls := hown
  have hin : meth.name = "retain" := hin
  have hl : lv_has ls 5 [(0, .ref a), (1, .long t), (3, .ref o)] := hl
  obtain ⟨H, hH⟩ : ∃ z, z = s.heap := ⟨_, rfl⟩
  have hP : va_P D vwCl [(a, .inr (0, fs)), (o, .inl (dA 2, 1, .inr (.inl og)))] H := by rw [hH]; exact hP
  have hS : va_S A s.heap H [] := by rw [hH]; exact hS
  rw [← hH]
  refine lv_aload_n hx hb d_SeriesVaultLaw_retain_0 rfl (lv_at hl 2 rfl) ?_
  refine lv_iconst (v := 0) hx hb d_SeriesVaultLaw_retain_1 (by decide) ?_
  refine lv_aload_n hx hb d_SeriesVaultLaw_retain_2 rfl (lv_at hl 0 rfl) ?_
  refine lv_lload_n hx hb d_SeriesVaultLaw_retain_3 rfl (lv_at hl 1 rfl) ?_
  have hPc := hP.sub (ws' := [(a, .inr (0, fs))]) [0] rfl
  have hDc := hD.sub (ws' := [(a, .inr (0, fs))]) [0] (by decide) rfl
  refine xnV (As := [.long t]) (rest := [.int 0, .ref o]) hx hb hml hown hE hK (hN _ _ hS) hPc hDc (c_V_retain_x l htr D dA H.size a fs t h0 h_fs_powered hl_fs) (q0 := 0) rfl rfl w716 w715 w717 w718 w277 rfl rfl ⟨⟨by decide, by decide⟩, rfl⟩ ⟨(Nat.le_of_ble_eq_true rfl), (Nat.le_of_ble_eq_true rfl)⟩ rfl hl.1 rfl (Nat.le_of_ble_eq_true rfl) d_SeriesVaultLaw_retain_4 ⟨(Nat.le_of_ble_eq_true rfl), (Nat.le_of_ble_eq_true rfl)⟩ hP hD hS hA [0] [1] (wr := [(o, .inl (dA 2, 1, .inr (.inl og)))]) rfl rfl (by decide) (by decide) (fun x1 ce H locs hP hD hS hce hcv hcl => ?_)
  have hP : va_P D vwCl [(o, .inl (dA 2, 1, .inr (.inl og))), (a, .inr (0, fs))] H := hP
  have hD : va_D A [(o, .inl (dA 2, 1, .inr (.inl og))), (a, .inr (0, fs))] := hD
  refine xCatch (E := "java/lang/IllegalArgumentException") hown hE [⟨0, 9, 12, 29⟩] ⟨0, 9, 16, 19⟩ [] htab (List.forall_mem_cons.mpr ⟨⟨by decide, "java/lang/IllegalStateException", w363, by decide⟩, fun _ h => absurd h List.not_mem_nil⟩) (by decide) (by decide) w349 w267 hce hcv hcl ?_
  refine lv_astore hx hb d_SeriesVaultLaw_retain_16 hl (by decide) rfl (fun ls hl => ?_)
  have hl : lv_has ls 5 [(4, .ref x1), (0, .ref a), (1, .long t), (3, .ref o)] := hl
  refine lv_iconst (v := 2) hx hb d_SeriesVaultLaw_retain_18 (by decide) ?_
  exact rtI hx hb hr hlk hP hD hS () rfl [1, 0] rfl rfl (by decide) (Nat.le_of_ble_eq_true rfl) (Nat.le_of_ble_eq_true rfl) d_SeriesVaultLaw_retain_19
theorem d_SeriesVaultLaw_retain_7 : decode method_15_code 7 = .ok (.i2l, 1) := by decide +kernel
theorem d_SeriesVaultLaw_retain_8 : decode method_15_code 8 = .ok (.lastore, 1) := by decide +kernel
theorem d_SeriesVaultLaw_retain_9 : decode method_15_code 9 = .ok (.goto 11, 3) := by decide +kernel
theorem d_SeriesVaultLaw_retain_20 : decode method_15_code 20 = .ok (.iconst 0, 1) := by decide +kernel
theorem d_SeriesVaultLaw_retain_21 : decode method_15_code 21 = .ok (.ireturn, 1) := by decide +kernel
set_option maxHeartbeats 4000000 in
set_option maxRecDepth 100000 in
theorem c_K_retain_0 (l : Launch) (htr : l.stackTraces = false) (D : va_G) (dA : Nat → ClassId) (sz : Nat) (a : Nat) (fs : List Value) (b : Nat) (gs : List Value) (o : Nat) (og : Nat → Int64) (h_fs_powered : fs[5]? = some (.int 1)) (h_fs_now : fs[11]? = some (.ref b)) (hl_fs : fs.length = 18) (h_gs_horizon : gs[7]? = some (.long 0)) (hl_gs : gs.length = 11) : Met l ⟨"SeriesVaultLaw", "retain", "(LSeriesVault;J[J)I"⟩ [Cond.codeWith ⟨"SeriesVaultLaw", "retain", "(LSeriesVault;J[J)I"⟩ method_15_code 5 (some FieldType.int) [(0, 9, 12, 29), (0, 9, 16, 19)]] { frames := 3, cells := 0, slots := 0, locals := 44 } (pC D dA [.ref a, .long 0, .ref o] [(a, .inr (0, fs)), (b, .inr (3, gs)), (o, .inl (dA 2, 1, .inr (.inl og)))] sz) (va_Qi (fun (r : Int32) (_ : Unit) => r = 0) (fun (u9 : Unit) t9 => bW D (va_A [(a, .inr (0, fs)), (b, .inr (3, gs)), (o, .inl (dA 2, 1, .inr (.inl og)))] sz) [(a, .inr (0, fs)), (b, .inr (3, gs)), (o, .inl (dA 2, 1, .inr (.inl (vp_updL og 0 0))))] t9) (va_A [(a, .inr (0, fs)), (b, .inr (3, gs)), (o, .inl (dA 2, 1, .inr (.inl og)))] sz)) 0 0 (va_A [(a, .inr (0, fs)), (b, .inr (3, gs)), (o, .inl (dA 2, 1, .inr (.inl og)))] sz) := by
  refine mkW (y := ⟨"SeriesVaultLaw", "retain", "(LSeriesVault;J[J)I"⟩) (cc := method_15_code) (maxL := 5) (av := [.ref a, .long 0, .ref o]) (ws := [(a, .inr (0, fs)), (b, .inr (3, gs)), (o, .inl (dA 2, 1, .inr (.inl og)))]) (sz := sz) (Qc := fun A => va_Qi (fun (r : Int32) (_ : Unit) => r = 0) (fun (u9 : Unit) t9 => bW D A [(a, .inr (0, fs)), (b, .inr (3, gs)), (o, .inl (dA 2, 1, .inr (.inl (vp_updL og 0 0))))] t9) A) (by decide) (Nat.le_of_ble_eq_true rfl) ?_
  intro A p e s m below meth c ls hsz htab hB
  obtain ⟨hx, hb, hr, hml, hown, hin, hlk, hE, hK, hP, hD, hS, hA, hN, hl⟩ := hB
  have hown : s.vm.findClass "SeriesVaultLaw" = some m.cls := hown
  have hin : meth.name = "retain" := hin
  have hl : lv_has ls 5 [(0, .ref a), (1, .long 0), (3, .ref o)] := hl
  obtain ⟨H, hH⟩ : ∃ z, z = s.heap := ⟨_, rfl⟩
  have hP : va_P D vwCl [(a, .inr (0, fs)), (b, .inr (3, gs)), (o, .inl (dA 2, 1, .inr (.inl og)))] H := by rw [hH]; exact hP
  have hS : va_S A s.heap H [] := by rw [hH]; exact hS
  rw [← hH]
  refine lv_aload_n hx hb d_SeriesVaultLaw_retain_0 rfl (lv_at hl 2 rfl) ?_
  refine lv_iconst (v := 0) hx hb d_SeriesVaultLaw_retain_1 (by decide) ?_
  refine lv_aload_n hx hb d_SeriesVaultLaw_retain_2 rfl (lv_at hl 0 rfl) ?_
  refine lv_lload_n hx hb d_SeriesVaultLaw_retain_3 rfl (lv_at hl 1 rfl) ?_
  have hPc := hP.sub (ws' := [(a, .inr (0, fs)), (b, .inr (3, gs))]) [0, 1] rfl
  have hDc := hD.sub (ws' := [(a, .inr (0, fs)), (b, .inr (3, gs))]) [0, 1] (by decide) rfl
  refine jnI (rnV (As := [.long 0]) (rest := [.int 0, .ref o]) hx hb hml hown hE hK (hN _ _ hS) hPc hDc (c_V_retain_0 l D dA H.size a fs b gs h_fs_powered h_fs_now hl_fs h_gs_horizon hl_gs) (q0 := 0) rfl rfl w716 w715 w717 w718 w277 rfl rfl ⟨⟨by decide, by decide⟩, rfl⟩ ⟨(Nat.le_of_ble_eq_true rfl), (Nat.le_of_ble_eq_true rfl)⟩ rfl hl.1 rfl (Nat.le_of_ble_eq_true rfl) d_SeriesVaultLaw_retain_4 ⟨(Nat.le_of_ble_eq_true rfl), (Nat.le_of_ble_eq_true rfl)⟩) hP hD hS hA [0, 1] [2] (wr := [(o, .inl (dA 2, 1, .inr (.inl og)))]) rfl rfl (by decide) (by decide) (fun r1 u9 H locs hp9 hP hD hS => ?_)
  have hP : va_P D vwCl [(o, .inl (dA 2, 1, .inr (.inl og))), (a, .inr (0, fs)), (b, .inr (3, gs))] H := hP
  have hD : va_D A [(o, .inl (dA 2, 1, .inr (.inl og))), (a, .inr (0, fs)), (b, .inr (3, gs))] := hD
  have hp9 : 0 = r1 := Eq.symm hp9
  subst hp9
  refine lv_i2l (v := 0) hx hb d_SeriesVaultLaw_retain_7 (by decide) ?_
  refine va_last hx hb hK hP hD hS 0 2 rfl rfl (by unfold vp_in; decide) d_SeriesVaultLaw_retain_8 (fun H locs hP hD hS => ?_)
  have hP : va_P D vwCl [(o, .inl (dA 2, 1, .inr (.inl (vp_updL og 0 0)))), (a, .inr (0, fs)), (b, .inr (3, gs))] H := hP
  have hD : va_D A [(o, .inl (dA 2, 1, .inr (.inl (vp_updL og 0 0)))), (a, .inr (0, fs)), (b, .inr (3, gs))] := hD
  refine lv_goto hx hb d_SeriesVaultLaw_retain_9 (tgt := 20) rfl ?_
  refine lv_iconst (v := 0) hx hb d_SeriesVaultLaw_retain_20 (by decide) ?_
  exact rtI hx hb hr hlk hP hD hS () rfl [1, 2, 0] rfl rfl (by decide) (Nat.le_of_ble_eq_true rfl) (Nat.le_of_ble_eq_true rfl) d_SeriesVaultLaw_retain_21
end
section
theorem asgS {s : State} {C : String} : ∀ comp c0 : ClassId, s.vm.findClass C = some comp → s.vm.findClass C = some c0 → s.vm.assignable c0 comp = true := by
  intro comp c0 h1 h2
  rw [h1] at h2
  cases h2
  exact Vm.assignable_self _ _
theorem d_H_takeParcels_0 : decode prog_9_method_3_code 0 = .ok (.aload_n 1, 1) := by decide +kernel
theorem d_H_takeParcels_1 : decode prog_9_method_3_code 1 = .ok (.getfield 11, 3) := by decide +kernel
theorem d_H_takeParcels_4 : decode prog_9_method_3_code 4 = .ok (.iconst 0, 1) := by decide +kernel
theorem d_H_takeParcels_5 : decode prog_9_method_3_code 5 = .ok (.aload_n 0, 1) := by decide +kernel
theorem d_H_takeParcels_6 : decode prog_9_method_3_code 6 = .ok (.getfield 11, 3) := by decide +kernel
theorem d_H_takeParcels_9 : decode prog_9_method_3_code 9 = .ok (.iconst 0, 1) := by decide +kernel
theorem d_H_takeParcels_10 : decode prog_9_method_3_code 10 = .ok (.aload_n 1, 1) := by decide +kernel
theorem d_H_takeParcels_11 : decode prog_9_method_3_code 11 = .ok (.getfield 34, 3) := by decide +kernel
theorem d_H_takeParcels_14 : decode prog_9_method_3_code 14 = .ok (.invokestatic 51, 3) := by decide +kernel
theorem d_H_takeParcels_17 : decode prog_9_method_3_code 17 = .ok (.aload_n 0, 1) := by decide +kernel
theorem d_H_takeParcels_18 : decode prog_9_method_3_code 18 = .ok (.aload_n 1, 1) := by decide +kernel
theorem d_H_takeParcels_19 : decode prog_9_method_3_code 19 = .ok (.getfield 34, 3) := by decide +kernel
theorem d_H_takeParcels_22 : decode prog_9_method_3_code 22 = .ok (.putfield 34, 3) := by decide +kernel
theorem d_H_takeParcels_25 : decode prog_9_method_3_code 25 = .ok (.aload_n 1, 1) := by decide +kernel
theorem d_H_takeParcels_26 : decode prog_9_method_3_code 26 = .ok (.getfield 17, 3) := by decide +kernel
theorem d_H_takeParcels_29 : decode prog_9_method_3_code 29 = .ok (.iconst 0, 1) := by decide +kernel
theorem d_H_takeParcels_30 : decode prog_9_method_3_code 30 = .ok (.aload_n 0, 1) := by decide +kernel
theorem d_H_takeParcels_31 : decode prog_9_method_3_code 31 = .ok (.getfield 17, 3) := by decide +kernel
theorem d_H_takeParcels_34 : decode prog_9_method_3_code 34 = .ok (.iconst 0, 1) := by decide +kernel
theorem d_H_takeParcels_35 : decode prog_9_method_3_code 35 = .ok (.aload_n 1, 1) := by decide +kernel
theorem d_H_takeParcels_36 : decode prog_9_method_3_code 36 = .ok (.getfield 38, 3) := by decide +kernel
theorem d_H_takeParcels_39 : decode prog_9_method_3_code 39 = .ok (.invokestatic 51, 3) := by decide +kernel
theorem d_H_takeParcels_42 : decode prog_9_method_3_code 42 = .ok (.aload_n 1, 1) := by decide +kernel
theorem d_H_takeParcels_43 : decode prog_9_method_3_code 43 = .ok (.getfield 21, 3) := by decide +kernel
theorem d_H_takeParcels_46 : decode prog_9_method_3_code 46 = .ok (.iconst 0, 1) := by decide +kernel
theorem d_H_takeParcels_47 : decode prog_9_method_3_code 47 = .ok (.aload_n 0, 1) := by decide +kernel
theorem d_H_takeParcels_48 : decode prog_9_method_3_code 48 = .ok (.getfield 21, 3) := by decide +kernel
theorem d_H_takeParcels_51 : decode prog_9_method_3_code 51 = .ok (.iconst 0, 1) := by decide +kernel
theorem d_H_takeParcels_52 : decode prog_9_method_3_code 52 = .ok (.aload_n 1, 1) := by decide +kernel
theorem d_H_takeParcels_53 : decode prog_9_method_3_code 53 = .ok (.getfield 38, 3) := by decide +kernel
theorem d_H_takeParcels_56 : decode prog_9_method_3_code 56 = .ok (.invokestatic 51, 3) := by decide +kernel
theorem d_H_takeParcels_59 : decode prog_9_method_3_code 59 = .ok (.aload_n 1, 1) := by decide +kernel
theorem d_H_takeParcels_60 : decode prog_9_method_3_code 60 = .ok (.getfield 25, 3) := by decide +kernel
theorem d_H_takeParcels_63 : decode prog_9_method_3_code 63 = .ok (.iconst 0, 1) := by decide +kernel
theorem d_H_takeParcels_64 : decode prog_9_method_3_code 64 = .ok (.aload_n 0, 1) := by decide +kernel
theorem d_H_takeParcels_65 : decode prog_9_method_3_code 65 = .ok (.getfield 25, 3) := by decide +kernel
theorem d_H_takeParcels_68 : decode prog_9_method_3_code 68 = .ok (.iconst 0, 1) := by decide +kernel
theorem d_H_takeParcels_69 : decode prog_9_method_3_code 69 = .ok (.aload_n 1, 1) := by decide +kernel
theorem d_H_takeParcels_70 : decode prog_9_method_3_code 70 = .ok (.getfield 38, 3) := by decide +kernel
theorem d_H_takeParcels_73 : decode prog_9_method_3_code 73 = .ok (.invokestatic 51, 3) := by decide +kernel
theorem d_H_takeParcels_76 : decode prog_9_method_3_code 76 = .ok (.aload_n 0, 1) := by decide +kernel
theorem d_H_takeParcels_77 : decode prog_9_method_3_code 77 = .ok (.aload_n 1, 1) := by decide +kernel
theorem d_H_takeParcels_78 : decode prog_9_method_3_code 78 = .ok (.getfield 38, 3) := by decide +kernel
theorem d_H_takeParcels_81 : decode prog_9_method_3_code 81 = .ok (.putfield 38, 3) := by decide +kernel
theorem d_H_takeParcels_84 : decode prog_9_method_3_code 84 = .ok (.aload_n 0, 1) := by decide +kernel
theorem d_H_takeParcels_85 : decode prog_9_method_3_code 85 = .ok (.aload_n 1, 1) := by decide +kernel
theorem d_H_takeParcels_86 : decode prog_9_method_3_code 86 = .ok (.getfield 41, 3) := by decide +kernel
theorem d_H_takeParcels_89 : decode prog_9_method_3_code 89 = .ok (.putfield 41, 3) := by decide +kernel
theorem d_H_takeParcels_92 : decode prog_9_method_3_code 92 = .ok (.return_, 1) := by decide +kernel
theorem w719 : Cond.methodLink "SeriesVault$Shelf" 51 ⟨"java/lang/System", "arraycopy", "(Ljava/lang/Object;ILjava/lang/Object;II)V"⟩ ∈ aW := aw_of (tb_6 (List.mem_of_getElem? (i := 110) rfl)) rfl
theorem w720 : Cond.native ⟨"java/lang/System", "arraycopy", "(Ljava/lang/Object;ILjava/lang/Object;II)V"⟩ ∈ aW := aw_of (tb_2 (List.mem_of_getElem? (i := 146) rfl)) rfl
theorem w721 : Cond.static ⟨"java/lang/System", "arraycopy", "(Ljava/lang/Object;ILjava/lang/Object;II)V"⟩ ∈ aW := aw_of (tb_2 (List.mem_of_getElem? (i := 145) rfl)) rfl
theorem w722 : Cond.initialized "java/lang/System" ∈ aW := aw_of (tb_1 (List.mem_of_getElem? (i := 15) rfl)) rfl
set_option maxHeartbeats 4000000 in
set_option maxRecDepth 100000 in
theorem c_H_takeParcels_0 (l : Launch) (D : va_G) (dA : Nat → ClassId) (sz : Nat) (a : Nat) (fs : List Value) (b : Nat) (gs : List Value) (hz : Int64) (x0 : Nat) (x1 : Nat) (x2 : Nat) (x3 : Nat) (gx0 : Nat → Option Nat) (gx1 : Nat → Int32) (gx2 : Nat → Int64) (gx3 : Nat → Int64) (y0 : Nat) (y1 : Nat) (y2 : Nat) (y3 : Nat) (gy0 : Nat → Option Nat) (gy1 : Nat → Int32) (gy2 : Nat → Int64) (gy3 : Nat → Int64) (h_fs_parcels : fs[0]? = some (.ref x0)) (h_fs_scarOwners : fs[2]? = some (.ref x1)) (h_fs_scarFroms : fs[3]? = some (.ref x2)) (h_fs_scarTos : fs[4]? = some (.ref x3)) (hl_fs : fs.length = 11) (h_gs_parcels : gs[0]? = some (.ref y0)) (h_gs_parcelCount : gs[1]? = some (.int 0)) (h_gs_scarOwners : gs[2]? = some (.ref y1)) (h_gs_scarFroms : gs[3]? = some (.ref y2)) (h_gs_scarTos : gs[4]? = some (.ref y3)) (h_gs_scarCount : gs[6]? = some (.int 0)) (h_gs_horizon : gs[7]? = some (.long hz)) (hl_gs : gs.length = 11) : Met l ⟨"SeriesVault$Shelf", "takeParcels", "(LSeriesVault$Shelf;)V"⟩ [Cond.code ⟨"SeriesVault$Shelf", "takeParcels", "(LSeriesVault$Shelf;)V"⟩ prog_9_method_3_code 2 none] { frames := 1, cells := 0, slots := 0, locals := 40 } (pC D dA [.ref a, .ref b] [(a, .inr (3, fs)), (b, .inr (3, gs)), (x0, .inl (dA 4, 32, .inr (.inr (.inr (.inr gx0))))), (x1, .inl (dA 1, 64, .inl gx1)), (x2, .inl (dA 2, 64, .inr (.inl gx2))), (x3, .inl (dA 2, 64, .inr (.inl gx3))), (y0, .inl (dA 4, 32, .inr (.inr (.inr (.inr gy0))))), (y1, .inl (dA 1, 64, .inl gy1)), (y2, .inl (dA 2, 64, .inr (.inl gy2))), (y3, .inl (dA 2, 64, .inr (.inl gy3)))] sz) (va_Qv (fun (_ : Unit) => True) (fun (u9 : Unit) t9 => bW D (va_A [(a, .inr (3, fs)), (b, .inr (3, gs)), (x0, .inl (dA 4, 32, .inr (.inr (.inr (.inr gx0))))), (x1, .inl (dA 1, 64, .inl gx1)), (x2, .inl (dA 2, 64, .inr (.inl gx2))), (x3, .inl (dA 2, 64, .inr (.inl gx3))), (y0, .inl (dA 4, 32, .inr (.inr (.inr (.inr gy0))))), (y1, .inl (dA 1, 64, .inl gy1)), (y2, .inl (dA 2, 64, .inr (.inl gy2))), (y3, .inl (dA 2, 64, .inr (.inl gy3)))] sz) [(a, .inr (3, (((fs.set 1 (.int 0)).set 6 (.int 0)).set 7 (.long hz)))), (b, .inr (3, gs)), (x0, .inl (dA 4, 32, .inr (.inr (.inr (.inr (va_cpy gy0 gx0 0 0 0)))))), (x1, .inl (dA 1, 64, .inl (va_cpy gy1 gx1 0 0 0))), (x2, .inl (dA 2, 64, .inr (.inl (va_cpy gy2 gx2 0 0 0)))), (x3, .inl (dA 2, 64, .inr (.inl (va_cpy gy3 gx3 0 0 0)))), (y0, .inl (dA 4, 32, .inr (.inr (.inr (.inr gy0))))), (y1, .inl (dA 1, 64, .inl gy1)), (y2, .inl (dA 2, 64, .inr (.inl gy2))), (y3, .inl (dA 2, 64, .inr (.inl gy3)))] t9) (va_A [(a, .inr (3, fs)), (b, .inr (3, gs)), (x0, .inl (dA 4, 32, .inr (.inr (.inr (.inr gx0))))), (x1, .inl (dA 1, 64, .inl gx1)), (x2, .inl (dA 2, 64, .inr (.inl gx2))), (x3, .inl (dA 2, 64, .inr (.inl gx3))), (y0, .inl (dA 4, 32, .inr (.inr (.inr (.inr gy0))))), (y1, .inl (dA 1, 64, .inl gy1)), (y2, .inl (dA 2, 64, .inr (.inl gy2))), (y3, .inl (dA 2, 64, .inr (.inl gy3)))] sz)) 0 0 (va_A [(a, .inr (3, fs)), (b, .inr (3, gs)), (x0, .inl (dA 4, 32, .inr (.inr (.inr (.inr gx0))))), (x1, .inl (dA 1, 64, .inl gx1)), (x2, .inl (dA 2, 64, .inr (.inl gx2))), (x3, .inl (dA 2, 64, .inr (.inl gx3))), (y0, .inl (dA 4, 32, .inr (.inr (.inr (.inr gy0))))), (y1, .inl (dA 1, 64, .inl gy1)), (y2, .inl (dA 2, 64, .inr (.inl gy2))), (y3, .inl (dA 2, 64, .inr (.inl gy3)))] sz) := by
  refine mkC (y := ⟨"SeriesVault$Shelf", "takeParcels", "(LSeriesVault$Shelf;)V"⟩) (cc := prog_9_method_3_code) (maxL := 2) (av := [.ref a, .ref b]) (ws := [(a, .inr (3, fs)), (b, .inr (3, gs)), (x0, .inl (dA 4, 32, .inr (.inr (.inr (.inr gx0))))), (x1, .inl (dA 1, 64, .inl gx1)), (x2, .inl (dA 2, 64, .inr (.inl gx2))), (x3, .inl (dA 2, 64, .inr (.inl gx3))), (y0, .inl (dA 4, 32, .inr (.inr (.inr (.inr gy0))))), (y1, .inl (dA 1, 64, .inl gy1)), (y2, .inl (dA 2, 64, .inr (.inl gy2))), (y3, .inl (dA 2, 64, .inr (.inl gy3)))]) (sz := sz) (Qc := fun A => va_Qv (fun (_ : Unit) => True) (fun (u9 : Unit) t9 => bW D A [(a, .inr (3, (((fs.set 1 (.int 0)).set 6 (.int 0)).set 7 (.long hz)))), (b, .inr (3, gs)), (x0, .inl (dA 4, 32, .inr (.inr (.inr (.inr (va_cpy gy0 gx0 0 0 0)))))), (x1, .inl (dA 1, 64, .inl (va_cpy gy1 gx1 0 0 0))), (x2, .inl (dA 2, 64, .inr (.inl (va_cpy gy2 gx2 0 0 0)))), (x3, .inl (dA 2, 64, .inr (.inl (va_cpy gy3 gx3 0 0 0)))), (y0, .inl (dA 4, 32, .inr (.inr (.inr (.inr gy0))))), (y1, .inl (dA 1, 64, .inl gy1)), (y2, .inl (dA 2, 64, .inr (.inl gy2))), (y3, .inl (dA 2, 64, .inr (.inl gy3)))] t9) A) (by decide) (Nat.le_of_ble_eq_true rfl) ?_
  intro A p e s m below meth c ls hsz hB
  obtain ⟨hx, hb, hr, hml, hown, hin, hlk, hE, hK, hP, hD, hS, hA, hN, hl⟩ := hB
  have hown : s.vm.findClass "SeriesVault$Shelf" = some m.cls := hown
  have hin : meth.name = "takeParcels" := hin
  have hl : lv_has ls 2 [(0, .ref a), (1, .ref b)] := hl
  obtain ⟨H, hH⟩ : ∃ z, z = s.heap := ⟨_, rfl⟩
  have hP : va_P D vwCl [(a, .inr (3, fs)), (b, .inr (3, gs)), (x0, .inl (dA 4, 32, .inr (.inr (.inr (.inr gx0))))), (x1, .inl (dA 1, 64, .inl gx1)), (x2, .inl (dA 2, 64, .inr (.inl gx2))), (x3, .inl (dA 2, 64, .inr (.inl gx3))), (y0, .inl (dA 4, 32, .inr (.inr (.inr (.inr gy0))))), (y1, .inl (dA 1, 64, .inl gy1)), (y2, .inl (dA 2, 64, .inr (.inl gy2))), (y3, .inl (dA 2, 64, .inr (.inl gy3)))] H := by rw [hH]; exact hP
  have hS : va_S A s.heap H [] := by rw [hH]; exact hS
  rw [← hH]
  refine lv_aload_n hx hb d_H_takeParcels_0 rfl (lv_at hl 1 rfl) ?_
  refine gF (v := .ref y0) hx hb hown hE hK hP 1 rfl rfl layH 0 (by decide) w199 h_gs_parcels d_H_takeParcels_1 ?_
  refine lv_iconst (v := 0) hx hb d_H_takeParcels_4 (by decide) ?_
  refine lv_aload_n hx hb d_H_takeParcels_5 rfl (lv_at hl 0 rfl) ?_
  refine gF (v := .ref x0) hx hb hown hE hK hP 0 rfl rfl layH 0 (by decide) w199 h_fs_parcels d_H_takeParcels_6 ?_
  refine lv_iconst (v := 0) hx hb d_H_takeParcels_9 (by decide) ?_
  refine lv_aload_n hx hb d_H_takeParcels_10 rfl (lv_at hl 1 rfl) ?_
  refine gF (v := .int 0) hx hb hown hE hK hP 1 rfl rfl layH 1 (by decide) w566 h_gs_parcelCount d_H_takeParcels_11 ?_
  refine va_copyq (C := "SeriesVault$Parcel") hx hb (hml.trans hl.1.symm) hown (hE.t w719 rfl) (hE.t w720 rfl) (hE.t w721 rfl) (hE.t w722 rfl) hK hP hD hS 6 2 4 4 rfl rfl rfl rfl (by decide) (by decide) (by decide) (by decide) (by decide) (fun i hi => absurd hi (Nat.not_lt_zero i)) asgS (Nat.le_of_ble_eq_true rfl) (Nat.le_of_ble_eq_true rfl) d_H_takeParcels_14 (fun H locs hP hD hS => ?_)
  have hP : va_P D vwCl [(a, .inr (3, fs)), (b, .inr (3, gs)), (x0, .inl (dA 4, 32, .inr (.inr (.inr (.inr (va_cpy gy0 gx0 0 0 0)))))), (x1, .inl (dA 1, 64, .inl gx1)), (x2, .inl (dA 2, 64, .inr (.inl gx2))), (x3, .inl (dA 2, 64, .inr (.inl gx3))), (y0, .inl (dA 4, 32, .inr (.inr (.inr (.inr gy0))))), (y1, .inl (dA 1, 64, .inl gy1)), (y2, .inl (dA 2, 64, .inr (.inl gy2))), (y3, .inl (dA 2, 64, .inr (.inl gy3)))] H := hP
  have hD : va_D A [(a, .inr (3, fs)), (b, .inr (3, gs)), (x0, .inl (dA 4, 32, .inr (.inr (.inr (.inr (va_cpy gy0 gx0 0 0 0)))))), (x1, .inl (dA 1, 64, .inl gx1)), (x2, .inl (dA 2, 64, .inr (.inl gx2))), (x3, .inl (dA 2, 64, .inr (.inl gx3))), (y0, .inl (dA 4, 32, .inr (.inr (.inr (.inr gy0))))), (y1, .inl (dA 1, 64, .inl gy1)), (y2, .inl (dA 2, 64, .inr (.inl gy2))), (y3, .inl (dA 2, 64, .inr (.inl gy3)))] := hD
  refine lv_aload_n hx hb d_H_takeParcels_17 rfl (lv_at hl 0 rfl) ?_
  refine lv_aload_n hx hb d_H_takeParcels_18 rfl (lv_at hl 1 rfl) ?_
  refine gF (v := .int 0) hx hb hown hE hK hP 1 rfl rfl layH 1 (by decide) w566 h_gs_parcelCount d_H_takeParcels_19 ?_
  refine pF hx hb hown hE hK hP hD hS 0 rfl rfl layH tyH tokH nmH 1 (by decide) w566 rfl rfl rfl (by simp [hl_fs]) d_H_takeParcels_22 (fun H locs hP hD hS => ?_)
  have hP : va_P D vwCl [(a, .inr (3, (fs.set 1 (.int 0)))), (b, .inr (3, gs)), (x0, .inl (dA 4, 32, .inr (.inr (.inr (.inr (va_cpy gy0 gx0 0 0 0)))))), (x1, .inl (dA 1, 64, .inl gx1)), (x2, .inl (dA 2, 64, .inr (.inl gx2))), (x3, .inl (dA 2, 64, .inr (.inl gx3))), (y0, .inl (dA 4, 32, .inr (.inr (.inr (.inr gy0))))), (y1, .inl (dA 1, 64, .inl gy1)), (y2, .inl (dA 2, 64, .inr (.inl gy2))), (y3, .inl (dA 2, 64, .inr (.inl gy3)))] H := hP
  have hD : va_D A [(a, .inr (3, (fs.set 1 (.int 0)))), (b, .inr (3, gs)), (x0, .inl (dA 4, 32, .inr (.inr (.inr (.inr (va_cpy gy0 gx0 0 0 0)))))), (x1, .inl (dA 1, 64, .inl gx1)), (x2, .inl (dA 2, 64, .inr (.inl gx2))), (x3, .inl (dA 2, 64, .inr (.inl gx3))), (y0, .inl (dA 4, 32, .inr (.inr (.inr (.inr gy0))))), (y1, .inl (dA 1, 64, .inl gy1)), (y2, .inl (dA 2, 64, .inr (.inl gy2))), (y3, .inl (dA 2, 64, .inr (.inl gy3)))] := hD
  refine lv_aload_n hx hb d_H_takeParcels_25 rfl (lv_at hl 1 rfl) ?_
  refine gF (v := .ref y1) hx hb hown hE hK hP 1 rfl rfl layH 2 (by decide) w200 h_gs_scarOwners d_H_takeParcels_26 ?_
  refine lv_iconst (v := 0) hx hb d_H_takeParcels_29 (by decide) ?_
  refine lv_aload_n hx hb d_H_takeParcels_30 rfl (lv_at hl 0 rfl) ?_
  refine gF (v := .ref x1) hx hb hown hE hK hP 0 rfl rfl layH 2 (by decide) w200 (by simp [h_fs_scarOwners]) d_H_takeParcels_31 ?_
  refine lv_iconst (v := 0) hx hb d_H_takeParcels_34 (by decide) ?_
  refine lv_aload_n hx hb d_H_takeParcels_35 rfl (lv_at hl 1 rfl) ?_
  refine gF (v := .int 0) hx hb hown hE hK hP 1 rfl rfl layH 6 (by decide) w567 h_gs_scarCount d_H_takeParcels_36 ?_
  refine va_copyi hx hb (hml.trans hl.1.symm) hown (hE.t w719 rfl) (hE.t w720 rfl) (hE.t w721 rfl) (hE.t w722 rfl) hK hP hD hS 7 3 1 1 rfl rfl rfl rfl rfl (by decide) (by decide) (by decide) (by decide) (by decide) (fun i hi => absurd hi (Nat.not_lt_zero i)) (Nat.le_of_ble_eq_true rfl) (Nat.le_of_ble_eq_true rfl) d_H_takeParcels_39 (fun H locs hP hD hS => ?_)
  have hP : va_P D vwCl [(a, .inr (3, (fs.set 1 (.int 0)))), (b, .inr (3, gs)), (x0, .inl (dA 4, 32, .inr (.inr (.inr (.inr (va_cpy gy0 gx0 0 0 0)))))), (x1, .inl (dA 1, 64, .inl (va_cpy gy1 gx1 0 0 0))), (x2, .inl (dA 2, 64, .inr (.inl gx2))), (x3, .inl (dA 2, 64, .inr (.inl gx3))), (y0, .inl (dA 4, 32, .inr (.inr (.inr (.inr gy0))))), (y1, .inl (dA 1, 64, .inl gy1)), (y2, .inl (dA 2, 64, .inr (.inl gy2))), (y3, .inl (dA 2, 64, .inr (.inl gy3)))] H := hP
  have hD : va_D A [(a, .inr (3, (fs.set 1 (.int 0)))), (b, .inr (3, gs)), (x0, .inl (dA 4, 32, .inr (.inr (.inr (.inr (va_cpy gy0 gx0 0 0 0)))))), (x1, .inl (dA 1, 64, .inl (va_cpy gy1 gx1 0 0 0))), (x2, .inl (dA 2, 64, .inr (.inl gx2))), (x3, .inl (dA 2, 64, .inr (.inl gx3))), (y0, .inl (dA 4, 32, .inr (.inr (.inr (.inr gy0))))), (y1, .inl (dA 1, 64, .inl gy1)), (y2, .inl (dA 2, 64, .inr (.inl gy2))), (y3, .inl (dA 2, 64, .inr (.inl gy3)))] := hD
  refine lv_aload_n hx hb d_H_takeParcels_42 rfl (lv_at hl 1 rfl) ?_
  refine gF (v := .ref y2) hx hb hown hE hK hP 1 rfl rfl layH 3 (by decide) w201 h_gs_scarFroms d_H_takeParcels_43 ?_
  refine lv_iconst (v := 0) hx hb d_H_takeParcels_46 (by decide) ?_
  refine lv_aload_n hx hb d_H_takeParcels_47 rfl (lv_at hl 0 rfl) ?_
  refine gF (v := .ref x2) hx hb hown hE hK hP 0 rfl rfl layH 3 (by decide) w201 (by simp [h_fs_scarFroms]) d_H_takeParcels_48 ?_
  refine lv_iconst (v := 0) hx hb d_H_takeParcels_51 (by decide) ?_
  refine lv_aload_n hx hb d_H_takeParcels_52 rfl (lv_at hl 1 rfl) ?_
  refine gF (v := .int 0) hx hb hown hE hK hP 1 rfl rfl layH 6 (by decide) w567 h_gs_scarCount d_H_takeParcels_53 ?_
  refine va_copyl hx hb (hml.trans hl.1.symm) hown (hE.t w719 rfl) (hE.t w720 rfl) (hE.t w721 rfl) (hE.t w722 rfl) hK hP hD hS 8 4 2 2 rfl rfl rfl rfl rfl (by decide) (by decide) (by decide) (by decide) (by decide) (fun i hi => absurd hi (Nat.not_lt_zero i)) (Nat.le_of_ble_eq_true rfl) (Nat.le_of_ble_eq_true rfl) d_H_takeParcels_56 (fun H locs hP hD hS => ?_)
  have hP : va_P D vwCl [(a, .inr (3, (fs.set 1 (.int 0)))), (b, .inr (3, gs)), (x0, .inl (dA 4, 32, .inr (.inr (.inr (.inr (va_cpy gy0 gx0 0 0 0)))))), (x1, .inl (dA 1, 64, .inl (va_cpy gy1 gx1 0 0 0))), (x2, .inl (dA 2, 64, .inr (.inl (va_cpy gy2 gx2 0 0 0)))), (x3, .inl (dA 2, 64, .inr (.inl gx3))), (y0, .inl (dA 4, 32, .inr (.inr (.inr (.inr gy0))))), (y1, .inl (dA 1, 64, .inl gy1)), (y2, .inl (dA 2, 64, .inr (.inl gy2))), (y3, .inl (dA 2, 64, .inr (.inl gy3)))] H := hP
  have hD : va_D A [(a, .inr (3, (fs.set 1 (.int 0)))), (b, .inr (3, gs)), (x0, .inl (dA 4, 32, .inr (.inr (.inr (.inr (va_cpy gy0 gx0 0 0 0)))))), (x1, .inl (dA 1, 64, .inl (va_cpy gy1 gx1 0 0 0))), (x2, .inl (dA 2, 64, .inr (.inl (va_cpy gy2 gx2 0 0 0)))), (x3, .inl (dA 2, 64, .inr (.inl gx3))), (y0, .inl (dA 4, 32, .inr (.inr (.inr (.inr gy0))))), (y1, .inl (dA 1, 64, .inl gy1)), (y2, .inl (dA 2, 64, .inr (.inl gy2))), (y3, .inl (dA 2, 64, .inr (.inl gy3)))] := hD
  refine lv_aload_n hx hb d_H_takeParcels_59 rfl (lv_at hl 1 rfl) ?_
  refine gF (v := .ref y3) hx hb hown hE hK hP 1 rfl rfl layH 4 (by decide) w202 h_gs_scarTos d_H_takeParcels_60 ?_
  refine lv_iconst (v := 0) hx hb d_H_takeParcels_63 (by decide) ?_
  refine lv_aload_n hx hb d_H_takeParcels_64 rfl (lv_at hl 0 rfl) ?_
  refine gF (v := .ref x3) hx hb hown hE hK hP 0 rfl rfl layH 4 (by decide) w202 (by simp [h_fs_scarTos]) d_H_takeParcels_65 ?_
  refine lv_iconst (v := 0) hx hb d_H_takeParcels_68 (by decide) ?_
  refine lv_aload_n hx hb d_H_takeParcels_69 rfl (lv_at hl 1 rfl) ?_
  refine gF (v := .int 0) hx hb hown hE hK hP 1 rfl rfl layH 6 (by decide) w567 h_gs_scarCount d_H_takeParcels_70 ?_
  refine va_copyl hx hb (hml.trans hl.1.symm) hown (hE.t w719 rfl) (hE.t w720 rfl) (hE.t w721 rfl) (hE.t w722 rfl) hK hP hD hS 9 5 2 2 rfl rfl rfl rfl rfl (by decide) (by decide) (by decide) (by decide) (by decide) (fun i hi => absurd hi (Nat.not_lt_zero i)) (Nat.le_of_ble_eq_true rfl) (Nat.le_of_ble_eq_true rfl) d_H_takeParcels_73 (fun H locs hP hD hS => ?_)
  have hP : va_P D vwCl [(a, .inr (3, (fs.set 1 (.int 0)))), (b, .inr (3, gs)), (x0, .inl (dA 4, 32, .inr (.inr (.inr (.inr (va_cpy gy0 gx0 0 0 0)))))), (x1, .inl (dA 1, 64, .inl (va_cpy gy1 gx1 0 0 0))), (x2, .inl (dA 2, 64, .inr (.inl (va_cpy gy2 gx2 0 0 0)))), (x3, .inl (dA 2, 64, .inr (.inl (va_cpy gy3 gx3 0 0 0)))), (y0, .inl (dA 4, 32, .inr (.inr (.inr (.inr gy0))))), (y1, .inl (dA 1, 64, .inl gy1)), (y2, .inl (dA 2, 64, .inr (.inl gy2))), (y3, .inl (dA 2, 64, .inr (.inl gy3)))] H := hP
  have hD : va_D A [(a, .inr (3, (fs.set 1 (.int 0)))), (b, .inr (3, gs)), (x0, .inl (dA 4, 32, .inr (.inr (.inr (.inr (va_cpy gy0 gx0 0 0 0)))))), (x1, .inl (dA 1, 64, .inl (va_cpy gy1 gx1 0 0 0))), (x2, .inl (dA 2, 64, .inr (.inl (va_cpy gy2 gx2 0 0 0)))), (x3, .inl (dA 2, 64, .inr (.inl (va_cpy gy3 gx3 0 0 0)))), (y0, .inl (dA 4, 32, .inr (.inr (.inr (.inr gy0))))), (y1, .inl (dA 1, 64, .inl gy1)), (y2, .inl (dA 2, 64, .inr (.inl gy2))), (y3, .inl (dA 2, 64, .inr (.inl gy3)))] := hD
  refine lv_aload_n hx hb d_H_takeParcels_76 rfl (lv_at hl 0 rfl) ?_
  refine lv_aload_n hx hb d_H_takeParcels_77 rfl (lv_at hl 1 rfl) ?_
  refine gF (v := .int 0) hx hb hown hE hK hP 1 rfl rfl layH 6 (by decide) w567 h_gs_scarCount d_H_takeParcels_78 ?_
  refine pF hx hb hown hE hK hP hD hS 0 rfl rfl layH tyH tokH nmH 6 (by decide) w567 rfl rfl rfl (by simp [hl_fs]) d_H_takeParcels_81 (fun H locs hP hD hS => ?_)
  have hP : va_P D vwCl [(a, .inr (3, ((fs.set 1 (.int 0)).set 6 (.int 0)))), (b, .inr (3, gs)), (x0, .inl (dA 4, 32, .inr (.inr (.inr (.inr (va_cpy gy0 gx0 0 0 0)))))), (x1, .inl (dA 1, 64, .inl (va_cpy gy1 gx1 0 0 0))), (x2, .inl (dA 2, 64, .inr (.inl (va_cpy gy2 gx2 0 0 0)))), (x3, .inl (dA 2, 64, .inr (.inl (va_cpy gy3 gx3 0 0 0)))), (y0, .inl (dA 4, 32, .inr (.inr (.inr (.inr gy0))))), (y1, .inl (dA 1, 64, .inl gy1)), (y2, .inl (dA 2, 64, .inr (.inl gy2))), (y3, .inl (dA 2, 64, .inr (.inl gy3)))] H := hP
  have hD : va_D A [(a, .inr (3, ((fs.set 1 (.int 0)).set 6 (.int 0)))), (b, .inr (3, gs)), (x0, .inl (dA 4, 32, .inr (.inr (.inr (.inr (va_cpy gy0 gx0 0 0 0)))))), (x1, .inl (dA 1, 64, .inl (va_cpy gy1 gx1 0 0 0))), (x2, .inl (dA 2, 64, .inr (.inl (va_cpy gy2 gx2 0 0 0)))), (x3, .inl (dA 2, 64, .inr (.inl (va_cpy gy3 gx3 0 0 0)))), (y0, .inl (dA 4, 32, .inr (.inr (.inr (.inr gy0))))), (y1, .inl (dA 1, 64, .inl gy1)), (y2, .inl (dA 2, 64, .inr (.inl gy2))), (y3, .inl (dA 2, 64, .inr (.inl gy3)))] := hD
  refine lv_aload_n hx hb d_H_takeParcels_84 rfl (lv_at hl 0 rfl) ?_
  refine lv_aload_n hx hb d_H_takeParcels_85 rfl (lv_at hl 1 rfl) ?_
  refine gF (v := .long hz) hx hb hown hE hK hP 1 rfl rfl layH 7 (by decide) w568 h_gs_horizon d_H_takeParcels_86 ?_
  refine pF hx hb hown hE hK hP hD hS 0 rfl rfl layH tyH tokH nmH 7 (by decide) w568 rfl rfl rfl (by simp [hl_fs]) d_H_takeParcels_89 (fun H locs hP hD hS => ?_)
  have hP : va_P D vwCl [(a, .inr (3, (((fs.set 1 (.int 0)).set 6 (.int 0)).set 7 (.long hz)))), (b, .inr (3, gs)), (x0, .inl (dA 4, 32, .inr (.inr (.inr (.inr (va_cpy gy0 gx0 0 0 0)))))), (x1, .inl (dA 1, 64, .inl (va_cpy gy1 gx1 0 0 0))), (x2, .inl (dA 2, 64, .inr (.inl (va_cpy gy2 gx2 0 0 0)))), (x3, .inl (dA 2, 64, .inr (.inl (va_cpy gy3 gx3 0 0 0)))), (y0, .inl (dA 4, 32, .inr (.inr (.inr (.inr gy0))))), (y1, .inl (dA 1, 64, .inl gy1)), (y2, .inl (dA 2, 64, .inr (.inl gy2))), (y3, .inl (dA 2, 64, .inr (.inl gy3)))] H := hP
  have hD : va_D A [(a, .inr (3, (((fs.set 1 (.int 0)).set 6 (.int 0)).set 7 (.long hz)))), (b, .inr (3, gs)), (x0, .inl (dA 4, 32, .inr (.inr (.inr (.inr (va_cpy gy0 gx0 0 0 0)))))), (x1, .inl (dA 1, 64, .inl (va_cpy gy1 gx1 0 0 0))), (x2, .inl (dA 2, 64, .inr (.inl (va_cpy gy2 gx2 0 0 0)))), (x3, .inl (dA 2, 64, .inr (.inl (va_cpy gy3 gx3 0 0 0)))), (y0, .inl (dA 4, 32, .inr (.inr (.inr (.inr gy0))))), (y1, .inl (dA 1, 64, .inl gy1)), (y2, .inl (dA 2, 64, .inr (.inl gy2))), (y3, .inl (dA 2, 64, .inr (.inl gy3)))] := hD
  exact rtV hx hb hr hlk hP hD hS () trivial [0, 1, 2, 3, 4, 5, 6, 7, 8, 9] rfl rfl (by decide) (Nat.le_of_ble_eq_true rfl) (Nat.le_of_ble_eq_true rfl) d_H_takeParcels_92
end
section
theorem d_V_keepManifest_0 : decode prog_1_method_42_code 0 = .ok (.aload_n 0, 1) := by decide +kernel
theorem d_V_keepManifest_1 : decode prog_1_method_42_code 1 = .ok (.getfield 33, 3) := by decide +kernel
theorem d_V_keepManifest_4 : decode prog_1_method_42_code 4 = .ok (.invokevirtual 358, 3) := by decide +kernel
theorem d_V_keepManifest_7 : decode prog_1_method_42_code 7 = .ok (.aload_n 0, 1) := by decide +kernel
theorem d_V_keepManifest_8 : decode prog_1_method_42_code 8 = .ok (.getfield 37, 3) := by decide +kernel
theorem d_V_keepManifest_11 : decode prog_1_method_42_code 11 = .ok (.aload_n 0, 1) := by decide +kernel
theorem d_V_keepManifest_12 : decode prog_1_method_42_code 12 = .ok (.getfield 33, 3) := by decide +kernel
theorem d_V_keepManifest_15 : decode prog_1_method_42_code 15 = .ok (.invokevirtual 143, 3) := by decide +kernel
theorem d_V_keepManifest_18 : decode prog_1_method_42_code 18 = .ok (.return_, 1) := by decide +kernel
theorem w723 : Cond.methodLink "SeriesVault" 358 ⟨"SeriesVault$Shelf", "endScars", "()V"⟩ ∈ aW := aw_of (tb_6 (List.mem_of_getElem? (i := 136) rfl)) rfl
theorem w724 : Cond.code ⟨"SeriesVault$Shelf", "endScars", "()V"⟩ prog_9_method_12_code 3 none ∈ aW := aw_of (tb_6 (List.mem_of_getElem? (i := 139) rfl)) rfl
theorem w725 : Cond.instanceMethod ⟨"SeriesVault$Shelf", "endScars", "()V"⟩ ∈ aW := aw_of (tb_6 (List.mem_of_getElem? (i := 137) rfl)) rfl
theorem w726 : Cond.selects "SeriesVault$Shelf" ⟨"SeriesVault$Shelf", "endScars", "()V"⟩ ⟨"SeriesVault$Shelf", "endScars", "()V"⟩ ∈ aW := aw_of (tb_6 (List.mem_of_getElem? (i := 138) rfl)) rfl
theorem w727 : Cond.methodLink "SeriesVault" 143 ⟨"SeriesVault$Shelf", "takeParcels", "(LSeriesVault$Shelf;)V"⟩ ∈ aW := aw_of (tb_6 (List.mem_of_getElem? (i := 106) rfl)) rfl
theorem w728 : Cond.code ⟨"SeriesVault$Shelf", "takeParcels", "(LSeriesVault$Shelf;)V"⟩ prog_9_method_3_code 2 none ∈ aW := aw_of (tb_6 (List.mem_of_getElem? (i := 109) rfl)) rfl
theorem w729 : Cond.instanceMethod ⟨"SeriesVault$Shelf", "takeParcels", "(LSeriesVault$Shelf;)V"⟩ ∈ aW := aw_of (tb_6 (List.mem_of_getElem? (i := 107) rfl)) rfl
theorem w730 : Cond.selects "SeriesVault$Shelf" ⟨"SeriesVault$Shelf", "takeParcels", "(LSeriesVault$Shelf;)V"⟩ ⟨"SeriesVault$Shelf", "takeParcels", "(LSeriesVault$Shelf;)V"⟩ ∈ aW := aw_of (tb_6 (List.mem_of_getElem? (i := 108) rfl)) rfl
set_option maxHeartbeats 4000000 in
set_option maxRecDepth 100000 in
theorem c_V_keepManifest_0 (l : Launch) (D : va_G) (dA : Nat → ClassId) (sz : Nat) (a : Nat) (fs : List Value) (b : Nat) (gs : List Value) (b2 : Nat) (hs : List Value) (hz : Int64) (y4 : Nat) (gy4 : Nat → Int32) (x0 : Nat) (x1 : Nat) (x2 : Nat) (x3 : Nat) (gx0 : Nat → Option Nat) (gx1 : Nat → Int32) (gx2 : Nat → Int64) (gx3 : Nat → Int64) (y0 : Nat) (y1 : Nat) (y2 : Nat) (y3 : Nat) (gy0 : Nat → Option Nat) (gy1 : Nat → Int32) (gy2 : Nat → Int64) (gy3 : Nat → Int64) (h_fs_now : fs[11]? = some (.ref b)) (h_fs_saved : fs[12]? = some (.ref b2)) (hl_fs : fs.length = 18) (h_gs_parcels : gs[0]? = some (.ref y0)) (h_gs_parcelCount : gs[1]? = some (.int 0)) (h_gs_scarOwners : gs[2]? = some (.ref y1)) (h_gs_scarFroms : gs[3]? = some (.ref y2)) (h_gs_scarTos : gs[4]? = some (.ref y3)) (h_gs_scarPoints : gs[5]? = some (.ref y4)) (h_gs_scarCount : gs[6]? = some (.int 0)) (h_gs_horizon : gs[7]? = some (.long hz)) (hl_gs : gs.length = 11) (h_hs_parcels : hs[0]? = some (.ref x0)) (h_hs_scarOwners : hs[2]? = some (.ref x1)) (h_hs_scarFroms : hs[3]? = some (.ref x2)) (h_hs_scarTos : hs[4]? = some (.ref x3)) (hl_hs : hs.length = 11) : Met l ⟨"SeriesVault", "keepManifest", "()V"⟩ [Cond.code ⟨"SeriesVault", "keepManifest", "()V"⟩ prog_1_method_42_code 1 none] { frames := 3, cells := 0, slots := 0, locals := 61 } (pC D dA [.ref a] [(a, .inr (0, fs)), (b, .inr (3, gs)), (b2, .inr (3, hs)), (y4, .inl (dA 1, 64, .inl gy4)), (x0, .inl (dA 4, 32, .inr (.inr (.inr (.inr gx0))))), (x1, .inl (dA 1, 64, .inl gx1)), (x2, .inl (dA 2, 64, .inr (.inl gx2))), (x3, .inl (dA 2, 64, .inr (.inl gx3))), (y0, .inl (dA 4, 32, .inr (.inr (.inr (.inr gy0))))), (y1, .inl (dA 1, 64, .inl gy1)), (y2, .inl (dA 2, 64, .inr (.inl gy2))), (y3, .inl (dA 2, 64, .inr (.inl gy3)))] sz) (va_Qv (fun (_ : Unit) => True) (fun (u9 : Unit) t9 => bW D (va_A [(a, .inr (0, fs)), (b, .inr (3, gs)), (b2, .inr (3, hs)), (y4, .inl (dA 1, 64, .inl gy4)), (x0, .inl (dA 4, 32, .inr (.inr (.inr (.inr gx0))))), (x1, .inl (dA 1, 64, .inl gx1)), (x2, .inl (dA 2, 64, .inr (.inl gx2))), (x3, .inl (dA 2, 64, .inr (.inl gx3))), (y0, .inl (dA 4, 32, .inr (.inr (.inr (.inr gy0))))), (y1, .inl (dA 1, 64, .inl gy1)), (y2, .inl (dA 2, 64, .inr (.inl gy2))), (y3, .inl (dA 2, 64, .inr (.inl gy3)))] sz) [(a, .inr (0, fs)), (b, .inr (3, (gs.set 6 (.int 0)))), (b2, .inr (3, (((hs.set 1 (.int 0)).set 6 (.int 0)).set 7 (.long hz)))), (y4, .inl (dA 1, 64, .inl (upd (upd (upd (upd (upd (upd (upd (upd (upd (upd (upd (upd (upd (upd (upd (upd (upd (upd (upd (upd (upd (upd (upd (upd (upd (upd (upd (upd (upd (upd (upd (upd (upd (upd (upd (upd (upd (upd (upd (upd (upd (upd (upd (upd (upd (upd (upd (upd (upd (upd (upd (upd (upd (upd (upd (upd (upd (upd (upd (upd (upd (upd (upd (upd gy4 0 0) 1 0) 2 0) 3 0) 4 0) 5 0) 6 0) 7 0) 8 0) 9 0) 10 0) 11 0) 12 0) 13 0) 14 0) 15 0) 16 0) 17 0) 18 0) 19 0) 20 0) 21 0) 22 0) 23 0) 24 0) 25 0) 26 0) 27 0) 28 0) 29 0) 30 0) 31 0) 32 0) 33 0) 34 0) 35 0) 36 0) 37 0) 38 0) 39 0) 40 0) 41 0) 42 0) 43 0) 44 0) 45 0) 46 0) 47 0) 48 0) 49 0) 50 0) 51 0) 52 0) 53 0) 54 0) 55 0) 56 0) 57 0) 58 0) 59 0) 60 0) 61 0) 62 0) 63 0))), (x0, .inl (dA 4, 32, .inr (.inr (.inr (.inr (va_cpy gy0 gx0 0 0 0)))))), (x1, .inl (dA 1, 64, .inl (va_cpy gy1 gx1 0 0 0))), (x2, .inl (dA 2, 64, .inr (.inl (va_cpy gy2 gx2 0 0 0)))), (x3, .inl (dA 2, 64, .inr (.inl (va_cpy gy3 gx3 0 0 0)))), (y0, .inl (dA 4, 32, .inr (.inr (.inr (.inr gy0))))), (y1, .inl (dA 1, 64, .inl gy1)), (y2, .inl (dA 2, 64, .inr (.inl gy2))), (y3, .inl (dA 2, 64, .inr (.inl gy3)))] t9) (va_A [(a, .inr (0, fs)), (b, .inr (3, gs)), (b2, .inr (3, hs)), (y4, .inl (dA 1, 64, .inl gy4)), (x0, .inl (dA 4, 32, .inr (.inr (.inr (.inr gx0))))), (x1, .inl (dA 1, 64, .inl gx1)), (x2, .inl (dA 2, 64, .inr (.inl gx2))), (x3, .inl (dA 2, 64, .inr (.inl gx3))), (y0, .inl (dA 4, 32, .inr (.inr (.inr (.inr gy0))))), (y1, .inl (dA 1, 64, .inl gy1)), (y2, .inl (dA 2, 64, .inr (.inl gy2))), (y3, .inl (dA 2, 64, .inr (.inl gy3)))] sz)) 0 0 (va_A [(a, .inr (0, fs)), (b, .inr (3, gs)), (b2, .inr (3, hs)), (y4, .inl (dA 1, 64, .inl gy4)), (x0, .inl (dA 4, 32, .inr (.inr (.inr (.inr gx0))))), (x1, .inl (dA 1, 64, .inl gx1)), (x2, .inl (dA 2, 64, .inr (.inl gx2))), (x3, .inl (dA 2, 64, .inr (.inl gx3))), (y0, .inl (dA 4, 32, .inr (.inr (.inr (.inr gy0))))), (y1, .inl (dA 1, 64, .inl gy1)), (y2, .inl (dA 2, 64, .inr (.inl gy2))), (y3, .inl (dA 2, 64, .inr (.inl gy3)))] sz) := by
  refine mkC (y := ⟨"SeriesVault", "keepManifest", "()V"⟩) (cc := prog_1_method_42_code) (maxL := 1) (av := [.ref a]) (ws := [(a, .inr (0, fs)), (b, .inr (3, gs)), (b2, .inr (3, hs)), (y4, .inl (dA 1, 64, .inl gy4)), (x0, .inl (dA 4, 32, .inr (.inr (.inr (.inr gx0))))), (x1, .inl (dA 1, 64, .inl gx1)), (x2, .inl (dA 2, 64, .inr (.inl gx2))), (x3, .inl (dA 2, 64, .inr (.inl gx3))), (y0, .inl (dA 4, 32, .inr (.inr (.inr (.inr gy0))))), (y1, .inl (dA 1, 64, .inl gy1)), (y2, .inl (dA 2, 64, .inr (.inl gy2))), (y3, .inl (dA 2, 64, .inr (.inl gy3)))]) (sz := sz) (Qc := fun A => va_Qv (fun (_ : Unit) => True) (fun (u9 : Unit) t9 => bW D A [(a, .inr (0, fs)), (b, .inr (3, (gs.set 6 (.int 0)))), (b2, .inr (3, (((hs.set 1 (.int 0)).set 6 (.int 0)).set 7 (.long hz)))), (y4, .inl (dA 1, 64, .inl (upd (upd (upd (upd (upd (upd (upd (upd (upd (upd (upd (upd (upd (upd (upd (upd (upd (upd (upd (upd (upd (upd (upd (upd (upd (upd (upd (upd (upd (upd (upd (upd (upd (upd (upd (upd (upd (upd (upd (upd (upd (upd (upd (upd (upd (upd (upd (upd (upd (upd (upd (upd (upd (upd (upd (upd (upd (upd (upd (upd (upd (upd (upd (upd gy4 0 0) 1 0) 2 0) 3 0) 4 0) 5 0) 6 0) 7 0) 8 0) 9 0) 10 0) 11 0) 12 0) 13 0) 14 0) 15 0) 16 0) 17 0) 18 0) 19 0) 20 0) 21 0) 22 0) 23 0) 24 0) 25 0) 26 0) 27 0) 28 0) 29 0) 30 0) 31 0) 32 0) 33 0) 34 0) 35 0) 36 0) 37 0) 38 0) 39 0) 40 0) 41 0) 42 0) 43 0) 44 0) 45 0) 46 0) 47 0) 48 0) 49 0) 50 0) 51 0) 52 0) 53 0) 54 0) 55 0) 56 0) 57 0) 58 0) 59 0) 60 0) 61 0) 62 0) 63 0))), (x0, .inl (dA 4, 32, .inr (.inr (.inr (.inr (va_cpy gy0 gx0 0 0 0)))))), (x1, .inl (dA 1, 64, .inl (va_cpy gy1 gx1 0 0 0))), (x2, .inl (dA 2, 64, .inr (.inl (va_cpy gy2 gx2 0 0 0)))), (x3, .inl (dA 2, 64, .inr (.inl (va_cpy gy3 gx3 0 0 0)))), (y0, .inl (dA 4, 32, .inr (.inr (.inr (.inr gy0))))), (y1, .inl (dA 1, 64, .inl gy1)), (y2, .inl (dA 2, 64, .inr (.inl gy2))), (y3, .inl (dA 2, 64, .inr (.inl gy3)))] t9) A) (by decide) (Nat.le_of_ble_eq_true rfl) ?_
  intro A p e s m below meth c ls hsz hB
  obtain ⟨hx, hb, hr, hml, hown, hin, hlk, hE, hK, hP, hD, hS, hA, hN, hl⟩ := hB
  have hown : s.vm.findClass "SeriesVault" = some m.cls := hown
  have hin : meth.name = "keepManifest" := hin
  have hl : lv_has ls 1 [(0, .ref a)] := hl
  obtain ⟨H, hH⟩ : ∃ z, z = s.heap := ⟨_, rfl⟩
  have hP : va_P D vwCl [(a, .inr (0, fs)), (b, .inr (3, gs)), (b2, .inr (3, hs)), (y4, .inl (dA 1, 64, .inl gy4)), (x0, .inl (dA 4, 32, .inr (.inr (.inr (.inr gx0))))), (x1, .inl (dA 1, 64, .inl gx1)), (x2, .inl (dA 2, 64, .inr (.inl gx2))), (x3, .inl (dA 2, 64, .inr (.inl gx3))), (y0, .inl (dA 4, 32, .inr (.inr (.inr (.inr gy0))))), (y1, .inl (dA 1, 64, .inl gy1)), (y2, .inl (dA 2, 64, .inr (.inl gy2))), (y3, .inl (dA 2, 64, .inr (.inl gy3)))] H := by rw [hH]; exact hP
  have hS : va_S A s.heap H [] := by rw [hH]; exact hS
  rw [← hH]
  refine lv_aload_n hx hb d_V_keepManifest_0 rfl (lv_at hl 0 rfl) ?_
  refine gF (v := .ref b) hx hb hown hE hK hP 0 rfl rfl layV 11 (by decide) w297 h_fs_now d_V_keepManifest_1 ?_
  have hPc := hP.sub (ws' := [(b, .inr (3, gs)), (y4, .inl (dA 1, 64, .inl gy4))]) [1, 3] rfl
  have hDc := hD.sub (ws' := [(b, .inr (3, gs)), (y4, .inl (dA 1, 64, .inl gy4))]) [1, 3] (by decide) rfl
  refine jnV (rnV (As := []) (rest := []) hx hb hml hown hE hK (hN _ _ hS) hPc hDc (c_H_endScars_0 l D dA H.size b gs y4 gy4 h_gs_parcelCount h_gs_scarPoints h_gs_scarCount hl_gs) (q0 := 0) rfl rfl w724 w723 w725 w726 w583 rfl rfl ⟨⟨by decide, by decide⟩, rfl⟩ ⟨(Nat.le_of_ble_eq_true rfl), (Nat.le_of_ble_eq_true rfl)⟩ rfl hl.1 rfl (Nat.le_of_ble_eq_true rfl) d_V_keepManifest_4 ⟨(Nat.le_of_ble_eq_true rfl), (Nat.le_of_ble_eq_true rfl)⟩) hP hD hS hA [1, 3] [0, 2, 4, 5, 6, 7, 8, 9, 10, 11] (wr := [(a, .inr (0, fs)), (b2, .inr (3, hs)), (x0, .inl (dA 4, 32, .inr (.inr (.inr (.inr gx0))))), (x1, .inl (dA 1, 64, .inl gx1)), (x2, .inl (dA 2, 64, .inr (.inl gx2))), (x3, .inl (dA 2, 64, .inr (.inl gx3))), (y0, .inl (dA 4, 32, .inr (.inr (.inr (.inr gy0))))), (y1, .inl (dA 1, 64, .inl gy1)), (y2, .inl (dA 2, 64, .inr (.inl gy2))), (y3, .inl (dA 2, 64, .inr (.inl gy3)))]) rfl rfl (by decide) (by decide) (fun u9 H locs hp9 hP hD hS => ?_)
  have hP : va_P D vwCl [(a, .inr (0, fs)), (b2, .inr (3, hs)), (x0, .inl (dA 4, 32, .inr (.inr (.inr (.inr gx0))))), (x1, .inl (dA 1, 64, .inl gx1)), (x2, .inl (dA 2, 64, .inr (.inl gx2))), (x3, .inl (dA 2, 64, .inr (.inl gx3))), (y0, .inl (dA 4, 32, .inr (.inr (.inr (.inr gy0))))), (y1, .inl (dA 1, 64, .inl gy1)), (y2, .inl (dA 2, 64, .inr (.inl gy2))), (y3, .inl (dA 2, 64, .inr (.inl gy3))), (b, .inr (3, (gs.set 6 (.int 0)))), (y4, .inl (dA 1, 64, .inl (upd (upd (upd (upd (upd (upd (upd (upd (upd (upd (upd (upd (upd (upd (upd (upd (upd (upd (upd (upd (upd (upd (upd (upd (upd (upd (upd (upd (upd (upd (upd (upd (upd (upd (upd (upd (upd (upd (upd (upd (upd (upd (upd (upd (upd (upd (upd (upd (upd (upd (upd (upd (upd (upd (upd (upd (upd (upd (upd (upd (upd (upd (upd (upd gy4 0 0) 1 0) 2 0) 3 0) 4 0) 5 0) 6 0) 7 0) 8 0) 9 0) 10 0) 11 0) 12 0) 13 0) 14 0) 15 0) 16 0) 17 0) 18 0) 19 0) 20 0) 21 0) 22 0) 23 0) 24 0) 25 0) 26 0) 27 0) 28 0) 29 0) 30 0) 31 0) 32 0) 33 0) 34 0) 35 0) 36 0) 37 0) 38 0) 39 0) 40 0) 41 0) 42 0) 43 0) 44 0) 45 0) 46 0) 47 0) 48 0) 49 0) 50 0) 51 0) 52 0) 53 0) 54 0) 55 0) 56 0) 57 0) 58 0) 59 0) 60 0) 61 0) 62 0) 63 0)))] H := hP
  have hD : va_D A [(a, .inr (0, fs)), (b2, .inr (3, hs)), (x0, .inl (dA 4, 32, .inr (.inr (.inr (.inr gx0))))), (x1, .inl (dA 1, 64, .inl gx1)), (x2, .inl (dA 2, 64, .inr (.inl gx2))), (x3, .inl (dA 2, 64, .inr (.inl gx3))), (y0, .inl (dA 4, 32, .inr (.inr (.inr (.inr gy0))))), (y1, .inl (dA 1, 64, .inl gy1)), (y2, .inl (dA 2, 64, .inr (.inl gy2))), (y3, .inl (dA 2, 64, .inr (.inl gy3))), (b, .inr (3, (gs.set 6 (.int 0)))), (y4, .inl (dA 1, 64, .inl (upd (upd (upd (upd (upd (upd (upd (upd (upd (upd (upd (upd (upd (upd (upd (upd (upd (upd (upd (upd (upd (upd (upd (upd (upd (upd (upd (upd (upd (upd (upd (upd (upd (upd (upd (upd (upd (upd (upd (upd (upd (upd (upd (upd (upd (upd (upd (upd (upd (upd (upd (upd (upd (upd (upd (upd (upd (upd (upd (upd (upd (upd (upd (upd gy4 0 0) 1 0) 2 0) 3 0) 4 0) 5 0) 6 0) 7 0) 8 0) 9 0) 10 0) 11 0) 12 0) 13 0) 14 0) 15 0) 16 0) 17 0) 18 0) 19 0) 20 0) 21 0) 22 0) 23 0) 24 0) 25 0) 26 0) 27 0) 28 0) 29 0) 30 0) 31 0) 32 0) 33 0) 34 0) 35 0) 36 0) 37 0) 38 0) 39 0) 40 0) 41 0) 42 0) 43 0) 44 0) 45 0) 46 0) 47 0) 48 0) 49 0) 50 0) 51 0) 52 0) 53 0) 54 0) 55 0) 56 0) 57 0) 58 0) 59 0) 60 0) 61 0) 62 0) 63 0)))] := hD
  refine lv_aload_n hx hb d_V_keepManifest_7 rfl (lv_at hl 0 rfl) ?_
  refine gF (v := .ref b2) hx hb hown hE hK hP 0 rfl rfl layV 12 (by decide) w587 h_fs_saved d_V_keepManifest_8 ?_
  refine lv_aload_n hx hb d_V_keepManifest_11 rfl (lv_at hl 0 rfl) ?_
  refine gF (v := .ref b) hx hb hown hE hK hP 0 rfl rfl layV 11 (by decide) w297 h_fs_now d_V_keepManifest_12 ?_
  have hPc := hP.sub (ws' := [(b2, .inr (3, hs)), (b, .inr (3, (gs.set 6 (.int 0)))), (x0, .inl (dA 4, 32, .inr (.inr (.inr (.inr gx0))))), (x1, .inl (dA 1, 64, .inl gx1)), (x2, .inl (dA 2, 64, .inr (.inl gx2))), (x3, .inl (dA 2, 64, .inr (.inl gx3))), (y0, .inl (dA 4, 32, .inr (.inr (.inr (.inr gy0))))), (y1, .inl (dA 1, 64, .inl gy1)), (y2, .inl (dA 2, 64, .inr (.inl gy2))), (y3, .inl (dA 2, 64, .inr (.inl gy3)))]) [1, 10, 2, 3, 4, 5, 6, 7, 8, 9] rfl
  have hDc := hD.sub (ws' := [(b2, .inr (3, hs)), (b, .inr (3, (gs.set 6 (.int 0)))), (x0, .inl (dA 4, 32, .inr (.inr (.inr (.inr gx0))))), (x1, .inl (dA 1, 64, .inl gx1)), (x2, .inl (dA 2, 64, .inr (.inl gx2))), (x3, .inl (dA 2, 64, .inr (.inl gx3))), (y0, .inl (dA 4, 32, .inr (.inr (.inr (.inr gy0))))), (y1, .inl (dA 1, 64, .inl gy1)), (y2, .inl (dA 2, 64, .inr (.inl gy2))), (y3, .inl (dA 2, 64, .inr (.inl gy3)))]) [1, 10, 2, 3, 4, 5, 6, 7, 8, 9] (by decide) rfl
  refine jnV (rnV (As := [.ref b]) (rest := []) hx hb hml hown hE hK (hN _ _ hS) hPc hDc (c_H_takeParcels_0 l D dA H.size b2 hs b (gs.set 6 (.int 0)) hz x0 x1 x2 x3 gx0 gx1 gx2 gx3 y0 y1 y2 y3 gy0 gy1 gy2 gy3 h_hs_parcels h_hs_scarOwners h_hs_scarFroms h_hs_scarTos hl_hs (by simp [h_gs_parcels]) (by simp [h_gs_parcelCount]) (by simp [h_gs_scarOwners]) (by simp [h_gs_scarFroms]) (by simp [h_gs_scarTos]) (by simp [hl_gs]) (by simp [h_gs_horizon]) (by simp [hl_gs])) (q0 := 0) rfl rfl w728 w727 w729 w730 w583 rfl rfl ⟨⟨by decide, by decide⟩, rfl⟩ ⟨(Nat.le_of_ble_eq_true rfl), (Nat.le_of_ble_eq_true rfl)⟩ rfl hl.1 rfl (Nat.le_of_ble_eq_true rfl) d_V_keepManifest_15 ⟨(Nat.le_of_ble_eq_true rfl), (Nat.le_of_ble_eq_true rfl)⟩) hP hD hS hA [1, 10, 2, 3, 4, 5, 6, 7, 8, 9] [0, 11] (wr := [(a, .inr (0, fs)), (y4, .inl (dA 1, 64, .inl (upd (upd (upd (upd (upd (upd (upd (upd (upd (upd (upd (upd (upd (upd (upd (upd (upd (upd (upd (upd (upd (upd (upd (upd (upd (upd (upd (upd (upd (upd (upd (upd (upd (upd (upd (upd (upd (upd (upd (upd (upd (upd (upd (upd (upd (upd (upd (upd (upd (upd (upd (upd (upd (upd (upd (upd (upd (upd (upd (upd (upd (upd (upd (upd gy4 0 0) 1 0) 2 0) 3 0) 4 0) 5 0) 6 0) 7 0) 8 0) 9 0) 10 0) 11 0) 12 0) 13 0) 14 0) 15 0) 16 0) 17 0) 18 0) 19 0) 20 0) 21 0) 22 0) 23 0) 24 0) 25 0) 26 0) 27 0) 28 0) 29 0) 30 0) 31 0) 32 0) 33 0) 34 0) 35 0) 36 0) 37 0) 38 0) 39 0) 40 0) 41 0) 42 0) 43 0) 44 0) 45 0) 46 0) 47 0) 48 0) 49 0) 50 0) 51 0) 52 0) 53 0) 54 0) 55 0) 56 0) 57 0) 58 0) 59 0) 60 0) 61 0) 62 0) 63 0)))]) rfl rfl (by decide) (by decide) (fun u9 H locs hp9 hP hD hS => ?_)
  have hP : va_P D vwCl [(a, .inr (0, fs)), (y4, .inl (dA 1, 64, .inl (upd (upd (upd (upd (upd (upd (upd (upd (upd (upd (upd (upd (upd (upd (upd (upd (upd (upd (upd (upd (upd (upd (upd (upd (upd (upd (upd (upd (upd (upd (upd (upd (upd (upd (upd (upd (upd (upd (upd (upd (upd (upd (upd (upd (upd (upd (upd (upd (upd (upd (upd (upd (upd (upd (upd (upd (upd (upd (upd (upd (upd (upd (upd (upd gy4 0 0) 1 0) 2 0) 3 0) 4 0) 5 0) 6 0) 7 0) 8 0) 9 0) 10 0) 11 0) 12 0) 13 0) 14 0) 15 0) 16 0) 17 0) 18 0) 19 0) 20 0) 21 0) 22 0) 23 0) 24 0) 25 0) 26 0) 27 0) 28 0) 29 0) 30 0) 31 0) 32 0) 33 0) 34 0) 35 0) 36 0) 37 0) 38 0) 39 0) 40 0) 41 0) 42 0) 43 0) 44 0) 45 0) 46 0) 47 0) 48 0) 49 0) 50 0) 51 0) 52 0) 53 0) 54 0) 55 0) 56 0) 57 0) 58 0) 59 0) 60 0) 61 0) 62 0) 63 0))), (b2, .inr (3, (((hs.set 1 (.int 0)).set 6 (.int 0)).set 7 (.long hz)))), (b, .inr (3, (gs.set 6 (.int 0)))), (x0, .inl (dA 4, 32, .inr (.inr (.inr (.inr (va_cpy gy0 gx0 0 0 0)))))), (x1, .inl (dA 1, 64, .inl (va_cpy gy1 gx1 0 0 0))), (x2, .inl (dA 2, 64, .inr (.inl (va_cpy gy2 gx2 0 0 0)))), (x3, .inl (dA 2, 64, .inr (.inl (va_cpy gy3 gx3 0 0 0)))), (y0, .inl (dA 4, 32, .inr (.inr (.inr (.inr gy0))))), (y1, .inl (dA 1, 64, .inl gy1)), (y2, .inl (dA 2, 64, .inr (.inl gy2))), (y3, .inl (dA 2, 64, .inr (.inl gy3)))] H := hP
  have hD : va_D A [(a, .inr (0, fs)), (y4, .inl (dA 1, 64, .inl (upd (upd (upd (upd (upd (upd (upd (upd (upd (upd (upd (upd (upd (upd (upd (upd (upd (upd (upd (upd (upd (upd (upd (upd (upd (upd (upd (upd (upd (upd (upd (upd (upd (upd (upd (upd (upd (upd (upd (upd (upd (upd (upd (upd (upd (upd (upd (upd (upd (upd (upd (upd (upd (upd (upd (upd (upd (upd (upd (upd (upd (upd (upd (upd gy4 0 0) 1 0) 2 0) 3 0) 4 0) 5 0) 6 0) 7 0) 8 0) 9 0) 10 0) 11 0) 12 0) 13 0) 14 0) 15 0) 16 0) 17 0) 18 0) 19 0) 20 0) 21 0) 22 0) 23 0) 24 0) 25 0) 26 0) 27 0) 28 0) 29 0) 30 0) 31 0) 32 0) 33 0) 34 0) 35 0) 36 0) 37 0) 38 0) 39 0) 40 0) 41 0) 42 0) 43 0) 44 0) 45 0) 46 0) 47 0) 48 0) 49 0) 50 0) 51 0) 52 0) 53 0) 54 0) 55 0) 56 0) 57 0) 58 0) 59 0) 60 0) 61 0) 62 0) 63 0))), (b2, .inr (3, (((hs.set 1 (.int 0)).set 6 (.int 0)).set 7 (.long hz)))), (b, .inr (3, (gs.set 6 (.int 0)))), (x0, .inl (dA 4, 32, .inr (.inr (.inr (.inr (va_cpy gy0 gx0 0 0 0)))))), (x1, .inl (dA 1, 64, .inl (va_cpy gy1 gx1 0 0 0))), (x2, .inl (dA 2, 64, .inr (.inl (va_cpy gy2 gx2 0 0 0)))), (x3, .inl (dA 2, 64, .inr (.inl (va_cpy gy3 gx3 0 0 0)))), (y0, .inl (dA 4, 32, .inr (.inr (.inr (.inr gy0))))), (y1, .inl (dA 1, 64, .inl gy1)), (y2, .inl (dA 2, 64, .inr (.inl gy2))), (y3, .inl (dA 2, 64, .inr (.inl gy3)))] := hD
  exact rtV hx hb hr hlk hP hD hS () trivial [0, 3, 2, 1, 4, 5, 6, 7, 8, 9, 10, 11] rfl rfl (by decide) (Nat.le_of_ble_eq_true rfl) (Nat.le_of_ble_eq_true rfl) d_V_keepManifest_18
theorem d_V_retain_45 : decode prog_1_method_41_code 45 = .ok (.aload_n 0, 1) := by decide +kernel
theorem d_V_retain_46 : decode prog_1_method_41_code 46 = .ok (.getfield 33, 3) := by decide +kernel
theorem d_V_retain_49 : decode prog_1_method_41_code 49 = .ok (.lload_n 1, 1) := by decide +kernel
theorem d_V_retain_50 : decode prog_1_method_41_code 50 = .ok (.invokevirtual 344, 3) := by decide +kernel
theorem d_V_retain_53 : decode prog_1_method_41_code 53 = .ok (.aload_n 0, 1) := by decide +kernel
theorem d_V_retain_54 : decode prog_1_method_41_code 54 = .ok (.getfield 23, 3) := by decide +kernel
theorem d_V_retain_57 : decode prog_1_method_41_code 57 = .ok (.lload_n 1, 1) := by decide +kernel
theorem d_V_retain_58 : decode prog_1_method_41_code 58 = .ok (.invokevirtual 348, 3) := by decide +kernel
theorem d_V_retain_61 : decode prog_1_method_41_code 61 = .ok (.iadd, 1) := by decide +kernel
theorem d_V_retain_62 : decode prog_1_method_41_code 62 = .ok (.istore_n 3, 1) := by decide +kernel
theorem d_V_retain_63 : decode prog_1_method_41_code 63 = .ok (.aload_n 0, 1) := by decide +kernel
theorem d_V_retain_64 : decode prog_1_method_41_code 64 = .ok (.invokevirtual 187, 3) := by decide +kernel
theorem d_V_retain_67 : decode prog_1_method_41_code 67 = .ok (.pop, 1) := by decide +kernel
theorem d_V_retain_68 : decode prog_1_method_41_code 68 = .ok (.aload_n 0, 1) := by decide +kernel
theorem d_V_retain_69 : decode prog_1_method_41_code 69 = .ok (.invokevirtual 133, 3) := by decide +kernel
theorem d_V_retain_72 : decode prog_1_method_41_code 72 = .ok (.aload_n 0, 1) := by decide +kernel
theorem d_V_retain_73 : decode prog_1_method_41_code 73 = .ok (.getfield 33, 3) := by decide +kernel
theorem d_V_retain_76 : decode prog_1_method_41_code 76 = .ok (.lload_n 1, 1) := by decide +kernel
theorem d_V_retain_77 : decode prog_1_method_41_code 77 = .ok (.invokevirtual 351, 3) := by decide +kernel
theorem d_V_retain_80 : decode prog_1_method_41_code 80 = .ok (.aload_n 0, 1) := by decide +kernel
theorem d_V_retain_81 : decode prog_1_method_41_code 81 = .ok (.getfield 23, 3) := by decide +kernel
theorem d_V_retain_84 : decode prog_1_method_41_code 84 = .ok (.lload_n 1, 1) := by decide +kernel
theorem d_V_retain_85 : decode prog_1_method_41_code 85 = .ok (.invokevirtual 355, 3) := by decide +kernel
theorem d_V_retain_88 : decode prog_1_method_41_code 88 = .ok (.aload_n 0, 1) := by decide +kernel
theorem d_V_retain_89 : decode prog_1_method_41_code 89 = .ok (.invokevirtual 341, 3) := by decide +kernel
theorem d_V_retain_92 : decode prog_1_method_41_code 92 = .ok (.iload_n 3, 1) := by decide +kernel
theorem d_V_retain_93 : decode prog_1_method_41_code 93 = .ok (.ireturn, 1) := by decide +kernel
theorem w731 : Cond.methodLink "SeriesVault" 344 ⟨"SeriesVault$Shelf", "countSeenBelow", "(J)I"⟩ ∈ aW := aw_of (tb_6 (List.mem_of_getElem? (i := 154) rfl)) rfl
theorem w732 : Cond.methodLink "SeriesVault" 348 ⟨"SeriesVault$Points", "countBelow", "(J)I"⟩ ∈ aW := aw_of (tb_6 (List.mem_of_getElem? (i := 162) rfl)) rfl
theorem w733 : Cond.code ⟨"SeriesVault$Points", "countBelow", "(J)I"⟩ prog_5_method_8_code 5 (some FieldType.int) ∈ aW := aw_of (tb_6 (List.mem_of_getElem? (i := 165) rfl)) rfl
theorem w734 : Cond.instanceMethod ⟨"SeriesVault$Points", "countBelow", "(J)I"⟩ ∈ aW := aw_of (tb_6 (List.mem_of_getElem? (i := 163) rfl)) rfl
theorem w735 : Cond.selects "SeriesVault$Points" ⟨"SeriesVault$Points", "countBelow", "(J)I"⟩ ⟨"SeriesVault$Points", "countBelow", "(J)I"⟩ ∈ aW := aw_of (tb_6 (List.mem_of_getElem? (i := 164) rfl)) rfl
theorem w736 : Cond.methodLink "SeriesVault" 133 ⟨"SeriesVault", "writeBlock", "()V"⟩ ∈ aW := aw_of (tb_5 (List.mem_of_getElem? (i := 51) rfl)) rfl
theorem w737 : Cond.code ⟨"SeriesVault", "writeBlock", "()V"⟩ prog_1_method_15_code 1 none ∈ aW := aw_of (tb_5 (List.mem_of_getElem? (i := 54) rfl)) rfl
theorem w738 : Cond.instanceMethod ⟨"SeriesVault", "writeBlock", "()V"⟩ ∈ aW := aw_of (tb_5 (List.mem_of_getElem? (i := 53) rfl)) rfl
theorem w739 : Cond.selects "SeriesVault" ⟨"SeriesVault", "writeBlock", "()V"⟩ ⟨"SeriesVault", "writeBlock", "()V"⟩ ∈ aW := aw_pr (List.mem_map.mpr ⟨_, pv_1 (List.mem_of_getElem? (i := 15) rfl), rfl⟩) rfl
theorem w740 : Cond.methodLink "SeriesVault" 351 ⟨"SeriesVault$Shelf", "moveHorizon", "(J)V"⟩ ∈ aW := aw_of (tb_6 (List.mem_of_getElem? (i := 166) rfl)) rfl
theorem w741 : Cond.code ⟨"SeriesVault$Shelf", "moveHorizon", "(J)V"⟩ prog_9_method_9_code 5 none ∈ aW := aw_of (tb_6 (List.mem_of_getElem? (i := 169) rfl)) rfl
theorem w742 : Cond.instanceMethod ⟨"SeriesVault$Shelf", "moveHorizon", "(J)V"⟩ ∈ aW := aw_of (tb_6 (List.mem_of_getElem? (i := 167) rfl)) rfl
theorem w743 : Cond.selects "SeriesVault$Shelf" ⟨"SeriesVault$Shelf", "moveHorizon", "(J)V"⟩ ⟨"SeriesVault$Shelf", "moveHorizon", "(J)V"⟩ ∈ aW := aw_of (tb_6 (List.mem_of_getElem? (i := 168) rfl)) rfl
theorem w744 : Cond.methodLink "SeriesVault" 355 ⟨"SeriesVault$Points", "dropBelow", "(J)V"⟩ ∈ aW := aw_of (tb_6 (List.mem_of_getElem? (i := 170) rfl)) rfl
theorem w745 : Cond.code ⟨"SeriesVault$Points", "dropBelow", "(J)V"⟩ prog_5_method_9_code 5 none ∈ aW := aw_of (tb_6 (List.mem_of_getElem? (i := 173) rfl)) rfl
theorem w746 : Cond.instanceMethod ⟨"SeriesVault$Points", "dropBelow", "(J)V"⟩ ∈ aW := aw_of (tb_6 (List.mem_of_getElem? (i := 171) rfl)) rfl
theorem w747 : Cond.selects "SeriesVault$Points" ⟨"SeriesVault$Points", "dropBelow", "(J)V"⟩ ⟨"SeriesVault$Points", "dropBelow", "(J)V"⟩ ∈ aW := aw_of (tb_6 (List.mem_of_getElem? (i := 172) rfl)) rfl
theorem w748 : Cond.methodLink "SeriesVault" 341 ⟨"SeriesVault", "keepManifest", "()V"⟩ ∈ aW := aw_of (tb_6 (List.mem_of_getElem? (i := 132) rfl)) rfl
theorem w749 : Cond.code ⟨"SeriesVault", "keepManifest", "()V"⟩ prog_1_method_42_code 1 none ∈ aW := aw_of (tb_6 (List.mem_of_getElem? (i := 135) rfl)) rfl
theorem w750 : Cond.instanceMethod ⟨"SeriesVault", "keepManifest", "()V"⟩ ∈ aW := aw_of (tb_6 (List.mem_of_getElem? (i := 134) rfl)) rfl
theorem w751 : Cond.selects "SeriesVault" ⟨"SeriesVault", "keepManifest", "()V"⟩ ⟨"SeriesVault", "keepManifest", "()V"⟩ ∈ aW := aw_pr (List.mem_map.mpr ⟨_, pv_2 (List.mem_of_getElem? (i := 15) rfl), rfl⟩) rfl
set_option maxHeartbeats 4000000 in
set_option maxRecDepth 100000 in
theorem c_V_retain_1 (l : Launch) (D : va_G) (dA : Nat → ClassId) (sz : Nat) (a : Nat) (fs : List Value) (b : Nat) (gs : List Value) (b2 : Nat) (hs : List Value) (b1 : Nat) (is : List Value) (b3 : Nat) (js : List Value) (y4 : Nat) (gy4 : Nat → Int32) (t : Int64) (x0 : Nat) (x1 : Nat) (x2 : Nat) (x3 : Nat) (gx0 : Nat → Option Nat) (gx1 : Nat → Int32) (gx2 : Nat → Int64) (gx3 : Nat → Int64) (y0 : Nat) (y1 : Nat) (y2 : Nat) (y3 : Nat) (gy0 : Nat → Option Nat) (gy1 : Nat → Int32) (gy2 : Nat → Int64) (gy3 : Nat → Int64) (h1 : ¬ t < 0) (h2 : t ≤ 1099511627775) (h3 : 0 < t) (h_fs_powered : fs[5]? = some (.int 1)) (h_fs_cutLeft : fs[6]? = some (.int (-1))) (h_fs_writes : fs[7]? = some (.int 0)) (h_fs_journal : fs[8]? = some (.ref b3)) (h_fs_head : fs[9]? = some (.ref b1)) (h_fs_now : fs[11]? = some (.ref b)) (h_fs_saved : fs[12]? = some (.ref b2)) (hl_fs : fs.length = 18) (h_gs_parcels : gs[0]? = some (.ref y0)) (h_gs_parcelCount : gs[1]? = some (.int 0)) (h_gs_scarOwners : gs[2]? = some (.ref y1)) (h_gs_scarFroms : gs[3]? = some (.ref y2)) (h_gs_scarTos : gs[4]? = some (.ref y3)) (h_gs_scarPoints : gs[5]? = some (.ref y4)) (h_gs_scarCount : gs[6]? = some (.int 0)) (h_gs_horizon : gs[7]? = some (.long 0)) (hl_gs : gs.length = 11) (h_hs_parcels : hs[0]? = some (.ref x0)) (h_hs_scarOwners : hs[2]? = some (.ref x1)) (h_hs_scarFroms : hs[3]? = some (.ref x2)) (h_hs_scarTos : hs[4]? = some (.ref x3)) (hl_hs : hs.length = 11) (h_is_size : is[3]? = some (.int 0)) (hl_is : is.length = 4) (h_js_changed : js[12]? = some (.int 0)) (hl_js : js.length = 13) : Met l ⟨"SeriesVault", "retain", "(J)I"⟩ [Cond.code ⟨"SeriesVault", "retain", "(J)I"⟩ prog_1_method_41_code 4 (some FieldType.int)] { frames := 4, cells := 0, slots := 0, locals := 81 } (pC D dA [.ref a, .long t] [(a, .inr (0, fs)), (b, .inr (3, gs)), (b2, .inr (3, hs)), (b1, .inr (2, is)), (b3, .inr (1, js)), (y4, .inl (dA 1, 64, .inl gy4)), (x0, .inl (dA 4, 32, .inr (.inr (.inr (.inr gx0))))), (x1, .inl (dA 1, 64, .inl gx1)), (x2, .inl (dA 2, 64, .inr (.inl gx2))), (x3, .inl (dA 2, 64, .inr (.inl gx3))), (y0, .inl (dA 4, 32, .inr (.inr (.inr (.inr gy0))))), (y1, .inl (dA 1, 64, .inl gy1)), (y2, .inl (dA 2, 64, .inr (.inl gy2))), (y3, .inl (dA 2, 64, .inr (.inl gy3)))] sz) (va_Qi (fun (r : Int32) (_ : Unit) => r = 0) (fun (u9 : Unit) t9 => bW D (va_A [(a, .inr (0, fs)), (b, .inr (3, gs)), (b2, .inr (3, hs)), (b1, .inr (2, is)), (b3, .inr (1, js)), (y4, .inl (dA 1, 64, .inl gy4)), (x0, .inl (dA 4, 32, .inr (.inr (.inr (.inr gx0))))), (x1, .inl (dA 1, 64, .inl gx1)), (x2, .inl (dA 2, 64, .inr (.inl gx2))), (x3, .inl (dA 2, 64, .inr (.inl gx3))), (y0, .inl (dA 4, 32, .inr (.inr (.inr (.inr gy0))))), (y1, .inl (dA 1, 64, .inl gy1)), (y2, .inl (dA 2, 64, .inr (.inl gy2))), (y3, .inl (dA 2, 64, .inr (.inl gy3)))] sz) [(a, .inr (0, (fs.set 7 (.int (0 + 1))))), (b, .inr (3, (((gs.set 7 (.long t)).set 1 (.int 0)).set 6 (.int 0)))), (b2, .inr (3, (((hs.set 1 (.int 0)).set 6 (.int 0)).set 7 (.long t)))), (b1, .inr (2, (is.set 3 (.int 0)))), (b3, .inr (1, js)), (y4, .inl (dA 1, 64, .inl (upd (upd (upd (upd (upd (upd (upd (upd (upd (upd (upd (upd (upd (upd (upd (upd (upd (upd (upd (upd (upd (upd (upd (upd (upd (upd (upd (upd (upd (upd (upd (upd (upd (upd (upd (upd (upd (upd (upd (upd (upd (upd (upd (upd (upd (upd (upd (upd (upd (upd (upd (upd (upd (upd (upd (upd (upd (upd (upd (upd (upd (upd (upd (upd gy4 0 0) 1 0) 2 0) 3 0) 4 0) 5 0) 6 0) 7 0) 8 0) 9 0) 10 0) 11 0) 12 0) 13 0) 14 0) 15 0) 16 0) 17 0) 18 0) 19 0) 20 0) 21 0) 22 0) 23 0) 24 0) 25 0) 26 0) 27 0) 28 0) 29 0) 30 0) 31 0) 32 0) 33 0) 34 0) 35 0) 36 0) 37 0) 38 0) 39 0) 40 0) 41 0) 42 0) 43 0) 44 0) 45 0) 46 0) 47 0) 48 0) 49 0) 50 0) 51 0) 52 0) 53 0) 54 0) 55 0) 56 0) 57 0) 58 0) 59 0) 60 0) 61 0) 62 0) 63 0))), (x0, .inl (dA 4, 32, .inr (.inr (.inr (.inr (va_cpy gy0 gx0 0 0 0)))))), (x1, .inl (dA 1, 64, .inl (va_cpy gy1 gx1 0 0 0))), (x2, .inl (dA 2, 64, .inr (.inl (va_cpy gy2 gx2 0 0 0)))), (x3, .inl (dA 2, 64, .inr (.inl (va_cpy gy3 gx3 0 0 0)))), (y0, .inl (dA 4, 32, .inr (.inr (.inr (.inr gy0))))), (y1, .inl (dA 1, 64, .inl gy1)), (y2, .inl (dA 2, 64, .inr (.inl gy2))), (y3, .inl (dA 2, 64, .inr (.inl gy3)))] t9) (va_A [(a, .inr (0, fs)), (b, .inr (3, gs)), (b2, .inr (3, hs)), (b1, .inr (2, is)), (b3, .inr (1, js)), (y4, .inl (dA 1, 64, .inl gy4)), (x0, .inl (dA 4, 32, .inr (.inr (.inr (.inr gx0))))), (x1, .inl (dA 1, 64, .inl gx1)), (x2, .inl (dA 2, 64, .inr (.inl gx2))), (x3, .inl (dA 2, 64, .inr (.inl gx3))), (y0, .inl (dA 4, 32, .inr (.inr (.inr (.inr gy0))))), (y1, .inl (dA 1, 64, .inl gy1)), (y2, .inl (dA 2, 64, .inr (.inl gy2))), (y3, .inl (dA 2, 64, .inr (.inl gy3)))] sz)) 0 0 (va_A [(a, .inr (0, fs)), (b, .inr (3, gs)), (b2, .inr (3, hs)), (b1, .inr (2, is)), (b3, .inr (1, js)), (y4, .inl (dA 1, 64, .inl gy4)), (x0, .inl (dA 4, 32, .inr (.inr (.inr (.inr gx0))))), (x1, .inl (dA 1, 64, .inl gx1)), (x2, .inl (dA 2, 64, .inr (.inl gx2))), (x3, .inl (dA 2, 64, .inr (.inl gx3))), (y0, .inl (dA 4, 32, .inr (.inr (.inr (.inr gy0))))), (y1, .inl (dA 1, 64, .inl gy1)), (y2, .inl (dA 2, 64, .inr (.inl gy2))), (y3, .inl (dA 2, 64, .inr (.inl gy3)))] sz) := by
  refine mkC (y := ⟨"SeriesVault", "retain", "(J)I"⟩) (cc := prog_1_method_41_code) (maxL := 4) (av := [.ref a, .long t]) (ws := [(a, .inr (0, fs)), (b, .inr (3, gs)), (b2, .inr (3, hs)), (b1, .inr (2, is)), (b3, .inr (1, js)), (y4, .inl (dA 1, 64, .inl gy4)), (x0, .inl (dA 4, 32, .inr (.inr (.inr (.inr gx0))))), (x1, .inl (dA 1, 64, .inl gx1)), (x2, .inl (dA 2, 64, .inr (.inl gx2))), (x3, .inl (dA 2, 64, .inr (.inl gx3))), (y0, .inl (dA 4, 32, .inr (.inr (.inr (.inr gy0))))), (y1, .inl (dA 1, 64, .inl gy1)), (y2, .inl (dA 2, 64, .inr (.inl gy2))), (y3, .inl (dA 2, 64, .inr (.inl gy3)))]) (sz := sz) (Qc := fun A => va_Qi (fun (r : Int32) (_ : Unit) => r = 0) (fun (u9 : Unit) t9 => bW D A [(a, .inr (0, (fs.set 7 (.int (0 + 1))))), (b, .inr (3, (((gs.set 7 (.long t)).set 1 (.int 0)).set 6 (.int 0)))), (b2, .inr (3, (((hs.set 1 (.int 0)).set 6 (.int 0)).set 7 (.long t)))), (b1, .inr (2, (is.set 3 (.int 0)))), (b3, .inr (1, js)), (y4, .inl (dA 1, 64, .inl (upd (upd (upd (upd (upd (upd (upd (upd (upd (upd (upd (upd (upd (upd (upd (upd (upd (upd (upd (upd (upd (upd (upd (upd (upd (upd (upd (upd (upd (upd (upd (upd (upd (upd (upd (upd (upd (upd (upd (upd (upd (upd (upd (upd (upd (upd (upd (upd (upd (upd (upd (upd (upd (upd (upd (upd (upd (upd (upd (upd (upd (upd (upd (upd gy4 0 0) 1 0) 2 0) 3 0) 4 0) 5 0) 6 0) 7 0) 8 0) 9 0) 10 0) 11 0) 12 0) 13 0) 14 0) 15 0) 16 0) 17 0) 18 0) 19 0) 20 0) 21 0) 22 0) 23 0) 24 0) 25 0) 26 0) 27 0) 28 0) 29 0) 30 0) 31 0) 32 0) 33 0) 34 0) 35 0) 36 0) 37 0) 38 0) 39 0) 40 0) 41 0) 42 0) 43 0) 44 0) 45 0) 46 0) 47 0) 48 0) 49 0) 50 0) 51 0) 52 0) 53 0) 54 0) 55 0) 56 0) 57 0) 58 0) 59 0) 60 0) 61 0) 62 0) 63 0))), (x0, .inl (dA 4, 32, .inr (.inr (.inr (.inr (va_cpy gy0 gx0 0 0 0)))))), (x1, .inl (dA 1, 64, .inl (va_cpy gy1 gx1 0 0 0))), (x2, .inl (dA 2, 64, .inr (.inl (va_cpy gy2 gx2 0 0 0)))), (x3, .inl (dA 2, 64, .inr (.inl (va_cpy gy3 gx3 0 0 0)))), (y0, .inl (dA 4, 32, .inr (.inr (.inr (.inr gy0))))), (y1, .inl (dA 1, 64, .inl gy1)), (y2, .inl (dA 2, 64, .inr (.inl gy2))), (y3, .inl (dA 2, 64, .inr (.inl gy3)))] t9) A) (by decide) (Nat.le_of_ble_eq_true rfl) ?_
  intro A p e s m below meth c ls hsz hB
  obtain ⟨hx, hb, hr, hml, hown, hin, hlk, hE, hK, hP, hD, hS, hA, hN, hl⟩ := hB
  have hown : s.vm.findClass "SeriesVault" = some m.cls := hown
  have hin : meth.name = "retain" := hin
  have hl : lv_has ls 4 [(0, .ref a), (1, .long t)] := hl
  obtain ⟨H, hH⟩ : ∃ z, z = s.heap := ⟨_, rfl⟩
  have hP : va_P D vwCl [(a, .inr (0, fs)), (b, .inr (3, gs)), (b2, .inr (3, hs)), (b1, .inr (2, is)), (b3, .inr (1, js)), (y4, .inl (dA 1, 64, .inl gy4)), (x0, .inl (dA 4, 32, .inr (.inr (.inr (.inr gx0))))), (x1, .inl (dA 1, 64, .inl gx1)), (x2, .inl (dA 2, 64, .inr (.inl gx2))), (x3, .inl (dA 2, 64, .inr (.inl gx3))), (y0, .inl (dA 4, 32, .inr (.inr (.inr (.inr gy0))))), (y1, .inl (dA 1, 64, .inl gy1)), (y2, .inl (dA 2, 64, .inr (.inl gy2))), (y3, .inl (dA 2, 64, .inr (.inl gy3)))] H := by rw [hH]; exact hP
  have hS : va_S A s.heap H [] := by rw [hH]; exact hS
  rw [← hH]
  refine lv_aload_n hx hb d_V_retain_0 rfl (lv_at hl 0 rfl) ?_
  have hPc := hP.sub (ws' := [(a, .inr (0, fs))]) [0] rfl
  have hDc := hD.sub (ws' := [(a, .inr (0, fs))]) [0] (by decide) rfl
  refine jnV (rnV (As := []) (rest := []) hx hb hml hown hE hK (hN _ _ hS) hPc hDc (c_V_checkPower l D dA H.size a fs h_fs_powered hl_fs) (q0 := 0) rfl rfl w278 w276 w279 w280 w277 rfl rfl ⟨⟨by decide, by decide⟩, rfl⟩ ⟨(Nat.le_of_ble_eq_true rfl), (Nat.le_of_ble_eq_true rfl)⟩ rfl hl.1 rfl (Nat.le_of_ble_eq_true rfl) d_V_retain_1 ⟨(Nat.le_of_ble_eq_true rfl), (Nat.le_of_ble_eq_true rfl)⟩) hP hD hS hA [0] [1, 2, 3, 4, 5, 6, 7, 8, 9, 10, 11, 12, 13] (wr := [(b, .inr (3, gs)), (b2, .inr (3, hs)), (b1, .inr (2, is)), (b3, .inr (1, js)), (y4, .inl (dA 1, 64, .inl gy4)), (x0, .inl (dA 4, 32, .inr (.inr (.inr (.inr gx0))))), (x1, .inl (dA 1, 64, .inl gx1)), (x2, .inl (dA 2, 64, .inr (.inl gx2))), (x3, .inl (dA 2, 64, .inr (.inl gx3))), (y0, .inl (dA 4, 32, .inr (.inr (.inr (.inr gy0))))), (y1, .inl (dA 1, 64, .inl gy1)), (y2, .inl (dA 2, 64, .inr (.inl gy2))), (y3, .inl (dA 2, 64, .inr (.inl gy3)))]) rfl rfl (by decide) (by decide) (fun u9 H locs hp9 hP hD hS => ?_)
  have hP : va_P D vwCl [(b, .inr (3, gs)), (b2, .inr (3, hs)), (b1, .inr (2, is)), (b3, .inr (1, js)), (y4, .inl (dA 1, 64, .inl gy4)), (x0, .inl (dA 4, 32, .inr (.inr (.inr (.inr gx0))))), (x1, .inl (dA 1, 64, .inl gx1)), (x2, .inl (dA 2, 64, .inr (.inl gx2))), (x3, .inl (dA 2, 64, .inr (.inl gx3))), (y0, .inl (dA 4, 32, .inr (.inr (.inr (.inr gy0))))), (y1, .inl (dA 1, 64, .inl gy1)), (y2, .inl (dA 2, 64, .inr (.inl gy2))), (y3, .inl (dA 2, 64, .inr (.inl gy3))), (a, .inr (0, fs))] H := hP
  have hD : va_D A [(b, .inr (3, gs)), (b2, .inr (3, hs)), (b1, .inr (2, is)), (b3, .inr (1, js)), (y4, .inl (dA 1, 64, .inl gy4)), (x0, .inl (dA 4, 32, .inr (.inr (.inr (.inr gx0))))), (x1, .inl (dA 1, 64, .inl gx1)), (x2, .inl (dA 2, 64, .inr (.inl gx2))), (x3, .inl (dA 2, 64, .inr (.inl gx3))), (y0, .inl (dA 4, 32, .inr (.inr (.inr (.inr gy0))))), (y1, .inl (dA 1, 64, .inl gy1)), (y2, .inl (dA 2, 64, .inr (.inl gy2))), (y3, .inl (dA 2, 64, .inr (.inl gy3))), (a, .inr (0, fs))] := hD
  refine lv_lload_n hx hb d_V_retain_4 rfl (lv_at hl 1 rfl) ?_
  have hPc := hP.sub (ws' := []) [] rfl
  have hDc := hD.sub (ws' := []) [] (by decide) rfl
  refine jnI (rnS (As := [.long t]) (rest := []) hx hb hml hown hE hK (hN _ _ hS) hPc hDc (c_V_isTime_1 l D dA H.size t h1 h2) w693 w692 w694 w277 rfl rfl ⟨⟨by decide, by decide⟩, rfl⟩ ⟨(Nat.le_of_ble_eq_true rfl), (Nat.le_of_ble_eq_true rfl)⟩ rfl hl.1 rfl (Nat.le_of_ble_eq_true rfl) d_V_retain_5 ⟨(Nat.le_of_ble_eq_true rfl), (Nat.le_of_ble_eq_true rfl)⟩) hP hD hS hA [] [0, 1, 2, 3, 4, 5, 6, 7, 8, 9, 10, 11, 12, 13] (wr := [(b, .inr (3, gs)), (b2, .inr (3, hs)), (b1, .inr (2, is)), (b3, .inr (1, js)), (y4, .inl (dA 1, 64, .inl gy4)), (x0, .inl (dA 4, 32, .inr (.inr (.inr (.inr gx0))))), (x1, .inl (dA 1, 64, .inl gx1)), (x2, .inl (dA 2, 64, .inr (.inl gx2))), (x3, .inl (dA 2, 64, .inr (.inl gx3))), (y0, .inl (dA 4, 32, .inr (.inr (.inr (.inr gy0))))), (y1, .inl (dA 1, 64, .inl gy1)), (y2, .inl (dA 2, 64, .inr (.inl gy2))), (y3, .inl (dA 2, 64, .inr (.inl gy3))), (a, .inr (0, fs))]) rfl rfl (by decide) (by decide) (fun r2 u9 H locs hp9 hP hD hS => ?_)
  have hP : va_P D vwCl [(b, .inr (3, gs)), (b2, .inr (3, hs)), (b1, .inr (2, is)), (b3, .inr (1, js)), (y4, .inl (dA 1, 64, .inl gy4)), (x0, .inl (dA 4, 32, .inr (.inr (.inr (.inr gx0))))), (x1, .inl (dA 1, 64, .inl gx1)), (x2, .inl (dA 2, 64, .inr (.inl gx2))), (x3, .inl (dA 2, 64, .inr (.inl gx3))), (y0, .inl (dA 4, 32, .inr (.inr (.inr (.inr gy0))))), (y1, .inl (dA 1, 64, .inl gy1)), (y2, .inl (dA 2, 64, .inr (.inl gy2))), (y3, .inl (dA 2, 64, .inr (.inl gy3))), (a, .inr (0, fs))] H := hP
  have hD : va_D A [(b, .inr (3, gs)), (b2, .inr (3, hs)), (b1, .inr (2, is)), (b3, .inr (1, js)), (y4, .inl (dA 1, 64, .inl gy4)), (x0, .inl (dA 4, 32, .inr (.inr (.inr (.inr gx0))))), (x1, .inl (dA 1, 64, .inl gx1)), (x2, .inl (dA 2, 64, .inr (.inl gx2))), (x3, .inl (dA 2, 64, .inr (.inl gx3))), (y0, .inl (dA 4, 32, .inr (.inr (.inr (.inr gy0))))), (y1, .inl (dA 1, 64, .inl gy1)), (y2, .inl (dA 2, 64, .inr (.inl gy2))), (y3, .inl (dA 2, 64, .inr (.inl gy3))), (a, .inr (0, fs))] := hD
  have hp9 : 1 = r2 := Eq.symm hp9
  subst hp9
  refine lv_if_eq hx hb d_V_retain_8 (tgt := 23) rfl (fun h9 => absurd h9 (by decide)) (fun _ => ?_)
  refine lv_lload_n hx hb d_V_retain_11 rfl (lv_at hl 1 rfl) ?_
  refine lv_aload_n hx hb d_V_retain_12 rfl (lv_at hl 0 rfl) ?_
  refine gF (v := .ref b) hx hb hown hE hK hP 13 rfl rfl layV 11 (by decide) w297 h_fs_now d_V_retain_13 ?_
  refine gFN (v := .long 0) hx hb hown hE hK hP 0 rfl rfl layH 7 (by decide) w710 h_gs_horizon d_V_retain_16 ?_
  refine W.lcmp hx hb d_V_retain_19 ?_
  refine lv_if_ge hx hb d_V_retain_20 (tgt := 31) rfl (fun _ => ?_) (fun h9 => absurd (Int32.not_lt.mp (mt (lg_cmp_lt _ _).mp (h1))) h9)
  refine lv_lload_n hx hb d_V_retain_31 rfl (lv_at hl 1 rfl) ?_
  refine lv_aload_n hx hb d_V_retain_32 rfl (lv_at hl 0 rfl) ?_
  refine gF (v := .ref b) hx hb hown hE hK hP 13 rfl rfl layV 11 (by decide) w297 h_fs_now d_V_retain_33 ?_
  refine gFN (v := .long 0) hx hb hown hE hK hP 0 rfl rfl layH 7 (by decide) w710 h_gs_horizon d_V_retain_36 ?_
  refine W.lcmp hx hb d_V_retain_39 ?_
  refine lv_if_ne hx hb d_V_retain_40 (tgt := 45) rfl (fun _ => ?_) (fun h9 => absurd h9 (fun h8 => absurd ((lg_cmp_gt _ _).mpr h3) (by rw [h8]; decide)))
  refine lv_aload_n hx hb d_V_retain_45 rfl (lv_at hl 0 rfl) ?_
  refine gF (v := .ref b) hx hb hown hE hK hP 13 rfl rfl layV 11 (by decide) w297 h_fs_now d_V_retain_46 ?_
  refine lv_lload_n hx hb d_V_retain_49 rfl (lv_at hl 1 rfl) ?_
  have hPc := hP.sub (ws' := [(b, .inr (3, gs))]) [0] rfl
  have hDc := hD.sub (ws' := [(b, .inr (3, gs))]) [0] (by decide) rfl
  refine jnI (rnV (As := [.long t]) (rest := []) hx hb hml hown hE hK (hN _ _ hS) hPc hDc (c_H_countSeenBelow_0 l D dA H.size b gs t h_gs_parcelCount hl_gs) (q0 := 0) rfl rfl w633 w731 w634 w635 w583 rfl rfl ⟨⟨by decide, by decide⟩, rfl⟩ ⟨(Nat.le_of_ble_eq_true rfl), (Nat.le_of_ble_eq_true rfl)⟩ rfl hl.1 rfl (Nat.le_of_ble_eq_true rfl) d_V_retain_50 ⟨(Nat.le_of_ble_eq_true rfl), (Nat.le_of_ble_eq_true rfl)⟩) hP hD hS hA [0] [1, 2, 3, 4, 5, 6, 7, 8, 9, 10, 11, 12, 13] (wr := [(b2, .inr (3, hs)), (b1, .inr (2, is)), (b3, .inr (1, js)), (y4, .inl (dA 1, 64, .inl gy4)), (x0, .inl (dA 4, 32, .inr (.inr (.inr (.inr gx0))))), (x1, .inl (dA 1, 64, .inl gx1)), (x2, .inl (dA 2, 64, .inr (.inl gx2))), (x3, .inl (dA 2, 64, .inr (.inl gx3))), (y0, .inl (dA 4, 32, .inr (.inr (.inr (.inr gy0))))), (y1, .inl (dA 1, 64, .inl gy1)), (y2, .inl (dA 2, 64, .inr (.inl gy2))), (y3, .inl (dA 2, 64, .inr (.inl gy3))), (a, .inr (0, fs))]) rfl rfl (by decide) (by decide) (fun r3 u9 H locs hp9 hP hD hS => ?_)
  have hP : va_P D vwCl [(b2, .inr (3, hs)), (b1, .inr (2, is)), (b3, .inr (1, js)), (y4, .inl (dA 1, 64, .inl gy4)), (x0, .inl (dA 4, 32, .inr (.inr (.inr (.inr gx0))))), (x1, .inl (dA 1, 64, .inl gx1)), (x2, .inl (dA 2, 64, .inr (.inl gx2))), (x3, .inl (dA 2, 64, .inr (.inl gx3))), (y0, .inl (dA 4, 32, .inr (.inr (.inr (.inr gy0))))), (y1, .inl (dA 1, 64, .inl gy1)), (y2, .inl (dA 2, 64, .inr (.inl gy2))), (y3, .inl (dA 2, 64, .inr (.inl gy3))), (a, .inr (0, fs)), (b, .inr (3, gs))] H := hP
  have hD : va_D A [(b2, .inr (3, hs)), (b1, .inr (2, is)), (b3, .inr (1, js)), (y4, .inl (dA 1, 64, .inl gy4)), (x0, .inl (dA 4, 32, .inr (.inr (.inr (.inr gx0))))), (x1, .inl (dA 1, 64, .inl gx1)), (x2, .inl (dA 2, 64, .inr (.inl gx2))), (x3, .inl (dA 2, 64, .inr (.inl gx3))), (y0, .inl (dA 4, 32, .inr (.inr (.inr (.inr gy0))))), (y1, .inl (dA 1, 64, .inl gy1)), (y2, .inl (dA 2, 64, .inr (.inl gy2))), (y3, .inl (dA 2, 64, .inr (.inl gy3))), (a, .inr (0, fs)), (b, .inr (3, gs))] := hD
  have hp9 : 0 = r3 := Eq.symm hp9
  subst hp9
  refine lv_aload_n hx hb d_V_retain_53 rfl (lv_at hl 0 rfl) ?_
  refine gF (v := .ref b1) hx hb hown hE hK hP 12 rfl rfl layV 9 (by decide) w576 h_fs_head d_V_retain_54 ?_
  refine lv_lload_n hx hb d_V_retain_57 rfl (lv_at hl 1 rfl) ?_
  have hPc := hP.sub (ws' := [(b1, .inr (2, is))]) [1] rfl
  have hDc := hD.sub (ws' := [(b1, .inr (2, is))]) [1] (by decide) rfl
  refine jnI (rnV (As := [.long t]) (rest := [.int 0]) hx hb hml hown hE hK (hN _ _ hS) hPc hDc (c_P_countBelow_0 l D dA H.size b1 is t h_is_size hl_is) (q0 := 0) rfl rfl w733 w732 w734 w735 w578 rfl rfl ⟨⟨by decide, by decide⟩, rfl⟩ ⟨(Nat.le_of_ble_eq_true rfl), (Nat.le_of_ble_eq_true rfl)⟩ rfl hl.1 rfl (Nat.le_of_ble_eq_true rfl) d_V_retain_58 ⟨(Nat.le_of_ble_eq_true rfl), (Nat.le_of_ble_eq_true rfl)⟩) hP hD hS hA [1] [0, 2, 3, 4, 5, 6, 7, 8, 9, 10, 11, 12, 13] (wr := [(b2, .inr (3, hs)), (b3, .inr (1, js)), (y4, .inl (dA 1, 64, .inl gy4)), (x0, .inl (dA 4, 32, .inr (.inr (.inr (.inr gx0))))), (x1, .inl (dA 1, 64, .inl gx1)), (x2, .inl (dA 2, 64, .inr (.inl gx2))), (x3, .inl (dA 2, 64, .inr (.inl gx3))), (y0, .inl (dA 4, 32, .inr (.inr (.inr (.inr gy0))))), (y1, .inl (dA 1, 64, .inl gy1)), (y2, .inl (dA 2, 64, .inr (.inl gy2))), (y3, .inl (dA 2, 64, .inr (.inl gy3))), (a, .inr (0, fs)), (b, .inr (3, gs))]) rfl rfl (by decide) (by decide) (fun r4 u9 H locs hp9 hP hD hS => ?_)
  have hP : va_P D vwCl [(b2, .inr (3, hs)), (b3, .inr (1, js)), (y4, .inl (dA 1, 64, .inl gy4)), (x0, .inl (dA 4, 32, .inr (.inr (.inr (.inr gx0))))), (x1, .inl (dA 1, 64, .inl gx1)), (x2, .inl (dA 2, 64, .inr (.inl gx2))), (x3, .inl (dA 2, 64, .inr (.inl gx3))), (y0, .inl (dA 4, 32, .inr (.inr (.inr (.inr gy0))))), (y1, .inl (dA 1, 64, .inl gy1)), (y2, .inl (dA 2, 64, .inr (.inl gy2))), (y3, .inl (dA 2, 64, .inr (.inl gy3))), (a, .inr (0, fs)), (b, .inr (3, gs)), (b1, .inr (2, is))] H := hP
  have hD : va_D A [(b2, .inr (3, hs)), (b3, .inr (1, js)), (y4, .inl (dA 1, 64, .inl gy4)), (x0, .inl (dA 4, 32, .inr (.inr (.inr (.inr gx0))))), (x1, .inl (dA 1, 64, .inl gx1)), (x2, .inl (dA 2, 64, .inr (.inl gx2))), (x3, .inl (dA 2, 64, .inr (.inl gx3))), (y0, .inl (dA 4, 32, .inr (.inr (.inr (.inr gy0))))), (y1, .inl (dA 1, 64, .inl gy1)), (y2, .inl (dA 2, 64, .inr (.inl gy2))), (y3, .inl (dA 2, 64, .inr (.inl gy3))), (a, .inr (0, fs)), (b, .inr (3, gs)), (b1, .inr (2, is))] := hD
  have hp9 : 0 = r4 := Eq.symm hp9
  subst hp9
  refine lv_iadd hx hb d_V_retain_61 (tpi (y := 0) (by decide) ?_)
  refine lv_istore_n hx hb d_V_retain_62 rfl hl (by decide) rfl (fun ls hl => ?_)
  have hl : lv_has ls 4 [(3, .int 0), (0, .ref a), (1, .long t)] := hl
  refine lv_aload_n hx hb d_V_retain_63 rfl (lv_at hl 1 rfl) ?_
  have hPc := hP.sub (ws' := [(a, .inr (0, fs)), (b3, .inr (1, js))]) [11, 1] rfl
  have hDc := hD.sub (ws' := [(a, .inr (0, fs)), (b3, .inr (1, js))]) [11, 1] (by decide) rfl
  refine jnI (rnV (As := []) (rest := []) hx hb hml hown hE hK (hN _ _ hS) hPc hDc (c_V_writeJournalBlock_0 l D dA H.size a fs b3 js h_fs_journal hl_fs h_js_changed hl_js) (q0 := 0) rfl rfl w315 w314 w316 w317 w277 rfl rfl ⟨⟨by decide, by decide⟩, rfl⟩ ⟨(Nat.le_of_ble_eq_true rfl), (Nat.le_of_ble_eq_true rfl)⟩ rfl hl.1 rfl (Nat.le_of_ble_eq_true rfl) d_V_retain_64 ⟨(Nat.le_of_ble_eq_true rfl), (Nat.le_of_ble_eq_true rfl)⟩) hP hD hS hA [11, 1] [0, 2, 3, 4, 5, 6, 7, 8, 9, 10, 12, 13] (wr := [(b2, .inr (3, hs)), (y4, .inl (dA 1, 64, .inl gy4)), (x0, .inl (dA 4, 32, .inr (.inr (.inr (.inr gx0))))), (x1, .inl (dA 1, 64, .inl gx1)), (x2, .inl (dA 2, 64, .inr (.inl gx2))), (x3, .inl (dA 2, 64, .inr (.inl gx3))), (y0, .inl (dA 4, 32, .inr (.inr (.inr (.inr gy0))))), (y1, .inl (dA 1, 64, .inl gy1)), (y2, .inl (dA 2, 64, .inr (.inl gy2))), (y3, .inl (dA 2, 64, .inr (.inl gy3))), (b, .inr (3, gs)), (b1, .inr (2, is))]) rfl rfl (by decide) (by decide) (fun r5 u9 H locs hp9 hP hD hS => ?_)
  have hP : va_P D vwCl [(b2, .inr (3, hs)), (y4, .inl (dA 1, 64, .inl gy4)), (x0, .inl (dA 4, 32, .inr (.inr (.inr (.inr gx0))))), (x1, .inl (dA 1, 64, .inl gx1)), (x2, .inl (dA 2, 64, .inr (.inl gx2))), (x3, .inl (dA 2, 64, .inr (.inl gx3))), (y0, .inl (dA 4, 32, .inr (.inr (.inr (.inr gy0))))), (y1, .inl (dA 1, 64, .inl gy1)), (y2, .inl (dA 2, 64, .inr (.inl gy2))), (y3, .inl (dA 2, 64, .inr (.inl gy3))), (b, .inr (3, gs)), (b1, .inr (2, is)), (a, .inr (0, fs)), (b3, .inr (1, js))] H := hP
  have hD : va_D A [(b2, .inr (3, hs)), (y4, .inl (dA 1, 64, .inl gy4)), (x0, .inl (dA 4, 32, .inr (.inr (.inr (.inr gx0))))), (x1, .inl (dA 1, 64, .inl gx1)), (x2, .inl (dA 2, 64, .inr (.inl gx2))), (x3, .inl (dA 2, 64, .inr (.inl gx3))), (y0, .inl (dA 4, 32, .inr (.inr (.inr (.inr gy0))))), (y1, .inl (dA 1, 64, .inl gy1)), (y2, .inl (dA 2, 64, .inr (.inl gy2))), (y3, .inl (dA 2, 64, .inr (.inl gy3))), (b, .inr (3, gs)), (b1, .inr (2, is)), (a, .inr (0, fs)), (b3, .inr (1, js))] := hD
  have hp9 : 0 = r5 := Eq.symm hp9
  subst hp9
  refine lv_pop hx hb d_V_retain_67 rfl ?_
  refine lv_aload_n hx hb d_V_retain_68 rfl (lv_at hl 1 rfl) ?_
  have hPc := hP.sub (ws' := [(a, .inr (0, fs))]) [12] rfl
  have hDc := hD.sub (ws' := [(a, .inr (0, fs))]) [12] (by decide) rfl
  refine jnV (rnV (As := []) (rest := []) hx hb hml hown hE hK (hN _ _ hS) hPc hDc (c_V_writeBlock_m l D dA H.size a fs 0 h_fs_cutLeft h_fs_writes hl_fs) (q0 := 0) rfl rfl w737 w736 w738 w739 w277 rfl rfl ⟨⟨by decide, by decide⟩, rfl⟩ ⟨(Nat.le_of_ble_eq_true rfl), (Nat.le_of_ble_eq_true rfl)⟩ rfl hl.1 rfl (Nat.le_of_ble_eq_true rfl) d_V_retain_69 ⟨(Nat.le_of_ble_eq_true rfl), (Nat.le_of_ble_eq_true rfl)⟩) hP hD hS hA [12] [0, 1, 2, 3, 4, 5, 6, 7, 8, 9, 10, 11, 13] (wr := [(b2, .inr (3, hs)), (y4, .inl (dA 1, 64, .inl gy4)), (x0, .inl (dA 4, 32, .inr (.inr (.inr (.inr gx0))))), (x1, .inl (dA 1, 64, .inl gx1)), (x2, .inl (dA 2, 64, .inr (.inl gx2))), (x3, .inl (dA 2, 64, .inr (.inl gx3))), (y0, .inl (dA 4, 32, .inr (.inr (.inr (.inr gy0))))), (y1, .inl (dA 1, 64, .inl gy1)), (y2, .inl (dA 2, 64, .inr (.inl gy2))), (y3, .inl (dA 2, 64, .inr (.inl gy3))), (b, .inr (3, gs)), (b1, .inr (2, is)), (b3, .inr (1, js))]) rfl rfl (by decide) (by decide) (fun u9 H locs hp9 hP hD hS => ?_)
  have hP : va_P D vwCl [(b2, .inr (3, hs)), (y4, .inl (dA 1, 64, .inl gy4)), (x0, .inl (dA 4, 32, .inr (.inr (.inr (.inr gx0))))), (x1, .inl (dA 1, 64, .inl gx1)), (x2, .inl (dA 2, 64, .inr (.inl gx2))), (x3, .inl (dA 2, 64, .inr (.inl gx3))), (y0, .inl (dA 4, 32, .inr (.inr (.inr (.inr gy0))))), (y1, .inl (dA 1, 64, .inl gy1)), (y2, .inl (dA 2, 64, .inr (.inl gy2))), (y3, .inl (dA 2, 64, .inr (.inl gy3))), (b, .inr (3, gs)), (b1, .inr (2, is)), (b3, .inr (1, js)), (a, .inr (0, (fs.set 7 (.int (0 + 1)))))] H := hP
  have hD : va_D A [(b2, .inr (3, hs)), (y4, .inl (dA 1, 64, .inl gy4)), (x0, .inl (dA 4, 32, .inr (.inr (.inr (.inr gx0))))), (x1, .inl (dA 1, 64, .inl gx1)), (x2, .inl (dA 2, 64, .inr (.inl gx2))), (x3, .inl (dA 2, 64, .inr (.inl gx3))), (y0, .inl (dA 4, 32, .inr (.inr (.inr (.inr gy0))))), (y1, .inl (dA 1, 64, .inl gy1)), (y2, .inl (dA 2, 64, .inr (.inl gy2))), (y3, .inl (dA 2, 64, .inr (.inl gy3))), (b, .inr (3, gs)), (b1, .inr (2, is)), (b3, .inr (1, js)), (a, .inr (0, (fs.set 7 (.int (0 + 1)))))] := hD
  refine lv_aload_n hx hb d_V_retain_72 rfl (lv_at hl 1 rfl) ?_
  refine gF (v := .ref b) hx hb hown hE hK hP 13 rfl rfl layV 11 (by decide) w297 (by simp [h_fs_now]) d_V_retain_73 ?_
  refine lv_lload_n hx hb d_V_retain_76 rfl (lv_at hl 2 rfl) ?_
  have hPc := hP.sub (ws' := [(b, .inr (3, gs))]) [10] rfl
  have hDc := hD.sub (ws' := [(b, .inr (3, gs))]) [10] (by decide) rfl
  refine jnV (rnV (As := [.long t]) (rest := []) hx hb hml hown hE hK (hN _ _ hS) hPc hDc (c_H_moveHorizon_0 l D dA H.size b gs t h_gs_parcelCount hl_gs) (q0 := 0) rfl rfl w741 w740 w742 w743 w583 rfl rfl ⟨⟨by decide, by decide⟩, rfl⟩ ⟨(Nat.le_of_ble_eq_true rfl), (Nat.le_of_ble_eq_true rfl)⟩ rfl hl.1 rfl (Nat.le_of_ble_eq_true rfl) d_V_retain_77 ⟨(Nat.le_of_ble_eq_true rfl), (Nat.le_of_ble_eq_true rfl)⟩) hP hD hS hA [10] [0, 1, 2, 3, 4, 5, 6, 7, 8, 9, 11, 12, 13] (wr := [(b2, .inr (3, hs)), (y4, .inl (dA 1, 64, .inl gy4)), (x0, .inl (dA 4, 32, .inr (.inr (.inr (.inr gx0))))), (x1, .inl (dA 1, 64, .inl gx1)), (x2, .inl (dA 2, 64, .inr (.inl gx2))), (x3, .inl (dA 2, 64, .inr (.inl gx3))), (y0, .inl (dA 4, 32, .inr (.inr (.inr (.inr gy0))))), (y1, .inl (dA 1, 64, .inl gy1)), (y2, .inl (dA 2, 64, .inr (.inl gy2))), (y3, .inl (dA 2, 64, .inr (.inl gy3))), (b1, .inr (2, is)), (b3, .inr (1, js)), (a, .inr (0, (fs.set 7 (.int (0 + 1)))))]) rfl rfl (by decide) (by decide) (fun u9 H locs hp9 hP hD hS => ?_)
  have hP : va_P D vwCl [(b2, .inr (3, hs)), (y4, .inl (dA 1, 64, .inl gy4)), (x0, .inl (dA 4, 32, .inr (.inr (.inr (.inr gx0))))), (x1, .inl (dA 1, 64, .inl gx1)), (x2, .inl (dA 2, 64, .inr (.inl gx2))), (x3, .inl (dA 2, 64, .inr (.inl gx3))), (y0, .inl (dA 4, 32, .inr (.inr (.inr (.inr gy0))))), (y1, .inl (dA 1, 64, .inl gy1)), (y2, .inl (dA 2, 64, .inr (.inl gy2))), (y3, .inl (dA 2, 64, .inr (.inl gy3))), (b1, .inr (2, is)), (b3, .inr (1, js)), (a, .inr (0, (fs.set 7 (.int (0 + 1))))), (b, .inr (3, ((gs.set 7 (.long t)).set 1 (.int 0))))] H := hP
  have hD : va_D A [(b2, .inr (3, hs)), (y4, .inl (dA 1, 64, .inl gy4)), (x0, .inl (dA 4, 32, .inr (.inr (.inr (.inr gx0))))), (x1, .inl (dA 1, 64, .inl gx1)), (x2, .inl (dA 2, 64, .inr (.inl gx2))), (x3, .inl (dA 2, 64, .inr (.inl gx3))), (y0, .inl (dA 4, 32, .inr (.inr (.inr (.inr gy0))))), (y1, .inl (dA 1, 64, .inl gy1)), (y2, .inl (dA 2, 64, .inr (.inl gy2))), (y3, .inl (dA 2, 64, .inr (.inl gy3))), (b1, .inr (2, is)), (b3, .inr (1, js)), (a, .inr (0, (fs.set 7 (.int (0 + 1))))), (b, .inr (3, ((gs.set 7 (.long t)).set 1 (.int 0))))] := hD
  refine lv_aload_n hx hb d_V_retain_80 rfl (lv_at hl 1 rfl) ?_
  refine gF (v := .ref b1) hx hb hown hE hK hP 12 rfl rfl layV 9 (by decide) w576 (by simp [h_fs_head]) d_V_retain_81 ?_
  refine lv_lload_n hx hb d_V_retain_84 rfl (lv_at hl 2 rfl) ?_
  have hPc := hP.sub (ws' := [(b1, .inr (2, is))]) [10] rfl
  have hDc := hD.sub (ws' := [(b1, .inr (2, is))]) [10] (by decide) rfl
  refine jnV (rnV (As := [.long t]) (rest := []) hx hb hml hown hE hK (hN _ _ hS) hPc hDc (c_P_dropBelow_0 l D dA H.size b1 is t h_is_size hl_is) (q0 := 0) rfl rfl w745 w744 w746 w747 w578 rfl rfl ⟨⟨by decide, by decide⟩, rfl⟩ ⟨(Nat.le_of_ble_eq_true rfl), (Nat.le_of_ble_eq_true rfl)⟩ rfl hl.1 rfl (Nat.le_of_ble_eq_true rfl) d_V_retain_85 ⟨(Nat.le_of_ble_eq_true rfl), (Nat.le_of_ble_eq_true rfl)⟩) hP hD hS hA [10] [0, 1, 2, 3, 4, 5, 6, 7, 8, 9, 11, 12, 13] (wr := [(b2, .inr (3, hs)), (y4, .inl (dA 1, 64, .inl gy4)), (x0, .inl (dA 4, 32, .inr (.inr (.inr (.inr gx0))))), (x1, .inl (dA 1, 64, .inl gx1)), (x2, .inl (dA 2, 64, .inr (.inl gx2))), (x3, .inl (dA 2, 64, .inr (.inl gx3))), (y0, .inl (dA 4, 32, .inr (.inr (.inr (.inr gy0))))), (y1, .inl (dA 1, 64, .inl gy1)), (y2, .inl (dA 2, 64, .inr (.inl gy2))), (y3, .inl (dA 2, 64, .inr (.inl gy3))), (b3, .inr (1, js)), (a, .inr (0, (fs.set 7 (.int (0 + 1))))), (b, .inr (3, ((gs.set 7 (.long t)).set 1 (.int 0))))]) rfl rfl (by decide) (by decide) (fun u9 H locs hp9 hP hD hS => ?_)
  have hP : va_P D vwCl [(b2, .inr (3, hs)), (y4, .inl (dA 1, 64, .inl gy4)), (x0, .inl (dA 4, 32, .inr (.inr (.inr (.inr gx0))))), (x1, .inl (dA 1, 64, .inl gx1)), (x2, .inl (dA 2, 64, .inr (.inl gx2))), (x3, .inl (dA 2, 64, .inr (.inl gx3))), (y0, .inl (dA 4, 32, .inr (.inr (.inr (.inr gy0))))), (y1, .inl (dA 1, 64, .inl gy1)), (y2, .inl (dA 2, 64, .inr (.inl gy2))), (y3, .inl (dA 2, 64, .inr (.inl gy3))), (b3, .inr (1, js)), (a, .inr (0, (fs.set 7 (.int (0 + 1))))), (b, .inr (3, ((gs.set 7 (.long t)).set 1 (.int 0)))), (b1, .inr (2, (is.set 3 (.int 0))))] H := hP
  have hD : va_D A [(b2, .inr (3, hs)), (y4, .inl (dA 1, 64, .inl gy4)), (x0, .inl (dA 4, 32, .inr (.inr (.inr (.inr gx0))))), (x1, .inl (dA 1, 64, .inl gx1)), (x2, .inl (dA 2, 64, .inr (.inl gx2))), (x3, .inl (dA 2, 64, .inr (.inl gx3))), (y0, .inl (dA 4, 32, .inr (.inr (.inr (.inr gy0))))), (y1, .inl (dA 1, 64, .inl gy1)), (y2, .inl (dA 2, 64, .inr (.inl gy2))), (y3, .inl (dA 2, 64, .inr (.inl gy3))), (b3, .inr (1, js)), (a, .inr (0, (fs.set 7 (.int (0 + 1))))), (b, .inr (3, ((gs.set 7 (.long t)).set 1 (.int 0)))), (b1, .inr (2, (is.set 3 (.int 0))))] := hD
  refine lv_aload_n hx hb d_V_retain_88 rfl (lv_at hl 1 rfl) ?_
  have hPc := hP.sub (ws' := [(a, .inr (0, (fs.set 7 (.int (0 + 1))))), (b, .inr (3, ((gs.set 7 (.long t)).set 1 (.int 0)))), (b2, .inr (3, hs)), (y4, .inl (dA 1, 64, .inl gy4)), (x0, .inl (dA 4, 32, .inr (.inr (.inr (.inr gx0))))), (x1, .inl (dA 1, 64, .inl gx1)), (x2, .inl (dA 2, 64, .inr (.inl gx2))), (x3, .inl (dA 2, 64, .inr (.inl gx3))), (y0, .inl (dA 4, 32, .inr (.inr (.inr (.inr gy0))))), (y1, .inl (dA 1, 64, .inl gy1)), (y2, .inl (dA 2, 64, .inr (.inl gy2))), (y3, .inl (dA 2, 64, .inr (.inl gy3)))]) [11, 12, 0, 1, 2, 3, 4, 5, 6, 7, 8, 9] rfl
  have hDc := hD.sub (ws' := [(a, .inr (0, (fs.set 7 (.int (0 + 1))))), (b, .inr (3, ((gs.set 7 (.long t)).set 1 (.int 0)))), (b2, .inr (3, hs)), (y4, .inl (dA 1, 64, .inl gy4)), (x0, .inl (dA 4, 32, .inr (.inr (.inr (.inr gx0))))), (x1, .inl (dA 1, 64, .inl gx1)), (x2, .inl (dA 2, 64, .inr (.inl gx2))), (x3, .inl (dA 2, 64, .inr (.inl gx3))), (y0, .inl (dA 4, 32, .inr (.inr (.inr (.inr gy0))))), (y1, .inl (dA 1, 64, .inl gy1)), (y2, .inl (dA 2, 64, .inr (.inl gy2))), (y3, .inl (dA 2, 64, .inr (.inl gy3)))]) [11, 12, 0, 1, 2, 3, 4, 5, 6, 7, 8, 9] (by decide) rfl
  refine jnV (rnV (As := []) (rest := []) hx hb hml hown hE hK (hN _ _ hS) hPc hDc (c_V_keepManifest_0 l D dA H.size a (fs.set 7 (.int (0 + 1))) b ((gs.set 7 (.long t)).set 1 (.int 0)) b2 hs t y4 gy4 x0 x1 x2 x3 gx0 gx1 gx2 gx3 y0 y1 y2 y3 gy0 gy1 gy2 gy3 (by simp [h_fs_now]) (by simp [h_fs_saved]) (by simp [hl_fs]) (by simp [h_gs_parcels]) (by simp [hl_gs]) (by simp [h_gs_scarOwners]) (by simp [h_gs_scarFroms]) (by simp [h_gs_scarTos]) (by simp [h_gs_scarPoints]) (by simp [h_gs_scarCount]) (by simp [hl_gs]) (by simp [hl_gs]) h_hs_parcels h_hs_scarOwners h_hs_scarFroms h_hs_scarTos hl_hs) (q0 := 0) rfl rfl w749 w748 w750 w751 w277 rfl rfl ⟨⟨by decide, by decide⟩, rfl⟩ ⟨(Nat.le_of_ble_eq_true rfl), (Nat.le_of_ble_eq_true rfl)⟩ rfl hl.1 rfl (Nat.le_of_ble_eq_true rfl) d_V_retain_89 ⟨(Nat.le_of_ble_eq_true rfl), (Nat.le_of_ble_eq_true rfl)⟩) hP hD hS hA [11, 12, 0, 1, 2, 3, 4, 5, 6, 7, 8, 9] [10, 13] (wr := [(b3, .inr (1, js)), (b1, .inr (2, (is.set 3 (.int 0))))]) rfl rfl (by decide) (by decide) (fun u9 H locs hp9 hP hD hS => ?_)
  have hP : va_P D vwCl [(b3, .inr (1, js)), (b1, .inr (2, (is.set 3 (.int 0)))), (a, .inr (0, (fs.set 7 (.int (0 + 1))))), (b, .inr (3, (((gs.set 7 (.long t)).set 1 (.int 0)).set 6 (.int 0)))), (b2, .inr (3, (((hs.set 1 (.int 0)).set 6 (.int 0)).set 7 (.long t)))), (y4, .inl (dA 1, 64, .inl (upd (upd (upd (upd (upd (upd (upd (upd (upd (upd (upd (upd (upd (upd (upd (upd (upd (upd (upd (upd (upd (upd (upd (upd (upd (upd (upd (upd (upd (upd (upd (upd (upd (upd (upd (upd (upd (upd (upd (upd (upd (upd (upd (upd (upd (upd (upd (upd (upd (upd (upd (upd (upd (upd (upd (upd (upd (upd (upd (upd (upd (upd (upd (upd gy4 0 0) 1 0) 2 0) 3 0) 4 0) 5 0) 6 0) 7 0) 8 0) 9 0) 10 0) 11 0) 12 0) 13 0) 14 0) 15 0) 16 0) 17 0) 18 0) 19 0) 20 0) 21 0) 22 0) 23 0) 24 0) 25 0) 26 0) 27 0) 28 0) 29 0) 30 0) 31 0) 32 0) 33 0) 34 0) 35 0) 36 0) 37 0) 38 0) 39 0) 40 0) 41 0) 42 0) 43 0) 44 0) 45 0) 46 0) 47 0) 48 0) 49 0) 50 0) 51 0) 52 0) 53 0) 54 0) 55 0) 56 0) 57 0) 58 0) 59 0) 60 0) 61 0) 62 0) 63 0))), (x0, .inl (dA 4, 32, .inr (.inr (.inr (.inr (va_cpy gy0 gx0 0 0 0)))))), (x1, .inl (dA 1, 64, .inl (va_cpy gy1 gx1 0 0 0))), (x2, .inl (dA 2, 64, .inr (.inl (va_cpy gy2 gx2 0 0 0)))), (x3, .inl (dA 2, 64, .inr (.inl (va_cpy gy3 gx3 0 0 0)))), (y0, .inl (dA 4, 32, .inr (.inr (.inr (.inr gy0))))), (y1, .inl (dA 1, 64, .inl gy1)), (y2, .inl (dA 2, 64, .inr (.inl gy2))), (y3, .inl (dA 2, 64, .inr (.inl gy3)))] H := hP
  have hD : va_D A [(b3, .inr (1, js)), (b1, .inr (2, (is.set 3 (.int 0)))), (a, .inr (0, (fs.set 7 (.int (0 + 1))))), (b, .inr (3, (((gs.set 7 (.long t)).set 1 (.int 0)).set 6 (.int 0)))), (b2, .inr (3, (((hs.set 1 (.int 0)).set 6 (.int 0)).set 7 (.long t)))), (y4, .inl (dA 1, 64, .inl (upd (upd (upd (upd (upd (upd (upd (upd (upd (upd (upd (upd (upd (upd (upd (upd (upd (upd (upd (upd (upd (upd (upd (upd (upd (upd (upd (upd (upd (upd (upd (upd (upd (upd (upd (upd (upd (upd (upd (upd (upd (upd (upd (upd (upd (upd (upd (upd (upd (upd (upd (upd (upd (upd (upd (upd (upd (upd (upd (upd (upd (upd (upd (upd gy4 0 0) 1 0) 2 0) 3 0) 4 0) 5 0) 6 0) 7 0) 8 0) 9 0) 10 0) 11 0) 12 0) 13 0) 14 0) 15 0) 16 0) 17 0) 18 0) 19 0) 20 0) 21 0) 22 0) 23 0) 24 0) 25 0) 26 0) 27 0) 28 0) 29 0) 30 0) 31 0) 32 0) 33 0) 34 0) 35 0) 36 0) 37 0) 38 0) 39 0) 40 0) 41 0) 42 0) 43 0) 44 0) 45 0) 46 0) 47 0) 48 0) 49 0) 50 0) 51 0) 52 0) 53 0) 54 0) 55 0) 56 0) 57 0) 58 0) 59 0) 60 0) 61 0) 62 0) 63 0))), (x0, .inl (dA 4, 32, .inr (.inr (.inr (.inr (va_cpy gy0 gx0 0 0 0)))))), (x1, .inl (dA 1, 64, .inl (va_cpy gy1 gx1 0 0 0))), (x2, .inl (dA 2, 64, .inr (.inl (va_cpy gy2 gx2 0 0 0)))), (x3, .inl (dA 2, 64, .inr (.inl (va_cpy gy3 gx3 0 0 0)))), (y0, .inl (dA 4, 32, .inr (.inr (.inr (.inr gy0))))), (y1, .inl (dA 1, 64, .inl gy1)), (y2, .inl (dA 2, 64, .inr (.inl gy2))), (y3, .inl (dA 2, 64, .inr (.inl gy3)))] := hD
  refine lv_iload_n hx hb d_V_retain_92 rfl (lv_at hl 0 rfl) ?_
  exact rtI hx hb hr hlk hP hD hS () rfl [2, 3, 4, 1, 0, 5, 6, 7, 8, 9, 10, 11, 12, 13] rfl rfl (by decide) (Nat.le_of_ble_eq_true rfl) (Nat.le_of_ble_eq_true rfl) d_V_retain_93
end
section
set_option maxHeartbeats 4000000 in
set_option maxRecDepth 100000 in
theorem c_K_retain_1 (l : Launch) (htr : l.stackTraces = false) (D : va_G) (dA : Nat → ClassId) (sz : Nat) (a : Nat) (fs : List Value) (b : Nat) (gs : List Value) (b2 : Nat) (hs : List Value) (b1 : Nat) (is : List Value) (b3 : Nat) (js : List Value) (y4 : Nat) (gy4 : Nat → Int32) (t : Int64) (x0 : Nat) (x1 : Nat) (x2 : Nat) (x3 : Nat) (gx0 : Nat → Option Nat) (gx1 : Nat → Int32) (gx2 : Nat → Int64) (gx3 : Nat → Int64) (y0 : Nat) (y1 : Nat) (y2 : Nat) (y3 : Nat) (gy0 : Nat → Option Nat) (gy1 : Nat → Int32) (gy2 : Nat → Int64) (gy3 : Nat → Int64) (o : Nat) (og : Nat → Int64) (h1 : ¬ t < 0) (h2 : t ≤ 1099511627775) (h3 : 0 < t) (h_fs_powered : fs[5]? = some (.int 1)) (h_fs_cutLeft : fs[6]? = some (.int (-1))) (h_fs_writes : fs[7]? = some (.int 0)) (h_fs_journal : fs[8]? = some (.ref b3)) (h_fs_head : fs[9]? = some (.ref b1)) (h_fs_now : fs[11]? = some (.ref b)) (h_fs_saved : fs[12]? = some (.ref b2)) (hl_fs : fs.length = 18) (h_gs_parcels : gs[0]? = some (.ref y0)) (h_gs_parcelCount : gs[1]? = some (.int 0)) (h_gs_scarOwners : gs[2]? = some (.ref y1)) (h_gs_scarFroms : gs[3]? = some (.ref y2)) (h_gs_scarTos : gs[4]? = some (.ref y3)) (h_gs_scarPoints : gs[5]? = some (.ref y4)) (h_gs_scarCount : gs[6]? = some (.int 0)) (h_gs_horizon : gs[7]? = some (.long 0)) (hl_gs : gs.length = 11) (h_hs_parcels : hs[0]? = some (.ref x0)) (h_hs_scarOwners : hs[2]? = some (.ref x1)) (h_hs_scarFroms : hs[3]? = some (.ref x2)) (h_hs_scarTos : hs[4]? = some (.ref x3)) (hl_hs : hs.length = 11) (h_is_size : is[3]? = some (.int 0)) (hl_is : is.length = 4) (h_js_changed : js[12]? = some (.int 0)) (hl_js : js.length = 13) : Met l ⟨"SeriesVaultLaw", "retain", "(LSeriesVault;J[J)I"⟩ [Cond.codeWith ⟨"SeriesVaultLaw", "retain", "(LSeriesVault;J[J)I"⟩ method_15_code 5 (some FieldType.int) [(0, 9, 12, 29), (0, 9, 16, 19)]] { frames := 5, cells := 0, slots := 0, locals := 104 } (pC D dA [.ref a, .long t, .ref o] [(a, .inr (0, fs)), (b, .inr (3, gs)), (b2, .inr (3, hs)), (b1, .inr (2, is)), (b3, .inr (1, js)), (y4, .inl (dA 1, 64, .inl gy4)), (x0, .inl (dA 4, 32, .inr (.inr (.inr (.inr gx0))))), (x1, .inl (dA 1, 64, .inl gx1)), (x2, .inl (dA 2, 64, .inr (.inl gx2))), (x3, .inl (dA 2, 64, .inr (.inl gx3))), (y0, .inl (dA 4, 32, .inr (.inr (.inr (.inr gy0))))), (y1, .inl (dA 1, 64, .inl gy1)), (y2, .inl (dA 2, 64, .inr (.inl gy2))), (y3, .inl (dA 2, 64, .inr (.inl gy3))), (o, .inl (dA 2, 1, .inr (.inl og)))] sz) (va_Qi (fun (r : Int32) (_ : Unit) => r = 0) (fun (u9 : Unit) t9 => bW D (va_A [(a, .inr (0, fs)), (b, .inr (3, gs)), (b2, .inr (3, hs)), (b1, .inr (2, is)), (b3, .inr (1, js)), (y4, .inl (dA 1, 64, .inl gy4)), (x0, .inl (dA 4, 32, .inr (.inr (.inr (.inr gx0))))), (x1, .inl (dA 1, 64, .inl gx1)), (x2, .inl (dA 2, 64, .inr (.inl gx2))), (x3, .inl (dA 2, 64, .inr (.inl gx3))), (y0, .inl (dA 4, 32, .inr (.inr (.inr (.inr gy0))))), (y1, .inl (dA 1, 64, .inl gy1)), (y2, .inl (dA 2, 64, .inr (.inl gy2))), (y3, .inl (dA 2, 64, .inr (.inl gy3))), (o, .inl (dA 2, 1, .inr (.inl og)))] sz) [(a, .inr (0, (fs.set 7 (.int (0 + 1))))), (b, .inr (3, (((gs.set 7 (.long t)).set 1 (.int 0)).set 6 (.int 0)))), (b2, .inr (3, (((hs.set 1 (.int 0)).set 6 (.int 0)).set 7 (.long t)))), (b1, .inr (2, (is.set 3 (.int 0)))), (b3, .inr (1, js)), (y4, .inl (dA 1, 64, .inl (upd (upd (upd (upd (upd (upd (upd (upd (upd (upd (upd (upd (upd (upd (upd (upd (upd (upd (upd (upd (upd (upd (upd (upd (upd (upd (upd (upd (upd (upd (upd (upd (upd (upd (upd (upd (upd (upd (upd (upd (upd (upd (upd (upd (upd (upd (upd (upd (upd (upd (upd (upd (upd (upd (upd (upd (upd (upd (upd (upd (upd (upd (upd (upd gy4 0 0) 1 0) 2 0) 3 0) 4 0) 5 0) 6 0) 7 0) 8 0) 9 0) 10 0) 11 0) 12 0) 13 0) 14 0) 15 0) 16 0) 17 0) 18 0) 19 0) 20 0) 21 0) 22 0) 23 0) 24 0) 25 0) 26 0) 27 0) 28 0) 29 0) 30 0) 31 0) 32 0) 33 0) 34 0) 35 0) 36 0) 37 0) 38 0) 39 0) 40 0) 41 0) 42 0) 43 0) 44 0) 45 0) 46 0) 47 0) 48 0) 49 0) 50 0) 51 0) 52 0) 53 0) 54 0) 55 0) 56 0) 57 0) 58 0) 59 0) 60 0) 61 0) 62 0) 63 0))), (x0, .inl (dA 4, 32, .inr (.inr (.inr (.inr (va_cpy gy0 gx0 0 0 0)))))), (x1, .inl (dA 1, 64, .inl (va_cpy gy1 gx1 0 0 0))), (x2, .inl (dA 2, 64, .inr (.inl (va_cpy gy2 gx2 0 0 0)))), (x3, .inl (dA 2, 64, .inr (.inl (va_cpy gy3 gx3 0 0 0)))), (y0, .inl (dA 4, 32, .inr (.inr (.inr (.inr gy0))))), (y1, .inl (dA 1, 64, .inl gy1)), (y2, .inl (dA 2, 64, .inr (.inl gy2))), (y3, .inl (dA 2, 64, .inr (.inl gy3))), (o, .inl (dA 2, 1, .inr (.inl (vp_updL og 0 0))))] t9) (va_A [(a, .inr (0, fs)), (b, .inr (3, gs)), (b2, .inr (3, hs)), (b1, .inr (2, is)), (b3, .inr (1, js)), (y4, .inl (dA 1, 64, .inl gy4)), (x0, .inl (dA 4, 32, .inr (.inr (.inr (.inr gx0))))), (x1, .inl (dA 1, 64, .inl gx1)), (x2, .inl (dA 2, 64, .inr (.inl gx2))), (x3, .inl (dA 2, 64, .inr (.inl gx3))), (y0, .inl (dA 4, 32, .inr (.inr (.inr (.inr gy0))))), (y1, .inl (dA 1, 64, .inl gy1)), (y2, .inl (dA 2, 64, .inr (.inl gy2))), (y3, .inl (dA 2, 64, .inr (.inl gy3))), (o, .inl (dA 2, 1, .inr (.inl og)))] sz)) 0 0 (va_A [(a, .inr (0, fs)), (b, .inr (3, gs)), (b2, .inr (3, hs)), (b1, .inr (2, is)), (b3, .inr (1, js)), (y4, .inl (dA 1, 64, .inl gy4)), (x0, .inl (dA 4, 32, .inr (.inr (.inr (.inr gx0))))), (x1, .inl (dA 1, 64, .inl gx1)), (x2, .inl (dA 2, 64, .inr (.inl gx2))), (x3, .inl (dA 2, 64, .inr (.inl gx3))), (y0, .inl (dA 4, 32, .inr (.inr (.inr (.inr gy0))))), (y1, .inl (dA 1, 64, .inl gy1)), (y2, .inl (dA 2, 64, .inr (.inl gy2))), (y3, .inl (dA 2, 64, .inr (.inl gy3))), (o, .inl (dA 2, 1, .inr (.inl og)))] sz) := by
  refine mkW (y := ⟨"SeriesVaultLaw", "retain", "(LSeriesVault;J[J)I"⟩) (cc := method_15_code) (maxL := 5) (av := [.ref a, .long t, .ref o]) (ws := [(a, .inr (0, fs)), (b, .inr (3, gs)), (b2, .inr (3, hs)), (b1, .inr (2, is)), (b3, .inr (1, js)), (y4, .inl (dA 1, 64, .inl gy4)), (x0, .inl (dA 4, 32, .inr (.inr (.inr (.inr gx0))))), (x1, .inl (dA 1, 64, .inl gx1)), (x2, .inl (dA 2, 64, .inr (.inl gx2))), (x3, .inl (dA 2, 64, .inr (.inl gx3))), (y0, .inl (dA 4, 32, .inr (.inr (.inr (.inr gy0))))), (y1, .inl (dA 1, 64, .inl gy1)), (y2, .inl (dA 2, 64, .inr (.inl gy2))), (y3, .inl (dA 2, 64, .inr (.inl gy3))), (o, .inl (dA 2, 1, .inr (.inl og)))]) (sz := sz) (Qc := fun A => va_Qi (fun (r : Int32) (_ : Unit) => r = 0) (fun (u9 : Unit) t9 => bW D A [(a, .inr (0, (fs.set 7 (.int (0 + 1))))), (b, .inr (3, (((gs.set 7 (.long t)).set 1 (.int 0)).set 6 (.int 0)))), (b2, .inr (3, (((hs.set 1 (.int 0)).set 6 (.int 0)).set 7 (.long t)))), (b1, .inr (2, (is.set 3 (.int 0)))), (b3, .inr (1, js)), (y4, .inl (dA 1, 64, .inl (upd (upd (upd (upd (upd (upd (upd (upd (upd (upd (upd (upd (upd (upd (upd (upd (upd (upd (upd (upd (upd (upd (upd (upd (upd (upd (upd (upd (upd (upd (upd (upd (upd (upd (upd (upd (upd (upd (upd (upd (upd (upd (upd (upd (upd (upd (upd (upd (upd (upd (upd (upd (upd (upd (upd (upd (upd (upd (upd (upd (upd (upd (upd (upd gy4 0 0) 1 0) 2 0) 3 0) 4 0) 5 0) 6 0) 7 0) 8 0) 9 0) 10 0) 11 0) 12 0) 13 0) 14 0) 15 0) 16 0) 17 0) 18 0) 19 0) 20 0) 21 0) 22 0) 23 0) 24 0) 25 0) 26 0) 27 0) 28 0) 29 0) 30 0) 31 0) 32 0) 33 0) 34 0) 35 0) 36 0) 37 0) 38 0) 39 0) 40 0) 41 0) 42 0) 43 0) 44 0) 45 0) 46 0) 47 0) 48 0) 49 0) 50 0) 51 0) 52 0) 53 0) 54 0) 55 0) 56 0) 57 0) 58 0) 59 0) 60 0) 61 0) 62 0) 63 0))), (x0, .inl (dA 4, 32, .inr (.inr (.inr (.inr (va_cpy gy0 gx0 0 0 0)))))), (x1, .inl (dA 1, 64, .inl (va_cpy gy1 gx1 0 0 0))), (x2, .inl (dA 2, 64, .inr (.inl (va_cpy gy2 gx2 0 0 0)))), (x3, .inl (dA 2, 64, .inr (.inl (va_cpy gy3 gx3 0 0 0)))), (y0, .inl (dA 4, 32, .inr (.inr (.inr (.inr gy0))))), (y1, .inl (dA 1, 64, .inl gy1)), (y2, .inl (dA 2, 64, .inr (.inl gy2))), (y3, .inl (dA 2, 64, .inr (.inl gy3))), (o, .inl (dA 2, 1, .inr (.inl (vp_updL og 0 0))))] t9) A) (by decide) (Nat.le_of_ble_eq_true rfl) ?_
  intro A p e s m below meth c ls hsz htab hB
  obtain ⟨hx, hb, hr, hml, hown, hin, hlk, hE, hK, hP, hD, hS, hA, hN, hl⟩ := hB
  have hown : s.vm.findClass "SeriesVaultLaw" = some m.cls := hown
  have hin : meth.name = "retain" := hin
  have hl : lv_has ls 5 [(0, .ref a), (1, .long t), (3, .ref o)] := hl
  obtain ⟨H, hH⟩ : ∃ z, z = s.heap := ⟨_, rfl⟩
  have hP : va_P D vwCl [(a, .inr (0, fs)), (b, .inr (3, gs)), (b2, .inr (3, hs)), (b1, .inr (2, is)), (b3, .inr (1, js)), (y4, .inl (dA 1, 64, .inl gy4)), (x0, .inl (dA 4, 32, .inr (.inr (.inr (.inr gx0))))), (x1, .inl (dA 1, 64, .inl gx1)), (x2, .inl (dA 2, 64, .inr (.inl gx2))), (x3, .inl (dA 2, 64, .inr (.inl gx3))), (y0, .inl (dA 4, 32, .inr (.inr (.inr (.inr gy0))))), (y1, .inl (dA 1, 64, .inl gy1)), (y2, .inl (dA 2, 64, .inr (.inl gy2))), (y3, .inl (dA 2, 64, .inr (.inl gy3))), (o, .inl (dA 2, 1, .inr (.inl og)))] H := by rw [hH]; exact hP
  have hS : va_S A s.heap H [] := by rw [hH]; exact hS
  rw [← hH]
  refine lv_aload_n hx hb d_SeriesVaultLaw_retain_0 rfl (lv_at hl 2 rfl) ?_
  refine lv_iconst (v := 0) hx hb d_SeriesVaultLaw_retain_1 (by decide) ?_
  refine lv_aload_n hx hb d_SeriesVaultLaw_retain_2 rfl (lv_at hl 0 rfl) ?_
  refine lv_lload_n hx hb d_SeriesVaultLaw_retain_3 rfl (lv_at hl 1 rfl) ?_
  have hPc := hP.sub (ws' := [(a, .inr (0, fs)), (b, .inr (3, gs)), (b2, .inr (3, hs)), (b1, .inr (2, is)), (b3, .inr (1, js)), (y4, .inl (dA 1, 64, .inl gy4)), (x0, .inl (dA 4, 32, .inr (.inr (.inr (.inr gx0))))), (x1, .inl (dA 1, 64, .inl gx1)), (x2, .inl (dA 2, 64, .inr (.inl gx2))), (x3, .inl (dA 2, 64, .inr (.inl gx3))), (y0, .inl (dA 4, 32, .inr (.inr (.inr (.inr gy0))))), (y1, .inl (dA 1, 64, .inl gy1)), (y2, .inl (dA 2, 64, .inr (.inl gy2))), (y3, .inl (dA 2, 64, .inr (.inl gy3)))]) [0, 1, 2, 3, 4, 5, 6, 7, 8, 9, 10, 11, 12, 13] rfl
  have hDc := hD.sub (ws' := [(a, .inr (0, fs)), (b, .inr (3, gs)), (b2, .inr (3, hs)), (b1, .inr (2, is)), (b3, .inr (1, js)), (y4, .inl (dA 1, 64, .inl gy4)), (x0, .inl (dA 4, 32, .inr (.inr (.inr (.inr gx0))))), (x1, .inl (dA 1, 64, .inl gx1)), (x2, .inl (dA 2, 64, .inr (.inl gx2))), (x3, .inl (dA 2, 64, .inr (.inl gx3))), (y0, .inl (dA 4, 32, .inr (.inr (.inr (.inr gy0))))), (y1, .inl (dA 1, 64, .inl gy1)), (y2, .inl (dA 2, 64, .inr (.inl gy2))), (y3, .inl (dA 2, 64, .inr (.inl gy3)))]) [0, 1, 2, 3, 4, 5, 6, 7, 8, 9, 10, 11, 12, 13] (by decide) rfl
  refine jnI (rnV (As := [.long t]) (rest := [.int 0, .ref o]) hx hb hml hown hE hK (hN _ _ hS) hPc hDc (c_V_retain_1 l D dA H.size a fs b gs b2 hs b1 is b3 js y4 gy4 t x0 x1 x2 x3 gx0 gx1 gx2 gx3 y0 y1 y2 y3 gy0 gy1 gy2 gy3 h1 h2 h3 h_fs_powered h_fs_cutLeft h_fs_writes h_fs_journal h_fs_head h_fs_now h_fs_saved hl_fs h_gs_parcels h_gs_parcelCount h_gs_scarOwners h_gs_scarFroms h_gs_scarTos h_gs_scarPoints h_gs_scarCount h_gs_horizon hl_gs h_hs_parcels h_hs_scarOwners h_hs_scarFroms h_hs_scarTos hl_hs h_is_size hl_is h_js_changed hl_js) (q0 := 0) rfl rfl w716 w715 w717 w718 w277 rfl rfl ⟨⟨by decide, by decide⟩, rfl⟩ ⟨(Nat.le_of_ble_eq_true rfl), (Nat.le_of_ble_eq_true rfl)⟩ rfl hl.1 rfl (Nat.le_of_ble_eq_true rfl) d_SeriesVaultLaw_retain_4 ⟨(Nat.le_of_ble_eq_true rfl), (Nat.le_of_ble_eq_true rfl)⟩) hP hD hS hA [0, 1, 2, 3, 4, 5, 6, 7, 8, 9, 10, 11, 12, 13] [14] (wr := [(o, .inl (dA 2, 1, .inr (.inl og)))]) rfl rfl (by decide) (by decide) (fun r1 u9 H locs hp9 hP hD hS => ?_)
  have hP : va_P D vwCl [(o, .inl (dA 2, 1, .inr (.inl og))), (a, .inr (0, (fs.set 7 (.int (0 + 1))))), (b, .inr (3, (((gs.set 7 (.long t)).set 1 (.int 0)).set 6 (.int 0)))), (b2, .inr (3, (((hs.set 1 (.int 0)).set 6 (.int 0)).set 7 (.long t)))), (b1, .inr (2, (is.set 3 (.int 0)))), (b3, .inr (1, js)), (y4, .inl (dA 1, 64, .inl (upd (upd (upd (upd (upd (upd (upd (upd (upd (upd (upd (upd (upd (upd (upd (upd (upd (upd (upd (upd (upd (upd (upd (upd (upd (upd (upd (upd (upd (upd (upd (upd (upd (upd (upd (upd (upd (upd (upd (upd (upd (upd (upd (upd (upd (upd (upd (upd (upd (upd (upd (upd (upd (upd (upd (upd (upd (upd (upd (upd (upd (upd (upd (upd gy4 0 0) 1 0) 2 0) 3 0) 4 0) 5 0) 6 0) 7 0) 8 0) 9 0) 10 0) 11 0) 12 0) 13 0) 14 0) 15 0) 16 0) 17 0) 18 0) 19 0) 20 0) 21 0) 22 0) 23 0) 24 0) 25 0) 26 0) 27 0) 28 0) 29 0) 30 0) 31 0) 32 0) 33 0) 34 0) 35 0) 36 0) 37 0) 38 0) 39 0) 40 0) 41 0) 42 0) 43 0) 44 0) 45 0) 46 0) 47 0) 48 0) 49 0) 50 0) 51 0) 52 0) 53 0) 54 0) 55 0) 56 0) 57 0) 58 0) 59 0) 60 0) 61 0) 62 0) 63 0))), (x0, .inl (dA 4, 32, .inr (.inr (.inr (.inr (va_cpy gy0 gx0 0 0 0)))))), (x1, .inl (dA 1, 64, .inl (va_cpy gy1 gx1 0 0 0))), (x2, .inl (dA 2, 64, .inr (.inl (va_cpy gy2 gx2 0 0 0)))), (x3, .inl (dA 2, 64, .inr (.inl (va_cpy gy3 gx3 0 0 0)))), (y0, .inl (dA 4, 32, .inr (.inr (.inr (.inr gy0))))), (y1, .inl (dA 1, 64, .inl gy1)), (y2, .inl (dA 2, 64, .inr (.inl gy2))), (y3, .inl (dA 2, 64, .inr (.inl gy3)))] H := hP
  have hD : va_D A [(o, .inl (dA 2, 1, .inr (.inl og))), (a, .inr (0, (fs.set 7 (.int (0 + 1))))), (b, .inr (3, (((gs.set 7 (.long t)).set 1 (.int 0)).set 6 (.int 0)))), (b2, .inr (3, (((hs.set 1 (.int 0)).set 6 (.int 0)).set 7 (.long t)))), (b1, .inr (2, (is.set 3 (.int 0)))), (b3, .inr (1, js)), (y4, .inl (dA 1, 64, .inl (upd (upd (upd (upd (upd (upd (upd (upd (upd (upd (upd (upd (upd (upd (upd (upd (upd (upd (upd (upd (upd (upd (upd (upd (upd (upd (upd (upd (upd (upd (upd (upd (upd (upd (upd (upd (upd (upd (upd (upd (upd (upd (upd (upd (upd (upd (upd (upd (upd (upd (upd (upd (upd (upd (upd (upd (upd (upd (upd (upd (upd (upd (upd (upd gy4 0 0) 1 0) 2 0) 3 0) 4 0) 5 0) 6 0) 7 0) 8 0) 9 0) 10 0) 11 0) 12 0) 13 0) 14 0) 15 0) 16 0) 17 0) 18 0) 19 0) 20 0) 21 0) 22 0) 23 0) 24 0) 25 0) 26 0) 27 0) 28 0) 29 0) 30 0) 31 0) 32 0) 33 0) 34 0) 35 0) 36 0) 37 0) 38 0) 39 0) 40 0) 41 0) 42 0) 43 0) 44 0) 45 0) 46 0) 47 0) 48 0) 49 0) 50 0) 51 0) 52 0) 53 0) 54 0) 55 0) 56 0) 57 0) 58 0) 59 0) 60 0) 61 0) 62 0) 63 0))), (x0, .inl (dA 4, 32, .inr (.inr (.inr (.inr (va_cpy gy0 gx0 0 0 0)))))), (x1, .inl (dA 1, 64, .inl (va_cpy gy1 gx1 0 0 0))), (x2, .inl (dA 2, 64, .inr (.inl (va_cpy gy2 gx2 0 0 0)))), (x3, .inl (dA 2, 64, .inr (.inl (va_cpy gy3 gx3 0 0 0)))), (y0, .inl (dA 4, 32, .inr (.inr (.inr (.inr gy0))))), (y1, .inl (dA 1, 64, .inl gy1)), (y2, .inl (dA 2, 64, .inr (.inl gy2))), (y3, .inl (dA 2, 64, .inr (.inl gy3)))] := hD
  have hp9 : 0 = r1 := Eq.symm hp9
  subst hp9
  refine lv_i2l (v := 0) hx hb d_SeriesVaultLaw_retain_7 (by decide) ?_
  refine va_last hx hb hK hP hD hS 0 2 rfl rfl (by unfold vp_in; decide) d_SeriesVaultLaw_retain_8 (fun H locs hP hD hS => ?_)
  have hP : va_P D vwCl [(o, .inl (dA 2, 1, .inr (.inl (vp_updL og 0 0)))), (a, .inr (0, (fs.set 7 (.int (0 + 1))))), (b, .inr (3, (((gs.set 7 (.long t)).set 1 (.int 0)).set 6 (.int 0)))), (b2, .inr (3, (((hs.set 1 (.int 0)).set 6 (.int 0)).set 7 (.long t)))), (b1, .inr (2, (is.set 3 (.int 0)))), (b3, .inr (1, js)), (y4, .inl (dA 1, 64, .inl (upd (upd (upd (upd (upd (upd (upd (upd (upd (upd (upd (upd (upd (upd (upd (upd (upd (upd (upd (upd (upd (upd (upd (upd (upd (upd (upd (upd (upd (upd (upd (upd (upd (upd (upd (upd (upd (upd (upd (upd (upd (upd (upd (upd (upd (upd (upd (upd (upd (upd (upd (upd (upd (upd (upd (upd (upd (upd (upd (upd (upd (upd (upd (upd gy4 0 0) 1 0) 2 0) 3 0) 4 0) 5 0) 6 0) 7 0) 8 0) 9 0) 10 0) 11 0) 12 0) 13 0) 14 0) 15 0) 16 0) 17 0) 18 0) 19 0) 20 0) 21 0) 22 0) 23 0) 24 0) 25 0) 26 0) 27 0) 28 0) 29 0) 30 0) 31 0) 32 0) 33 0) 34 0) 35 0) 36 0) 37 0) 38 0) 39 0) 40 0) 41 0) 42 0) 43 0) 44 0) 45 0) 46 0) 47 0) 48 0) 49 0) 50 0) 51 0) 52 0) 53 0) 54 0) 55 0) 56 0) 57 0) 58 0) 59 0) 60 0) 61 0) 62 0) 63 0))), (x0, .inl (dA 4, 32, .inr (.inr (.inr (.inr (va_cpy gy0 gx0 0 0 0)))))), (x1, .inl (dA 1, 64, .inl (va_cpy gy1 gx1 0 0 0))), (x2, .inl (dA 2, 64, .inr (.inl (va_cpy gy2 gx2 0 0 0)))), (x3, .inl (dA 2, 64, .inr (.inl (va_cpy gy3 gx3 0 0 0)))), (y0, .inl (dA 4, 32, .inr (.inr (.inr (.inr gy0))))), (y1, .inl (dA 1, 64, .inl gy1)), (y2, .inl (dA 2, 64, .inr (.inl gy2))), (y3, .inl (dA 2, 64, .inr (.inl gy3)))] H := hP
  have hD : va_D A [(o, .inl (dA 2, 1, .inr (.inl (vp_updL og 0 0)))), (a, .inr (0, (fs.set 7 (.int (0 + 1))))), (b, .inr (3, (((gs.set 7 (.long t)).set 1 (.int 0)).set 6 (.int 0)))), (b2, .inr (3, (((hs.set 1 (.int 0)).set 6 (.int 0)).set 7 (.long t)))), (b1, .inr (2, (is.set 3 (.int 0)))), (b3, .inr (1, js)), (y4, .inl (dA 1, 64, .inl (upd (upd (upd (upd (upd (upd (upd (upd (upd (upd (upd (upd (upd (upd (upd (upd (upd (upd (upd (upd (upd (upd (upd (upd (upd (upd (upd (upd (upd (upd (upd (upd (upd (upd (upd (upd (upd (upd (upd (upd (upd (upd (upd (upd (upd (upd (upd (upd (upd (upd (upd (upd (upd (upd (upd (upd (upd (upd (upd (upd (upd (upd (upd (upd gy4 0 0) 1 0) 2 0) 3 0) 4 0) 5 0) 6 0) 7 0) 8 0) 9 0) 10 0) 11 0) 12 0) 13 0) 14 0) 15 0) 16 0) 17 0) 18 0) 19 0) 20 0) 21 0) 22 0) 23 0) 24 0) 25 0) 26 0) 27 0) 28 0) 29 0) 30 0) 31 0) 32 0) 33 0) 34 0) 35 0) 36 0) 37 0) 38 0) 39 0) 40 0) 41 0) 42 0) 43 0) 44 0) 45 0) 46 0) 47 0) 48 0) 49 0) 50 0) 51 0) 52 0) 53 0) 54 0) 55 0) 56 0) 57 0) 58 0) 59 0) 60 0) 61 0) 62 0) 63 0))), (x0, .inl (dA 4, 32, .inr (.inr (.inr (.inr (va_cpy gy0 gx0 0 0 0)))))), (x1, .inl (dA 1, 64, .inl (va_cpy gy1 gx1 0 0 0))), (x2, .inl (dA 2, 64, .inr (.inl (va_cpy gy2 gx2 0 0 0)))), (x3, .inl (dA 2, 64, .inr (.inl (va_cpy gy3 gx3 0 0 0)))), (y0, .inl (dA 4, 32, .inr (.inr (.inr (.inr gy0))))), (y1, .inl (dA 1, 64, .inl gy1)), (y2, .inl (dA 2, 64, .inr (.inl gy2))), (y3, .inl (dA 2, 64, .inr (.inl gy3)))] := hD
  refine lv_goto hx hb d_SeriesVaultLaw_retain_9 (tgt := 20) rfl ?_
  refine lv_iconst (v := 0) hx hb d_SeriesVaultLaw_retain_20 (by decide) ?_
  exact rtI hx hb hr hlk hP hD hS () rfl [1, 2, 3, 4, 5, 6, 7, 8, 9, 10, 11, 12, 13, 14, 0] rfl rfl (by decide) (Nat.le_of_ble_eq_true rfl) (Nat.le_of_ble_eq_true rfl) d_SeriesVaultLaw_retain_21
end
section
/-! Methods that read java.util.ArrayList's shared empty array: its address e0 goes along; nobody writes it. -/
abbrev zZ (e0 : Nat) (A : Nat → Prop) (U : State) (H : Heap) : Prop := va_Z "java/util/ArrayList" "DEFAULTCAPACITY_EMPTY_ELEMENTDATA" "[Ljava/lang/Object;" (.ref e0) A U H
abbrev zT (e0 : Nat) (A : Nat → Prop) (U : State) (H : Heap) : Prop := va_T (.object "java/lang/Object") e0 0 (fun _ => Value.null) A U H
def pCz (D : va_G) (dA : Nat → ClassId) (e0 : Nat) (av : List Value) (ws : va_W) (sz : Nat) : Array Value → State → Prop := fun a U => pC D dA av ws sz a U ∧ zZ e0 (fun _ => False) U U.heap ∧ zT e0 (fun _ => False) U U.heap ∧ ¬ va_A ws sz e0
theorem pCz_blind {D : va_G} {dA : Nat → ClassId} {e0 : Nat} {av : List Value} {ws : va_W} {sz : Nat} : FrameBlind (pCz D dA e0 av ws sz) := by
  intro a U g mk q
  obtain ⟨q0, qz, qt, qn⟩ := q
  exact ⟨pC_blind a U g mk q0, va_Z.moved (u := U) (U := U.calling g mk a) (Vm.Alike.refl U.vm) qz, va_T.moved (u := U) (U := U.calling g mk a) (Vm.Alike.refl U.vm) qt, qn⟩
theorem zZ_in {D : va_G} {ws : va_W} {sz e0 : Nat} {s : State} (hP : va_P D vwCl ws s.heap) (hsz : s.heap.size = sz) (h : zZ e0 (fun _ => False) s s.heap) : zZ e0 (va_A ws sz) s s.heap := by
  obtain ⟨cf, kf, fi, f, a, cell, h1, h2, h3, h4, h5, h6, h7, -⟩ := h
  refine ⟨cf, kf, fi, f, a, cell, h1, h2, h3, h4, h5, h6, h7, fun hq => ?_⟩
  subst hsz
  have h8 := ns_A hP hq h5
  rw [h6] at h8
  cases h8
theorem zT_in {ws : va_W} {sz e0 : Nat} {s : State} (hn : ¬ va_A ws sz e0) (h : zT e0 (fun _ => False) s s.heap) : zT e0 (va_A ws sz) s s.heap := by
  obtain ⟨cell, h1, h2, h3, h4, h5, h6, -⟩ := h
  exact ⟨cell, h1, h2, h3, h4, h5, h6, hn⟩
section RZ
variable {p : Program} {l : Launch} {e : Env} {R : Room} {s : State} {m : MethodId} {args : Array Value} {below : List Frame} {meth : Method} {c : Code} {H : Heap} {locs : List Loc} {cells slots : Nat} {Q : State → Prop}
variable {D : va_G} {dA : Nat → ClassId} {A : Nat → Prop} {cc : ByteArray} {pc : Nat} {ls : Array Slot} {rest st0 : List Value} {ws wc wr : va_W} {e0 : Nat}
theorem pre_z {av : List Value} (hE : eV s) (hK : va_K D vwCl (arT dA) s) (hZ : zZ e0 A s s.heap) (hT : zT e0 A s s.heap) (hS : va_S A s.heap H locs) (hN : sK s.heap H) (hP : va_P D vwCl wc H) (hD : va_D A wc) : ∀ U : State, U.heap = H → s.WarmedH U.vm → pCz D dA e0 av wc H.size av.toArray U := by
  intro U hU hW
  refine ⟨pre_1 hE hK hN hP hD U hU hW, ?_, ?_, ?_⟩
  · have h1 : zZ e0 A s U.heap := va_Z.kept hZ (fun a h1 h2 => by rw [hU]; exact hS.2.1 a h1 h2)
    exact va_Z.moved (u := s) (U := U) hW.alike (va_Z.narrow h1 (fun _ h => h.elim))
  · have h1 : zT e0 A s U.heap := va_T.kept hT (fun a h1 h2 => by rw [hU]; exact hS.2.1 a h1 h2)
    exact va_T.moved (u := s) (U := U) hW.alike (va_T.narrow h1 (fun _ h => h.elim))
  · intro hq
    have ho := hT.out
    obtain ⟨cell, h1, -⟩ := hT
    have h2 := (Array.getElem?_eq_some_iff.mp h1).1
    have h3 := hS.1
    rcases hq with ⟨k, q, h⟩ | h
    · exact ho (hD.2 k _ h)
    · omega
/-- invokevirtual of a method of the receiver's own class -/
theorem rnVz {y : MethodName} {bytes : ByteArray} {maxL mc ms n index nL : Nat} {ret : Option FieldType} {rm : Room} {Qc : Array Value → State → Outcome → State → Prop} {free : Addr → Prop} {own C : String} {T : u_T} {N ci q0 : Nat} {fs : List Value} {b : Nat} {As : List Value}
    (hx : p.tables.exec = Jvm.exec) (hb : c.code = cc) (hml : c.maxLocals = nL) (hown : s.vm.findClass own = some m.cls) (hE : eV s) (hK : va_K D vwCl (arT dA) s) (hZ : zZ e0 A s s.heap) (hT : zT e0 A s s.heap) (hS : va_S A s.heap H locs) (hN : sK s.heap H) (hP : va_P D vwCl wc H) (hD : va_D A wc)
    (hM : Met l y [Cond.code y bytes maxL ret] rm (pCz D dA e0 (.ref b :: As) wc H.size) Qc mc ms free) (he : wc[q0]? = some (b, .inr (ci, fs))) (hcl : vwCl[ci]? = some (C, T, N))
    (hc : Cond.code y bytes maxL ret ∈ aW) (hl : Cond.methodLink own index y ∈ aW) (hi : Cond.instanceMethod y ∈ aW) (hse : Cond.selects C y y ∈ aW) (hini : Cond.initialized y.cls ∈ aW) (hrc : rm.cells = mc) (hrs : rm.slots = ms)
    (hd : (y.cls ≠ "java/lang/invoke/MethodHandle" ∧ y.cls ≠ "java/lang/invoke/VarHandle") ∧ (parseMethodDescriptor y.desc).map (fun d => d.parameters.length) = some n) (hR : rm.frames + 1 ≤ R.frames ∧ 8 + (maxL + 11) + rm.locals ≤ R.locals)
    (hn : As.length = n) (hsize : ls.size = nL) (hst : st0 = As.reverse ++ .ref b :: rest) (hW : (rest.map fun v => v.category).sum ≤ 8) (hdg : decode cc pc = .ok (.invokevirtual index, 3)) (hf : cells + mc ≤ R.cells ∧ slots + ms ≤ R.slots) :
    va_Run p l e R s m args below meth c H locs cells slots mc ms (F0 m pc ls st0) rest (Qc (Value.ref b :: As).toArray) free :=
  va_runV (Ts := []) ⟨hx, hb, hml, hown, fun _ h => nomatch h⟩ hM ⟨cB_1 hE hc hl hini hrc hrs hd hR, hE.t hi rfl, hE.t hse rfl⟩ ⟨pCz_blind, va_recv hK hP hcl he, pre_z hE hK hZ hT hS hN hP hD⟩ rfl hn hsize hst (lv_room hW) hdg hf
/-- invokespecial of a constructor -/
theorem rnIz {y : MethodName} {bytes : ByteArray} {maxL mc ms n index nL : Nat} {rm : Room} {Qc : Array Value → State → Outcome → State → Prop} {free : Addr → Prop} {own : String} {b : Nat} {As : List Value}
    (hx : p.tables.exec = Jvm.exec) (hb : c.code = cc) (hml : c.maxLocals = nL) (hown : s.vm.findClass own = some m.cls) (hE : eV s) (hK : va_K D vwCl (arT dA) s) (hZ : zZ e0 A s s.heap) (hT : zT e0 A s s.heap) (hS : va_S A s.heap H locs) (hN : sK s.heap H) (hP : va_P D vwCl wc H) (hD : va_D A wc)
    (hM : Met l y [Cond.code y bytes maxL none] rm (pCz D dA e0 (.ref b :: As) wc H.size) Qc mc ms free)
    (hc : Cond.code y bytes maxL none ∈ aW) (hl : Cond.methodLink own index y ∈ aW) (hi : Cond.instanceMethod y ∈ aW) (hini : Cond.initialized y.cls ∈ aW) (hy : y.name = "<init>") (hrc : rm.cells = mc) (hrs : rm.slots = ms)
    (hd : (y.cls ≠ "java/lang/invoke/MethodHandle" ∧ y.cls ≠ "java/lang/invoke/VarHandle") ∧ (parseMethodDescriptor y.desc).map (fun d => d.parameters.length) = some n) (hR : rm.frames + 1 ≤ R.frames ∧ 8 + (maxL + 11) + rm.locals ≤ R.locals)
    (hn : As.length = n) (hsize : ls.size = nL) (hst : st0 = As.reverse ++ .ref b :: rest) (hW : (rest.map fun v => v.category).sum ≤ 8) (hdg : decode cc pc = .ok (.invokespecial index, 3)) (hf : cells + mc ≤ R.cells ∧ slots + ms ≤ R.slots) :
    va_Run p l e R s m args below meth c H locs cells slots mc ms (F0 m pc ls st0) rest (Qc (Value.ref b :: As).toArray) free :=
  va_runI (Ts := []) ⟨hx, hb, hml, hown, fun _ h => nomatch h⟩ hM ⟨cB_1 hE hc hl hini hrc hrs hd hR, hy, hE.t hi rfl⟩ ⟨pCz_blind, pre_z hE hK hZ hT hS hN hP hD⟩ rfl hn hsize hst (lv_room hW) hdg hf
end RZ
theorem mkZ {l : Launch} {y : MethodName} {cc : ByteArray} {maxL : Nat} {ret : Option FieldType} {rm : Room} {D : va_G} {dA : Nat → ClassId} {e0 : Nat} {av : List Value} {ws : va_W} {sz mc ms : Nat} {Qc : (Nat → Prop) → Array Value → State → Outcome → State → Prop}
    (hy : plainName y.cls = true) (hlen : (lg_sl av).length ≤ maxL)
    (body : ∀ (A : Nat → Prop) (p : Program) (e : Env) (s : State) (m : MethodId) (below : List Frame) (meth : Method) (c : Code) (ls : Array Slot), s.heap.size = sz → zZ e0 A s s.heap → zT e0 A s s.heap → bS p s m meth c cc ret maxL y D dA ws A av ls →
      W p l e rm s m av.toArray below meth c s.heap [] 0 0 (MQ below (Qc A) av.toArray s mc ms A) (F0 m 0 ls [])) :
    Met l y [Cond.code y cc maxL ret] rm (pCz D dA e0 av ws sz) (Qc (va_A ws sz)) mc ms (va_A ws sz) := by
  refine Met.ofW (cc := cc) (maxL := maxL) (ret := ret) hy rfl ?_
  intro p e s m args below meth c s₁ B hml hv
  obtain ⟨⟨rfl, hsz, hP, hK, hD0, hE⟩, hZ, hT, hn⟩ := hv
  have hA : ∀ q : Nat, s.heap.size ≤ q → va_A ws sz q := fun q h => by rw [← hsz]; exact Or.inr h
  have hl := lv_entry av (n := maxL) hlen
  rw [lg_entry_eq]
  exact body (va_A ws sz) p e s m below meth c _ hsz (zZ_in hP hsz hZ) (zT_in hn hT) ⟨B.exec, B.bytes, B.returns, hml, findClass_of_methodNamed B.named, (name_of_methodNamed B.named B.method).1, B.notSynchronized, hE, hK, hP, hD0.self, va_S.rf, hA, fun H L h => by subst hsz; exact sK_of hP h, hl⟩
end
