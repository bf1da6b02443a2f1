theorem d_P_init_0 : decode prog_5_method_1_code 0 = .ok (.aload_n 0, 1) := by decide +kernel
theorem d_P_init_1 : decode prog_5_method_1_code 1 = .ok (.invokespecial 1, 3) := by decide +kernel
theorem d_P_init_4 : decode prog_5_method_1_code 4 = .ok (.aload_n 0, 1) := by decide +kernel
theorem d_P_init_5 : decode prog_5_method_1_code 5 = .ok (.bipush 32, 2) := by decide +kernel
theorem d_P_init_7 : decode prog_5_method_1_code 7 = .ok (.newarray .int, 2) := by decide +kernel
theorem d_P_init_9 : decode prog_5_method_1_code 9 = .ok (.putfield 7, 3) := by decide +kernel
theorem d_P_init_12 : decode prog_5_method_1_code 12 = .ok (.aload_n 0, 1) := by decide +kernel
theorem d_P_init_13 : decode prog_5_method_1_code 13 = .ok (.bipush 32, 2) := by decide +kernel
theorem d_P_init_15 : decode prog_5_method_1_code 15 = .ok (.newarray .long, 2) := by decide +kernel
theorem d_P_init_17 : decode prog_5_method_1_code 17 = .ok (.putfield 13, 3) := by decide +kernel
theorem d_P_init_20 : decode prog_5_method_1_code 20 = .ok (.aload_n 0, 1) := by decide +kernel
theorem d_P_init_21 : decode prog_5_method_1_code 21 = .ok (.bipush 32, 2) := by decide +kernel
theorem d_P_init_23 : decode prog_5_method_1_code 23 = .ok (.newarray .long, 2) := by decide +kernel
theorem d_P_init_25 : decode prog_5_method_1_code 25 = .ok (.putfield 17, 3) := by decide +kernel
theorem d_P_init_28 : decode prog_5_method_1_code 28 = .ok (.return_, 1) := by decide +kernel
theorem w181 : Cond.methodLink "SeriesVault$Points" 1 ⟨"java/lang/Object", "<init>", "()V"⟩ ∈ aW := aw_of (tb_1 (List.mem_of_getElem? (i := 109) rfl)) rfl
theorem w182 : Cond.instanceMethod ⟨"java/lang/Object", "<init>", "()V"⟩ ∈ aW := aw_of (tb_1 (List.mem_of_getElem? (i := 44) rfl)) rfl
theorem w183 : Cond.code ⟨"java/lang/Object", "<init>", "()V"⟩ object_method_1_code 1 none ∈ aW := aw_of (tb_1 (List.mem_of_getElem? (i := 45) rfl)) rfl
theorem w184 : Cond.arrayClass FieldType.int ∈ aW := aw_of (tb_1 (List.mem_of_getElem? (i := 102) rfl)) rfl
theorem w185 : Cond.fieldLink "SeriesVault$Points" 7 "SeriesVault$Points" "owners" "[I" ∈ aW := aw_of (tb_1 (List.mem_of_getElem? (i := 110) rfl)) rfl
theorem w186 : Cond.arrayClass FieldType.long ∈ aW := aw_of (tb_1 (List.mem_of_getElem? (i := 103) rfl)) rfl
theorem w187 : Cond.fieldLink "SeriesVault$Points" 13 "SeriesVault$Points" "times" "[J" ∈ aW := aw_of (tb_1 (List.mem_of_getElem? (i := 113) rfl)) rfl
theorem w188 : Cond.fieldLink "SeriesVault$Points" 17 "SeriesVault$Points" "values" "[J" ∈ aW := aw_of (tb_1 (List.mem_of_getElem? (i := 116) rfl)) rfl
set_option maxHeartbeats 4000000 in
set_option maxRecDepth 100000 in
theorem c_P_init (l : Launch) (D : va_G) (dA : Nat → ClassId) (sz : Nat) (h : Nat) : Met l ⟨"SeriesVault$Points", "<init>", "()V"⟩ [Cond.code ⟨"SeriesVault$Points", "<init>", "()V"⟩ prog_5_method_1_code 1 none] { frames := 1, cells := 3, slots := 96, locals := 12 } (pC D dA [.ref h] [(h, .inr (2, [.null, .null, .null, .int 0]))] sz) (va_Qv (fun (_ : Nat × Nat × Nat) => True) (fun (u9 : Nat × Nat × Nat) t9 => bW D (va_A [(h, .inr (2, [.null, .null, .null, .int 0]))] sz) [(h, .inr (2, [.ref u9.1, .ref u9.2.1, .ref u9.2.2, .int 0])), (u9.1, .inl (dA 1, 32, .inl (fun _ => 0))), (u9.2.1, .inl (dA 2, 32, .inr (.inl (fun _ => 0)))), (u9.2.2, .inl (dA 2, 32, .inr (.inl (fun _ => 0))))] t9) (va_A [(h, .inr (2, [.null, .null, .null, .int 0]))] sz)) 3 96 (va_A [(h, .inr (2, [.null, .null, .null, .int 0]))] sz) := by
  refine mkC (Qc := fun A => va_Qv (fun (_ : Nat × Nat × Nat) => True) (fun (u9 : Nat × Nat × Nat) t9 => bW D A [(h, .inr (2, [.ref u9.1, .ref u9.2.1, .ref u9.2.2, .int 0])), (u9.1, .inl (dA 1, 32, .inl (fun _ => 0))), (u9.2.1, .inl (dA 2, 32, .inr (.inl (fun _ => 0)))), (u9.2.2, .inl (dA 2, 32, .inr (.inl (fun _ => 0))))] t9) A) (by decide) (Nat.le_of_ble_eq_true rfl) ?_
  intro A p e s m below meth c ls hsz hB
  obtain ⟨hx, hb, hr, hml, hown, hin, hlk, hE, hK, hP, hD, hS, hA, hN, hl⟩ := hB
  have hown : s.vm.findClass "SeriesVault$Points" = some m.cls := hown
  have hin : meth.name = "<init>" := hin
  have hl : lv_has ls 1 [(0, .ref h)] := hl
  obtain ⟨H, hH⟩ : ∃ z, z = s.heap := ⟨_, rfl⟩
  have hP : va_P D vwCl [(h, .inr (2, [.null, .null, .null, .int 0]))] H := by rw [hH]; exact hP
  have hS : va_S A s.heap H [] := by rw [hH]; exact hS
  rw [← hH]
  refine lv_aload_n hx hb d_P_init_0 rfl (lv_at hl 0 rfl) ?_
  refine oI hx hb hown hE w181 w182 w183 (hl.1.trans hml.symm) d_P_init_1 (Nat.le_of_ble_eq_true rfl) (Nat.le_of_ble_eq_true rfl) ?_
  refine lv_aload_n hx hb d_P_init_4 rfl (lv_at hl 0 rfl) ?_
  refine lv_bipush (v := 32) hx hb d_P_init_5 (by decide) ?_
  refine nwA (atype := .int) (ty := .int) (n := 32) (N' := 32) (a0 := (32, .inl (fun _ => 0))) hx hb hE rfl w184 hK hP hD hS hA 1 rfl (fun _ => rfl) (by decide) (by decide) (Nat.le_of_ble_eq_true rfl) (Nat.le_of_ble_eq_true rfl) (Nat.le_of_ble_eq_true rfl) d_P_init_7 (fun q1 H hP hD hS => ?_)
  have hP : va_P D vwCl [(h, .inr (2, [.null, .null, .null, .int 0])), (q1, .inl (dA 1, 32, .inl (fun _ => 0)))] H := hP
  have hD : va_D A [(h, .inr (2, [.null, .null, .null, .int 0])), (q1, .inl (dA 1, 32, .inl (fun _ => 0)))] := hD
  refine pF hx hb hown hE hK hP hD hS 0 rfl rfl layP tyP tokP nmP 0 (by decide) w185 rfl rfl rfl (Nat.le_of_ble_eq_true rfl) d_P_init_9 (fun H locs hP hD hS => ?_)
  have hP : va_P D vwCl [(h, .inr (2, [.ref q1, .null, .null, .int 0])), (q1, .inl (dA 1, 32, .inl (fun _ => 0)))] H := hP
  have hD : va_D A [(h, .inr (2, [.ref q1, .null, .null, .int 0])), (q1, .inl (dA 1, 32, .inl (fun _ => 0)))] := hD
  refine lv_aload_n hx hb d_P_init_12 rfl (lv_at hl 0 rfl) ?_
  refine lv_bipush (v := 32) hx hb d_P_init_13 (by decide) ?_
  refine nwA (atype := .long) (ty := .long) (n := 32) (N' := 32) (a0 := (32, .inr (.inl (fun _ => 0)))) hx hb hE rfl w186 hK hP hD hS hA 2 rfl (fun _ => rfl) (by decide) (by decide) (Nat.le_of_ble_eq_true rfl) (Nat.le_of_ble_eq_true rfl) (Nat.le_of_ble_eq_true rfl) d_P_init_15 (fun q2 H hP hD hS => ?_)
  have hP : va_P D vwCl [(h, .inr (2, [.ref q1, .null, .null, .int 0])), (q1, .inl (dA 1, 32, .inl (fun _ => 0))), (q2, .inl (dA 2, 32, .inr (.inl (fun _ => 0))))] H := hP
  have hD : va_D A [(h, .inr (2, [.ref q1, .null, .null, .int 0])), (q1, .inl (dA 1, 32, .inl (fun _ => 0))), (q2, .inl (dA 2, 32, .inr (.inl (fun _ => 0))))] := hD
  refine pF hx hb hown hE hK hP hD hS 0 rfl rfl layP tyP tokP nmP 1 (by decide) w187 rfl rfl rfl (Nat.le_of_ble_eq_true rfl) d_P_init_17 (fun H locs hP hD hS => ?_)
  have hP : va_P D vwCl [(h, .inr (2, [.ref q1, .ref q2, .null, .int 0])), (q1, .inl (dA 1, 32, .inl (fun _ => 0))), (q2, .inl (dA 2, 32, .inr (.inl (fun _ => 0))))] H := hP
  have hD : va_D A [(h, .inr (2, [.ref q1, .ref q2, .null, .int 0])), (q1, .inl (dA 1, 32, .inl (fun _ => 0))), (q2, .inl (dA 2, 32, .inr (.inl (fun _ => 0))))] := hD
  refine lv_aload_n hx hb d_P_init_20 rfl (lv_at hl 0 rfl) ?_
  refine lv_bipush (v := 32) hx hb d_P_init_21 (by decide) ?_
  refine nwA (atype := .long) (ty := .long) (n := 32) (N' := 32) (a0 := (32, .inr (.inl (fun _ => 0)))) hx hb hE rfl w186 hK hP hD hS hA 2 rfl (fun _ => rfl) (by decide) (by decide) (Nat.le_of_ble_eq_true rfl) (Nat.le_of_ble_eq_true rfl) (Nat.le_of_ble_eq_true rfl) d_P_init_23 (fun q3 H hP hD hS => ?_)
  have hP : va_P D vwCl [(h, .inr (2, [.ref q1, .ref q2, .null, .int 0])), (q1, .inl (dA 1, 32, .inl (fun _ => 0))), (q2, .inl (dA 2, 32, .inr (.inl (fun _ => 0)))), (q3, .inl (dA 2, 32, .inr (.inl (fun _ => 0))))] H := hP
  have hD : va_D A [(h, .inr (2, [.ref q1, .ref q2, .null, .int 0])), (q1, .inl (dA 1, 32, .inl (fun _ => 0))), (q2, .inl (dA 2, 32, .inr (.inl (fun _ => 0)))), (q3, .inl (dA 2, 32, .inr (.inl (fun _ => 0))))] := hD
  refine pF hx hb hown hE hK hP hD hS 0 rfl rfl layP tyP tokP nmP 2 (by decide) w188 rfl rfl rfl (Nat.le_of_ble_eq_true rfl) d_P_init_25 (fun H locs hP hD hS => ?_)
  have hP : va_P D vwCl [(h, .inr (2, [.ref q1, .ref q2, .ref q3, .int 0])), (q1, .inl (dA 1, 32, .inl (fun _ => 0))), (q2, .inl (dA 2, 32, .inr (.inl (fun _ => 0)))), (q3, .inl (dA 2, 32, .inr (.inl (fun _ => 0))))] H := hP
  have hD : va_D A [(h, .inr (2, [.ref q1, .ref q2, .ref q3, .int 0])), (q1, .inl (dA 1, 32, .inl (fun _ => 0))), (q2, .inl (dA 2, 32, .inr (.inl (fun _ => 0)))), (q3, .inl (dA 2, 32, .inr (.inl (fun _ => 0))))] := hD
  exact rtV hx hb hr hlk hP hD hS (q1, q2, q3) trivial [0, 1, 2, 3] rfl rfl (by decide) (Nat.le_of_ble_eq_true rfl) (Nat.le_of_ble_eq_true rfl) d_P_init_28
theorem d_J_init_0 : decode prog_3_method_1_code 0 = .ok (.aload_n 0, 1) := by decide +kernel
theorem d_J_init_1 : decode prog_3_method_1_code 1 = .ok (.invokespecial 3, 3) := by decide +kernel
theorem d_J_init_4 : decode prog_3_method_1_code 4 = .ok (.aload_n 0, 1) := by decide +kernel
theorem d_J_init_5 : decode prog_3_method_1_code 5 = .ok (.bipush 32, 2) := by decide +kernel
theorem d_J_init_7 : decode prog_3_method_1_code 7 = .ok (.newarray .int, 2) := by decide +kernel
theorem d_J_init_9 : decode prog_3_method_1_code 9 = .ok (.putfield 9, 3) := by decide +kernel
theorem d_J_init_12 : decode prog_3_method_1_code 12 = .ok (.aload_n 0, 1) := by decide +kernel
theorem d_J_init_13 : decode prog_3_method_1_code 13 = .ok (.bipush 32, 2) := by decide +kernel
theorem d_J_init_15 : decode prog_3_method_1_code 15 = .ok (.newarray .int, 2) := by decide +kernel
theorem d_J_init_17 : decode prog_3_method_1_code 17 = .ok (.putfield 15, 3) := by decide +kernel
theorem d_J_init_20 : decode prog_3_method_1_code 20 = .ok (.aload_n 0, 1) := by decide +kernel
theorem d_J_init_21 : decode prog_3_method_1_code 21 = .ok (.bipush 32, 2) := by decide +kernel
theorem d_J_init_23 : decode prog_3_method_1_code 23 = .ok (.newarray .int, 2) := by decide +kernel
theorem d_J_init_25 : decode prog_3_method_1_code 25 = .ok (.putfield 18, 3) := by decide +kernel
theorem d_J_init_28 : decode prog_3_method_1_code 28 = .ok (.aload_n 0, 1) := by decide +kernel
theorem d_J_init_29 : decode prog_3_method_1_code 29 = .ok (.bipush 32, 2) := by decide +kernel
theorem d_J_init_31 : decode prog_3_method_1_code 31 = .ok (.newarray .int, 2) := by decide +kernel
theorem d_J_init_33 : decode prog_3_method_1_code 33 = .ok (.putfield 21, 3) := by decide +kernel
theorem d_J_init_36 : decode prog_3_method_1_code 36 = .ok (.aload_n 0, 1) := by decide +kernel
theorem d_J_init_37 : decode prog_3_method_1_code 37 = .ok (.bipush 32, 2) := by decide +kernel
theorem d_J_init_39 : decode prog_3_method_1_code 39 = .ok (.newarray .long, 2) := by decide +kernel
theorem d_J_init_41 : decode prog_3_method_1_code 41 = .ok (.putfield 24, 3) := by decide +kernel
theorem d_J_init_44 : decode prog_3_method_1_code 44 = .ok (.aload_n 0, 1) := by decide +kernel
theorem d_J_init_45 : decode prog_3_method_1_code 45 = .ok (.bipush 32, 2) := by decide +kernel
theorem d_J_init_47 : decode prog_3_method_1_code 47 = .ok (.newarray .long, 2) := by decide +kernel
theorem d_J_init_49 : decode prog_3_method_1_code 49 = .ok (.putfield 28, 3) := by decide +kernel
theorem d_J_init_52 : decode prog_3_method_1_code 52 = .ok (.return_, 1) := by decide +kernel
theorem w189 : Cond.methodLink "SeriesVault$Journal" 3 ⟨"java/lang/Object", "<init>", "()V"⟩ ∈ aW := aw_of (tb_1 (List.mem_of_getElem? (i := 51) rfl)) rfl
theorem w190 : Cond.fieldLink "SeriesVault$Journal" 9 "SeriesVault$Journal" "kinds" "[I" ∈ aW := aw_of (tb_1 (List.mem_of_getElem? (i := 52) rfl)) rfl
theorem w191 : Cond.fieldLink "SeriesVault$Journal" 15 "SeriesVault$Journal" "owners" "[I" ∈ aW := aw_of (tb_1 (List.mem_of_getElem? (i := 54) rfl)) rfl
theorem w192 : Cond.fieldLink "SeriesVault$Journal" 18 "SeriesVault$Journal" "unitsOf" "[I" ∈ aW := aw_of (tb_1 (List.mem_of_getElem? (i := 56) rfl)) rfl
theorem w193 : Cond.fieldLink "SeriesVault$Journal" 21 "SeriesVault$Journal" "blocksOf" "[I" ∈ aW := aw_of (tb_1 (List.mem_of_getElem? (i := 57) rfl)) rfl
theorem w194 : Cond.fieldLink "SeriesVault$Journal" 24 "SeriesVault$Journal" "firsts" "[J" ∈ aW := aw_of (tb_1 (List.mem_of_getElem? (i := 58) rfl)) rfl
theorem w195 : Cond.fieldLink "SeriesVault$Journal" 28 "SeriesVault$Journal" "seconds" "[J" ∈ aW := aw_of (tb_1 (List.mem_of_getElem? (i := 60) rfl)) rfl
set_option maxHeartbeats 4000000 in
set_option maxRecDepth 100000 in
theorem c_J_init (l : Launch) (D : va_G) (dA : Nat → ClassId) (sz : Nat) (h : Nat) : Met l ⟨"SeriesVault$Journal", "<init>", "()V"⟩ [Cond.code ⟨"SeriesVault$Journal", "<init>", "()V"⟩ prog_3_method_1_code 1 none] { frames := 1, cells := 6, slots := 192, locals := 12 } (pC D dA [.ref h] [(h, .inr (1, [.null, .null, .null, .null, .null, .null, .int 0, .int 0, .int 0, .int 0, .int 0, .int 0, .int 0]))] sz) (va_Qv (fun (_ : Nat × Nat × Nat × Nat × Nat × Nat) => True) (fun (u9 : Nat × Nat × Nat × Nat × Nat × Nat) t9 => bW D (va_A [(h, .inr (1, [.null, .null, .null, .null, .null, .null, .int 0, .int 0, .int 0, .int 0, .int 0, .int 0, .int 0]))] sz) [(h, .inr (1, [.ref u9.1, .ref u9.2.1, .ref u9.2.2.1, .ref u9.2.2.2.1, .ref u9.2.2.2.2.1, .ref u9.2.2.2.2.2, .int 0, .int 0, .int 0, .int 0, .int 0, .int 0, .int 0])), (u9.1, .inl (dA 1, 32, .inl (fun _ => 0))), (u9.2.1, .inl (dA 1, 32, .inl (fun _ => 0))), (u9.2.2.1, .inl (dA 1, 32, .inl (fun _ => 0))), (u9.2.2.2.1, .inl (dA 1, 32, .inl (fun _ => 0))), (u9.2.2.2.2.1, .inl (dA 2, 32, .inr (.inl (fun _ => 0)))), (u9.2.2.2.2.2, .inl (dA 2, 32, .inr (.inl (fun _ => 0))))] t9) (va_A [(h, .inr (1, [.null, .null, .null, .null, .null, .null, .int 0, .int 0, .int 0, .int 0, .int 0, .int 0, .int 0]))] sz)) 6 192 (va_A [(h, .inr (1, [.null, .null, .null, .null, .null, .null, .int 0, .int 0, .int 0, .int 0, .int 0, .int 0, .int 0]))] sz) := by
  refine mkC (Qc := fun A => va_Qv (fun (_ : Nat × Nat × Nat × Nat × Nat × Nat) => True) (fun (u9 : Nat × Nat × Nat × Nat × Nat × Nat) t9 => bW D A [(h, .inr (1, [.ref u9.1, .ref u9.2.1, .ref u9.2.2.1, .ref u9.2.2.2.1, .ref u9.2.2.2.2.1, .ref u9.2.2.2.2.2, .int 0, .int 0, .int 0, .int 0, .int 0, .int 0, .int 0])), (u9.1, .inl (dA 1, 32, .inl (fun _ => 0))), (u9.2.1, .inl (dA 1, 32, .inl (fun _ => 0))), (u9.2.2.1, .inl (dA 1, 32, .inl (fun _ => 0))), (u9.2.2.2.1, .inl (dA 1, 32, .inl (fun _ => 0))), (u9.2.2.2.2.1, .inl (dA 2, 32, .inr (.inl (fun _ => 0)))), (u9.2.2.2.2.2, .inl (dA 2, 32, .inr (.inl (fun _ => 0))))] t9) A) (by decide) (Nat.le_of_ble_eq_true rfl) ?_
  intro A p e s m below meth c ls hsz hB
  obtain ⟨hx, hb, hr, hml, hown, hin, hlk, hE, hK, hP, hD, hS, hA, hN, hl⟩ := hB
  have hown : s.vm.findClass "SeriesVault$Journal" = some m.cls := hown
  have hin : meth.name = "<init>" := hin
  have hl : lv_has ls 1 [(0, .ref h)] := hl
  obtain ⟨H, hH⟩ : ∃ z, z = s.heap := ⟨_, rfl⟩
  have hP : va_P D vwCl [(h, .inr (1, [.null, .null, .null, .null, .null, .null, .int 0, .int 0, .int 0, .int 0, .int 0, .int 0, .int 0]))] H := by rw [hH]; exact hP
  have hS : va_S A s.heap H [] := by rw [hH]; exact hS
  rw [← hH]
  refine lv_aload_n hx hb d_J_init_0 rfl (lv_at hl 0 rfl) ?_
  refine oI hx hb hown hE w189 w182 w183 (hl.1.trans hml.symm) d_J_init_1 (Nat.le_of_ble_eq_true rfl) (Nat.le_of_ble_eq_true rfl) ?_
  refine lv_aload_n hx hb d_J_init_4 rfl (lv_at hl 0 rfl) ?_
  refine lv_bipush (v := 32) hx hb d_J_init_5 (by decide) ?_
  refine nwA (atype := .int) (ty := .int) (n := 32) (N' := 32) (a0 := (32, .inl (fun _ => 0))) hx hb hE rfl w184 hK hP hD hS hA 1 rfl (fun _ => rfl) (by decide) (by decide) (Nat.le_of_ble_eq_true rfl) (Nat.le_of_ble_eq_true rfl) (Nat.le_of_ble_eq_true rfl) d_J_init_7 (fun q1 H hP hD hS => ?_)
  have hP : va_P D vwCl [(h, .inr (1, [.null, .null, .null, .null, .null, .null, .int 0, .int 0, .int 0, .int 0, .int 0, .int 0, .int 0])), (q1, .inl (dA 1, 32, .inl (fun _ => 0)))] H := hP
  have hD : va_D A [(h, .inr (1, [.null, .null, .null, .null, .null, .null, .int 0, .int 0, .int 0, .int 0, .int 0, .int 0, .int 0])), (q1, .inl (dA 1, 32, .inl (fun _ => 0)))] := hD
  refine pF hx hb hown hE hK hP hD hS 0 rfl rfl layJ tyJ tokJ nmJ 0 (by decide) w190 rfl rfl rfl (Nat.le_of_ble_eq_true rfl) d_J_init_9 (fun H locs hP hD hS => ?_)
  have hP : va_P D vwCl [(h, .inr (1, [.ref q1, .null, .null, .null, .null, .null, .int 0, .int 0, .int 0, .int 0, .int 0, .int 0, .int 0])), (q1, .inl (dA 1, 32, .inl (fun _ => 0)))] H := hP
  have hD : va_D A [(h, .inr (1, [.ref q1, .null, .null, .null, .null, .null, .int 0, .int 0, .int 0, .int 0, .int 0, .int 0, .int 0])), (q1, .inl (dA 1, 32, .inl (fun _ => 0)))] := hD
  refine lv_aload_n hx hb d_J_init_12 rfl (lv_at hl 0 rfl) ?_
  refine lv_bipush (v := 32) hx hb d_J_init_13 (by decide) ?_
  refine nwA (atype := .int) (ty := .int) (n := 32) (N' := 32) (a0 := (32, .inl (fun _ => 0))) hx hb hE rfl w184 hK hP hD hS hA 1 rfl (fun _ => rfl) (by decide) (by decide) (Nat.le_of_ble_eq_true rfl) (Nat.le_of_ble_eq_true rfl) (Nat.le_of_ble_eq_true rfl) d_J_init_15 (fun q2 H hP hD hS => ?_)
  have hP : va_P D vwCl [(h, .inr (1, [.ref q1, .null, .null, .null, .null, .null, .int 0, .int 0, .int 0, .int 0, .int 0, .int 0, .int 0])), (q1, .inl (dA 1, 32, .inl (fun _ => 0))), (q2, .inl (dA 1, 32, .inl (fun _ => 0)))] H := hP
  have hD : va_D A [(h, .inr (1, [.ref q1, .null, .null, .null, .null, .null, .int 0, .int 0, .int 0, .int 0, .int 0, .int 0, .int 0])), (q1, .inl (dA 1, 32, .inl (fun _ => 0))), (q2, .inl (dA 1, 32, .inl (fun _ => 0)))] := hD
  refine pF hx hb hown hE hK hP hD hS 0 rfl rfl layJ tyJ tokJ nmJ 1 (by decide) w191 rfl rfl rfl (Nat.le_of_ble_eq_true rfl) d_J_init_17 (fun H locs hP hD hS => ?_)
  have hP : va_P D vwCl [(h, .inr (1, [.ref q1, .ref q2, .null, .null, .null, .null, .int 0, .int 0, .int 0, .int 0, .int 0, .int 0, .int 0])), (q1, .inl (dA 1, 32, .inl (fun _ => 0))), (q2, .inl (dA 1, 32, .inl (fun _ => 0)))] H := hP
  have hD : va_D A [(h, .inr (1, [.ref q1, .ref q2, .null, .null, .null, .null, .int 0, .int 0, .int 0, .int 0, .int 0, .int 0, .int 0])), (q1, .inl (dA 1, 32, .inl (fun _ => 0))), (q2, .inl (dA 1, 32, .inl (fun _ => 0)))] := hD
  refine lv_aload_n hx hb d_J_init_20 rfl (lv_at hl 0 rfl) ?_
  refine lv_bipush (v := 32) hx hb d_J_init_21 (by decide) ?_
  refine nwA (atype := .int) (ty := .int) (n := 32) (N' := 32) (a0 := (32, .inl (fun _ => 0))) hx hb hE rfl w184 hK hP hD hS hA 1 rfl (fun _ => rfl) (by decide) (by decide) (Nat.le_of_ble_eq_true rfl) (Nat.le_of_ble_eq_true rfl) (Nat.le_of_ble_eq_true rfl) d_J_init_23 (fun q3 H hP hD hS => ?_)
  have hP : va_P D vwCl [(h, .inr (1, [.ref q1, .ref q2, .null, .null, .null, .null, .int 0, .int 0, .int 0, .int 0, .int 0, .int 0, .int 0])), (q1, .inl (dA 1, 32, .inl (fun _ => 0))), (q2, .inl (dA 1, 32, .inl (fun _ => 0))), (q3, .inl (dA 1, 32, .inl (fun _ => 0)))] H := hP
  have hD : va_D A [(h, .inr (1, [.ref q1, .ref q2, .null, .null, .null, .null, .int 0, .int 0, .int 0, .int 0, .int 0, .int 0, .int 0])), (q1, .inl (dA 1, 32, .inl (fun _ => 0))), (q2, .inl (dA 1, 32, .inl (fun _ => 0))), (q3, .inl (dA 1, 32, .inl (fun _ => 0)))] := hD
  refine pF hx hb hown hE hK hP hD hS 0 rfl rfl layJ tyJ tokJ nmJ 2 (by decide) w192 rfl rfl rfl (Nat.le_of_ble_eq_true rfl) d_J_init_25 (fun H locs hP hD hS => ?_)
  have hP : va_P D vwCl [(h, .inr (1, [.ref q1, .ref q2, .ref q3, .null, .null, .null, .int 0, .int 0, .int 0, .int 0, .int 0, .int 0, .int 0])), (q1, .inl (dA 1, 32, .inl (fun _ => 0))), (q2, .inl (dA 1, 32, .inl (fun _ => 0))), (q3, .inl (dA 1, 32, .inl (fun _ => 0)))] H := hP
  have hD : va_D A [(h, .inr (1, [.ref q1, .ref q2, .ref q3, .null, .null, .null, .int 0, .int 0, .int 0, .int 0, .int 0, .int 0, .int 0])), (q1, .inl (dA 1, 32, .inl (fun _ => 0))), (q2, .inl (dA 1, 32, .inl (fun _ => 0))), (q3, .inl (dA 1, 32, .inl (fun _ => 0)))] := hD
  refine lv_aload_n hx hb d_J_init_28 rfl (lv_at hl 0 rfl) ?_
  refine lv_bipush (v := 32) hx hb d_J_init_29 (by decide) ?_
  refine nwA (atype := .int) (ty := .int) (n := 32) (N' := 32) (a0 := (32, .inl (fun _ => 0))) hx hb hE rfl w184 hK hP hD hS hA 1 rfl (fun _ => rfl) (by decide) (by decide) (Nat.le_of_ble_eq_true rfl) (Nat.le_of_ble_eq_true rfl) (Nat.le_of_ble_eq_true rfl) d_J_init_31 (fun q4 H hP hD hS => ?_)
  have hP : va_P D vwCl [(h, .inr (1, [.ref q1, .ref q2, .ref q3, .null, .null, .null, .int 0, .int 0, .int 0, .int 0, .int 0, .int 0, .int 0])), (q1, .inl (dA 1, 32, .inl (fun _ => 0))), (q2, .inl (dA 1, 32, .inl (fun _ => 0))), (q3, .inl (dA 1, 32, .inl (fun _ => 0))), (q4, .inl (dA 1, 32, .inl (fun _ => 0)))] H := hP
  have hD : va_D A [(h, .inr (1, [.ref q1, .ref q2, .ref q3, .null, .null, .null, .int 0, .int 0, .int 0, .int 0, .int 0, .int 0, .int 0])), (q1, .inl (dA 1, 32, .inl (fun _ => 0))), (q2, .inl (dA 1, 32, .inl (fun _ => 0))), (q3, .inl (dA 1, 32, .inl (fun _ => 0))), (q4, .inl (dA 1, 32, .inl (fun _ => 0)))] := hD
  refine pF hx hb hown hE hK hP hD hS 0 rfl rfl layJ tyJ tokJ nmJ 3 (by decide) w193 rfl rfl rfl (Nat.le_of_ble_eq_true rfl) d_J_init_33 (fun H locs hP hD hS => ?_)
  have hP : va_P D vwCl [(h, .inr (1, [.ref q1, .ref q2, .ref q3, .ref q4, .null, .null, .int 0, .int 0, .int 0, .int 0, .int 0, .int 0, .int 0])), (q1, .inl (dA 1, 32, .inl (fun _ => 0))), (q2, .inl (dA 1, 32, .inl (fun _ => 0))), (q3, .inl (dA 1, 32, .inl (fun _ => 0))), (q4, .inl (dA 1, 32, .inl (fun _ => 0)))] H := hP
  have hD : va_D A [(h, .inr (1, [.ref q1, .ref q2, .ref q3, .ref q4, .null, .null, .int 0, .int 0, .int 0, .int 0, .int 0, .int 0, .int 0])), (q1, .inl (dA 1, 32, .inl (fun _ => 0))), (q2, .inl (dA 1, 32, .inl (fun _ => 0))), (q3, .inl (dA 1, 32, .inl (fun _ => 0))), (q4, .inl (dA 1, 32, .inl (fun _ => 0)))] := hD
  refine lv_aload_n hx hb d_J_init_36 rfl (lv_at hl 0 rfl) ?_
  refine lv_bipush (v := 32) hx hb d_J_init_37 (by decide) ?_
  refine nwA (atype := .long) (ty := .long) (n := 32) (N' := 32) (a0 := (32, .inr (.inl (fun _ => 0)))) hx hb hE rfl w186 hK hP hD hS hA 2 rfl (fun _ => rfl) (by decide) (by decide) (Nat.le_of_ble_eq_true rfl) (Nat.le_of_ble_eq_true rfl) (Nat.le_of_ble_eq_true rfl) d_J_init_39 (fun q5 H hP hD hS => ?_)
  have hP : va_P D vwCl [(h, .inr (1, [.ref q1, .ref q2, .ref q3, .ref q4, .null, .null, .int 0, .int 0, .int 0, .int 0, .int 0, .int 0, .int 0])), (q1, .inl (dA 1, 32, .inl (fun _ => 0))), (q2, .inl (dA 1, 32, .inl (fun _ => 0))), (q3, .inl (dA 1, 32, .inl (fun _ => 0))), (q4, .inl (dA 1, 32, .inl (fun _ => 0))), (q5, .inl (dA 2, 32, .inr (.inl (fun _ => 0))))] H := hP
  have hD : va_D A [(h, .inr (1, [.ref q1, .ref q2, .ref q3, .ref q4, .null, .null, .int 0, .int 0, .int 0, .int 0, .int 0, .int 0, .int 0])), (q1, .inl (dA 1, 32, .inl (fun _ => 0))), (q2, .inl (dA 1, 32, .inl (fun _ => 0))), (q3, .inl (dA 1, 32, .inl (fun _ => 0))), (q4, .inl (dA 1, 32, .inl (fun _ => 0))), (q5, .inl (dA 2, 32, .inr (.inl (fun _ => 0))))] := hD
  refine pF hx hb hown hE hK hP hD hS 0 rfl rfl layJ tyJ tokJ nmJ 4 (by decide) w194 rfl rfl rfl (Nat.le_of_ble_eq_true rfl) d_J_init_41 (fun H locs hP hD hS => ?_)
  have hP : va_P D vwCl [(h, .inr (1, [.ref q1, .ref q2, .ref q3, .ref q4, .ref q5, .null, .int 0, .int 0, .int 0, .int 0, .int 0, .int 0, .int 0])), (q1, .inl (dA 1, 32, .inl (fun _ => 0))), (q2, .inl (dA 1, 32, .inl (fun _ => 0))), (q3, .inl (dA 1, 32, .inl (fun _ => 0))), (q4, .inl (dA 1, 32, .inl (fun _ => 0))), (q5, .inl (dA 2, 32, .inr (.inl (fun _ => 0))))] H := hP
  have hD : va_D A [(h, .inr (1, [.ref q1, .ref q2, .ref q3, .ref q4, .ref q5, .null, .int 0, .int 0, .int 0, .int 0, .int 0, .int 0, .int 0])), (q1, .inl (dA 1, 32, .inl (fun _ => 0))), (q2, .inl (dA 1, 32, .inl (fun _ => 0))), (q3, .inl (dA 1, 32, .inl (fun _ => 0))), (q4, .inl (dA 1, 32, .inl (fun _ => 0))), (q5, .inl (dA 2, 32, .inr (.inl (fun _ => 0))))] := hD
  refine lv_aload_n hx hb d_J_init_44 rfl (lv_at hl 0 rfl) ?_
  refine lv_bipush (v := 32) hx hb d_J_init_45 (by decide) ?_
  refine nwA (atype := .long) (ty := .long) (n := 32) (N' := 32) (a0 := (32, .inr (.inl (fun _ => 0)))) hx hb hE rfl w186 hK hP hD hS hA 2 rfl (fun _ => rfl) (by decide) (by decide) (Nat.le_of_ble_eq_true rfl) (Nat.le_of_ble_eq_true rfl) (Nat.le_of_ble_eq_true rfl) d_J_init_47 (fun q6 H hP hD hS => ?_)
  have hP : va_P D vwCl [(h, .inr (1, [.ref q1, .ref q2, .ref q3, .ref q4, .ref q5, .null, .int 0, .int 0, .int 0, .int 0, .int 0, .int 0, .int 0])), (q1, .inl (dA 1, 32, .inl (fun _ => 0))), (q2, .inl (dA 1, 32, .inl (fun _ => 0))), (q3, .inl (dA 1, 32, .inl (fun _ => 0))), (q4, .inl (dA 1, 32, .inl (fun _ => 0))), (q5, .inl (dA 2, 32, .inr (.inl (fun _ => 0)))), (q6, .inl (dA 2, 32, .inr (.inl (fun _ => 0))))] H := hP
  have hD : va_D A [(h, .inr (1, [.ref q1, .ref q2, .ref q3, .ref q4, .ref q5, .null, .int 0, .int 0, .int 0, .int 0, .int 0, .int 0, .int 0])), (q1, .inl (dA 1, 32, .inl (fun _ => 0))), (q2, .inl (dA 1, 32, .inl (fun _ => 0))), (q3, .inl (dA 1, 32, .inl (fun _ => 0))), (q4, .inl (dA 1, 32, .inl (fun _ => 0))), (q5, .inl (dA 2, 32, .inr (.inl (fun _ => 0)))), (q6, .inl (dA 2, 32, .inr (.inl (fun _ => 0))))] := hD
  refine pF hx hb hown hE hK hP hD hS 0 rfl rfl layJ tyJ tokJ nmJ 5 (by decide) w195 rfl rfl rfl (Nat.le_of_ble_eq_true rfl) d_J_init_49 (fun H locs hP hD hS => ?_)
  have hP : va_P D vwCl [(h, .inr (1, [.ref q1, .ref q2, .ref q3, .ref q4, .ref q5, .ref q6, .int 0, .int 0, .int 0, .int 0, .int 0, .int 0, .int 0])), (q1, .inl (dA 1, 32, .inl (fun _ => 0))), (q2, .inl (dA 1, 32, .inl (fun _ => 0))), (q3, .inl (dA 1, 32, .inl (fun _ => 0))), (q4, .inl (dA 1, 32, .inl (fun _ => 0))), (q5, .inl (dA 2, 32, .inr (.inl (fun _ => 0)))), (q6, .inl (dA 2, 32, .inr (.inl (fun _ => 0))))] H := hP
  have hD : va_D A [(h, .inr (1, [.ref q1, .ref q2, .ref q3, .ref q4, .ref q5, .ref q6, .int 0, .int 0, .int 0, .int 0, .int 0, .int 0, .int 0])), (q1, .inl (dA 1, 32, .inl (fun _ => 0))), (q2, .inl (dA 1, 32, .inl (fun _ => 0))), (q3, .inl (dA 1, 32, .inl (fun _ => 0))), (q4, .inl (dA 1, 32, .inl (fun _ => 0))), (q5, .inl (dA 2, 32, .inr (.inl (fun _ => 0)))), (q6, .inl (dA 2, 32, .inr (.inl (fun _ => 0))))] := hD
  exact rtV hx hb hr hlk hP hD hS (q1, q2, q3, q4, q5, q6) trivial [0, 1, 2, 3, 4, 5, 6] rfl rfl (by decide) (Nat.le_of_ble_eq_true rfl) (Nat.le_of_ble_eq_true rfl) d_J_init_52
theorem d_H_init_0 : decode prog_9_method_1_code 0 = .ok (.aload_n 0, 1) := by decide +kernel
theorem d_H_init_1 : decode prog_9_method_1_code 1 = .ok (.invokespecial 3, 3) := by decide +kernel
theorem d_H_init_4 : decode prog_9_method_1_code 4 = .ok (.aload_n 0, 1) := by decide +kernel
theorem d_H_init_5 : decode prog_9_method_1_code 5 = .ok (.bipush 32, 2) := by decide +kernel
theorem d_H_init_7 : decode prog_9_method_1_code 7 = .ok (.anewarray 9, 3) := by decide +kernel
theorem d_H_init_10 : decode prog_9_method_1_code 10 = .ok (.putfield 11, 3) := by decide +kernel
theorem d_H_init_13 : decode prog_9_method_1_code 13 = .ok (.aload_n 0, 1) := by decide +kernel
theorem d_H_init_14 : decode prog_9_method_1_code 14 = .ok (.bipush 64, 2) := by decide +kernel
theorem d_H_init_16 : decode prog_9_method_1_code 16 = .ok (.newarray .int, 2) := by decide +kernel
theorem d_H_init_18 : decode prog_9_method_1_code 18 = .ok (.putfield 17, 3) := by decide +kernel
theorem d_H_init_21 : decode prog_9_method_1_code 21 = .ok (.aload_n 0, 1) := by decide +kernel
theorem d_H_init_22 : decode prog_9_method_1_code 22 = .ok (.bipush 64, 2) := by decide +kernel
theorem d_H_init_24 : decode prog_9_method_1_code 24 = .ok (.newarray .long, 2) := by decide +kernel
theorem d_H_init_26 : decode prog_9_method_1_code 26 = .ok (.putfield 21, 3) := by decide +kernel
theorem d_H_init_29 : decode prog_9_method_1_code 29 = .ok (.aload_n 0, 1) := by decide +kernel
theorem d_H_init_30 : decode prog_9_method_1_code 30 = .ok (.bipush 64, 2) := by decide +kernel
theorem d_H_init_32 : decode prog_9_method_1_code 32 = .ok (.newarray .long, 2) := by decide +kernel
theorem d_H_init_34 : decode prog_9_method_1_code 34 = .ok (.putfield 25, 3) := by decide +kernel
theorem d_H_init_37 : decode prog_9_method_1_code 37 = .ok (.aload_n 0, 1) := by decide +kernel
theorem d_H_init_38 : decode prog_9_method_1_code 38 = .ok (.bipush 64, 2) := by decide +kernel
theorem d_H_init_40 : decode prog_9_method_1_code 40 = .ok (.newarray .int, 2) := by decide +kernel
theorem d_H_init_42 : decode prog_9_method_1_code 42 = .ok (.putfield 28, 3) := by decide +kernel
theorem d_H_init_45 : decode prog_9_method_1_code 45 = .ok (.aload_n 0, 1) := by decide +kernel
theorem d_H_init_46 : decode prog_9_method_1_code 46 = .ok (.sipush 256, 3) := by decide +kernel
theorem d_H_init_49 : decode prog_9_method_1_code 49 = .ok (.newarray .long, 2) := by decide +kernel
theorem d_H_init_51 : decode prog_9_method_1_code 51 = .ok (.putfield 31, 3) := by decide +kernel
theorem d_H_init_54 : decode prog_9_method_1_code 54 = .ok (.return_, 1) := by decide +kernel
theorem w196 : Cond.methodLink "SeriesVault$Shelf" 3 ⟨"java/lang/Object", "<init>", "()V"⟩ ∈ aW := aw_of (tb_1 (List.mem_of_getElem? (i := 137) rfl)) rfl
theorem w197 : Cond.classLink "SeriesVault$Shelf" 9 "SeriesVault$Parcel" ∈ aW := aw_of (tb_1 (List.mem_of_getElem? (i := 138) rfl)) rfl
theorem w198 : Cond.arrayOver (FieldType.object "SeriesVault$Parcel") ∈ aW := aw_of (tb_1 (List.mem_of_getElem? (i := 139) rfl)) rfl
theorem w199 : Cond.fieldLink "SeriesVault$Shelf" 11 "SeriesVault$Shelf" "parcels" "[LSeriesVault$Parcel;" ∈ aW := aw_of (tb_1 (List.mem_of_getElem? (i := 140) rfl)) rfl
theorem w200 : Cond.fieldLink "SeriesVault$Shelf" 17 "SeriesVault$Shelf" "scarOwners" "[I" ∈ aW := aw_of (tb_1 (List.mem_of_getElem? (i := 146) rfl)) rfl
theorem w201 : Cond.fieldLink "SeriesVault$Shelf" 21 "SeriesVault$Shelf" "scarFroms" "[J" ∈ aW := aw_of (tb_1 (List.mem_of_getElem? (i := 147) rfl)) rfl
theorem w202 : Cond.fieldLink "SeriesVault$Shelf" 25 "SeriesVault$Shelf" "scarTos" "[J" ∈ aW := aw_of (tb_1 (List.mem_of_getElem? (i := 148) rfl)) rfl
theorem w203 : Cond.fieldLink "SeriesVault$Shelf" 28 "SeriesVault$Shelf" "scarPoints" "[I" ∈ aW := aw_of (tb_1 (List.mem_of_getElem? (i := 149) rfl)) rfl
theorem w204 : Cond.fieldLink "SeriesVault$Shelf" 31 "SeriesVault$Shelf" "lasts" "[J" ∈ aW := aw_of (tb_1 (List.mem_of_getElem? (i := 157) rfl)) rfl
set_option maxHeartbeats 4000000 in
set_option maxRecDepth 100000 in
theorem c_H_init (l : Launch) (D : va_G) (dA : Nat → ClassId) (sz : Nat) (h : Nat) : Met l ⟨"SeriesVault$Shelf", "<init>", "()V"⟩ [Cond.code ⟨"SeriesVault$Shelf", "<init>", "()V"⟩ prog_9_method_1_code 1 none] { frames := 1, cells := 6, slots := 544, locals := 12 } (pC D dA [.ref h] [(h, .inr (3, [.null, .int 0, .null, .null, .null, .null, .int 0, .long 0, .int 0, .null, .int 0]))] sz) (va_Qv (fun (_ : Nat × Nat × Nat × Nat × Nat × Nat) => True) (fun (u9 : Nat × Nat × Nat × Nat × Nat × Nat) t9 => bW D (va_A [(h, .inr (3, [.null, .int 0, .null, .null, .null, .null, .int 0, .long 0, .int 0, .null, .int 0]))] sz) [(h, .inr (3, [.ref u9.1, .int 0, .ref u9.2.1, .ref u9.2.2.1, .ref u9.2.2.2.1, .ref u9.2.2.2.2.1, .int 0, .long 0, .int 0, .ref u9.2.2.2.2.2, .int 0])), (u9.1, .inl (dA 4, 32, .inr (.inr (.inr (.inr (fun _ => none)))))), (u9.2.1, .inl (dA 1, 64, .inl (fun _ => 0))), (u9.2.2.1, .inl (dA 2, 64, .inr (.inl (fun _ => 0)))), (u9.2.2.2.1, .inl (dA 2, 64, .inr (.inl (fun _ => 0)))), (u9.2.2.2.2.1, .inl (dA 1, 64, .inl (fun _ => 0))), (u9.2.2.2.2.2, .inl (dA 2, 256, .inr (.inl (fun _ => 0))))] t9) (va_A [(h, .inr (3, [.null, .int 0, .null, .null, .null, .null, .int 0, .long 0, .int 0, .null, .int 0]))] sz)) 6 544 (va_A [(h, .inr (3, [.null, .int 0, .null, .null, .null, .null, .int 0, .long 0, .int 0, .null, .int 0]))] sz) := by
  refine mkC (Qc := fun A => va_Qv (fun (_ : Nat × Nat × Nat × Nat × Nat × Nat) => True) (fun (u9 : Nat × Nat × Nat × Nat × Nat × Nat) t9 => bW D A [(h, .inr (3, [.ref u9.1, .int 0, .ref u9.2.1, .ref u9.2.2.1, .ref u9.2.2.2.1, .ref u9.2.2.2.2.1, .int 0, .long 0, .int 0, .ref u9.2.2.2.2.2, .int 0])), (u9.1, .inl (dA 4, 32, .inr (.inr (.inr (.inr (fun _ => none)))))), (u9.2.1, .inl (dA 1, 64, .inl (fun _ => 0))), (u9.2.2.1, .inl (dA 2, 64, .inr (.inl (fun _ => 0)))), (u9.2.2.2.1, .inl (dA 2, 64, .inr (.inl (fun _ => 0)))), (u9.2.2.2.2.1, .inl (dA 1, 64, .inl (fun _ => 0))), (u9.2.2.2.2.2, .inl (dA 2, 256, .inr (.inl (fun _ => 0))))] t9) A) (by decide) (Nat.le_of_ble_eq_true rfl) ?_
  intro A p e s m below meth c ls hsz hB
  obtain ⟨hx, hb, hr, hml, hown, hin, hlk, hE, hK, hP, hD, hS, hA, hN, hl⟩ := hB
  have hown : s.vm.findClass "SeriesVault$Shelf" = some m.cls := hown
  have hin : meth.name = "<init>" := hin
  have hl : lv_has ls 1 [(0, .ref h)] := hl
  obtain ⟨H, hH⟩ : ∃ z, z = s.heap := ⟨_, rfl⟩
  have hP : va_P D vwCl [(h, .inr (3, [.null, .int 0, .null, .null, .null, .null, .int 0, .long 0, .int 0, .null, .int 0]))] H := by rw [hH]; exact hP
  have hS : va_S A s.heap H [] := by rw [hH]; exact hS
  rw [← hH]
  refine lv_aload_n hx hb d_H_init_0 rfl (lv_at hl 0 rfl) ?_
  refine oI hx hb hown hE w196 w182 w183 (hl.1.trans hml.symm) d_H_init_1 (Nat.le_of_ble_eq_true rfl) (Nat.le_of_ble_eq_true rfl) ?_
  refine lv_aload_n hx hb d_H_init_4 rfl (lv_at hl 0 rfl) ?_
  refine lv_bipush (v := 32) hx hb d_H_init_5 (by decide) ?_
  refine nwQ hx hb hown hE w197 w198 hK hP hD hS hA 4 rfl (n := 32) (N' := 32) (by decide) (by decide) (Nat.le_of_ble_eq_true rfl) (Nat.le_of_ble_eq_true rfl) (Nat.le_of_ble_eq_true rfl) d_H_init_7 (fun q1 H hP hD hS => ?_)
  have hP : va_P D vwCl [(h, .inr (3, [.null, .int 0, .null, .null, .null, .null, .int 0, .long 0, .int 0, .null, .int 0])), (q1, .inl (dA 4, 32, .inr (.inr (.inr (.inr (fun _ => none))))))] H := hP
  have hD : va_D A [(h, .inr (3, [.null, .int 0, .null, .null, .null, .null, .int 0, .long 0, .int 0, .null, .int 0])), (q1, .inl (dA 4, 32, .inr (.inr (.inr (.inr (fun _ => none))))))] := hD
  refine pFF hx hb hown hE hK hP hD hS 0 rfl rfl layH tyH tokH nmH 0 (by decide) w199 rfl hin rfl rfl rfl (Nat.le_of_ble_eq_true rfl) d_H_init_10 (fun H locs hP hD hS => ?_)
  have hP : va_P D vwCl [(h, .inr (3, [.ref q1, .int 0, .null, .null, .null, .null, .int 0, .long 0, .int 0, .null, .int 0])), (q1, .inl (dA 4, 32, .inr (.inr (.inr (.inr (fun _ => none))))))] H := hP
  have hD : va_D A [(h, .inr (3, [.ref q1, .int 0, .null, .null, .null, .null, .int 0, .long 0, .int 0, .null, .int 0])), (q1, .inl (dA 4, 32, .inr (.inr (.inr (.inr (fun _ => none))))))] := hD
  refine lv_aload_n hx hb d_H_init_13 rfl (lv_at hl 0 rfl) ?_
  refine lv_bipush (v := 64) hx hb d_H_init_14 (by decide) ?_
  refine nwA (atype := .int) (ty := .int) (n := 64) (N' := 64) (a0 := (64, .inl (fun _ => 0))) hx hb hE rfl w184 hK hP hD hS hA 1 rfl (fun _ => rfl) (by decide) (by decide) (Nat.le_of_ble_eq_true rfl) (Nat.le_of_ble_eq_true rfl) (Nat.le_of_ble_eq_true rfl) d_H_init_16 (fun q2 H hP hD hS => ?_)
  have hP : va_P D vwCl [(h, .inr (3, [.ref q1, .int 0, .null, .null, .null, .null, .int 0, .long 0, .int 0, .null, .int 0])), (q1, .inl (dA 4, 32, .inr (.inr (.inr (.inr (fun _ => none)))))), (q2, .inl (dA 1, 64, .inl (fun _ => 0)))] H := hP
  have hD : va_D A [(h, .inr (3, [.ref q1, .int 0, .null, .null, .null, .null, .int 0, .long 0, .int 0, .null, .int 0])), (q1, .inl (dA 4, 32, .inr (.inr (.inr (.inr (fun _ => none)))))), (q2, .inl (dA 1, 64, .inl (fun _ => 0)))] := hD
  refine pFF hx hb hown hE hK hP hD hS 0 rfl rfl layH tyH tokH nmH 2 (by decide) w200 rfl hin rfl rfl rfl (Nat.le_of_ble_eq_true rfl) d_H_init_18 (fun H locs hP hD hS => ?_)
  have hP : va_P D vwCl [(h, .inr (3, [.ref q1, .int 0, .ref q2, .null, .null, .null, .int 0, .long 0, .int 0, .null, .int 0])), (q1, .inl (dA 4, 32, .inr (.inr (.inr (.inr (fun _ => none)))))), (q2, .inl (dA 1, 64, .inl (fun _ => 0)))] H := hP
  have hD : va_D A [(h, .inr (3, [.ref q1, .int 0, .ref q2, .null, .null, .null, .int 0, .long 0, .int 0, .null, .int 0])), (q1, .inl (dA 4, 32, .inr (.inr (.inr (.inr (fun _ => none)))))), (q2, .inl (dA 1, 64, .inl (fun _ => 0)))] := hD
  refine lv_aload_n hx hb d_H_init_21 rfl (lv_at hl 0 rfl) ?_
  refine lv_bipush (v := 64) hx hb d_H_init_22 (by decide) ?_
  refine nwA (atype := .long) (ty := .long) (n := 64) (N' := 64) (a0 := (64, .inr (.inl (fun _ => 0)))) hx hb hE rfl w186 hK hP hD hS hA 2 rfl (fun _ => rfl) (by decide) (by decide) (Nat.le_of_ble_eq_true rfl) (Nat.le_of_ble_eq_true rfl) (Nat.le_of_ble_eq_true rfl) d_H_init_24 (fun q3 H hP hD hS => ?_)
  have hP : va_P D vwCl [(h, .inr (3, [.ref q1, .int 0, .ref q2, .null, .null, .null, .int 0, .long 0, .int 0, .null, .int 0])), (q1, .inl (dA 4, 32, .inr (.inr (.inr (.inr (fun _ => none)))))), (q2, .inl (dA 1, 64, .inl (fun _ => 0))), (q3, .inl (dA 2, 64, .inr (.inl (fun _ => 0))))] H := hP
  have hD : va_D A [(h, .inr (3, [.ref q1, .int 0, .ref q2, .null, .null, .null, .int 0, .long 0, .int 0, .null, .int 0])), (q1, .inl (dA 4, 32, .inr (.inr (.inr (.inr (fun _ => none)))))), (q2, .inl (dA 1, 64, .inl (fun _ => 0))), (q3, .inl (dA 2, 64, .inr (.inl (fun _ => 0))))] := hD
  refine pFF hx hb hown hE hK hP hD hS 0 rfl rfl layH tyH tokH nmH 3 (by decide) w201 rfl hin rfl rfl rfl (Nat.le_of_ble_eq_true rfl) d_H_init_26 (fun H locs hP hD hS => ?_)
  have hP : va_P D vwCl [(h, .inr (3, [.ref q1, .int 0, .ref q2, .ref q3, .null, .null, .int 0, .long 0, .int 0, .null, .int 0])), (q1, .inl (dA 4, 32, .inr (.inr (.inr (.inr (fun _ => none)))))), (q2, .inl (dA 1, 64, .inl (fun _ => 0))), (q3, .inl (dA 2, 64, .inr (.inl (fun _ => 0))))] H := hP
  have hD : va_D A [(h, .inr (3, [.ref q1, .int 0, .ref q2, .ref q3, .null, .null, .int 0, .long 0, .int 0, .null, .int 0])), (q1, .inl (dA 4, 32, .inr (.inr (.inr (.inr (fun _ => none)))))), (q2, .inl (dA 1, 64, .inl (fun _ => 0))), (q3, .inl (dA 2, 64, .inr (.inl (fun _ => 0))))] := hD
  refine lv_aload_n hx hb d_H_init_29 rfl (lv_at hl 0 rfl) ?_
  refine lv_bipush (v := 64) hx hb d_H_init_30 (by decide) ?_
  refine nwA (atype := .long) (ty := .long) (n := 64) (N' := 64) (a0 := (64, .inr (.inl (fun _ => 0)))) hx hb hE rfl w186 hK hP hD hS hA 2 rfl (fun _ => rfl) (by decide) (by decide) (Nat.le_of_ble_eq_true rfl) (Nat.le_of_ble_eq_true rfl) (Nat.le_of_ble_eq_true rfl) d_H_init_32 (fun q4 H hP hD hS => ?_)
  have hP : va_P D vwCl [(h, .inr (3, [.ref q1, .int 0, .ref q2, .ref q3, .null, .null, .int 0, .long 0, .int 0, .null, .int 0])), (q1, .inl (dA 4, 32, .inr (.inr (.inr (.inr (fun _ => none)))))), (q2, .inl (dA 1, 64, .inl (fun _ => 0))), (q3, .inl (dA 2, 64, .inr (.inl (fun _ => 0)))), (q4, .inl (dA 2, 64, .inr (.inl (fun _ => 0))))] H := hP
  have hD : va_D A [(h, .inr (3, [.ref q1, .int 0, .ref q2, .ref q3, .null, .null, .int 0, .long 0, .int 0, .null, .int 0])), (q1, .inl (dA 4, 32, .inr (.inr (.inr (.inr (fun _ => none)))))), (q2, .inl (dA 1, 64, .inl (fun _ => 0))), (q3, .inl (dA 2, 64, .inr (.inl (fun _ => 0)))), (q4, .inl (dA 2, 64, .inr (.inl (fun _ => 0))))] := hD
  refine pFF hx hb hown hE hK hP hD hS 0 rfl rfl layH tyH tokH nmH 4 (by decide) w202 rfl hin rfl rfl rfl (Nat.le_of_ble_eq_true rfl) d_H_init_34 (fun H locs hP hD hS => ?_)
  have hP : va_P D vwCl [(h, .inr (3, [.ref q1, .int 0, .ref q2, .ref q3, .ref q4, .null, .int 0, .long 0, .int 0, .null, .int 0])), (q1, .inl (dA 4, 32, .inr (.inr (.inr (.inr (fun _ => none)))))), (q2, .inl (dA 1, 64, .inl (fun _ => 0))), (q3, .inl (dA 2, 64, .inr (.inl (fun _ => 0)))), (q4, .inl (dA 2, 64, .inr (.inl (fun _ => 0))))] H := hP
  have hD : va_D A [(h, .inr (3, [.ref q1, .int 0, .ref q2, .ref q3, .ref q4, .null, .int 0, .long 0, .int 0, .null, .int 0])), (q1, .inl (dA 4, 32, .inr (.inr (.inr (.inr (fun _ => none)))))), (q2, .inl (dA 1, 64, .inl (fun _ => 0))), (q3, .inl (dA 2, 64, .inr (.inl (fun _ => 0)))), (q4, .inl (dA 2, 64, .inr (.inl (fun _ => 0))))] := hD
  refine lv_aload_n hx hb d_H_init_37 rfl (lv_at hl 0 rfl) ?_
  refine lv_bipush (v := 64) hx hb d_H_init_38 (by decide) ?_
  refine nwA (atype := .int) (ty := .int) (n := 64) (N' := 64) (a0 := (64, .inl (fun _ => 0))) hx hb hE rfl w184 hK hP hD hS hA 1 rfl (fun _ => rfl) (by decide) (by decide) (Nat.le_of_ble_eq_true rfl) (Nat.le_of_ble_eq_true rfl) (Nat.le_of_ble_eq_true rfl) d_H_init_40 (fun q5 H hP hD hS => ?_)
  have hP : va_P D vwCl [(h, .inr (3, [.ref q1, .int 0, .ref q2, .ref q3, .ref q4, .null, .int 0, .long 0, .int 0, .null, .int 0])), (q1, .inl (dA 4, 32, .inr (.inr (.inr (.inr (fun _ => none)))))), (q2, .inl (dA 1, 64, .inl (fun _ => 0))), (q3, .inl (dA 2, 64, .inr (.inl (fun _ => 0)))), (q4, .inl (dA 2, 64, .inr (.inl (fun _ => 0)))), (q5, .inl (dA 1, 64, .inl (fun _ => 0)))] H := hP
  have hD : va_D A [(h, .inr (3, [.ref q1, .int 0, .ref q2, .ref q3, .ref q4, .null, .int 0, .long 0, .int 0, .null, .int 0])), (q1, .inl (dA 4, 32, .inr (.inr (.inr (.inr (fun _ => none)))))), (q2, .inl (dA 1, 64, .inl (fun _ => 0))), (q3, .inl (dA 2, 64, .inr (.inl (fun _ => 0)))), (q4, .inl (dA 2, 64, .inr (.inl (fun _ => 0)))), (q5, .inl (dA 1, 64, .inl (fun _ => 0)))] := hD
  refine pFF hx hb hown hE hK hP hD hS 0 rfl rfl layH tyH tokH nmH 5 (by decide) w203 rfl hin rfl rfl rfl (Nat.le_of_ble_eq_true rfl) d_H_init_42 (fun H locs hP hD hS => ?_)
  have hP : va_P D vwCl [(h, .inr (3, [.ref q1, .int 0, .ref q2, .ref q3, .ref q4, .ref q5, .int 0, .long 0, .int 0, .null, .int 0])), (q1, .inl (dA 4, 32, .inr (.inr (.inr (.inr (fun _ => none)))))), (q2, .inl (dA 1, 64, .inl (fun _ => 0))), (q3, .inl (dA 2, 64, .inr (.inl (fun _ => 0)))), (q4, .inl (dA 2, 64, .inr (.inl (fun _ => 0)))), (q5, .inl (dA 1, 64, .inl (fun _ => 0)))] H := hP
  have hD : va_D A [(h, .inr (3, [.ref q1, .int 0, .ref q2, .ref q3, .ref q4, .ref q5, .int 0, .long 0, .int 0, .null, .int 0])), (q1, .inl (dA 4, 32, .inr (.inr (.inr (.inr (fun _ => none)))))), (q2, .inl (dA 1, 64, .inl (fun _ => 0))), (q3, .inl (dA 2, 64, .inr (.inl (fun _ => 0)))), (q4, .inl (dA 2, 64, .inr (.inl (fun _ => 0)))), (q5, .inl (dA 1, 64, .inl (fun _ => 0)))] := hD
  refine lv_aload_n hx hb d_H_init_45 rfl (lv_at hl 0 rfl) ?_
  refine lv_sipush (v := 256) hx hb d_H_init_46 (by decide) ?_
  refine nwA (atype := .long) (ty := .long) (n := 256) (N' := 256) (a0 := (256, .inr (.inl (fun _ => 0)))) hx hb hE rfl w186 hK hP hD hS hA 2 rfl (fun _ => rfl) (by decide) (by decide) (Nat.le_of_ble_eq_true rfl) (Nat.le_of_ble_eq_true rfl) (Nat.le_of_ble_eq_true rfl) d_H_init_49 (fun q6 H hP hD hS => ?_)
  have hP : va_P D vwCl [(h, .inr (3, [.ref q1, .int 0, .ref q2, .ref q3, .ref q4, .ref q5, .int 0, .long 0, .int 0, .null, .int 0])), (q1, .inl (dA 4, 32, .inr (.inr (.inr (.inr (fun _ => none)))))), (q2, .inl (dA 1, 64, .inl (fun _ => 0))), (q3, .inl (dA 2, 64, .inr (.inl (fun _ => 0)))), (q4, .inl (dA 2, 64, .inr (.inl (fun _ => 0)))), (q5, .inl (dA 1, 64, .inl (fun _ => 0))), (q6, .inl (dA 2, 256, .inr (.inl (fun _ => 0))))] H := hP
  have hD : va_D A [(h, .inr (3, [.ref q1, .int 0, .ref q2, .ref q3, .ref q4, .ref q5, .int 0, .long 0, .int 0, .null, .int 0])), (q1, .inl (dA 4, 32, .inr (.inr (.inr (.inr (fun _ => none)))))), (q2, .inl (dA 1, 64, .inl (fun _ => 0))), (q3, .inl (dA 2, 64, .inr (.inl (fun _ => 0)))), (q4, .inl (dA 2, 64, .inr (.inl (fun _ => 0)))), (q5, .inl (dA 1, 64, .inl (fun _ => 0))), (q6, .inl (dA 2, 256, .inr (.inl (fun _ => 0))))] := hD
  refine pFF hx hb hown hE hK hP hD hS 0 rfl rfl layH tyH tokH nmH 9 (by decide) w204 rfl hin rfl rfl rfl (Nat.le_of_ble_eq_true rfl) d_H_init_51 (fun H locs hP hD hS => ?_)
  have hP : va_P D vwCl [(h, .inr (3, [.ref q1, .int 0, .ref q2, .ref q3, .ref q4, .ref q5, .int 0, .long 0, .int 0, .ref q6, .int 0])), (q1, .inl (dA 4, 32, .inr (.inr (.inr (.inr (fun _ => none)))))), (q2, .inl (dA 1, 64, .inl (fun _ => 0))), (q3, .inl (dA 2, 64, .inr (.inl (fun _ => 0)))), (q4, .inl (dA 2, 64, .inr (.inl (fun _ => 0)))), (q5, .inl (dA 1, 64, .inl (fun _ => 0))), (q6, .inl (dA 2, 256, .inr (.inl (fun _ => 0))))] H := hP
  have hD : va_D A [(h, .inr (3, [.ref q1, .int 0, .ref q2, .ref q3, .ref q4, .ref q5, .int 0, .long 0, .int 0, .ref q6, .int 0])), (q1, .inl (dA 4, 32, .inr (.inr (.inr (.inr (fun _ => none)))))), (q2, .inl (dA 1, 64, .inl (fun _ => 0))), (q3, .inl (dA 2, 64, .inr (.inl (fun _ => 0)))), (q4, .inl (dA 2, 64, .inr (.inl (fun _ => 0)))), (q5, .inl (dA 1, 64, .inl (fun _ => 0))), (q6, .inl (dA 2, 256, .inr (.inl (fun _ => 0))))] := hD
  exact rtV hx hb hr hlk hP hD hS (q1, q2, q3, q4, q5, q6) trivial [0, 1, 2, 3, 4, 5, 6] rfl rfl (by decide) (Nat.le_of_ble_eq_true rfl) (Nat.le_of_ble_eq_true rfl) d_H_init_54
theorem d_R_init_0 : decode prog_8_method_1_code 0 = .ok (.aload_n 0, 1) := by decide +kernel
theorem d_R_init_1 : decode prog_8_method_1_code 1 = .ok (.invokespecial 3, 3) := by decide +kernel
theorem d_R_init_4 : decode prog_8_method_1_code 4 = .ok (.aload_n 0, 1) := by decide +kernel
theorem d_R_init_5 : decode prog_8_method_1_code 5 = .ok (.bipush 6, 2) := by decide +kernel
theorem d_R_init_7 : decode prog_8_method_1_code 7 = .ok (.newarray .int, 2) := by decide +kernel
theorem d_R_init_9 : decode prog_8_method_1_code 9 = .ok (.putfield 9, 3) := by decide +kernel
theorem d_R_init_12 : decode prog_8_method_1_code 12 = .ok (.aload_n 0, 1) := by decide +kernel
theorem d_R_init_13 : decode prog_8_method_1_code 13 = .ok (.bipush 6, 2) := by decide +kernel
theorem d_R_init_15 : decode prog_8_method_1_code 15 = .ok (.newarray .int, 2) := by decide +kernel
theorem d_R_init_17 : decode prog_8_method_1_code 17 = .ok (.putfield 15, 3) := by decide +kernel
theorem d_R_init_20 : decode prog_8_method_1_code 20 = .ok (.aload_n 0, 1) := by decide +kernel
theorem d_R_init_21 : decode prog_8_method_1_code 21 = .ok (.bipush 6, 2) := by decide +kernel
theorem d_R_init_23 : decode prog_8_method_1_code 23 = .ok (.newarray .int, 2) := by decide +kernel
theorem d_R_init_25 : decode prog_8_method_1_code 25 = .ok (.putfield 18, 3) := by decide +kernel
theorem d_R_init_28 : decode prog_8_method_1_code 28 = .ok (.return_, 1) := by decide +kernel
theorem w205 : Cond.methodLink "SeriesVault$SeriesReader" 3 ⟨"java/lang/Object", "<init>", "()V"⟩ ∈ aW := aw_of (tb_1 (List.mem_of_getElem? (i := 191) rfl)) rfl
theorem w206 : Cond.fieldLink "SeriesVault$SeriesReader" 9 "SeriesVault$SeriesReader" "nameStarts" "[I" ∈ aW := aw_of (tb_1 (List.mem_of_getElem? (i := 192) rfl)) rfl
theorem w207 : Cond.fieldLink "SeriesVault$SeriesReader" 15 "SeriesVault$SeriesReader" "nameEnds" "[I" ∈ aW := aw_of (tb_1 (List.mem_of_getElem? (i := 193) rfl)) rfl
theorem w208 : Cond.fieldLink "SeriesVault$SeriesReader" 18 "SeriesVault$SeriesReader" "valueEnds" "[I" ∈ aW := aw_of (tb_1 (List.mem_of_getElem? (i := 194) rfl)) rfl
set_option maxHeartbeats 4000000 in
set_option maxRecDepth 100000 in
theorem c_R_init (l : Launch) (D : va_G) (dA : Nat → ClassId) (sz : Nat) (h : Nat) : Met l ⟨"SeriesVault$SeriesReader", "<init>", "()V"⟩ [Cond.code ⟨"SeriesVault$SeriesReader", "<init>", "()V"⟩ prog_8_method_1_code 1 none] { frames := 1, cells := 3, slots := 18, locals := 12 } (pC D dA [.ref h] [(h, .inr (4, [.null, .null, .null, .int 0, .int 0, .int 0]))] sz) (va_Qv (fun (_ : Nat × Nat × Nat) => True) (fun (u9 : Nat × Nat × Nat) t9 => bW D (va_A [(h, .inr (4, [.null, .null, .null, .int 0, .int 0, .int 0]))] sz) [(h, .inr (4, [.ref u9.1, .ref u9.2.1, .ref u9.2.2, .int 0, .int 0, .int 0])), (u9.1, .inl (dA 1, 6, .inl (fun _ => 0))), (u9.2.1, .inl (dA 1, 6, .inl (fun _ => 0))), (u9.2.2, .inl (dA 1, 6, .inl (fun _ => 0)))] t9) (va_A [(h, .inr (4, [.null, .null, .null, .int 0, .int 0, .int 0]))] sz)) 3 18 (va_A [(h, .inr (4, [.null, .null, .null, .int 0, .int 0, .int 0]))] sz) := by
  refine mkC (Qc := fun A => va_Qv (fun (_ : Nat × Nat × Nat) => True) (fun (u9 : Nat × Nat × Nat) t9 => bW D A [(h, .inr (4, [.ref u9.1, .ref u9.2.1, .ref u9.2.2, .int 0, .int 0, .int 0])), (u9.1, .inl (dA 1, 6, .inl (fun _ => 0))), (u9.2.1, .inl (dA 1, 6, .inl (fun _ => 0))), (u9.2.2, .inl (dA 1, 6, .inl (fun _ => 0)))] t9) A) (by decide) (Nat.le_of_ble_eq_true rfl) ?_
  intro A p e s m below meth c ls hsz hB
  obtain ⟨hx, hb, hr, hml, hown, hin, hlk, hE, hK, hP, hD, hS, hA, hN, hl⟩ := hB
  have hown : s.vm.findClass "SeriesVault$SeriesReader" = some m.cls := hown
  have hin : meth.name = "<init>" := hin
  have hl : lv_has ls 1 [(0, .ref h)] := hl
  obtain ⟨H, hH⟩ : ∃ z, z = s.heap := ⟨_, rfl⟩
  have hP : va_P D vwCl [(h, .inr (4, [.null, .null, .null, .int 0, .int 0, .int 0]))] H := by rw [hH]; exact hP
  have hS : va_S A s.heap H [] := by rw [hH]; exact hS
  rw [← hH]
  refine lv_aload_n hx hb d_R_init_0 rfl (lv_at hl 0 rfl) ?_
  refine oI hx hb hown hE w205 w182 w183 (hl.1.trans hml.symm) d_R_init_1 (Nat.le_of_ble_eq_true rfl) (Nat.le_of_ble_eq_true rfl) ?_
  refine lv_aload_n hx hb d_R_init_4 rfl (lv_at hl 0 rfl) ?_
  refine lv_bipush (v := 6) hx hb d_R_init_5 (by decide) ?_
  refine nwA (atype := .int) (ty := .int) (n := 6) (N' := 6) (a0 := (6, .inl (fun _ => 0))) hx hb hE rfl w184 hK hP hD hS hA 1 rfl (fun _ => rfl) (by decide) (by decide) (Nat.le_of_ble_eq_true rfl) (Nat.le_of_ble_eq_true rfl) (Nat.le_of_ble_eq_true rfl) d_R_init_7 (fun q1 H hP hD hS => ?_)
  have hP : va_P D vwCl [(h, .inr (4, [.null, .null, .null, .int 0, .int 0, .int 0])), (q1, .inl (dA 1, 6, .inl (fun _ => 0)))] H := hP
  have hD : va_D A [(h, .inr (4, [.null, .null, .null, .int 0, .int 0, .int 0])), (q1, .inl (dA 1, 6, .inl (fun _ => 0)))] := hD
  refine pFF hx hb hown hE hK hP hD hS 0 rfl rfl layR tyR tokR nmR 0 (by decide) w206 rfl hin rfl rfl rfl (Nat.le_of_ble_eq_true rfl) d_R_init_9 (fun H locs hP hD hS => ?_)
  have hP : va_P D vwCl [(h, .inr (4, [.ref q1, .null, .null, .int 0, .int 0, .int 0])), (q1, .inl (dA 1, 6, .inl (fun _ => 0)))] H := hP
  have hD : va_D A [(h, .inr (4, [.ref q1, .null, .null, .int 0, .int 0, .int 0])), (q1, .inl (dA 1, 6, .inl (fun _ => 0)))] := hD
  refine lv_aload_n hx hb d_R_init_12 rfl (lv_at hl 0 rfl) ?_
  refine lv_bipush (v := 6) hx hb d_R_init_13 (by decide) ?_
  refine nwA (atype := .int) (ty := .int) (n := 6) (N' := 6) (a0 := (6, .inl (fun _ => 0))) hx hb hE rfl w184 hK hP hD hS hA 1 rfl (fun _ => rfl) (by decide) (by decide) (Nat.le_of_ble_eq_true rfl) (Nat.le_of_ble_eq_true rfl) (Nat.le_of_ble_eq_true rfl) d_R_init_15 (fun q2 H hP hD hS => ?_)
  have hP : va_P D vwCl [(h, .inr (4, [.ref q1, .null, .null, .int 0, .int 0, .int 0])), (q1, .inl (dA 1, 6, .inl (fun _ => 0))), (q2, .inl (dA 1, 6, .inl (fun _ => 0)))] H := hP
  have hD : va_D A [(h, .inr (4, [.ref q1, .null, .null, .int 0, .int 0, .int 0])), (q1, .inl (dA 1, 6, .inl (fun _ => 0))), (q2, .inl (dA 1, 6, .inl (fun _ => 0)))] := hD
  refine pFF hx hb hown hE hK hP hD hS 0 rfl rfl layR tyR tokR nmR 1 (by decide) w207 rfl hin rfl rfl rfl (Nat.le_of_ble_eq_true rfl) d_R_init_17 (fun H locs hP hD hS => ?_)
  have hP : va_P D vwCl [(h, .inr (4, [.ref q1, .ref q2, .null, .int 0, .int 0, .int 0])), (q1, .inl (dA 1, 6, .inl (fun _ => 0))), (q2, .inl (dA 1, 6, .inl (fun _ => 0)))] H := hP
  have hD : va_D A [(h, .inr (4, [.ref q1, .ref q2, .null, .int 0, .int 0, .int 0])), (q1, .inl (dA 1, 6, .inl (fun _ => 0))), (q2, .inl (dA 1, 6, .inl (fun _ => 0)))] := hD
  refine lv_aload_n hx hb d_R_init_20 rfl (lv_at hl 0 rfl) ?_
  refine lv_bipush (v := 6) hx hb d_R_init_21 (by decide) ?_
  refine nwA (atype := .int) (ty := .int) (n := 6) (N' := 6) (a0 := (6, .inl (fun _ => 0))) hx hb hE rfl w184 hK hP hD hS hA 1 rfl (fun _ => rfl) (by decide) (by decide) (Nat.le_of_ble_eq_true rfl) (Nat.le_of_ble_eq_true rfl) (Nat.le_of_ble_eq_true rfl) d_R_init_23 (fun q3 H hP hD hS => ?_)
  have hP : va_P D vwCl [(h, .inr (4, [.ref q1, .ref q2, .null, .int 0, .int 0, .int 0])), (q1, .inl (dA 1, 6, .inl (fun _ => 0))), (q2, .inl (dA 1, 6, .inl (fun _ => 0))), (q3, .inl (dA 1, 6, .inl (fun _ => 0)))] H := hP
  have hD : va_D A [(h, .inr (4, [.ref q1, .ref q2, .null, .int 0, .int 0, .int 0])), (q1, .inl (dA 1, 6, .inl (fun _ => 0))), (q2, .inl (dA 1, 6, .inl (fun _ => 0))), (q3, .inl (dA 1, 6, .inl (fun _ => 0)))] := hD
  refine pFF hx hb hown hE hK hP hD hS 0 rfl rfl layR tyR tokR nmR 2 (by decide) w208 rfl hin rfl rfl rfl (Nat.le_of_ble_eq_true rfl) d_R_init_25 (fun H locs hP hD hS => ?_)
  have hP : va_P D vwCl [(h, .inr (4, [.ref q1, .ref q2, .ref q3, .int 0, .int 0, .int 0])), (q1, .inl (dA 1, 6, .inl (fun _ => 0))), (q2, .inl (dA 1, 6, .inl (fun _ => 0))), (q3, .inl (dA 1, 6, .inl (fun _ => 0)))] H := hP
  have hD : va_D A [(h, .inr (4, [.ref q1, .ref q2, .ref q3, .int 0, .int 0, .int 0])), (q1, .inl (dA 1, 6, .inl (fun _ => 0))), (q2, .inl (dA 1, 6, .inl (fun _ => 0))), (q3, .inl (dA 1, 6, .inl (fun _ => 0)))] := hD
  exact rtV hx hb hr hlk hP hD hS (q1, q2, q3) trivial [0, 1, 2, 3] rfl rfl (by decide) (Nat.le_of_ble_eq_true rfl) (Nat.le_of_ble_eq_true rfl) d_R_init_28
