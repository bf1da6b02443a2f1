theorem d_V_written_0 : decode prog_1_method_10_code 0 = .ok (.aload_n 0, 1) := by decide +kernel
theorem d_V_written_1 : decode prog_1_method_10_code 1 = .ok (.getfield 111, 3) := by decide +kernel
theorem d_V_written_4 : decode prog_1_method_10_code 4 = .ok (.ireturn, 1) := by decide +kernel
theorem w209 : Cond.fieldLink "SeriesVault" 111 "SeriesVault" "writes" "I" ∈ aW := aw_of (tb_2 (List.mem_of_getElem? (i := 212) rfl)) rfl
set_option maxHeartbeats 4000000 in
set_option maxRecDepth 100000 in
theorem c_V_written (l : Launch) (D : va_G) (dA : Nat → ClassId) (sz : Nat) (a : Nat) (fs : List Value) (w : Int32) (h_fs_writes : fs[7]? = some (.int w)) (hl_fs : fs.length = 18) : Met l ⟨"SeriesVault", "written", "()I"⟩ [Cond.code ⟨"SeriesVault", "written", "()I"⟩ prog_1_method_10_code 1 (some FieldType.int)] { frames := 1, cells := 0, slots := 0, locals := 0 } (pC D dA [.ref a] [(a, .inr (0, fs))] sz) (va_Qi (fun (r : Int32) (_ : Unit) => r = w) (fun (u9 : Unit) t9 => bW D (va_A [(a, .inr (0, fs))] sz) [(a, .inr (0, fs))] t9) (va_A [(a, .inr (0, fs))] sz)) 0 0 (va_A [(a, .inr (0, fs))] sz) := by
  refine mkC (Qc := fun A => va_Qi (fun (r : Int32) (_ : Unit) => r = w) (fun (u9 : Unit) t9 => bW D A [(a, .inr (0, fs))] t9) A) (by decide) (Nat.le_of_ble_eq_true rfl) ?_
  intro A p e s m below meth c ls hsz hB
  obtain ⟨hx, hb, hr, hml, hown, hin, hlk, hE, hK, hP, hD, hS, hA, hN, hl⟩ := hB
  have hown : s.vm.findClass "SeriesVault" = some m.cls := hown
  have hin : meth.name = "written" := hin
  have hl : lv_has ls 1 [(0, .ref a)] := hl
  obtain ⟨H, hH⟩ : ∃ z, z = s.heap := ⟨_, rfl⟩
  have hP : va_P D vwCl [(a, .inr (0, fs))] H := by rw [hH]; exact hP
  have hS : va_S A s.heap H [] := by rw [hH]; exact hS
  rw [← hH]
  refine lv_aload_n hx hb d_V_written_0 rfl (lv_at hl 0 rfl) ?_
  refine gF (v := .int w) hx hb hown hE hK hP 0 rfl rfl layV 7 (by decide) w209 h_fs_writes d_V_written_1 ?_
  exact rtI hx hb hr hlk hP hD hS () rfl [0] rfl rfl (by decide) (Nat.le_of_ble_eq_true rfl) (Nat.le_of_ble_eq_true rfl) d_V_written_4
theorem d_V_names_0 : decode prog_1_method_46_code 0 = .ok (.aload_n 0, 1) := by decide +kernel
theorem d_V_names_1 : decode prog_1_method_46_code 1 = .ok (.getfield 114, 3) := by decide +kernel
theorem d_V_names_4 : decode prog_1_method_46_code 4 = .ok (.ifCond .eq 16, 3) := by decide +kernel
theorem d_V_names_20 : decode prog_1_method_46_code 20 = .ok (.iconst (-1), 1) := by decide +kernel
theorem d_V_names_21 : decode prog_1_method_46_code 21 = .ok (.ireturn, 1) := by decide +kernel
theorem w210 : Cond.fieldLink "SeriesVault" 114 "SeriesVault" "hasTable" "Z" ∈ aW := aw_of (tb_2 (List.mem_of_getElem? (i := 222) rfl)) rfl
set_option maxHeartbeats 4000000 in
set_option maxRecDepth 100000 in
theorem c_V_names (l : Launch) (D : va_G) (dA : Nat → ClassId) (sz : Nat) (a : Nat) (fs : List Value) (h_fs_hasTable : fs[17]? = some (.int 0)) (hl_fs : fs.length = 18) : Met l ⟨"SeriesVault", "names", "()I"⟩ [Cond.code ⟨"SeriesVault", "names", "()I"⟩ prog_1_method_46_code 1 (some FieldType.int)] { frames := 1, cells := 0, slots := 0, locals := 0 } (pC D dA [.ref a] [(a, .inr (0, fs))] sz) (va_Qi (fun (r : Int32) (_ : Unit) => r = (-1)) (fun (u9 : Unit) t9 => bW D (va_A [(a, .inr (0, fs))] sz) [(a, .inr (0, fs))] t9) (va_A [(a, .inr (0, fs))] sz)) 0 0 (va_A [(a, .inr (0, fs))] sz) := by
  refine mkC (Qc := fun A => va_Qi (fun (r : Int32) (_ : Unit) => r = (-1)) (fun (u9 : Unit) t9 => bW D A [(a, .inr (0, fs))] t9) A) (by decide) (Nat.le_of_ble_eq_true rfl) ?_
  intro A p e s m below meth c ls hsz hB
  obtain ⟨hx, hb, hr, hml, hown, hin, hlk, hE, hK, hP, hD, hS, hA, hN, hl⟩ := hB
  have hown : s.vm.findClass "SeriesVault" = some m.cls := hown
  have hin : meth.name = "names" := hin
  have hl : lv_has ls 1 [(0, .ref a)] := hl
  obtain ⟨H, hH⟩ : ∃ z, z = s.heap := ⟨_, rfl⟩
  have hP : va_P D vwCl [(a, .inr (0, fs))] H := by rw [hH]; exact hP
  have hS : va_S A s.heap H [] := by rw [hH]; exact hS
  rw [← hH]
  refine lv_aload_n hx hb d_V_names_0 rfl (lv_at hl 0 rfl) ?_
  refine gF (v := .int 0) hx hb hown hE hK hP 0 rfl rfl layV 17 (by decide) w210 h_fs_hasTable d_V_names_1 ?_
  refine lv_if_eq hx hb d_V_names_4 (tgt := 20) rfl (fun _ => ?_) (fun h9 => absurd (by decide) h9)
  refine lv_iconst (v := (-1)) hx hb d_V_names_20 (by decide) ?_
  exact rtI hx hb hr hlk hP hD hS () rfl [0] rfl rfl (by decide) (Nat.le_of_ble_eq_true rfl) (Nat.le_of_ble_eq_true rfl) d_V_names_21
theorem d_V_fault_0 : decode prog_1_method_6_code 0 = .ok (.iload_n 1, 1) := by decide +kernel
theorem d_V_fault_1 : decode prog_1_method_6_code 1 = .ok (.ifCond .lt 8, 3) := by decide +kernel
theorem d_V_fault_4 : decode prog_1_method_6_code 4 = .ok (.iload_n 1, 1) := by decide +kernel
theorem d_V_fault_5 : decode prog_1_method_6_code 5 = .ok (.iconst 1, 1) := by decide +kernel
theorem d_V_fault_6 : decode prog_1_method_6_code 6 = .ok (.if_icmp .le 11, 3) := by decide +kernel
theorem d_V_fault_17 : decode prog_1_method_6_code 17 = .ok (.iload_n 1, 1) := by decide +kernel
theorem d_V_fault_18 : decode prog_1_method_6_code 18 = .ok (.ifCond .ne 10, 3) := by decide +kernel
theorem d_V_fault_21 : decode prog_1_method_6_code 21 = .ok (.aload_n 0, 1) := by decide +kernel
theorem d_V_fault_22 : decode prog_1_method_6_code 22 = .ok (.getfield 95, 3) := by decide +kernel
theorem d_V_fault_25 : decode prog_1_method_6_code 25 = .ok (.goto 7, 3) := by decide +kernel
theorem d_V_fault_32 : decode prog_1_method_6_code 32 = .ok (.ireturn, 1) := by decide +kernel
theorem w211 : Cond.fieldLink "SeriesVault" 95 "SeriesVault" "faultCode" "I" ∈ aW := aw_of (tb_2 (List.mem_of_getElem? (i := 207) rfl)) rfl
set_option maxHeartbeats 4000000 in
set_option maxRecDepth 100000 in
theorem c_V_fault_0 (l : Launch) (D : va_G) (dA : Nat → ClassId) (sz : Nat) (a : Nat) (fs : List Value) (fc : Int32) (h_fs_faultCode : fs[2]? = some (.int fc)) (hl_fs : fs.length = 18) : Met l ⟨"SeriesVault", "fault", "(I)I"⟩ [Cond.code ⟨"SeriesVault", "fault", "(I)I"⟩ prog_1_method_6_code 2 (some FieldType.int)] { frames := 1, cells := 0, slots := 0, locals := 0 } (pC D dA [.ref a, .int 0] [(a, .inr (0, fs))] sz) (va_Qi (fun (r : Int32) (_ : Unit) => r = fc) (fun (u9 : Unit) t9 => bW D (va_A [(a, .inr (0, fs))] sz) [(a, .inr (0, fs))] t9) (va_A [(a, .inr (0, fs))] sz)) 0 0 (va_A [(a, .inr (0, fs))] sz) := by
  refine mkC (Qc := fun A => va_Qi (fun (r : Int32) (_ : Unit) => r = fc) (fun (u9 : Unit) t9 => bW D A [(a, .inr (0, fs))] t9) A) (by decide) (Nat.le_of_ble_eq_true rfl) ?_
  intro A p e s m below meth c ls hsz hB
  obtain ⟨hx, hb, hr, hml, hown, hin, hlk, hE, hK, hP, hD, hS, hA, hN, hl⟩ := hB
  have hown : s.vm.findClass "SeriesVault" = some m.cls := hown
  have hin : meth.name = "fault" := hin
  have hl : lv_has ls 2 [(0, .ref a), (1, .int 0)] := hl
  obtain ⟨H, hH⟩ : ∃ z, z = s.heap := ⟨_, rfl⟩
  have hP : va_P D vwCl [(a, .inr (0, fs))] H := by rw [hH]; exact hP
  have hS : va_S A s.heap H [] := by rw [hH]; exact hS
  rw [← hH]
  refine lv_iload_n hx hb d_V_fault_0 rfl (lv_at hl 1 rfl) ?_
  refine lv_if_lt hx hb d_V_fault_1 (tgt := 9) rfl (fun h9 => absurd h9 (by decide)) (fun _ => ?_)
  refine lv_iload_n hx hb d_V_fault_4 rfl (lv_at hl 1 rfl) ?_
  refine lv_iconst (v := 1) hx hb d_V_fault_5 (by decide) ?_
  refine lv_icmp_le hx hb d_V_fault_6 (tgt := 17) rfl (fun _ => ?_) (fun h9 => absurd (by decide) h9)
  refine lv_iload_n hx hb d_V_fault_17 rfl (lv_at hl 1 rfl) ?_
  refine lv_if_ne hx hb d_V_fault_18 (tgt := 28) rfl (fun h9 => absurd (by decide) h9) (fun _ => ?_)
  refine lv_aload_n hx hb d_V_fault_21 rfl (lv_at hl 0 rfl) ?_
  refine gF (v := .int fc) hx hb hown hE hK hP 0 rfl rfl layV 2 (by decide) w211 h_fs_faultCode d_V_fault_22 ?_
  refine lv_goto hx hb d_V_fault_25 (tgt := 32) rfl ?_
  exact rtI hx hb hr hlk hP hD hS () rfl [0] rfl rfl (by decide) (Nat.le_of_ble_eq_true rfl) (Nat.le_of_ble_eq_true rfl) d_V_fault_32
theorem d_V_fault_28 : decode prog_1_method_6_code 28 = .ok (.aload_n 0, 1) := by decide +kernel
theorem d_V_fault_29 : decode prog_1_method_6_code 29 = .ok (.getfield 98, 3) := by decide +kernel
theorem w212 : Cond.fieldLink "SeriesVault" 98 "SeriesVault" "faultPlace" "I" ∈ aW := aw_of (tb_2 (List.mem_of_getElem? (i := 208) rfl)) rfl
set_option maxHeartbeats 4000000 in
set_option maxRecDepth 100000 in
theorem c_V_fault_1 (l : Launch) (D : va_G) (dA : Nat → ClassId) (sz : Nat) (a : Nat) (fs : List Value) (fp : Int32) (h_fs_faultPlace : fs[3]? = some (.int fp)) (hl_fs : fs.length = 18) : Met l ⟨"SeriesVault", "fault", "(I)I"⟩ [Cond.code ⟨"SeriesVault", "fault", "(I)I"⟩ prog_1_method_6_code 2 (some FieldType.int)] { frames := 1, cells := 0, slots := 0, locals := 0 } (pC D dA [.ref a, .int 1] [(a, .inr (0, fs))] sz) (va_Qi (fun (r : Int32) (_ : Unit) => r = fp) (fun (u9 : Unit) t9 => bW D (va_A [(a, .inr (0, fs))] sz) [(a, .inr (0, fs))] t9) (va_A [(a, .inr (0, fs))] sz)) 0 0 (va_A [(a, .inr (0, fs))] sz) := by
  refine mkC (Qc := fun A => va_Qi (fun (r : Int32) (_ : Unit) => r = fp) (fun (u9 : Unit) t9 => bW D A [(a, .inr (0, fs))] t9) A) (by decide) (Nat.le_of_ble_eq_true rfl) ?_
  intro A p e s m below meth c ls hsz hB
  obtain ⟨hx, hb, hr, hml, hown, hin, hlk, hE, hK, hP, hD, hS, hA, hN, hl⟩ := hB
  have hown : s.vm.findClass "SeriesVault" = some m.cls := hown
  have hin : meth.name = "fault" := hin
  have hl : lv_has ls 2 [(0, .ref a), (1, .int 1)] := hl
  obtain ⟨H, hH⟩ : ∃ z, z = s.heap := ⟨_, rfl⟩
  have hP : va_P D vwCl [(a, .inr (0, fs))] H := by rw [hH]; exact hP
  have hS : va_S A s.heap H [] := by rw [hH]; exact hS
  rw [← hH]
  refine lv_iload_n hx hb d_V_fault_0 rfl (lv_at hl 1 rfl) ?_
  refine lv_if_lt hx hb d_V_fault_1 (tgt := 9) rfl (fun h9 => absurd h9 (by decide)) (fun _ => ?_)
  refine lv_iload_n hx hb d_V_fault_4 rfl (lv_at hl 1 rfl) ?_
  refine lv_iconst (v := 1) hx hb d_V_fault_5 (by decide) ?_
  refine lv_icmp_le hx hb d_V_fault_6 (tgt := 17) rfl (fun _ => ?_) (fun h9 => absurd (by decide) h9)
  refine lv_iload_n hx hb d_V_fault_17 rfl (lv_at hl 1 rfl) ?_
  refine lv_if_ne hx hb d_V_fault_18 (tgt := 28) rfl (fun _ => ?_) (fun h9 => absurd h9 (by decide))
  refine lv_aload_n hx hb d_V_fault_28 rfl (lv_at hl 0 rfl) ?_
  refine gF (v := .int fp) hx hb hown hE hK hP 0 rfl rfl layV 3 (by decide) w212 h_fs_faultPlace d_V_fault_29 ?_
  exact rtI hx hb hr hlk hP hD hS () rfl [0] rfl rfl (by decide) (Nat.le_of_ble_eq_true rfl) (Nat.le_of_ble_eq_true rfl) d_V_fault_32
theorem d_V_fault_9 : decode prog_1_method_6_code 9 = .ok (.new 92, 3) := by decide +kernel
theorem d_V_fault_12 : decode prog_1_method_6_code 12 = .ok (.dup, 1) := by decide +kernel
theorem d_V_fault_13 : decode prog_1_method_6_code 13 = .ok (.invokespecial 94, 3) := by decide +kernel
theorem d_V_fault_16 : decode prog_1_method_6_code 16 = .ok (.athrow, 1) := by decide +kernel
theorem w213 : Cond.lays "java/lang/IndexOutOfBoundsException" "java/lang/Throwable" "backtrace" "Ljava/lang/Object;" ∈ aW := aw_of (tb_5 (List.mem_of_getElem? (i := 108) rfl)) rfl
theorem w214 : Cond.lays "java/lang/Throwable" "java/lang/Throwable" "backtrace" "Ljava/lang/Object;" ∈ aW := aw_of (tb_3 (List.mem_of_getElem? (i := 75) rfl)) rfl
theorem w215 : Cond.fieldLink "java/lang/Throwable" 198 "java/lang/Throwable" "backtrace" "Ljava/lang/Object;" ∈ aW := aw_of (tb_3 (List.mem_of_getElem? (i := 76) rfl)) rfl
theorem w216 : Cond.lays "java/lang/IndexOutOfBoundsException" "java/lang/Throwable" "detailMessage" "Ljava/lang/String;" ∈ aW := aw_of (tb_5 (List.mem_of_getElem? (i := 107) rfl)) rfl
theorem w217 : Cond.lays "java/lang/IndexOutOfBoundsException" "java/lang/Throwable" "suppressedExceptions" "Ljava/util/List;" ∈ aW := aw_of (tb_5 (List.mem_of_getElem? (i := 106) rfl)) rfl
theorem w218 : Cond.lays "java/lang/IndexOutOfBoundsException" "java/lang/Throwable" "stackTrace" "[Ljava/lang/StackTraceElement;" ∈ aW := aw_of (tb_5 (List.mem_of_getElem? (i := 105) rfl)) rfl
theorem w219 : Cond.lays "java/lang/IndexOutOfBoundsException" "java/lang/Throwable" "cause" "Ljava/lang/Throwable;" ∈ aW := aw_of (tb_5 (List.mem_of_getElem? (i := 104) rfl)) rfl
theorem w220 : Cond.selects "java/lang/IndexOutOfBoundsException" ⟨"java/lang/Throwable", "fillInStackTrace", "()Ljava/lang/Throwable;"⟩ ⟨"java/lang/Throwable", "fillInStackTrace", "()Ljava/lang/Throwable;"⟩ ∈ aW := aw_of (tb_3 (List.mem_of_getElem? (i := 91) rfl)) rfl
theorem w221 : Cond.selects "java/lang/IndexOutOfBoundsException" ⟨"java/lang/Throwable", "fillInStackTrace", "(I)Ljava/lang/Throwable;"⟩ ⟨"java/lang/Throwable", "fillInStackTrace", "(I)Ljava/lang/Throwable;"⟩ ∈ aW := aw_of (tb_5 (List.mem_of_getElem? (i := 103) rfl)) rfl
theorem w222 : Cond.castable "java/lang/IndexOutOfBoundsException" "java/lang/IndexOutOfBoundsException" ∈ aW := aw_of (tb_5 (List.mem_of_getElem? (i := 102) rfl)) rfl
theorem w223 : Cond.instantiable "java/lang/IndexOutOfBoundsException" 6 ∈ aW := aw_of (tb_5 (List.mem_of_getElem? (i := 101) rfl)) rfl
theorem w224 : Cond.methodLink "SeriesVault" 94 ⟨"java/lang/IndexOutOfBoundsException", "<init>", "()V"⟩ ∈ aW := aw_of (tb_5 (List.mem_of_getElem? (i := 109) rfl)) rfl
theorem w225 : Cond.declares ⟨"java/lang/Throwable", "<init>", "()V"⟩ ∈ aW := aw_of (tb_3 (List.mem_of_getElem? (i := 62) rfl)) rfl
theorem w226 : Cond.instanceMethod ⟨"java/lang/Throwable", "<init>", "()V"⟩ ∈ aW := aw_of (tb_3 (List.mem_of_getElem? (i := 78) rfl)) rfl
theorem w227 : Cond.methodLink "java/lang/Exception" 1 ⟨"java/lang/Throwable", "<init>", "()V"⟩ ∈ aW := aw_of (tb_3 (List.mem_of_getElem? (i := 107) rfl)) rfl
theorem w228 : Cond.code ⟨"java/lang/Exception", "<init>", "()V"⟩ prog_19_method_1_code 1 none ∈ aW := aw_of (tb_3 (List.mem_of_getElem? (i := 106) rfl)) rfl
theorem w229 : Cond.instanceMethod ⟨"java/lang/Exception", "<init>", "()V"⟩ ∈ aW := aw_of (tb_3 (List.mem_of_getElem? (i := 105) rfl)) rfl
theorem w230 : Cond.declares ⟨"java/lang/Exception", "<init>", "()V"⟩ ∈ aW := aw_of (tb_3 (List.mem_of_getElem? (i := 60) rfl)) rfl
theorem w231 : Cond.methodLink "java/lang/RuntimeException" 1 ⟨"java/lang/Exception", "<init>", "()V"⟩ ∈ aW := aw_of (tb_3 (List.mem_of_getElem? (i := 104) rfl)) rfl
theorem w232 : Cond.code ⟨"java/lang/RuntimeException", "<init>", "()V"⟩ prog_27_method_1_code 1 none ∈ aW := aw_of (tb_3 (List.mem_of_getElem? (i := 103) rfl)) rfl
theorem w233 : Cond.instanceMethod ⟨"java/lang/RuntimeException", "<init>", "()V"⟩ ∈ aW := aw_of (tb_3 (List.mem_of_getElem? (i := 102) rfl)) rfl
theorem w234 : Cond.declares ⟨"java/lang/RuntimeException", "<init>", "()V"⟩ ∈ aW := aw_of (tb_3 (List.mem_of_getElem? (i := 58) rfl)) rfl
theorem w235 : Cond.methodLink "java/lang/IndexOutOfBoundsException" 1 ⟨"java/lang/RuntimeException", "<init>", "()V"⟩ ∈ aW := aw_of (tb_5 (List.mem_of_getElem? (i := 112) rfl)) rfl
theorem w236 : Cond.code ⟨"java/lang/IndexOutOfBoundsException", "<init>", "()V"⟩ prog_22_method_1_code 1 none ∈ aW := aw_of (tb_5 (List.mem_of_getElem? (i := 111) rfl)) rfl
theorem w237 : Cond.instanceMethod ⟨"java/lang/IndexOutOfBoundsException", "<init>", "()V"⟩ ∈ aW := aw_of (tb_5 (List.mem_of_getElem? (i := 110) rfl)) rfl
theorem w238 : Cond.lays "java/lang/Throwable" "java/lang/Throwable" "detailMessage" "Ljava/lang/String;" ∈ aW := aw_of (tb_3 (List.mem_of_getElem? (i := 73) rfl)) rfl
theorem w239 : Cond.fieldLink "java/lang/Throwable" 20 "java/lang/Throwable" "SUPPRESSED_SENTINEL" "Ljava/util/List;" ∈ aW := aw_of (tb_3 (List.mem_of_getElem? (i := 83) rfl)) rfl
theorem w240 : Cond.fieldLink "java/lang/Throwable" 13 "java/lang/Throwable" "UNASSIGNED_STACK" "[Ljava/lang/StackTraceElement;" ∈ aW := aw_of (tb_3 (List.mem_of_getElem? (i := 81) rfl)) rfl
theorem w241 : Cond.lays "java/lang/Throwable" "java/lang/Throwable" "suppressedExceptions" "Ljava/util/List;" ∈ aW := aw_of (tb_3 (List.mem_of_getElem? (i := 71) rfl)) rfl
theorem w242 : Cond.fieldLink "java/lang/Throwable" 24 "java/lang/Throwable" "suppressedExceptions" "Ljava/util/List;" ∈ aW := aw_of (tb_3 (List.mem_of_getElem? (i := 112) rfl)) rfl
theorem w243 : Cond.lays "java/lang/Throwable" "java/lang/Throwable" "stackTrace" "[Ljava/lang/StackTraceElement;" ∈ aW := aw_of (tb_3 (List.mem_of_getElem? (i := 69) rfl)) rfl
theorem w244 : Cond.fieldLink "java/lang/Throwable" 17 "java/lang/Throwable" "stackTrace" "[Ljava/lang/StackTraceElement;" ∈ aW := aw_of (tb_3 (List.mem_of_getElem? (i := 111) rfl)) rfl
theorem w245 : Cond.lays "java/lang/Throwable" "java/lang/Throwable" "cause" "Ljava/lang/Throwable;" ∈ aW := aw_of (tb_3 (List.mem_of_getElem? (i := 67) rfl)) rfl
theorem w246 : Cond.fieldLink "java/lang/Throwable" 7 "java/lang/Throwable" "cause" "Ljava/lang/Throwable;" ∈ aW := aw_of (tb_3 (List.mem_of_getElem? (i := 110) rfl)) rfl
theorem w247 : Cond.methodLink "java/lang/Throwable" 202 ⟨"java/lang/Throwable", "fillInStackTrace", "(I)Ljava/lang/Throwable;"⟩ ∈ aW := aw_of (tb_3 (List.mem_of_getElem? (i := 93) rfl)) rfl
theorem w248 : Cond.methodLink "java/lang/Throwable" 27 ⟨"java/lang/Throwable", "fillInStackTrace", "()Ljava/lang/Throwable;"⟩ ∈ aW := aw_of (tb_3 (List.mem_of_getElem? (i := 85) rfl)) rfl
theorem w249 : Cond.methodLink "java/lang/Throwable" 1 ⟨"java/lang/Object", "<init>", "()V"⟩ ∈ aW := aw_of (tb_3 (List.mem_of_getElem? (i := 80) rfl)) rfl
theorem w250 : Cond.code ⟨"java/lang/Throwable", "<init>", "()V"⟩ prog_33_method_1_code 1 none ∈ aW := aw_of (tb_3 (List.mem_of_getElem? (i := 79) rfl)) rfl
theorem w251 : Cond.native ⟨"java/lang/Throwable", "fillInStackTrace", "(I)Ljava/lang/Throwable;"⟩ ∈ aW := aw_of (tb_3 (List.mem_of_getElem? (i := 97) rfl)) rfl
theorem w252 : Cond.instanceMethod ⟨"java/lang/Throwable", "fillInStackTrace", "(I)Ljava/lang/Throwable;"⟩ ∈ aW := aw_of (tb_3 (List.mem_of_getElem? (i := 95) rfl)) rfl
theorem w253 : Cond.codeSync ⟨"java/lang/Throwable", "fillInStackTrace", "()Ljava/lang/Throwable;"⟩ prog_33_method_18_code 1 (some (FieldType.object "java/lang/Throwable")) ∈ aW := aw_of (tb_3 (List.mem_of_getElem? (i := 92) rfl)) rfl
theorem w254 : Cond.instanceMethod ⟨"java/lang/Throwable", "fillInStackTrace", "()Ljava/lang/Throwable;"⟩ ∈ aW := aw_of (tb_3 (List.mem_of_getElem? (i := 86) rfl)) rfl
theorem w255 : Cond.superclass "java/lang/Throwable" "java/lang/Object" ∈ aW := aw_of (tb_3 (List.mem_of_getElem? (i := 77) rfl)) rfl
theorem w256 : Cond.initialized "java/lang/Throwable" ∈ aW := aw_of (tb_1 (List.mem_of_getElem? (i := 17) rfl)) rfl
theorem w257 : Cond.classLink "SeriesVault" 92 "java/lang/IndexOutOfBoundsException" ∈ aW := aw_of (tb_5 (List.mem_of_getElem? (i := 100) rfl)) rfl
theorem w258 : Cond.initialized "java/lang/IndexOutOfBoundsException" ∈ aW := aw_of (tb_1 (List.mem_of_getElem? (i := 32) rfl)) rfl
theorem at_V_IOOBE {s : State} {args : Array Value} (hE : eV s) : ∀ w ∈ Bundle.ownAtoms0 "SeriesVault" 94 "java/lang/IndexOutOfBoundsException" ["java/lang/RuntimeException", "java/lang/Exception"], w.before args s = true := List.forall_mem_cons.mpr ⟨hE.t w256 rfl, List.forall_mem_cons.mpr ⟨hE.t w255 rfl, List.forall_mem_cons.mpr ⟨hE.t w254 rfl, List.forall_mem_cons.mpr ⟨hE.t w253 rfl, List.forall_mem_cons.mpr ⟨hE.t w252 rfl, List.forall_mem_cons.mpr ⟨hE.t w251 rfl, List.forall_mem_cons.mpr ⟨hE.t w226 rfl, List.forall_mem_cons.mpr ⟨hE.t w250 rfl, List.forall_mem_cons.mpr ⟨hE.t w182 rfl, List.forall_mem_cons.mpr ⟨hE.t w183 rfl, List.forall_mem_cons.mpr ⟨hE.t w249 rfl, List.forall_mem_cons.mpr ⟨hE.t w248 rfl, List.forall_mem_cons.mpr ⟨hE.t w247 rfl, List.forall_mem_cons.mpr ⟨hE.t w246 rfl, List.forall_mem_cons.mpr ⟨hE.t w245 rfl, List.forall_mem_cons.mpr ⟨hE.t w244 rfl, List.forall_mem_cons.mpr ⟨hE.t w243 rfl, List.forall_mem_cons.mpr ⟨hE.t w242 rfl, List.forall_mem_cons.mpr ⟨hE.t w241 rfl, List.forall_mem_cons.mpr ⟨hE.t w240 rfl, List.forall_mem_cons.mpr ⟨ho_1 hE.2.1, List.forall_mem_cons.mpr ⟨hE.t w239 rfl, List.forall_mem_cons.mpr ⟨ho_1 hE.2.2.1, List.forall_mem_cons.mpr ⟨hE.t w238 rfl, List.forall_mem_cons.mpr ⟨hE.t w237 rfl, List.forall_mem_cons.mpr ⟨hE.t w236 rfl, List.forall_mem_cons.mpr ⟨hE.t w235 rfl, List.forall_mem_cons.mpr ⟨hE.t w233 rfl, List.forall_mem_cons.mpr ⟨hE.t w234 rfl, List.forall_mem_cons.mpr ⟨hE.t w233 rfl, List.forall_mem_cons.mpr ⟨hE.t w232 rfl, List.forall_mem_cons.mpr ⟨hE.t w231 rfl, List.forall_mem_cons.mpr ⟨hE.t w229 rfl, List.forall_mem_cons.mpr ⟨hE.t w230 rfl, List.forall_mem_cons.mpr ⟨hE.t w229 rfl, List.forall_mem_cons.mpr ⟨hE.t w228 rfl, List.forall_mem_cons.mpr ⟨hE.t w227 rfl, List.forall_mem_cons.mpr ⟨hE.t w226 rfl, List.forall_mem_cons.mpr ⟨hE.t w225 rfl, List.forall_mem_cons.mpr ⟨hE.t w224 rfl, List.forall_mem_cons.mpr ⟨hE.t w223 rfl, List.forall_mem_cons.mpr ⟨hE.t w222 rfl, List.forall_mem_cons.mpr ⟨hE.t w221 rfl, List.forall_mem_cons.mpr ⟨hE.t w220 rfl, List.forall_mem_cons.mpr ⟨hE.t w219 rfl, List.forall_mem_cons.mpr ⟨hE.t w218 rfl, List.forall_mem_cons.mpr ⟨hE.t w217 rfl, List.forall_mem_cons.mpr ⟨hE.t w216 rfl, List.forall_mem_cons.mpr ⟨ho_2 hE.2.2.2.1, List.forall_mem_cons.mpr ⟨ho_2 hE.2.2.2.2.1, List.forall_mem_cons.mpr ⟨hE.t w215 rfl, List.forall_mem_cons.mpr ⟨hE.t w214 rfl, List.forall_mem_cons.mpr ⟨hE.t w213 rfl, fun _ h => absurd h List.not_mem_nil⟩⟩⟩⟩⟩⟩⟩⟩⟩⟩⟩⟩⟩⟩⟩⟩⟩⟩⟩⟩⟩⟩⟩⟩⟩⟩⟩⟩⟩⟩⟩⟩⟩⟩⟩⟩⟩⟩⟩⟩⟩⟩⟩⟩⟩⟩⟩⟩⟩⟩⟩⟩⟩
set_option maxHeartbeats 4000000 in
set_option maxRecDepth 100000 in
theorem c_V_fault_x (l : Launch) (htr : l.stackTraces = false) (D : va_G) (dA : Nat → ClassId) (sz : Nat) (a : Nat) (fs : List Value) (n : Int32) (h0 : n < 0 ∨ 1 < n) (hl_fs : fs.length = 18) : mX l ⟨"SeriesVault", "fault", "(I)I"⟩ [Cond.code ⟨"SeriesVault", "fault", "(I)I"⟩ prog_1_method_6_code 2 (some FieldType.int)] { frames := 6, cells := 1, slots := 6, locals := 81 } (pC D dA [.ref a, .int n] [(a, .inr (0, fs))] sz) "java/lang/IndexOutOfBoundsException" (fun st9 t9 => va_F (va_A [(a, .inr (0, fs))] sz) st9 t9 ∧ bW D (va_A [(a, .inr (0, fs))] sz) [(a, .inr (0, fs))] t9) 1 6 (va_A [(a, .inr (0, fs))] sz) := by
  refine mkX (B := fun A => fun st9 t9 => va_F A st9 t9 ∧ bW D A [(a, .inr (0, fs))] t9) (by decide) (Nat.le_of_ble_eq_true rfl) ?_
  intro A p e s m below meth c ls hsz hno hB
  obtain ⟨hx, hb, hr, hml, hown, hin, hlk, hE, hK, hP, hD, hS, hA, hN, hl⟩ := hB
  have hown : s.vm.findClass "SeriesVault" = some m.cls := hown
  have hin : meth.name = "fault" := hin
  have hl : lv_has ls 2 [(0, .ref a), (1, .int n)] := hl
  obtain ⟨H, hH⟩ : ∃ z, z = s.heap := ⟨_, rfl⟩
  have hP : va_P D vwCl [(a, .inr (0, fs))] H := by rw [hH]; exact hP
  have hS : va_S A s.heap H [] := by rw [hH]; exact hS
  rw [← hH]
  refine lv_iload_n hx hb d_V_fault_0 rfl (lv_at hl 1 rfl) ?_
  refine lv_if_lt hx hb d_V_fault_1 (tgt := 9) rfl (fun hc => ?_) (fun hc => ?_)
  · exact xNew (E := "java/lang/IndexOutOfBoundsException") (names := ["java/lang/RuntimeException", "java/lang/Exception"]) hx hb htr hown (by decide) (by decide) hE w257 w258 (fun U hU => at_V_IOOBE hU) (hN _ _ hS) (hl.1.trans hml.symm) d_V_fault_9 d_V_fault_12 d_V_fault_13 d_V_fault_16 hno (by decide) (Nat.le_of_ble_eq_true rfl) (Nat.le_of_ble_eq_true rfl) (Nat.le_of_ble_eq_true rfl) hlk (fun t h1 h2 => xEnd hP hD hS [0] rfl rfl (by decide) t h1 h2) hS.2.2 (Nat.le_of_ble_eq_true rfl) (Nat.le_of_ble_eq_true rfl)
  · refine lv_iload_n hx hb d_V_fault_4 rfl (lv_at hl 1 rfl) ?_
    refine lv_iconst (v := 1) hx hb d_V_fault_5 (by decide) ?_
    refine lv_icmp_le hx hb d_V_fault_6 (tgt := 17) rfl (fun h9 => absurd h9 (Int32.not_le.mpr (h0.resolve_left hc))) (fun _ => ?_)
    exact xNew (E := "java/lang/IndexOutOfBoundsException") (names := ["java/lang/RuntimeException", "java/lang/Exception"]) hx hb htr hown (by decide) (by decide) hE w257 w258 (fun U hU => at_V_IOOBE hU) (hN _ _ hS) (hl.1.trans hml.symm) d_V_fault_9 d_V_fault_12 d_V_fault_13 d_V_fault_16 hno (by decide) (Nat.le_of_ble_eq_true rfl) (Nat.le_of_ble_eq_true rfl) (Nat.le_of_ble_eq_true rfl) hlk (fun t h1 h2 => xEnd hP hD hS [0] rfl rfl (by decide) t h1 h2) hS.2.2 (Nat.le_of_ble_eq_true rfl) (Nat.le_of_ble_eq_true rfl)
theorem d_V_end_0 : decode prog_1_method_4_code 0 = .ok (.iload_n 1, 1) := by decide +kernel
theorem d_V_end_1 : decode prog_1_method_4_code 1 = .ok (.ifCond .lt 11, 3) := by decide +kernel
theorem d_V_end_4 : decode prog_1_method_4_code 4 = .ok (.iload_n 1, 1) := by decide +kernel
theorem d_V_end_5 : decode prog_1_method_4_code 5 = .ok (.aload_n 0, 1) := by decide +kernel
theorem d_V_end_6 : decode prog_1_method_4_code 6 = .ok (.getfield 71, 3) := by decide +kernel
theorem d_V_end_9 : decode prog_1_method_4_code 9 = .ok (.if_icmp .le 11, 3) := by decide +kernel
theorem d_V_end_20 : decode prog_1_method_4_code 20 = .ok (.aload_n 0, 1) := by decide +kernel
theorem d_V_end_21 : decode prog_1_method_4_code 21 = .ok (.iload_n 1, 1) := by decide +kernel
theorem d_V_end_22 : decode prog_1_method_4_code 22 = .ok (.putfield 71, 3) := by decide +kernel
theorem d_V_end_25 : decode prog_1_method_4_code 25 = .ok (.return_, 1) := by decide +kernel
theorem w259 : Cond.fieldLink "SeriesVault" 71 "SeriesVault" "tapeLength" "I" ∈ aW := aw_of (tb_2 (List.mem_of_getElem? (i := 206) rfl)) rfl
set_option maxHeartbeats 4000000 in
set_option maxRecDepth 100000 in
theorem c_V_end (l : Launch) (D : va_G) (dA : Nat → ClassId) (sz : Nat) (a : Nat) (fs : List Value) (tl : Int32) (n : Int32) (h1 : ¬ n < 0) (h2 : n ≤ tl) (h_fs_tapeLength : fs[1]? = some (.int tl)) (hl_fs : fs.length = 18) : Met l ⟨"SeriesVault", "end", "(I)V"⟩ [Cond.code ⟨"SeriesVault", "end", "(I)V"⟩ prog_1_method_4_code 2 none] { frames := 1, cells := 0, slots := 0, locals := 0 } (pC D dA [.ref a, .int n] [(a, .inr (0, fs))] sz) (va_Qv (fun (_ : Unit) => True) (fun (u9 : Unit) t9 => bW D (va_A [(a, .inr (0, fs))] sz) [(a, .inr (0, (fs.set 1 (.int n))))] t9) (va_A [(a, .inr (0, fs))] sz)) 0 0 (va_A [(a, .inr (0, fs))] sz) := by
  refine mkC (Qc := fun A => va_Qv (fun (_ : Unit) => True) (fun (u9 : Unit) t9 => bW D A [(a, .inr (0, (fs.set 1 (.int n))))] t9) A) (by decide) (Nat.le_of_ble_eq_true rfl) ?_
  intro A p e s m below meth c ls hsz hB
  obtain ⟨hx, hb, hr, hml, hown, hin, hlk, hE, hK, hP, hD, hS, hA, hN, hl⟩ := hB
  have hown : s.vm.findClass "SeriesVault" = some m.cls := hown
  have hin : meth.name = "end" := hin
  have hl : lv_has ls 2 [(0, .ref a), (1, .int n)] := hl
  obtain ⟨H, hH⟩ : ∃ z, z = s.heap := ⟨_, rfl⟩
  have hP : va_P D vwCl [(a, .inr (0, fs))] H := by rw [hH]; exact hP
  have hS : va_S A s.heap H [] := by rw [hH]; exact hS
  rw [← hH]
  refine lv_iload_n hx hb d_V_end_0 rfl (lv_at hl 1 rfl) ?_
  refine lv_if_lt hx hb d_V_end_1 (tgt := 12) rfl (fun h9 => absurd h9 h1) (fun _ => ?_)
  refine lv_iload_n hx hb d_V_end_4 rfl (lv_at hl 1 rfl) ?_
  refine lv_aload_n hx hb d_V_end_5 rfl (lv_at hl 0 rfl) ?_
  refine gF (v := .int tl) hx hb hown hE hK hP 0 rfl rfl layV 1 (by decide) w259 h_fs_tapeLength d_V_end_6 ?_
  refine lv_icmp_le hx hb d_V_end_9 (tgt := 20) rfl (fun _ => ?_) (fun h9 => absurd h2 h9)
  refine lv_aload_n hx hb d_V_end_20 rfl (lv_at hl 0 rfl) ?_
  refine lv_iload_n hx hb d_V_end_21 rfl (lv_at hl 1 rfl) ?_
  refine pF hx hb hown hE hK hP hD hS 0 rfl rfl layV tyV tokV nmV 1 (by decide) w259 rfl rfl rfl (by simp [hl_fs]) d_V_end_22 (fun H locs hP hD hS => ?_)
  have hP : va_P D vwCl [(a, .inr (0, (fs.set 1 (.int n))))] H := hP
  have hD : va_D A [(a, .inr (0, (fs.set 1 (.int n))))] := hD
  exact rtV hx hb hr hlk hP hD hS () trivial [0] rfl rfl (by decide) (Nat.le_of_ble_eq_true rfl) (Nat.le_of_ble_eq_true rfl) d_V_end_25
theorem d_V_end_12 : decode prog_1_method_4_code 12 = .ok (.new 89, 3) := by decide +kernel
theorem d_V_end_15 : decode prog_1_method_4_code 15 = .ok (.dup, 1) := by decide +kernel
theorem d_V_end_16 : decode prog_1_method_4_code 16 = .ok (.invokespecial 91, 3) := by decide +kernel
theorem d_V_end_19 : decode prog_1_method_4_code 19 = .ok (.athrow, 1) := by decide +kernel
theorem w260 : Cond.lays "java/lang/IllegalArgumentException" "java/lang/Throwable" "backtrace" "Ljava/lang/Object;" ∈ aW := aw_of (tb_3 (List.mem_of_getElem? (i := 151) rfl)) rfl
theorem w261 : Cond.lays "java/lang/IllegalArgumentException" "java/lang/Throwable" "detailMessage" "Ljava/lang/String;" ∈ aW := aw_of (tb_3 (List.mem_of_getElem? (i := 150) rfl)) rfl
theorem w262 : Cond.lays "java/lang/IllegalArgumentException" "java/lang/Throwable" "suppressedExceptions" "Ljava/util/List;" ∈ aW := aw_of (tb_3 (List.mem_of_getElem? (i := 149) rfl)) rfl
theorem w263 : Cond.lays "java/lang/IllegalArgumentException" "java/lang/Throwable" "stackTrace" "[Ljava/lang/StackTraceElement;" ∈ aW := aw_of (tb_3 (List.mem_of_getElem? (i := 148) rfl)) rfl
theorem w264 : Cond.lays "java/lang/IllegalArgumentException" "java/lang/Throwable" "cause" "Ljava/lang/Throwable;" ∈ aW := aw_of (tb_3 (List.mem_of_getElem? (i := 147) rfl)) rfl
theorem w265 : Cond.selects "java/lang/IllegalArgumentException" ⟨"java/lang/Throwable", "fillInStackTrace", "()Ljava/lang/Throwable;"⟩ ⟨"java/lang/Throwable", "fillInStackTrace", "()Ljava/lang/Throwable;"⟩ ∈ aW := aw_of (tb_3 (List.mem_of_getElem? (i := 89) rfl)) rfl
theorem w266 : Cond.selects "java/lang/IllegalArgumentException" ⟨"java/lang/Throwable", "fillInStackTrace", "(I)Ljava/lang/Throwable;"⟩ ⟨"java/lang/Throwable", "fillInStackTrace", "(I)Ljava/lang/Throwable;"⟩ ∈ aW := aw_of (tb_3 (List.mem_of_getElem? (i := 146) rfl)) rfl
theorem w267 : Cond.castable "java/lang/IllegalArgumentException" "java/lang/IllegalArgumentException" ∈ aW := aw_of (tb_3 (List.mem_of_getElem? (i := 145) rfl)) rfl
theorem w268 : Cond.instantiable "java/lang/IllegalArgumentException" 6 ∈ aW := aw_of (tb_3 (List.mem_of_getElem? (i := 144) rfl)) rfl
theorem w269 : Cond.methodLink "SeriesVault" 91 ⟨"java/lang/IllegalArgumentException", "<init>", "()V"⟩ ∈ aW := aw_of (tb_3 (List.mem_of_getElem? (i := 152) rfl)) rfl
theorem w270 : Cond.methodLink "java/lang/IllegalArgumentException" 1 ⟨"java/lang/RuntimeException", "<init>", "()V"⟩ ∈ aW := aw_of (tb_3 (List.mem_of_getElem? (i := 155) rfl)) rfl
theorem w271 : Cond.code ⟨"java/lang/IllegalArgumentException", "<init>", "()V"⟩ prog_20_method_1_code 1 none ∈ aW := aw_of (tb_3 (List.mem_of_getElem? (i := 154) rfl)) rfl
theorem w272 : Cond.instanceMethod ⟨"java/lang/IllegalArgumentException", "<init>", "()V"⟩ ∈ aW := aw_of (tb_3 (List.mem_of_getElem? (i := 153) rfl)) rfl
theorem w273 : Cond.classLink "SeriesVault" 89 "java/lang/IllegalArgumentException" ∈ aW := aw_of (tb_3 (List.mem_of_getElem? (i := 143) rfl)) rfl
theorem w274 : Cond.initialized "java/lang/IllegalArgumentException" ∈ aW := aw_of (tb_1 (List.mem_of_getElem? (i := 21) rfl)) rfl
theorem at_V_IAE {s : State} {args : Array Value} (hE : eV s) : ∀ w ∈ Bundle.ownAtoms0 "SeriesVault" 91 "java/lang/IllegalArgumentException" ["java/lang/RuntimeException", "java/lang/Exception"], w.before args s = true := List.forall_mem_cons.mpr ⟨hE.t w256 rfl, List.forall_mem_cons.mpr ⟨hE.t w255 rfl, List.forall_mem_cons.mpr ⟨hE.t w254 rfl, List.forall_mem_cons.mpr ⟨hE.t w253 rfl, List.forall_mem_cons.mpr ⟨hE.t w252 rfl, List.forall_mem_cons.mpr ⟨hE.t w251 rfl, List.forall_mem_cons.mpr ⟨hE.t w226 rfl, List.forall_mem_cons.mpr ⟨hE.t w250 rfl, List.forall_mem_cons.mpr ⟨hE.t w182 rfl, List.forall_mem_cons.mpr ⟨hE.t w183 rfl, List.forall_mem_cons.mpr ⟨hE.t w249 rfl, List.forall_mem_cons.mpr ⟨hE.t w248 rfl, List.forall_mem_cons.mpr ⟨hE.t w247 rfl, List.forall_mem_cons.mpr ⟨hE.t w246 rfl, List.forall_mem_cons.mpr ⟨hE.t w245 rfl, List.forall_mem_cons.mpr ⟨hE.t w244 rfl, List.forall_mem_cons.mpr ⟨hE.t w243 rfl, List.forall_mem_cons.mpr ⟨hE.t w242 rfl, List.forall_mem_cons.mpr ⟨hE.t w241 rfl, List.forall_mem_cons.mpr ⟨hE.t w240 rfl, List.forall_mem_cons.mpr ⟨ho_1 hE.2.1, List.forall_mem_cons.mpr ⟨hE.t w239 rfl, List.forall_mem_cons.mpr ⟨ho_1 hE.2.2.1, List.forall_mem_cons.mpr ⟨hE.t w238 rfl, List.forall_mem_cons.mpr ⟨hE.t w272 rfl, List.forall_mem_cons.mpr ⟨hE.t w271 rfl, List.forall_mem_cons.mpr ⟨hE.t w270 rfl, List.forall_mem_cons.mpr ⟨hE.t w233 rfl, List.forall_mem_cons.mpr ⟨hE.t w234 rfl, List.forall_mem_cons.mpr ⟨hE.t w233 rfl, List.forall_mem_cons.mpr ⟨hE.t w232 rfl, List.forall_mem_cons.mpr ⟨hE.t w231 rfl, List.forall_mem_cons.mpr ⟨hE.t w229 rfl, List.forall_mem_cons.mpr ⟨hE.t w230 rfl, List.forall_mem_cons.mpr ⟨hE.t w229 rfl, List.forall_mem_cons.mpr ⟨hE.t w228 rfl, List.forall_mem_cons.mpr ⟨hE.t w227 rfl, List.forall_mem_cons.mpr ⟨hE.t w226 rfl, List.forall_mem_cons.mpr ⟨hE.t w225 rfl, List.forall_mem_cons.mpr ⟨hE.t w269 rfl, List.forall_mem_cons.mpr ⟨hE.t w268 rfl, List.forall_mem_cons.mpr ⟨hE.t w267 rfl, List.forall_mem_cons.mpr ⟨hE.t w266 rfl, List.forall_mem_cons.mpr ⟨hE.t w265 rfl, List.forall_mem_cons.mpr ⟨hE.t w264 rfl, List.forall_mem_cons.mpr ⟨hE.t w263 rfl, List.forall_mem_cons.mpr ⟨hE.t w262 rfl, List.forall_mem_cons.mpr ⟨hE.t w261 rfl, List.forall_mem_cons.mpr ⟨ho_2 hE.2.2.2.1, List.forall_mem_cons.mpr ⟨ho_2 hE.2.2.2.2.1, List.forall_mem_cons.mpr ⟨hE.t w215 rfl, List.forall_mem_cons.mpr ⟨hE.t w214 rfl, List.forall_mem_cons.mpr ⟨hE.t w260 rfl, fun _ h => absurd h List.not_mem_nil⟩⟩⟩⟩⟩⟩⟩⟩⟩⟩⟩⟩⟩⟩⟩⟩⟩⟩⟩⟩⟩⟩⟩⟩⟩⟩⟩⟩⟩⟩⟩⟩⟩⟩⟩⟩⟩⟩⟩⟩⟩⟩⟩⟩⟩⟩⟩⟩⟩⟩⟩⟩⟩
set_option maxHeartbeats 4000000 in
set_option maxRecDepth 100000 in
theorem c_V_end_x (l : Launch) (htr : l.stackTraces = false) (D : va_G) (dA : Nat → ClassId) (sz : Nat) (a : Nat) (fs : List Value) (tl : Int32) (n : Int32) (h0 : n < 0 ∨ tl < n) (h_fs_tapeLength : fs[1]? = some (.int tl)) (hl_fs : fs.length = 18) : mX l ⟨"SeriesVault", "end", "(I)V"⟩ [Cond.code ⟨"SeriesVault", "end", "(I)V"⟩ prog_1_method_4_code 2 none] { frames := 6, cells := 1, slots := 6, locals := 81 } (pC D dA [.ref a, .int n] [(a, .inr (0, fs))] sz) "java/lang/IllegalArgumentException" (fun st9 t9 => va_F (va_A [(a, .inr (0, fs))] sz) st9 t9 ∧ bW D (va_A [(a, .inr (0, fs))] sz) [(a, .inr (0, fs))] t9) 1 6 (va_A [(a, .inr (0, fs))] sz) := by
  refine mkX (B := fun A => fun st9 t9 => va_F A st9 t9 ∧ bW D A [(a, .inr (0, fs))] t9) (by decide) (Nat.le_of_ble_eq_true rfl) ?_
  intro A p e s m below meth c ls hsz hno hB
  obtain ⟨hx, hb, hr, hml, hown, hin, hlk, hE, hK, hP, hD, hS, hA, hN, hl⟩ := hB
  have hown : s.vm.findClass "SeriesVault" = some m.cls := hown
  have hin : meth.name = "end" := hin
  have hl : lv_has ls 2 [(0, .ref a), (1, .int n)] := hl
  obtain ⟨H, hH⟩ : ∃ z, z = s.heap := ⟨_, rfl⟩
  have hP : va_P D vwCl [(a, .inr (0, fs))] H := by rw [hH]; exact hP
  have hS : va_S A s.heap H [] := by rw [hH]; exact hS
  rw [← hH]
  refine lv_iload_n hx hb d_V_end_0 rfl (lv_at hl 1 rfl) ?_
  refine lv_if_lt hx hb d_V_end_1 (tgt := 12) rfl (fun hc => ?_) (fun hc => ?_)
  · exact xNew (E := "java/lang/IllegalArgumentException") (names := ["java/lang/RuntimeException", "java/lang/Exception"]) hx hb htr hown (by decide) (by decide) hE w273 w274 (fun U hU => at_V_IAE hU) (hN _ _ hS) (hl.1.trans hml.symm) d_V_end_12 d_V_end_15 d_V_end_16 d_V_end_19 hno (by decide) (Nat.le_of_ble_eq_true rfl) (Nat.le_of_ble_eq_true rfl) (Nat.le_of_ble_eq_true rfl) hlk (fun t h1 h2 => xEnd hP hD hS [0] rfl rfl (by decide) t h1 h2) hS.2.2 (Nat.le_of_ble_eq_true rfl) (Nat.le_of_ble_eq_true rfl)
  · refine lv_iload_n hx hb d_V_end_4 rfl (lv_at hl 1 rfl) ?_
    refine lv_aload_n hx hb d_V_end_5 rfl (lv_at hl 0 rfl) ?_
    refine gF (v := .int tl) hx hb hown hE hK hP 0 rfl rfl layV 1 (by decide) w259 h_fs_tapeLength d_V_end_6 ?_
    refine lv_icmp_le hx hb d_V_end_9 (tgt := 20) rfl (fun h9 => absurd h9 (Int32.not_le.mpr (h0.resolve_left hc))) (fun _ => ?_)
    exact xNew (E := "java/lang/IllegalArgumentException") (names := ["java/lang/RuntimeException", "java/lang/Exception"]) hx hb htr hown (by decide) (by decide) hE w273 w274 (fun U hU => at_V_IAE hU) (hN _ _ hS) (hl.1.trans hml.symm) d_V_end_12 d_V_end_15 d_V_end_16 d_V_end_19 hno (by decide) (Nat.le_of_ble_eq_true rfl) (Nat.le_of_ble_eq_true rfl) (Nat.le_of_ble_eq_true rfl) hlk (fun t h1 h2 => xEnd hP hD hS [0] rfl rfl (by decide) t h1 h2) hS.2.2 (Nat.le_of_ble_eq_true rfl) (Nat.le_of_ble_eq_true rfl)
theorem d_V_checkPower_0 : decode prog_1_method_13_code 0 = .ok (.aload_n 0, 1) := by decide +kernel
theorem d_V_checkPower_1 : decode prog_1_method_13_code 1 = .ok (.getfield 104, 3) := by decide +kernel
theorem d_V_checkPower_4 : decode prog_1_method_13_code 4 = .ok (.ifCond .ne 11, 3) := by decide +kernel
theorem d_V_checkPower_15 : decode prog_1_method_13_code 15 = .ok (.return_, 1) := by decide +kernel
theorem w275 : Cond.fieldLink "SeriesVault" 104 "SeriesVault" "powered" "Z" ∈ aW := aw_of (tb_2 (List.mem_of_getElem? (i := 210) rfl)) rfl
set_option maxHeartbeats 4000000 in
set_option maxRecDepth 100000 in
theorem c_V_checkPower (l : Launch) (D : va_G) (dA : Nat → ClassId) (sz : Nat) (a : Nat) (fs : List Value) (h_fs_powered : fs[5]? = some (.int 1)) (hl_fs : fs.length = 18) : Met l ⟨"SeriesVault", "checkPower", "()V"⟩ [Cond.code ⟨"SeriesVault", "checkPower", "()V"⟩ prog_1_method_13_code 1 none] { frames := 1, cells := 0, slots := 0, locals := 0 } (pC D dA [.ref a] [(a, .inr (0, fs))] sz) (va_Qv (fun (_ : Unit) => True) (fun (u9 : Unit) t9 => bW D (va_A [(a, .inr (0, fs))] sz) [(a, .inr (0, fs))] t9) (va_A [(a, .inr (0, fs))] sz)) 0 0 (va_A [(a, .inr (0, fs))] sz) := by
  refine mkC (Qc := fun A => va_Qv (fun (_ : Unit) => True) (fun (u9 : Unit) t9 => bW D A [(a, .inr (0, fs))] t9) A) (by decide) (Nat.le_of_ble_eq_true rfl) ?_
  intro A p e s m below meth c ls hsz hB
  obtain ⟨hx, hb, hr, hml, hown, hin, hlk, hE, hK, hP, hD, hS, hA, hN, hl⟩ := hB
  have hown : s.vm.findClass "SeriesVault" = some m.cls := hown
  have hin : meth.name = "checkPower" := hin
  have hl : lv_has ls 1 [(0, .ref a)] := hl
  obtain ⟨H, hH⟩ : ∃ z, z = s.heap := ⟨_, rfl⟩
  have hP : va_P D vwCl [(a, .inr (0, fs))] H := by rw [hH]; exact hP
  have hS : va_S A s.heap H [] := by rw [hH]; exact hS
  rw [← hH]
  refine lv_aload_n hx hb d_V_checkPower_0 rfl (lv_at hl 0 rfl) ?_
  refine gF (v := .int 1) hx hb hown hE hK hP 0 rfl rfl layV 5 (by decide) w275 h_fs_powered d_V_checkPower_1 ?_
  refine lv_if_ne hx hb d_V_checkPower_4 (tgt := 15) rfl (fun _ => ?_) (fun h9 => absurd h9 (by decide))
  exact rtV hx hb hr hlk hP hD hS () trivial [0] rfl rfl (by decide) (Nat.le_of_ble_eq_true rfl) (Nat.le_of_ble_eq_true rfl) d_V_checkPower_15
theorem d_V_off_0 : decode prog_1_method_12_code 0 = .ok (.aload_n 0, 1) := by decide +kernel
theorem d_V_off_1 : decode prog_1_method_12_code 1 = .ok (.invokevirtual 124, 3) := by decide +kernel
theorem d_V_off_4 : decode prog_1_method_12_code 4 = .ok (.aload_n 0, 1) := by decide +kernel
theorem d_V_off_5 : decode prog_1_method_12_code 5 = .ok (.iconst 0, 1) := by decide +kernel
theorem d_V_off_6 : decode prog_1_method_12_code 6 = .ok (.putfield 104, 3) := by decide +kernel
theorem d_V_off_9 : decode prog_1_method_12_code 9 = .ok (.return_, 1) := by decide +kernel
theorem w276 : Cond.methodLink "SeriesVault" 124 ⟨"SeriesVault", "checkPower", "()V"⟩ ∈ aW := aw_of (tb_3 (List.mem_of_getElem? (i := 173) rfl)) rfl
theorem w277 : Cond.initialized "SeriesVault" ∈ aW := aw_of (tb_1 (List.mem_of_getElem? (i := 1) rfl)) rfl
theorem w278 : Cond.code ⟨"SeriesVault", "checkPower", "()V"⟩ prog_1_method_13_code 1 none ∈ aW := aw_of (tb_3 (List.mem_of_getElem? (i := 176) rfl)) rfl
theorem w279 : Cond.instanceMethod ⟨"SeriesVault", "checkPower", "()V"⟩ ∈ aW := aw_of (tb_3 (List.mem_of_getElem? (i := 175) rfl)) rfl
theorem w280 : Cond.selects "SeriesVault" ⟨"SeriesVault", "checkPower", "()V"⟩ ⟨"SeriesVault", "checkPower", "()V"⟩ ∈ aW := aw_pr (List.mem_map.mpr ⟨_, pv_1 (List.mem_of_getElem? (i := 6) rfl), rfl⟩) rfl
set_option maxHeartbeats 4000000 in
set_option maxRecDepth 100000 in
theorem c_V_off (l : Launch) (D : va_G) (dA : Nat → ClassId) (sz : Nat) (a : Nat) (fs : List Value) (h_fs_powered : fs[5]? = some (.int 1)) (hl_fs : fs.length = 18) : Met l ⟨"SeriesVault", "off", "()V"⟩ [Cond.code ⟨"SeriesVault", "off", "()V"⟩ prog_1_method_12_code 1 none] { frames := 2, cells := 0, slots := 0, locals := 20 } (pC D dA [.ref a] [(a, .inr (0, fs))] sz) (va_Qv (fun (_ : Unit) => True) (fun (u9 : Unit) t9 => bW D (va_A [(a, .inr (0, fs))] sz) [(a, .inr (0, (fs.set 5 (.int 0))))] t9) (va_A [(a, .inr (0, fs))] sz)) 0 0 (va_A [(a, .inr (0, fs))] sz) := by
  refine mkC (Qc := fun A => va_Qv (fun (_ : Unit) => True) (fun (u9 : Unit) t9 => bW D A [(a, .inr (0, (fs.set 5 (.int 0))))] t9) A) (by decide) (Nat.le_of_ble_eq_true rfl) ?_
  intro A p e s m below meth c ls hsz hB
  obtain ⟨hx, hb, hr, hml, hown, hin, hlk, hE, hK, hP, hD, hS, hA, hN, hl⟩ := hB
  have hown : s.vm.findClass "SeriesVault" = some m.cls := hown
  have hin : meth.name = "off" := hin
  have hl : lv_has ls 1 [(0, .ref a)] := hl
  obtain ⟨H, hH⟩ : ∃ z, z = s.heap := ⟨_, rfl⟩
  have hP : va_P D vwCl [(a, .inr (0, fs))] H := by rw [hH]; exact hP
  have hS : va_S A s.heap H [] := by rw [hH]; exact hS
  rw [← hH]
  refine lv_aload_n hx hb d_V_off_0 rfl (lv_at hl 0 rfl) ?_
  have hPc := hP.sub (ws' := [(a, .inr (0, fs))]) [0] rfl
  have hDc := hD.sub (ws' := [(a, .inr (0, fs))]) [0] (by decide) rfl
  refine jnV (rnV (As := []) (rest := []) hx hb hml hown hE hK (hN _ _ hS) hPc hDc (c_V_checkPower l D dA H.size a fs h_fs_powered hl_fs) (q0 := 0) rfl rfl w278 w276 w279 w280 w277 rfl rfl ⟨⟨by decide, by decide⟩, rfl⟩ ⟨(Nat.le_of_ble_eq_true rfl), (Nat.le_of_ble_eq_true rfl)⟩ rfl hl.1 rfl (Nat.le_of_ble_eq_true rfl) d_V_off_1 ⟨(Nat.le_of_ble_eq_true rfl), (Nat.le_of_ble_eq_true rfl)⟩) hP hD hS hA [0] [] (wr := []) rfl rfl (by decide) (by decide) (fun u9 H locs hp9 hP hD hS => ?_)
  have hP : va_P D vwCl [(a, .inr (0, fs))] H := hP
  have hD : va_D A [(a, .inr (0, fs))] := hD
  refine lv_aload_n hx hb d_V_off_4 rfl (lv_at hl 0 rfl) ?_
  refine lv_iconst (v := 0) hx hb d_V_off_5 (by decide) ?_
  refine pF hx hb hown hE hK hP hD hS 0 rfl rfl layV tyV tokV nmV 5 (by decide) w275 rfl rfl rfl (by simp [hl_fs]) d_V_off_6 (fun H locs hP hD hS => ?_)
  have hP : va_P D vwCl [(a, .inr (0, (fs.set 5 (.int 0))))] H := hP
  have hD : va_D A [(a, .inr (0, (fs.set 5 (.int 0))))] := hD
  exact rtV hx hb hr hlk hP hD hS () trivial [0] rfl rfl (by decide) (Nat.le_of_ble_eq_true rfl) (Nat.le_of_ble_eq_true rfl) d_V_off_9
theorem d_V_cut_0 : decode prog_1_method_11_code 0 = .ok (.aload_n 0, 1) := by decide +kernel
theorem d_V_cut_1 : decode prog_1_method_11_code 1 = .ok (.invokevirtual 124, 3) := by decide +kernel
theorem d_V_cut_4 : decode prog_1_method_11_code 4 = .ok (.iload_n 1, 1) := by decide +kernel
theorem d_V_cut_5 : decode prog_1_method_11_code 5 = .ok (.iconst (-1), 1) := by decide +kernel
theorem d_V_cut_6 : decode prog_1_method_11_code 6 = .ok (.if_icmp .ge 11, 3) := by decide +kernel
theorem d_V_cut_17 : decode prog_1_method_11_code 17 = .ok (.aload_n 0, 1) := by decide +kernel
theorem d_V_cut_18 : decode prog_1_method_11_code 18 = .ok (.iload_n 1, 1) := by decide +kernel
theorem d_V_cut_19 : decode prog_1_method_11_code 19 = .ok (.putfield 108, 3) := by decide +kernel
theorem d_V_cut_22 : decode prog_1_method_11_code 22 = .ok (.return_, 1) := by decide +kernel
theorem w281 : Cond.fieldLink "SeriesVault" 108 "SeriesVault" "cutLeft" "I" ∈ aW := aw_of (tb_2 (List.mem_of_getElem? (i := 211) rfl)) rfl
set_option maxHeartbeats 4000000 in
set_option maxRecDepth 100000 in
theorem c_V_cut (l : Launch) (D : va_G) (dA : Nat → ClassId) (sz : Nat) (a : Nat) (fs : List Value) (n : Int32) (h1 : (-1) ≤ n) (h_fs_powered : fs[5]? = some (.int 1)) (hl_fs : fs.length = 18) : Met l ⟨"SeriesVault", "cut", "(I)V"⟩ [Cond.code ⟨"SeriesVault", "cut", "(I)V"⟩ prog_1_method_11_code 2 none] { frames := 2, cells := 0, slots := 0, locals := 20 } (pC D dA [.ref a, .int n] [(a, .inr (0, fs))] sz) (va_Qv (fun (_ : Unit) => True) (fun (u9 : Unit) t9 => bW D (va_A [(a, .inr (0, fs))] sz) [(a, .inr (0, (fs.set 6 (.int n))))] t9) (va_A [(a, .inr (0, fs))] sz)) 0 0 (va_A [(a, .inr (0, fs))] sz) := by
  refine mkC (Qc := fun A => va_Qv (fun (_ : Unit) => True) (fun (u9 : Unit) t9 => bW D A [(a, .inr (0, (fs.set 6 (.int n))))] t9) A) (by decide) (Nat.le_of_ble_eq_true rfl) ?_
  intro A p e s m below meth c ls hsz hB
  obtain ⟨hx, hb, hr, hml, hown, hin, hlk, hE, hK, hP, hD, hS, hA, hN, hl⟩ := hB
  have hown : s.vm.findClass "SeriesVault" = some m.cls := hown
  have hin : meth.name = "cut" := hin
  have hl : lv_has ls 2 [(0, .ref a), (1, .int n)] := hl
  obtain ⟨H, hH⟩ : ∃ z, z = s.heap := ⟨_, rfl⟩
  have hP : va_P D vwCl [(a, .inr (0, fs))] H := by rw [hH]; exact hP
  have hS : va_S A s.heap H [] := by rw [hH]; exact hS
  rw [← hH]
  refine lv_aload_n hx hb d_V_cut_0 rfl (lv_at hl 0 rfl) ?_
  have hPc := hP.sub (ws' := [(a, .inr (0, fs))]) [0] rfl
  have hDc := hD.sub (ws' := [(a, .inr (0, fs))]) [0] (by decide) rfl
  refine jnV (rnV (As := []) (rest := []) hx hb hml hown hE hK (hN _ _ hS) hPc hDc (c_V_checkPower l D dA H.size a fs h_fs_powered hl_fs) (q0 := 0) rfl rfl w278 w276 w279 w280 w277 rfl rfl ⟨⟨by decide, by decide⟩, rfl⟩ ⟨(Nat.le_of_ble_eq_true rfl), (Nat.le_of_ble_eq_true rfl)⟩ rfl hl.1 rfl (Nat.le_of_ble_eq_true rfl) d_V_cut_1 ⟨(Nat.le_of_ble_eq_true rfl), (Nat.le_of_ble_eq_true rfl)⟩) hP hD hS hA [0] [] (wr := []) rfl rfl (by decide) (by decide) (fun u9 H locs hp9 hP hD hS => ?_)
  have hP : va_P D vwCl [(a, .inr (0, fs))] H := hP
  have hD : va_D A [(a, .inr (0, fs))] := hD
  refine lv_iload_n hx hb d_V_cut_4 rfl (lv_at hl 1 rfl) ?_
  refine lv_iconst (v := (-1)) hx hb d_V_cut_5 (by decide) ?_
  refine lv_icmp_ge hx hb d_V_cut_6 (tgt := 17) rfl (fun _ => ?_) (fun h9 => absurd h1 h9)
  refine lv_aload_n hx hb d_V_cut_17 rfl (lv_at hl 0 rfl) ?_
  refine lv_iload_n hx hb d_V_cut_18 rfl (lv_at hl 1 rfl) ?_
  refine pF hx hb hown hE hK hP hD hS 0 rfl rfl layV tyV tokV nmV 6 (by decide) w281 rfl rfl rfl (by simp [hl_fs]) d_V_cut_19 (fun H locs hP hD hS => ?_)
  have hP : va_P D vwCl [(a, .inr (0, (fs.set 6 (.int n))))] H := hP
  have hD : va_D A [(a, .inr (0, (fs.set 6 (.int n))))] := hD
  exact rtV hx hb hr hlk hP hD hS () trivial [0] rfl rfl (by decide) (Nat.le_of_ble_eq_true rfl) (Nat.le_of_ble_eq_true rfl) d_V_cut_22
theorem d_V_cut_9 : decode prog_1_method_11_code 9 = .ok (.new 89, 3) := by decide +kernel
theorem d_V_cut_12 : decode prog_1_method_11_code 12 = .ok (.dup, 1) := by decide +kernel
theorem d_V_cut_13 : decode prog_1_method_11_code 13 = .ok (.invokespecial 91, 3) := by decide +kernel
theorem d_V_cut_16 : decode prog_1_method_11_code 16 = .ok (.athrow, 1) := by decide +kernel
set_option maxHeartbeats 4000000 in
set_option maxRecDepth 100000 in
theorem c_V_cut_x (l : Launch) (htr : l.stackTraces = false) (D : va_G) (dA : Nat → ClassId) (sz : Nat) (a : Nat) (fs : List Value) (n : Int32) (h1 : n < (-1)) (h_fs_powered : fs[5]? = some (.int 1)) (hl_fs : fs.length = 18) : mX l ⟨"SeriesVault", "cut", "(I)V"⟩ [Cond.code ⟨"SeriesVault", "cut", "(I)V"⟩ prog_1_method_11_code 2 none] { frames := 6, cells := 1, slots := 6, locals := 81 } (pC D dA [.ref a, .int n] [(a, .inr (0, fs))] sz) "java/lang/IllegalArgumentException" (fun st9 t9 => va_F (va_A [(a, .inr (0, fs))] sz) st9 t9 ∧ bW D (va_A [(a, .inr (0, fs))] sz) [(a, .inr (0, fs))] t9) 1 6 (va_A [(a, .inr (0, fs))] sz) := by
  refine mkX (B := fun A => fun st9 t9 => va_F A st9 t9 ∧ bW D A [(a, .inr (0, fs))] t9) (by decide) (Nat.le_of_ble_eq_true rfl) ?_
  intro A p e s m below meth c ls hsz hno hB
  obtain ⟨hx, hb, hr, hml, hown, hin, hlk, hE, hK, hP, hD, hS, hA, hN, hl⟩ := hB
  have hown : s.vm.findClass "SeriesVault" = some m.cls := hown
  have hin : meth.name = "cut" := hin
  have hl : lv_has ls 2 [(0, .ref a), (1, .int n)] := hl
  obtain ⟨H, hH⟩ : ∃ z, z = s.heap := ⟨_, rfl⟩
  have hP : va_P D vwCl [(a, .inr (0, fs))] H := by rw [hH]; exact hP
  have hS : va_S A s.heap H [] := by rw [hH]; exact hS
  rw [← hH]
  refine lv_aload_n hx hb d_V_cut_0 rfl (lv_at hl 0 rfl) ?_
  have hPc := hP.sub (ws' := [(a, .inr (0, fs))]) [0] rfl
  have hDc := hD.sub (ws' := [(a, .inr (0, fs))]) [0] (by decide) rfl
  refine jnV (rnV (As := []) (rest := []) hx hb hml hown hE hK (hN _ _ hS) hPc hDc (c_V_checkPower l D dA H.size a fs h_fs_powered hl_fs) (q0 := 0) rfl rfl w278 w276 w279 w280 w277 rfl rfl ⟨⟨by decide, by decide⟩, rfl⟩ ⟨(Nat.le_of_ble_eq_true rfl), (Nat.le_of_ble_eq_true rfl)⟩ rfl hl.1 rfl (Nat.le_of_ble_eq_true rfl) d_V_cut_1 ⟨(Nat.le_of_ble_eq_true rfl), (Nat.le_of_ble_eq_true rfl)⟩) hP hD hS hA [0] [] (wr := []) rfl rfl (by decide) (by decide) (fun u9 H locs hp9 hP hD hS => ?_)
  have hP : va_P D vwCl [(a, .inr (0, fs))] H := hP
  have hD : va_D A [(a, .inr (0, fs))] := hD
  refine lv_iload_n hx hb d_V_cut_4 rfl (lv_at hl 1 rfl) ?_
  refine lv_iconst (v := (-1)) hx hb d_V_cut_5 (by decide) ?_
  refine lv_icmp_ge hx hb d_V_cut_6 (tgt := 17) rfl (fun h9 => absurd h9 (Int32.not_le.mpr (h1))) (fun _ => ?_)
  exact xNew (E := "java/lang/IllegalArgumentException") (names := ["java/lang/RuntimeException", "java/lang/Exception"]) hx hb htr hown (by decide) (by decide) hE w273 w274 (fun U hU => at_V_IAE hU) (hN _ _ hS) (hl.1.trans hml.symm) d_V_cut_9 d_V_cut_12 d_V_cut_13 d_V_cut_16 hno (by decide) (Nat.le_of_ble_eq_true rfl) (Nat.le_of_ble_eq_true rfl) (Nat.le_of_ble_eq_true rfl) hlk (fun t h1 h2 => xEnd hP hD hS [0] rfl rfl (by decide) t h1 h2) hS.2.2 (Nat.le_of_ble_eq_true rfl) (Nat.le_of_ble_eq_true rfl)
theorem d_V_start_0 : decode prog_1_method_18_code 0 = .ok (.aload_n 0, 1) := by decide +kernel
theorem d_V_start_1 : decode prog_1_method_18_code 1 = .ok (.getfield 104, 3) := by decide +kernel
theorem d_V_start_4 : decode prog_1_method_18_code 4 = .ok (.ifCond .eq 11, 3) := by decide +kernel
theorem d_V_start_7 : decode prog_1_method_18_code 7 = .ok (.new 127, 3) := by decide +kernel
theorem d_V_start_10 : decode prog_1_method_18_code 10 = .ok (.dup, 1) := by decide +kernel
theorem d_V_start_11 : decode prog_1_method_18_code 11 = .ok (.invokespecial 129, 3) := by decide +kernel
theorem d_V_start_14 : decode prog_1_method_18_code 14 = .ok (.athrow, 1) := by decide +kernel
theorem w282 : Cond.lays "java/lang/IllegalStateException" "java/lang/Throwable" "backtrace" "Ljava/lang/Object;" ∈ aW := aw_of (tb_3 (List.mem_of_getElem? (i := 185) rfl)) rfl
theorem w283 : Cond.lays "java/lang/IllegalStateException" "java/lang/Throwable" "detailMessage" "Ljava/lang/String;" ∈ aW := aw_of (tb_3 (List.mem_of_getElem? (i := 184) rfl)) rfl
theorem w284 : Cond.lays "java/lang/IllegalStateException" "java/lang/Throwable" "suppressedExceptions" "Ljava/util/List;" ∈ aW := aw_of (tb_3 (List.mem_of_getElem? (i := 183) rfl)) rfl
theorem w285 : Cond.lays "java/lang/IllegalStateException" "java/lang/Throwable" "stackTrace" "[Ljava/lang/StackTraceElement;" ∈ aW := aw_of (tb_3 (List.mem_of_getElem? (i := 182) rfl)) rfl
theorem w286 : Cond.lays "java/lang/IllegalStateException" "java/lang/Throwable" "cause" "Ljava/lang/Throwable;" ∈ aW := aw_of (tb_3 (List.mem_of_getElem? (i := 181) rfl)) rfl
theorem w287 : Cond.selects "java/lang/IllegalStateException" ⟨"java/lang/Throwable", "fillInStackTrace", "()Ljava/lang/Throwable;"⟩ ⟨"java/lang/Throwable", "fillInStackTrace", "()Ljava/lang/Throwable;"⟩ ∈ aW := aw_of (tb_3 (List.mem_of_getElem? (i := 90) rfl)) rfl
theorem w288 : Cond.selects "java/lang/IllegalStateException" ⟨"java/lang/Throwable", "fillInStackTrace", "(I)Ljava/lang/Throwable;"⟩ ⟨"java/lang/Throwable", "fillInStackTrace", "(I)Ljava/lang/Throwable;"⟩ ∈ aW := aw_of (tb_3 (List.mem_of_getElem? (i := 180) rfl)) rfl
theorem w289 : Cond.castable "java/lang/IllegalStateException" "java/lang/IllegalStateException" ∈ aW := aw_of (tb_3 (List.mem_of_getElem? (i := 179) rfl)) rfl
theorem w290 : Cond.instantiable "java/lang/IllegalStateException" 6 ∈ aW := aw_of (tb_3 (List.mem_of_getElem? (i := 178) rfl)) rfl
theorem w291 : Cond.methodLink "SeriesVault" 129 ⟨"java/lang/IllegalStateException", "<init>", "()V"⟩ ∈ aW := aw_of (tb_3 (List.mem_of_getElem? (i := 186) rfl)) rfl
theorem w292 : Cond.methodLink "java/lang/IllegalStateException" 1 ⟨"java/lang/RuntimeException", "<init>", "()V"⟩ ∈ aW := aw_of (tb_3 (List.mem_of_getElem? (i := 189) rfl)) rfl
theorem w293 : Cond.code ⟨"java/lang/IllegalStateException", "<init>", "()V"⟩ prog_21_method_1_code 1 none ∈ aW := aw_of (tb_3 (List.mem_of_getElem? (i := 188) rfl)) rfl
theorem w294 : Cond.instanceMethod ⟨"java/lang/IllegalStateException", "<init>", "()V"⟩ ∈ aW := aw_of (tb_3 (List.mem_of_getElem? (i := 187) rfl)) rfl
theorem w295 : Cond.classLink "SeriesVault" 127 "java/lang/IllegalStateException" ∈ aW := aw_of (tb_3 (List.mem_of_getElem? (i := 177) rfl)) rfl
theorem w296 : Cond.initialized "java/lang/IllegalStateException" ∈ aW := aw_of (tb_1 (List.mem_of_getElem? (i := 22) rfl)) rfl
theorem at_V_ISE {s : State} {args : Array Value} (hE : eV s) : ∀ w ∈ Bundle.ownAtoms0 "SeriesVault" 129 "java/lang/IllegalStateException" ["java/lang/RuntimeException", "java/lang/Exception"], w.before args s = true := List.forall_mem_cons.mpr ⟨hE.t w256 rfl, List.forall_mem_cons.mpr ⟨hE.t w255 rfl, List.forall_mem_cons.mpr ⟨hE.t w254 rfl, List.forall_mem_cons.mpr ⟨hE.t w253 rfl, List.forall_mem_cons.mpr ⟨hE.t w252 rfl, List.forall_mem_cons.mpr ⟨hE.t w251 rfl, List.forall_mem_cons.mpr ⟨hE.t w226 rfl, List.forall_mem_cons.mpr ⟨hE.t w250 rfl, List.forall_mem_cons.mpr ⟨hE.t w182 rfl, List.forall_mem_cons.mpr ⟨hE.t w183 rfl, List.forall_mem_cons.mpr ⟨hE.t w249 rfl, List.forall_mem_cons.mpr ⟨hE.t w248 rfl, List.forall_mem_cons.mpr ⟨hE.t w247 rfl, List.forall_mem_cons.mpr ⟨hE.t w246 rfl, List.forall_mem_cons.mpr ⟨hE.t w245 rfl, List.forall_mem_cons.mpr ⟨hE.t w244 rfl, List.forall_mem_cons.mpr ⟨hE.t w243 rfl, List.forall_mem_cons.mpr ⟨hE.t w242 rfl, List.forall_mem_cons.mpr ⟨hE.t w241 rfl, List.forall_mem_cons.mpr ⟨hE.t w240 rfl, List.forall_mem_cons.mpr ⟨ho_1 hE.2.1, List.forall_mem_cons.mpr ⟨hE.t w239 rfl, List.forall_mem_cons.mpr ⟨ho_1 hE.2.2.1, List.forall_mem_cons.mpr ⟨hE.t w238 rfl, List.forall_mem_cons.mpr ⟨hE.t w294 rfl, List.forall_mem_cons.mpr ⟨hE.t w293 rfl, List.forall_mem_cons.mpr ⟨hE.t w292 rfl, List.forall_mem_cons.mpr ⟨hE.t w233 rfl, List.forall_mem_cons.mpr ⟨hE.t w234 rfl, List.forall_mem_cons.mpr ⟨hE.t w233 rfl, List.forall_mem_cons.mpr ⟨hE.t w232 rfl, List.forall_mem_cons.mpr ⟨hE.t w231 rfl, List.forall_mem_cons.mpr ⟨hE.t w229 rfl, List.forall_mem_cons.mpr ⟨hE.t w230 rfl, List.forall_mem_cons.mpr ⟨hE.t w229 rfl, List.forall_mem_cons.mpr ⟨hE.t w228 rfl, List.forall_mem_cons.mpr ⟨hE.t w227 rfl, List.forall_mem_cons.mpr ⟨hE.t w226 rfl, List.forall_mem_cons.mpr ⟨hE.t w225 rfl, List.forall_mem_cons.mpr ⟨hE.t w291 rfl, List.forall_mem_cons.mpr ⟨hE.t w290 rfl, List.forall_mem_cons.mpr ⟨hE.t w289 rfl, List.forall_mem_cons.mpr ⟨hE.t w288 rfl, List.forall_mem_cons.mpr ⟨hE.t w287 rfl, List.forall_mem_cons.mpr ⟨hE.t w286 rfl, List.forall_mem_cons.mpr ⟨hE.t w285 rfl, List.forall_mem_cons.mpr ⟨hE.t w284 rfl, List.forall_mem_cons.mpr ⟨hE.t w283 rfl, List.forall_mem_cons.mpr ⟨ho_2 hE.2.2.2.1, List.forall_mem_cons.mpr ⟨ho_2 hE.2.2.2.2.1, List.forall_mem_cons.mpr ⟨hE.t w215 rfl, List.forall_mem_cons.mpr ⟨hE.t w214 rfl, List.forall_mem_cons.mpr ⟨hE.t w282 rfl, fun _ h => absurd h List.not_mem_nil⟩⟩⟩⟩⟩⟩⟩⟩⟩⟩⟩⟩⟩⟩⟩⟩⟩⟩⟩⟩⟩⟩⟩⟩⟩⟩⟩⟩⟩⟩⟩⟩⟩⟩⟩⟩⟩⟩⟩⟩⟩⟩⟩⟩⟩⟩⟩⟩⟩⟩⟩⟩⟩
set_option maxHeartbeats 4000000 in
set_option maxRecDepth 100000 in
theorem c_V_start_x (l : Launch) (htr : l.stackTraces = false) (D : va_G) (dA : Nat → ClassId) (sz : Nat) (a : Nat) (fs : List Value) (h_fs_powered : fs[5]? = some (.int 1)) (hl_fs : fs.length = 18) : mX l ⟨"SeriesVault", "start", "()I"⟩ [Cond.code ⟨"SeriesVault", "start", "()I"⟩ prog_1_method_18_code 2 (some FieldType.int)] { frames := 6, cells := 1, slots := 6, locals := 81 } (pC D dA [.ref a] [(a, .inr (0, fs))] sz) "java/lang/IllegalStateException" (fun st9 t9 => va_F (va_A [(a, .inr (0, fs))] sz) st9 t9 ∧ bW D (va_A [(a, .inr (0, fs))] sz) [(a, .inr (0, fs))] t9) 1 6 (va_A [(a, .inr (0, fs))] sz) := by
  refine mkX (B := fun A => fun st9 t9 => va_F A st9 t9 ∧ bW D A [(a, .inr (0, fs))] t9) (by decide) (Nat.le_of_ble_eq_true rfl) ?_
  intro A p e s m below meth c ls hsz hno hB
  obtain ⟨hx, hb, hr, hml, hown, hin, hlk, hE, hK, hP, hD, hS, hA, hN, hl⟩ := hB
  have hown : s.vm.findClass "SeriesVault" = some m.cls := hown
  have hin : meth.name = "start" := hin
  have hl : lv_has ls 2 [(0, .ref a)] := hl
  obtain ⟨H, hH⟩ : ∃ z, z = s.heap := ⟨_, rfl⟩
  have hP : va_P D vwCl [(a, .inr (0, fs))] H := by rw [hH]; exact hP
  have hS : va_S A s.heap H [] := by rw [hH]; exact hS
  rw [← hH]
  refine lv_aload_n hx hb d_V_start_0 rfl (lv_at hl 0 rfl) ?_
  refine gF (v := .int 1) hx hb hown hE hK hP 0 rfl rfl layV 5 (by decide) w275 h_fs_powered d_V_start_1 ?_
  refine lv_if_eq hx hb d_V_start_4 (tgt := 15) rfl (fun h9 => absurd h9 (by decide)) (fun _ => ?_)
  exact xNew (E := "java/lang/IllegalStateException") (names := ["java/lang/RuntimeException", "java/lang/Exception"]) hx hb htr hown (by decide) (by decide) hE w295 w296 (fun U hU => at_V_ISE hU) (hN _ _ hS) (hl.1.trans hml.symm) d_V_start_7 d_V_start_10 d_V_start_11 d_V_start_14 hno (by decide) (Nat.le_of_ble_eq_true rfl) (Nat.le_of_ble_eq_true rfl) (Nat.le_of_ble_eq_true rfl) hlk (fun t h1 h2 => xEnd hP hD hS [0] rfl rfl (by decide) t h1 h2) hS.2.2 (Nat.le_of_ble_eq_true rfl) (Nat.le_of_ble_eq_true rfl)
