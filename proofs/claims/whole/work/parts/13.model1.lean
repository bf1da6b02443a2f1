theorem d_M_thrown_0 : decode prog_14_method_2_code 0 = .ok (.aload_n 0, 1) := by decide +kernel
theorem d_M_thrown_1 : decode prog_14_method_2_code 1 = .ok (.getfield 145, 3) := by decide +kernel
theorem d_M_thrown_4 : decode prog_14_method_2_code 4 = .ok (.ireturn, 1) := by decide +kernel
theorem w319 : Cond.fieldLink "SeriesVaultModel" 145 "SeriesVaultModel" "code" "I" ∈ aW := aw_of (tb_8 (List.mem_of_getElem? (i := 174) rfl)) rfl
set_option maxHeartbeats 4000000 in
set_option maxRecDepth 100000 in
theorem c_M_thrown (l : Launch) (D : va_G) (dA : Nat → ClassId) (sz : Nat) (a : Nat) (fs : List Value) (k : Int32) (h_fs_code : fs[0]? = some (.int k)) (hl_fs : fs.length = 79) : Met l ⟨"SeriesVaultModel", "thrown", "()I"⟩ [Cond.code ⟨"SeriesVaultModel", "thrown", "()I"⟩ prog_14_method_2_code 1 (some FieldType.int)] { frames := 1, cells := 0, slots := 0, locals := 0 } (pC D dA [.ref a] [(a, .inr (9, fs))] sz) (va_Qi (fun (r : Int32) (_ : Unit) => r = k) (fun (u9 : Unit) t9 => bW D (va_A [(a, .inr (9, fs))] sz) [(a, .inr (9, fs))] t9) (va_A [(a, .inr (9, fs))] sz)) 0 0 (va_A [(a, .inr (9, fs))] sz) := by
  refine mkC (Qc := fun A => va_Qi (fun (r : Int32) (_ : Unit) => r = k) (fun (u9 : Unit) t9 => bW D A [(a, .inr (9, fs))] t9) A) (by decide) (Nat.le_of_ble_eq_true rfl) ?_
  intro A p e s m below meth c ls hsz hB
  obtain ⟨hx, hb, hr, hml, hown, hin, hlk, hE, hK, hP, hD, hS, hA, hN, hl⟩ := hB
  have hown : s.vm.findClass "SeriesVaultModel" = some m.cls := hown
  have hin : meth.name = "thrown" := hin
  have hl : lv_has ls 1 [(0, .ref a)] := hl
  obtain ⟨H, hH⟩ : ∃ z, z = s.heap := ⟨_, rfl⟩
  have hP : va_P D vwCl [(a, .inr (9, fs))] H := by rw [hH]; exact hP
  have hS : va_S A s.heap H [] := by rw [hH]; exact hS
  rw [← hH]
  refine lv_aload_n hx hb d_M_thrown_0 rfl (lv_at hl 0 rfl) ?_
  refine gF (v := .int k) hx hb hown hE hK hP 0 rfl rfl layM 0 (by decide) w319 h_fs_code d_M_thrown_1 ?_
  exact rtI hx hb hr hlk hP hD hS () rfl [0] rfl rfl (by decide) (Nat.le_of_ble_eq_true rfl) (Nat.le_of_ble_eq_true rfl) d_M_thrown_4
theorem d_M_end_0 : decode prog_14_method_4_code 0 = .ok (.aload_n 0, 1) := by decide +kernel
theorem d_M_end_1 : decode prog_14_method_4_code 1 = .ok (.iload_n 1, 1) := by decide +kernel
theorem d_M_end_2 : decode prog_14_method_4_code 2 = .ok (.ifCond .lt 11, 3) := by decide +kernel
theorem d_M_end_5 : decode prog_14_method_4_code 5 = .ok (.iload_n 1, 1) := by decide +kernel
theorem d_M_end_6 : decode prog_14_method_4_code 6 = .ok (.aload_n 0, 1) := by decide +kernel
theorem d_M_end_7 : decode prog_14_method_4_code 7 = .ok (.getfield 148, 3) := by decide +kernel
theorem d_M_end_10 : decode prog_14_method_4_code 10 = .ok (.if_icmp .le 7, 3) := by decide +kernel
theorem d_M_end_17 : decode prog_14_method_4_code 17 = .ok (.iconst 0, 1) := by decide +kernel
theorem d_M_end_18 : decode prog_14_method_4_code 18 = .ok (.putfield 145, 3) := by decide +kernel
theorem d_M_end_21 : decode prog_14_method_4_code 21 = .ok (.aload_n 0, 1) := by decide +kernel
theorem d_M_end_22 : decode prog_14_method_4_code 22 = .ok (.aload_n 0, 1) := by decide +kernel
theorem d_M_end_23 : decode prog_14_method_4_code 23 = .ok (.getfield 145, 3) := by decide +kernel
theorem d_M_end_26 : decode prog_14_method_4_code 26 = .ok (.ifCond .ne 7, 3) := by decide +kernel
theorem d_M_end_29 : decode prog_14_method_4_code 29 = .ok (.iload_n 1, 1) := by decide +kernel
theorem d_M_end_30 : decode prog_14_method_4_code 30 = .ok (.goto 7, 3) := by decide +kernel
theorem d_M_end_37 : decode prog_14_method_4_code 37 = .ok (.putfield 148, 3) := by decide +kernel
theorem d_M_end_40 : decode prog_14_method_4_code 40 = .ok (.return_, 1) := by decide +kernel
theorem w320 : Cond.fieldLink "SeriesVaultModel" 148 "SeriesVaultModel" "length" "I" ∈ aW := aw_of (tb_8 (List.mem_of_getElem? (i := 176) rfl)) rfl
set_option maxHeartbeats 4000000 in
set_option maxRecDepth 100000 in
theorem c_M_end (l : Launch) (D : va_G) (dA : Nat → ClassId) (sz : Nat) (a : Nat) (fs : List Value) (n : Int32) (tl : Int32) (h1 : ¬ n < 0) (h2 : n ≤ tl) (h_fs_length : fs[2]? = some (.int tl)) (hl_fs : fs.length = 79) : Met l ⟨"SeriesVaultModel", "end", "(I)V"⟩ [Cond.code ⟨"SeriesVaultModel", "end", "(I)V"⟩ prog_14_method_4_code 2 none] { frames := 1, cells := 0, slots := 0, locals := 0 } (pC D dA [.ref a, .int n] [(a, .inr (9, fs))] sz) (va_Qv (fun (_ : Unit) => True) (fun (u9 : Unit) t9 => bW D (va_A [(a, .inr (9, fs))] sz) [(a, .inr (9, ((fs.set 0 (.int 0)).set 2 (.int n))))] t9) (va_A [(a, .inr (9, fs))] sz)) 0 0 (va_A [(a, .inr (9, fs))] sz) := by
  refine mkC (Qc := fun A => va_Qv (fun (_ : Unit) => True) (fun (u9 : Unit) t9 => bW D A [(a, .inr (9, ((fs.set 0 (.int 0)).set 2 (.int n))))] t9) A) (by decide) (Nat.le_of_ble_eq_true rfl) ?_
  intro A p e s m below meth c ls hsz hB
  obtain ⟨hx, hb, hr, hml, hown, hin, hlk, hE, hK, hP, hD, hS, hA, hN, hl⟩ := hB
  have hown : s.vm.findClass "SeriesVaultModel" = some m.cls := hown
  have hin : meth.name = "end" := hin
  have hl : lv_has ls 2 [(0, .ref a), (1, .int n)] := hl
  obtain ⟨H, hH⟩ : ∃ z, z = s.heap := ⟨_, rfl⟩
  have hP : va_P D vwCl [(a, .inr (9, fs))] H := by rw [hH]; exact hP
  have hS : va_S A s.heap H [] := by rw [hH]; exact hS
  rw [← hH]
  refine lv_aload_n hx hb d_M_end_0 rfl (lv_at hl 0 rfl) ?_
  refine lv_iload_n hx hb d_M_end_1 rfl (lv_at hl 1 rfl) ?_
  refine lv_if_lt hx hb d_M_end_2 (tgt := 13) rfl (fun h9 => absurd h9 h1) (fun _ => ?_)
  refine lv_iload_n hx hb d_M_end_5 rfl (lv_at hl 1 rfl) ?_
  refine lv_aload_n hx hb d_M_end_6 rfl (lv_at hl 0 rfl) ?_
  refine gF (v := .int tl) hx hb hown hE hK hP 0 rfl rfl layM 2 (by decide) w320 h_fs_length d_M_end_7 ?_
  refine lv_icmp_le hx hb d_M_end_10 (tgt := 17) rfl (fun _ => ?_) (fun h9 => absurd h2 h9)
  refine lv_iconst (v := 0) hx hb d_M_end_17 (by decide) ?_
  refine pF hx hb hown hE hK hP hD hS 0 rfl rfl layM tyM tokM nmM 0 (by decide) w319 rfl rfl rfl (by simp [hl_fs]) d_M_end_18 (fun H locs hP hD hS => ?_)
  have hP : va_P D vwCl [(a, .inr (9, (fs.set 0 (.int 0))))] H := hP
  have hD : va_D A [(a, .inr (9, (fs.set 0 (.int 0))))] := hD
  refine lv_aload_n hx hb d_M_end_21 rfl (lv_at hl 0 rfl) ?_
  refine lv_aload_n hx hb d_M_end_22 rfl (lv_at hl 0 rfl) ?_
  refine gF (v := .int 0) hx hb hown hE hK hP 0 rfl rfl layM 0 (by decide) w319 (by simp [hl_fs]) d_M_end_23 ?_
  refine lv_if_ne hx hb d_M_end_26 (tgt := 33) rfl (fun h9 => absurd (by decide) h9) (fun _ => ?_)
  refine lv_iload_n hx hb d_M_end_29 rfl (lv_at hl 1 rfl) ?_
  refine lv_goto hx hb d_M_end_30 (tgt := 37) rfl ?_
  refine pF hx hb hown hE hK hP hD hS 0 rfl rfl layM tyM tokM nmM 2 (by decide) w320 rfl rfl rfl (by simp [hl_fs]) d_M_end_37 (fun H locs hP hD hS => ?_)
  have hP : va_P D vwCl [(a, .inr (9, ((fs.set 0 (.int 0)).set 2 (.int n))))] H := hP
  have hD : va_D A [(a, .inr (9, ((fs.set 0 (.int 0)).set 2 (.int n))))] := hD
  exact rtV hx hb hr hlk hP hD hS () trivial [0] rfl rfl (by decide) (Nat.le_of_ble_eq_true rfl) (Nat.le_of_ble_eq_true rfl) d_M_end_40
theorem d_M_fault_0 : decode prog_14_method_5_code 0 = .ok (.aload_n 0, 1) := by decide +kernel
theorem d_M_fault_1 : decode prog_14_method_5_code 1 = .ok (.iload_n 1, 1) := by decide +kernel
theorem d_M_fault_2 : decode prog_14_method_5_code 2 = .ok (.ifCond .eq 8, 3) := by decide +kernel
theorem d_M_fault_10 : decode prog_14_method_5_code 10 = .ok (.iconst 0, 1) := by decide +kernel
theorem d_M_fault_11 : decode prog_14_method_5_code 11 = .ok (.goto 4, 3) := by decide +kernel
theorem d_M_fault_15 : decode prog_14_method_5_code 15 = .ok (.putfield 145, 3) := by decide +kernel
theorem d_M_fault_18 : decode prog_14_method_5_code 18 = .ok (.aload_n 0, 1) := by decide +kernel
theorem d_M_fault_19 : decode prog_14_method_5_code 19 = .ok (.getfield 145, 3) := by decide +kernel
theorem d_M_fault_22 : decode prog_14_method_5_code 22 = .ok (.ifCond .le 7, 3) := by decide +kernel
theorem d_M_fault_29 : decode prog_14_method_5_code 29 = .ok (.iload_n 1, 1) := by decide +kernel
theorem d_M_fault_30 : decode prog_14_method_5_code 30 = .ok (.ifCond .ne 10, 3) := by decide +kernel
theorem d_M_fault_33 : decode prog_14_method_5_code 33 = .ok (.aload_n 0, 1) := by decide +kernel
theorem d_M_fault_34 : decode prog_14_method_5_code 34 = .ok (.getfield 151, 3) := by decide +kernel
theorem d_M_fault_37 : decode prog_14_method_5_code 37 = .ok (.goto 7, 3) := by decide +kernel
theorem d_M_fault_44 : decode prog_14_method_5_code 44 = .ok (.ireturn, 1) := by decide +kernel
theorem w321 : Cond.fieldLink "SeriesVaultModel" 151 "SeriesVaultModel" "faultCode" "I" ∈ aW := aw_of (tb_8 (List.mem_of_getElem? (i := 177) rfl)) rfl
set_option maxHeartbeats 4000000 in
set_option maxRecDepth 100000 in
theorem c_M_fault_0 (l : Launch) (D : va_G) (dA : Nat → ClassId) (sz : Nat) (a : Nat) (fs : List Value) (fc : Int32) (h_fs_faultCode : fs[3]? = some (.int fc)) (hl_fs : fs.length = 79) : Met l ⟨"SeriesVaultModel", "fault", "(I)I"⟩ [Cond.code ⟨"SeriesVaultModel", "fault", "(I)I"⟩ prog_14_method_5_code 2 (some FieldType.int)] { frames := 1, cells := 0, slots := 0, locals := 0 } (pC D dA [.ref a, .int 0] [(a, .inr (9, fs))] sz) (va_Qi (fun (r : Int32) (_ : Unit) => r = fc) (fun (u9 : Unit) t9 => bW D (va_A [(a, .inr (9, fs))] sz) [(a, .inr (9, (fs.set 0 (.int 0))))] t9) (va_A [(a, .inr (9, fs))] sz)) 0 0 (va_A [(a, .inr (9, fs))] sz) := by
  refine mkC (Qc := fun A => va_Qi (fun (r : Int32) (_ : Unit) => r = fc) (fun (u9 : Unit) t9 => bW D A [(a, .inr (9, (fs.set 0 (.int 0))))] t9) A) (by decide) (Nat.le_of_ble_eq_true rfl) ?_
  intro A p e s m below meth c ls hsz hB
  obtain ⟨hx, hb, hr, hml, hown, hin, hlk, hE, hK, hP, hD, hS, hA, hN, hl⟩ := hB
  have hown : s.vm.findClass "SeriesVaultModel" = some m.cls := hown
  have hin : meth.name = "fault" := hin
  have hl : lv_has ls 2 [(0, .ref a), (1, .int 0)] := hl
  obtain ⟨H, hH⟩ : ∃ z, z = s.heap := ⟨_, rfl⟩
  have hP : va_P D vwCl [(a, .inr (9, fs))] H := by rw [hH]; exact hP
  have hS : va_S A s.heap H [] := by rw [hH]; exact hS
  rw [← hH]
  refine lv_aload_n hx hb d_M_fault_0 rfl (lv_at hl 0 rfl) ?_
  refine lv_iload_n hx hb d_M_fault_1 rfl (lv_at hl 1 rfl) ?_
  refine lv_if_eq hx hb d_M_fault_2 (tgt := 10) rfl (fun _ => ?_) (fun h9 => absurd (by decide) h9)
  refine lv_iconst (v := 0) hx hb d_M_fault_10 (by decide) ?_
  refine lv_goto hx hb d_M_fault_11 (tgt := 15) rfl ?_
  refine pF hx hb hown hE hK hP hD hS 0 rfl rfl layM tyM tokM nmM 0 (by decide) w319 rfl rfl rfl (by simp [hl_fs]) d_M_fault_15 (fun H locs hP hD hS => ?_)
  have hP : va_P D vwCl [(a, .inr (9, (fs.set 0 (.int 0))))] H := hP
  have hD : va_D A [(a, .inr (9, (fs.set 0 (.int 0))))] := hD
  refine lv_aload_n hx hb d_M_fault_18 rfl (lv_at hl 0 rfl) ?_
  refine gF (v := .int 0) hx hb hown hE hK hP 0 rfl rfl layM 0 (by decide) w319 (by simp [hl_fs]) d_M_fault_19 ?_
  refine lv_if_le hx hb d_M_fault_22 (tgt := 29) rfl (fun _ => ?_) (fun h9 => absurd (by decide) h9)
  refine lv_iload_n hx hb d_M_fault_29 rfl (lv_at hl 1 rfl) ?_
  refine lv_if_ne hx hb d_M_fault_30 (tgt := 40) rfl (fun h9 => absurd (by decide) h9) (fun _ => ?_)
  refine lv_aload_n hx hb d_M_fault_33 rfl (lv_at hl 0 rfl) ?_
  refine gF (v := .int fc) hx hb hown hE hK hP 0 rfl rfl layM 3 (by decide) w321 (by simp [h_fs_faultCode]) d_M_fault_34 ?_
  refine lv_goto hx hb d_M_fault_37 (tgt := 44) rfl ?_
  exact rtI hx hb hr hlk hP hD hS () rfl [0] rfl rfl (by decide) (Nat.le_of_ble_eq_true rfl) (Nat.le_of_ble_eq_true rfl) d_M_fault_44
theorem d_M_fault_5 : decode prog_14_method_5_code 5 = .ok (.iload_n 1, 1) := by decide +kernel
theorem d_M_fault_6 : decode prog_14_method_5_code 6 = .ok (.iconst 1, 1) := by decide +kernel
theorem d_M_fault_7 : decode prog_14_method_5_code 7 = .ok (.if_icmp .ne 7, 3) := by decide +kernel
theorem d_M_fault_40 : decode prog_14_method_5_code 40 = .ok (.aload_n 0, 1) := by decide +kernel
theorem d_M_fault_41 : decode prog_14_method_5_code 41 = .ok (.getfield 154, 3) := by decide +kernel
theorem w322 : Cond.fieldLink "SeriesVaultModel" 154 "SeriesVaultModel" "faultPlace" "I" ∈ aW := aw_of (tb_8 (List.mem_of_getElem? (i := 178) rfl)) rfl
set_option maxHeartbeats 4000000 in
set_option maxRecDepth 100000 in
theorem c_M_fault_1 (l : Launch) (D : va_G) (dA : Nat → ClassId) (sz : Nat) (a : Nat) (fs : List Value) (fp : Int32) (h_fs_faultPlace : fs[4]? = some (.int fp)) (hl_fs : fs.length = 79) : Met l ⟨"SeriesVaultModel", "fault", "(I)I"⟩ [Cond.code ⟨"SeriesVaultModel", "fault", "(I)I"⟩ prog_14_method_5_code 2 (some FieldType.int)] { frames := 1, cells := 0, slots := 0, locals := 0 } (pC D dA [.ref a, .int 1] [(a, .inr (9, fs))] sz) (va_Qi (fun (r : Int32) (_ : Unit) => r = fp) (fun (u9 : Unit) t9 => bW D (va_A [(a, .inr (9, fs))] sz) [(a, .inr (9, (fs.set 0 (.int 0))))] t9) (va_A [(a, .inr (9, fs))] sz)) 0 0 (va_A [(a, .inr (9, fs))] sz) := by
  refine mkC (Qc := fun A => va_Qi (fun (r : Int32) (_ : Unit) => r = fp) (fun (u9 : Unit) t9 => bW D A [(a, .inr (9, (fs.set 0 (.int 0))))] t9) A) (by decide) (Nat.le_of_ble_eq_true rfl) ?_
  intro A p e s m below meth c ls hsz hB
  obtain ⟨hx, hb, hr, hml, hown, hin, hlk, hE, hK, hP, hD, hS, hA, hN, hl⟩ := hB
  have hown : s.vm.findClass "SeriesVaultModel" = some m.cls := hown
  have hin : meth.name = "fault" := hin
  have hl : lv_has ls 2 [(0, .ref a), (1, .int 1)] := hl
  obtain ⟨H, hH⟩ : ∃ z, z = s.heap := ⟨_, rfl⟩
  have hP : va_P D vwCl [(a, .inr (9, fs))] H := by rw [hH]; exact hP
  have hS : va_S A s.heap H [] := by rw [hH]; exact hS
  rw [← hH]
  refine lv_aload_n hx hb d_M_fault_0 rfl (lv_at hl 0 rfl) ?_
  refine lv_iload_n hx hb d_M_fault_1 rfl (lv_at hl 1 rfl) ?_
  refine lv_if_eq hx hb d_M_fault_2 (tgt := 10) rfl (fun h9 => absurd h9 (by decide)) (fun _ => ?_)
  refine lv_iload_n hx hb d_M_fault_5 rfl (lv_at hl 1 rfl) ?_
  refine lv_iconst (v := 1) hx hb d_M_fault_6 (by decide) ?_
  refine lv_icmp_ne hx hb d_M_fault_7 (tgt := 14) rfl (fun h9 => absurd (by decide) h9) (fun _ => ?_)
  refine lv_iconst (v := 0) hx hb d_M_fault_10 (by decide) ?_
  refine lv_goto hx hb d_M_fault_11 (tgt := 15) rfl ?_
  refine pF hx hb hown hE hK hP hD hS 0 rfl rfl layM tyM tokM nmM 0 (by decide) w319 rfl rfl rfl (by simp [hl_fs]) d_M_fault_15 (fun H locs hP hD hS => ?_)
  have hP : va_P D vwCl [(a, .inr (9, (fs.set 0 (.int 0))))] H := hP
  have hD : va_D A [(a, .inr (9, (fs.set 0 (.int 0))))] := hD
  refine lv_aload_n hx hb d_M_fault_18 rfl (lv_at hl 0 rfl) ?_
  refine gF (v := .int 0) hx hb hown hE hK hP 0 rfl rfl layM 0 (by decide) w319 (by simp [hl_fs]) d_M_fault_19 ?_
  refine lv_if_le hx hb d_M_fault_22 (tgt := 29) rfl (fun _ => ?_) (fun h9 => absurd (by decide) h9)
  refine lv_iload_n hx hb d_M_fault_29 rfl (lv_at hl 1 rfl) ?_
  refine lv_if_ne hx hb d_M_fault_30 (tgt := 40) rfl (fun _ => ?_) (fun h9 => absurd h9 (by decide))
  refine lv_aload_n hx hb d_M_fault_40 rfl (lv_at hl 0 rfl) ?_
  refine gF (v := .int fp) hx hb hown hE hK hP 0 rfl rfl layM 4 (by decide) w322 (by simp [h_fs_faultPlace]) d_M_fault_41 ?_
  exact rtI hx hb hr hlk hP hD hS () rfl [0] rfl rfl (by decide) (Nat.le_of_ble_eq_true rfl) (Nat.le_of_ble_eq_true rfl) d_M_fault_44
theorem d_M_fault_14 : decode prog_14_method_5_code 14 = .ok (.iconst 1, 1) := by decide +kernel
theorem d_M_fault_25 : decode prog_14_method_5_code 25 = .ok (.iconst 0, 1) := by decide +kernel
theorem d_M_fault_26 : decode prog_14_method_5_code 26 = .ok (.goto 18, 3) := by decide +kernel
set_option maxHeartbeats 4000000 in
set_option maxRecDepth 100000 in
theorem c_M_fault_x (l : Launch) (D : va_G) (dA : Nat → ClassId) (sz : Nat) (a : Nat) (fs : List Value) (n : Int32) (h0 : ¬ n = 0) (h1 : ¬ n = 1) (hl_fs : fs.length = 79) : Met l ⟨"SeriesVaultModel", "fault", "(I)I"⟩ [Cond.code ⟨"SeriesVaultModel", "fault", "(I)I"⟩ prog_14_method_5_code 2 (some FieldType.int)] { frames := 1, cells := 0, slots := 0, locals := 0 } (pC D dA [.ref a, .int n] [(a, .inr (9, fs))] sz) (va_Qi (fun (r : Int32) (_ : Unit) => r = 0) (fun (u9 : Unit) t9 => bW D (va_A [(a, .inr (9, fs))] sz) [(a, .inr (9, (fs.set 0 (.int 1))))] t9) (va_A [(a, .inr (9, fs))] sz)) 0 0 (va_A [(a, .inr (9, fs))] sz) := by
  refine mkC (Qc := fun A => va_Qi (fun (r : Int32) (_ : Unit) => r = 0) (fun (u9 : Unit) t9 => bW D A [(a, .inr (9, (fs.set 0 (.int 1))))] t9) A) (by decide) (Nat.le_of_ble_eq_true rfl) ?_
  intro A p e s m below meth c ls hsz hB
  obtain ⟨hx, hb, hr, hml, hown, hin, hlk, hE, hK, hP, hD, hS, hA, hN, hl⟩ := hB
  have hown : s.vm.findClass "SeriesVaultModel" = some m.cls := hown
  have hin : meth.name = "fault" := hin
  have hl : lv_has ls 2 [(0, .ref a), (1, .int n)] := hl
  obtain ⟨H, hH⟩ : ∃ z, z = s.heap := ⟨_, rfl⟩
  have hP : va_P D vwCl [(a, .inr (9, fs))] H := by rw [hH]; exact hP
  have hS : va_S A s.heap H [] := by rw [hH]; exact hS
  rw [← hH]
  refine lv_aload_n hx hb d_M_fault_0 rfl (lv_at hl 0 rfl) ?_
  refine lv_iload_n hx hb d_M_fault_1 rfl (lv_at hl 1 rfl) ?_
  refine lv_if_eq hx hb d_M_fault_2 (tgt := 10) rfl (fun h9 => absurd h9 h0) (fun _ => ?_)
  refine lv_iload_n hx hb d_M_fault_5 rfl (lv_at hl 1 rfl) ?_
  refine lv_iconst (v := 1) hx hb d_M_fault_6 (by decide) ?_
  refine lv_icmp_ne hx hb d_M_fault_7 (tgt := 14) rfl (fun _ => ?_) (fun h9 => absurd h9 h1)
  refine lv_iconst (v := 1) hx hb d_M_fault_14 (by decide) ?_
  refine pF hx hb hown hE hK hP hD hS 0 rfl rfl layM tyM tokM nmM 0 (by decide) w319 rfl rfl rfl (by simp [hl_fs]) d_M_fault_15 (fun H locs hP hD hS => ?_)
  have hP : va_P D vwCl [(a, .inr (9, (fs.set 0 (.int 1))))] H := hP
  have hD : va_D A [(a, .inr (9, (fs.set 0 (.int 1))))] := hD
  refine lv_aload_n hx hb d_M_fault_18 rfl (lv_at hl 0 rfl) ?_
  refine gF (v := .int 1) hx hb hown hE hK hP 0 rfl rfl layM 0 (by decide) w319 (by simp [hl_fs]) d_M_fault_19 ?_
  refine lv_if_le hx hb d_M_fault_22 (tgt := 29) rfl (fun h9 => absurd h9 (by decide)) (fun _ => ?_)
  refine lv_iconst (v := 0) hx hb d_M_fault_25 (by decide) ?_
  refine lv_goto hx hb d_M_fault_26 (tgt := 44) rfl ?_
  exact rtI hx hb hr hlk hP hD hS () rfl [0] rfl rfl (by decide) (Nat.le_of_ble_eq_true rfl) (Nat.le_of_ble_eq_true rfl) d_M_fault_44
theorem d_M_written_0 : decode prog_14_method_50_code 0 = .ok (.aload_n 0, 1) := by decide +kernel
theorem d_M_written_1 : decode prog_14_method_50_code 1 = .ok (.iconst 0, 1) := by decide +kernel
theorem d_M_written_2 : decode prog_14_method_50_code 2 = .ok (.putfield 145, 3) := by decide +kernel
theorem d_M_written_5 : decode prog_14_method_50_code 5 = .ok (.aload_n 0, 1) := by decide +kernel
theorem d_M_written_6 : decode prog_14_method_50_code 6 = .ok (.getfield 157, 3) := by decide +kernel
theorem d_M_written_9 : decode prog_14_method_50_code 9 = .ok (.ireturn, 1) := by decide +kernel
theorem w323 : Cond.fieldLink "SeriesVaultModel" 157 "SeriesVaultModel" "written" "I" ∈ aW := aw_of (tb_8 (List.mem_of_getElem? (i := 183) rfl)) rfl
set_option maxHeartbeats 4000000 in
set_option maxRecDepth 100000 in
theorem c_M_written (l : Launch) (D : va_G) (dA : Nat → ClassId) (sz : Nat) (a : Nat) (fs : List Value) (w : Int32) (h_fs_written : fs[9]? = some (.int w)) (hl_fs : fs.length = 79) : Met l ⟨"SeriesVaultModel", "written", "()I"⟩ [Cond.code ⟨"SeriesVaultModel", "written", "()I"⟩ prog_14_method_50_code 1 (some FieldType.int)] { frames := 1, cells := 0, slots := 0, locals := 0 } (pC D dA [.ref a] [(a, .inr (9, fs))] sz) (va_Qi (fun (r : Int32) (_ : Unit) => r = w) (fun (u9 : Unit) t9 => bW D (va_A [(a, .inr (9, fs))] sz) [(a, .inr (9, (fs.set 0 (.int 0))))] t9) (va_A [(a, .inr (9, fs))] sz)) 0 0 (va_A [(a, .inr (9, fs))] sz) := by
  refine mkC (Qc := fun A => va_Qi (fun (r : Int32) (_ : Unit) => r = w) (fun (u9 : Unit) t9 => bW D A [(a, .inr (9, (fs.set 0 (.int 0))))] t9) A) (by decide) (Nat.le_of_ble_eq_true rfl) ?_
  intro A p e s m below meth c ls hsz hB
  obtain ⟨hx, hb, hr, hml, hown, hin, hlk, hE, hK, hP, hD, hS, hA, hN, hl⟩ := hB
  have hown : s.vm.findClass "SeriesVaultModel" = some m.cls := hown
  have hin : meth.name = "written" := hin
  have hl : lv_has ls 1 [(0, .ref a)] := hl
  obtain ⟨H, hH⟩ : ∃ z, z = s.heap := ⟨_, rfl⟩
  have hP : va_P D vwCl [(a, .inr (9, fs))] H := by rw [hH]; exact hP
  have hS : va_S A s.heap H [] := by rw [hH]; exact hS
  rw [← hH]
  refine lv_aload_n hx hb d_M_written_0 rfl (lv_at hl 0 rfl) ?_
  refine lv_iconst (v := 0) hx hb d_M_written_1 (by decide) ?_
  refine pF hx hb hown hE hK hP hD hS 0 rfl rfl layM tyM tokM nmM 0 (by decide) w319 rfl rfl rfl (by simp [hl_fs]) d_M_written_2 (fun H locs hP hD hS => ?_)
  have hP : va_P D vwCl [(a, .inr (9, (fs.set 0 (.int 0))))] H := hP
  have hD : va_D A [(a, .inr (9, (fs.set 0 (.int 0))))] := hD
  refine lv_aload_n hx hb d_M_written_5 rfl (lv_at hl 0 rfl) ?_
  refine gF (v := .int w) hx hb hown hE hK hP 0 rfl rfl layM 9 (by decide) w323 (by simp [h_fs_written]) d_M_written_6 ?_
  exact rtI hx hb hr hlk hP hD hS () rfl [0] rfl rfl (by decide) (Nat.le_of_ble_eq_true rfl) (Nat.le_of_ble_eq_true rfl) d_M_written_9
theorem d_M_cut_0 : decode prog_14_method_51_code 0 = .ok (.aload_n 0, 1) := by decide +kernel
theorem d_M_cut_1 : decode prog_14_method_51_code 1 = .ok (.aload_n 0, 1) := by decide +kernel
theorem d_M_cut_2 : decode prog_14_method_51_code 2 = .ok (.getfield 21, 3) := by decide +kernel
theorem d_M_cut_5 : decode prog_14_method_51_code 5 = .ok (.ifCond .ne 7, 3) := by decide +kernel
theorem d_M_cut_12 : decode prog_14_method_51_code 12 = .ok (.iload_n 1, 1) := by decide +kernel
theorem d_M_cut_13 : decode prog_14_method_51_code 13 = .ok (.iconst (-1), 1) := by decide +kernel
theorem d_M_cut_14 : decode prog_14_method_51_code 14 = .ok (.if_icmp .ge 7, 3) := by decide +kernel
theorem d_M_cut_21 : decode prog_14_method_51_code 21 = .ok (.iconst 0, 1) := by decide +kernel
theorem d_M_cut_22 : decode prog_14_method_51_code 22 = .ok (.putfield 145, 3) := by decide +kernel
theorem d_M_cut_25 : decode prog_14_method_51_code 25 = .ok (.aload_n 0, 1) := by decide +kernel
theorem d_M_cut_26 : decode prog_14_method_51_code 26 = .ok (.aload_n 0, 1) := by decide +kernel
theorem d_M_cut_27 : decode prog_14_method_51_code 27 = .ok (.getfield 145, 3) := by decide +kernel
theorem d_M_cut_30 : decode prog_14_method_51_code 30 = .ok (.ifCond .ne 7, 3) := by decide +kernel
theorem d_M_cut_33 : decode prog_14_method_51_code 33 = .ok (.iload_n 1, 1) := by decide +kernel
theorem d_M_cut_34 : decode prog_14_method_51_code 34 = .ok (.goto 7, 3) := by decide +kernel
theorem d_M_cut_41 : decode prog_14_method_51_code 41 = .ok (.putfield 25, 3) := by decide +kernel
theorem d_M_cut_44 : decode prog_14_method_51_code 44 = .ok (.return_, 1) := by decide +kernel
theorem w324 : Cond.fieldLink "SeriesVaultModel" 21 "SeriesVaultModel" "on" "Z" ∈ aW := aw_of (tb_8 (List.mem_of_getElem? (i := 181) rfl)) rfl
theorem w325 : Cond.fieldLink "SeriesVaultModel" 25 "SeriesVaultModel" "cutLeft" "I" ∈ aW := aw_of (tb_8 (List.mem_of_getElem? (i := 182) rfl)) rfl
set_option maxHeartbeats 4000000 in
set_option maxRecDepth 100000 in
theorem c_M_cut (l : Launch) (D : va_G) (dA : Nat → ClassId) (sz : Nat) (a : Nat) (fs : List Value) (n : Int32) (h1 : (-1) ≤ n) (h_fs_on : fs[7]? = some (.int 1)) (hl_fs : fs.length = 79) : Met l ⟨"SeriesVaultModel", "cut", "(I)V"⟩ [Cond.code ⟨"SeriesVaultModel", "cut", "(I)V"⟩ prog_14_method_51_code 2 none] { frames := 1, cells := 0, slots := 0, locals := 0 } (pC D dA [.ref a, .int n] [(a, .inr (9, fs))] sz) (va_Qv (fun (_ : Unit) => True) (fun (u9 : Unit) t9 => bW D (va_A [(a, .inr (9, fs))] sz) [(a, .inr (9, ((fs.set 0 (.int 0)).set 8 (.int n))))] t9) (va_A [(a, .inr (9, fs))] sz)) 0 0 (va_A [(a, .inr (9, fs))] sz) := by
  refine mkC (Qc := fun A => va_Qv (fun (_ : Unit) => True) (fun (u9 : Unit) t9 => bW D A [(a, .inr (9, ((fs.set 0 (.int 0)).set 8 (.int n))))] t9) A) (by decide) (Nat.le_of_ble_eq_true rfl) ?_
  intro A p e s m below meth c ls hsz hB
  obtain ⟨hx, hb, hr, hml, hown, hin, hlk, hE, hK, hP, hD, hS, hA, hN, hl⟩ := hB
  have hown : s.vm.findClass "SeriesVaultModel" = some m.cls := hown
  have hin : meth.name = "cut" := hin
  have hl : lv_has ls 2 [(0, .ref a), (1, .int n)] := hl
  obtain ⟨H, hH⟩ : ∃ z, z = s.heap := ⟨_, rfl⟩
  have hP : va_P D vwCl [(a, .inr (9, fs))] H := by rw [hH]; exact hP
  have hS : va_S A s.heap H [] := by rw [hH]; exact hS
  rw [← hH]
  refine lv_aload_n hx hb d_M_cut_0 rfl (lv_at hl 0 rfl) ?_
  refine lv_aload_n hx hb d_M_cut_1 rfl (lv_at hl 0 rfl) ?_
  refine gF (v := .int 1) hx hb hown hE hK hP 0 rfl rfl layM 7 (by decide) w324 h_fs_on d_M_cut_2 ?_
  refine lv_if_ne hx hb d_M_cut_5 (tgt := 12) rfl (fun _ => ?_) (fun h9 => absurd h9 (by decide))
  refine lv_iload_n hx hb d_M_cut_12 rfl (lv_at hl 1 rfl) ?_
  refine lv_iconst (v := (-1)) hx hb d_M_cut_13 (by decide) ?_
  refine lv_icmp_ge hx hb d_M_cut_14 (tgt := 21) rfl (fun _ => ?_) (fun h9 => absurd h1 h9)
  refine lv_iconst (v := 0) hx hb d_M_cut_21 (by decide) ?_
  refine pF hx hb hown hE hK hP hD hS 0 rfl rfl layM tyM tokM nmM 0 (by decide) w319 rfl rfl rfl (by simp [hl_fs]) d_M_cut_22 (fun H locs hP hD hS => ?_)
  have hP : va_P D vwCl [(a, .inr (9, (fs.set 0 (.int 0))))] H := hP
  have hD : va_D A [(a, .inr (9, (fs.set 0 (.int 0))))] := hD
  refine lv_aload_n hx hb d_M_cut_25 rfl (lv_at hl 0 rfl) ?_
  refine lv_aload_n hx hb d_M_cut_26 rfl (lv_at hl 0 rfl) ?_
  refine gF (v := .int 0) hx hb hown hE hK hP 0 rfl rfl layM 0 (by decide) w319 (by simp [hl_fs]) d_M_cut_27 ?_
  refine lv_if_ne hx hb d_M_cut_30 (tgt := 37) rfl (fun h9 => absurd (by decide) h9) (fun _ => ?_)
  refine lv_iload_n hx hb d_M_cut_33 rfl (lv_at hl 1 rfl) ?_
  refine lv_goto hx hb d_M_cut_34 (tgt := 41) rfl ?_
  refine pF hx hb hown hE hK hP hD hS 0 rfl rfl layM tyM tokM nmM 8 (by decide) w325 rfl rfl rfl (by simp [hl_fs]) d_M_cut_41 (fun H locs hP hD hS => ?_)
  have hP : va_P D vwCl [(a, .inr (9, ((fs.set 0 (.int 0)).set 8 (.int n))))] H := hP
  have hD : va_D A [(a, .inr (9, ((fs.set 0 (.int 0)).set 8 (.int n))))] := hD
  exact rtV hx hb hr hlk hP hD hS () trivial [0] rfl rfl (by decide) (Nat.le_of_ble_eq_true rfl) (Nat.le_of_ble_eq_true rfl) d_M_cut_44
theorem d_M_cut_17 : decode prog_14_method_51_code 17 = .ok (.iconst 2, 1) := by decide +kernel
theorem d_M_cut_18 : decode prog_14_method_51_code 18 = .ok (.goto 4, 3) := by decide +kernel
theorem d_M_cut_37 : decode prog_14_method_51_code 37 = .ok (.aload_n 0, 1) := by decide +kernel
theorem d_M_cut_38 : decode prog_14_method_51_code 38 = .ok (.getfield 25, 3) := by decide +kernel
set_option maxHeartbeats 4000000 in
set_option maxRecDepth 100000 in
theorem c_M_cut_x (l : Launch) (D : va_G) (dA : Nat → ClassId) (sz : Nat) (a : Nat) (fs : List Value) (n : Int32) (cl : Int32) (h1 : n < (-1)) (h_fs_on : fs[7]? = some (.int 1)) (h_fs_cutLeft : fs[8]? = some (.int cl)) (hl_fs : fs.length = 79) : Met l ⟨"SeriesVaultModel", "cut", "(I)V"⟩ [Cond.code ⟨"SeriesVaultModel", "cut", "(I)V"⟩ prog_14_method_51_code 2 none] { frames := 1, cells := 0, slots := 0, locals := 0 } (pC D dA [.ref a, .int n] [(a, .inr (9, fs))] sz) (va_Qv (fun (_ : Unit) => True) (fun (u9 : Unit) t9 => bW D (va_A [(a, .inr (9, fs))] sz) [(a, .inr (9, ((fs.set 0 (.int 2)).set 8 (.int cl))))] t9) (va_A [(a, .inr (9, fs))] sz)) 0 0 (va_A [(a, .inr (9, fs))] sz) := by
  refine mkC (Qc := fun A => va_Qv (fun (_ : Unit) => True) (fun (u9 : Unit) t9 => bW D A [(a, .inr (9, ((fs.set 0 (.int 2)).set 8 (.int cl))))] t9) A) (by decide) (Nat.le_of_ble_eq_true rfl) ?_
  intro A p e s m below meth c ls hsz hB
  obtain ⟨hx, hb, hr, hml, hown, hin, hlk, hE, hK, hP, hD, hS, hA, hN, hl⟩ := hB
  have hown : s.vm.findClass "SeriesVaultModel" = some m.cls := hown
  have hin : meth.name = "cut" := hin
  have hl : lv_has ls 2 [(0, .ref a), (1, .int n)] := hl
  obtain ⟨H, hH⟩ : ∃ z, z = s.heap := ⟨_, rfl⟩
  have hP : va_P D vwCl [(a, .inr (9, fs))] H := by rw [hH]; exact hP
  have hS : va_S A s.heap H [] := by rw [hH]; exact hS
  rw [← hH]
  refine lv_aload_n hx hb d_M_cut_0 rfl (lv_at hl 0 rfl) ?_
  refine lv_aload_n hx hb d_M_cut_1 rfl (lv_at hl 0 rfl) ?_
  refine gF (v := .int 1) hx hb hown hE hK hP 0 rfl rfl layM 7 (by decide) w324 h_fs_on d_M_cut_2 ?_
  refine lv_if_ne hx hb d_M_cut_5 (tgt := 12) rfl (fun _ => ?_) (fun h9 => absurd h9 (by decide))
  refine lv_iload_n hx hb d_M_cut_12 rfl (lv_at hl 1 rfl) ?_
  refine lv_iconst (v := (-1)) hx hb d_M_cut_13 (by decide) ?_
  refine lv_icmp_ge hx hb d_M_cut_14 (tgt := 21) rfl (fun h9 => absurd h9 (Int32.not_le.mpr (h1))) (fun _ => ?_)
  refine lv_iconst (v := 2) hx hb d_M_cut_17 (by decide) ?_
  refine lv_goto hx hb d_M_cut_18 (tgt := 22) rfl ?_
  refine pF hx hb hown hE hK hP hD hS 0 rfl rfl layM tyM tokM nmM 0 (by decide) w319 rfl rfl rfl (by simp [hl_fs]) d_M_cut_22 (fun H locs hP hD hS => ?_)
  have hP : va_P D vwCl [(a, .inr (9, (fs.set 0 (.int 2))))] H := hP
  have hD : va_D A [(a, .inr (9, (fs.set 0 (.int 2))))] := hD
  refine lv_aload_n hx hb d_M_cut_25 rfl (lv_at hl 0 rfl) ?_
  refine lv_aload_n hx hb d_M_cut_26 rfl (lv_at hl 0 rfl) ?_
  refine gF (v := .int 2) hx hb hown hE hK hP 0 rfl rfl layM 0 (by decide) w319 (by simp [hl_fs]) d_M_cut_27 ?_
  refine lv_if_ne hx hb d_M_cut_30 (tgt := 37) rfl (fun _ => ?_) (fun h9 => absurd h9 (by decide))
  refine lv_aload_n hx hb d_M_cut_37 rfl (lv_at hl 0 rfl) ?_
  refine gF (v := .int cl) hx hb hown hE hK hP 0 rfl rfl layM 8 (by decide) w325 (by simp [h_fs_cutLeft]) d_M_cut_38 ?_
  refine pF hx hb hown hE hK hP hD hS 0 rfl rfl layM tyM tokM nmM 8 (by decide) w325 rfl rfl rfl (by simp [hl_fs]) d_M_cut_41 (fun H locs hP hD hS => ?_)
  have hP : va_P D vwCl [(a, .inr (9, ((fs.set 0 (.int 2)).set 8 (.int cl))))] H := hP
  have hD : va_D A [(a, .inr (9, ((fs.set 0 (.int 2)).set 8 (.int cl))))] := hD
  exact rtV hx hb hr hlk hP hD hS () trivial [0] rfl rfl (by decide) (Nat.le_of_ble_eq_true rfl) (Nat.le_of_ble_eq_true rfl) d_M_cut_44
theorem d_M_off_0 : decode prog_14_method_52_code 0 = .ok (.aload_n 0, 1) := by decide +kernel
theorem d_M_off_1 : decode prog_14_method_52_code 1 = .ok (.aload_n 0, 1) := by decide +kernel
theorem d_M_off_2 : decode prog_14_method_52_code 2 = .ok (.getfield 21, 3) := by decide +kernel
theorem d_M_off_5 : decode prog_14_method_52_code 5 = .ok (.ifCond .eq 7, 3) := by decide +kernel
theorem d_M_off_8 : decode prog_14_method_52_code 8 = .ok (.iconst 0, 1) := by decide +kernel
theorem d_M_off_9 : decode prog_14_method_52_code 9 = .ok (.goto 4, 3) := by decide +kernel
theorem d_M_off_13 : decode prog_14_method_52_code 13 = .ok (.putfield 145, 3) := by decide +kernel
theorem d_M_off_16 : decode prog_14_method_52_code 16 = .ok (.aload_n 0, 1) := by decide +kernel
theorem d_M_off_17 : decode prog_14_method_52_code 17 = .ok (.iconst 0, 1) := by decide +kernel
theorem d_M_off_18 : decode prog_14_method_52_code 18 = .ok (.putfield 21, 3) := by decide +kernel
theorem d_M_off_21 : decode prog_14_method_52_code 21 = .ok (.return_, 1) := by decide +kernel
set_option maxHeartbeats 4000000 in
set_option maxRecDepth 100000 in
theorem c_M_off (l : Launch) (D : va_G) (dA : Nat → ClassId) (sz : Nat) (a : Nat) (fs : List Value) (h_fs_on : fs[7]? = some (.int 1)) (hl_fs : fs.length = 79) : Met l ⟨"SeriesVaultModel", "off", "()V"⟩ [Cond.code ⟨"SeriesVaultModel", "off", "()V"⟩ prog_14_method_52_code 1 none] { frames := 1, cells := 0, slots := 0, locals := 0 } (pC D dA [.ref a] [(a, .inr (9, fs))] sz) (va_Qv (fun (_ : Unit) => True) (fun (u9 : Unit) t9 => bW D (va_A [(a, .inr (9, fs))] sz) [(a, .inr (9, ((fs.set 0 (.int 0)).set 7 (.int 0))))] t9) (va_A [(a, .inr (9, fs))] sz)) 0 0 (va_A [(a, .inr (9, fs))] sz) := by
  refine mkC (Qc := fun A => va_Qv (fun (_ : Unit) => True) (fun (u9 : Unit) t9 => bW D A [(a, .inr (9, ((fs.set 0 (.int 0)).set 7 (.int 0))))] t9) A) (by decide) (Nat.le_of_ble_eq_true rfl) ?_
  intro A p e s m below meth c ls hsz hB
  obtain ⟨hx, hb, hr, hml, hown, hin, hlk, hE, hK, hP, hD, hS, hA, hN, hl⟩ := hB
  have hown : s.vm.findClass "SeriesVaultModel" = some m.cls := hown
  have hin : meth.name = "off" := hin
  have hl : lv_has ls 1 [(0, .ref a)] := hl
  obtain ⟨H, hH⟩ : ∃ z, z = s.heap := ⟨_, rfl⟩
  have hP : va_P D vwCl [(a, .inr (9, fs))] H := by rw [hH]; exact hP
  have hS : va_S A s.heap H [] := by rw [hH]; exact hS
  rw [← hH]
  refine lv_aload_n hx hb d_M_off_0 rfl (lv_at hl 0 rfl) ?_
  refine lv_aload_n hx hb d_M_off_1 rfl (lv_at hl 0 rfl) ?_
  refine gF (v := .int 1) hx hb hown hE hK hP 0 rfl rfl layM 7 (by decide) w324 h_fs_on d_M_off_2 ?_
  refine lv_if_eq hx hb d_M_off_5 (tgt := 12) rfl (fun h9 => absurd h9 (by decide)) (fun _ => ?_)
  refine lv_iconst (v := 0) hx hb d_M_off_8 (by decide) ?_
  refine lv_goto hx hb d_M_off_9 (tgt := 13) rfl ?_
  refine pF hx hb hown hE hK hP hD hS 0 rfl rfl layM tyM tokM nmM 0 (by decide) w319 rfl rfl rfl (by simp [hl_fs]) d_M_off_13 (fun H locs hP hD hS => ?_)
  have hP : va_P D vwCl [(a, .inr (9, (fs.set 0 (.int 0))))] H := hP
  have hD : va_D A [(a, .inr (9, (fs.set 0 (.int 0))))] := hD
  refine lv_aload_n hx hb d_M_off_16 rfl (lv_at hl 0 rfl) ?_
  refine lv_iconst (v := 0) hx hb d_M_off_17 (by decide) ?_
  refine pF hx hb hown hE hK hP hD hS 0 rfl rfl layM tyM tokM nmM 7 (by decide) w324 rfl rfl rfl (by simp [hl_fs]) d_M_off_18 (fun H locs hP hD hS => ?_)
  have hP : va_P D vwCl [(a, .inr (9, ((fs.set 0 (.int 0)).set 7 (.int 0))))] H := hP
  have hD : va_D A [(a, .inr (9, ((fs.set 0 (.int 0)).set 7 (.int 0))))] := hD
  exact rtV hx hb hr hlk hP hD hS () trivial [0] rfl rfl (by decide) (Nat.le_of_ble_eq_true rfl) (Nat.le_of_ble_eq_true rfl) d_M_off_21
theorem d_M_start_0 : decode prog_14_method_53_code 0 = .ok (.aload_n 0, 1) := by decide +kernel
theorem d_M_start_1 : decode prog_14_method_53_code 1 = .ok (.aload_n 0, 1) := by decide +kernel
theorem d_M_start_2 : decode prog_14_method_53_code 2 = .ok (.getfield 21, 3) := by decide +kernel
theorem d_M_start_5 : decode prog_14_method_53_code 5 = .ok (.ifCond .eq 7, 3) := by decide +kernel
theorem d_M_start_8 : decode prog_14_method_53_code 8 = .ok (.iconst 1, 1) := by decide +kernel
theorem d_M_start_9 : decode prog_14_method_53_code 9 = .ok (.goto 4, 3) := by decide +kernel
theorem d_M_start_13 : decode prog_14_method_53_code 13 = .ok (.putfield 145, 3) := by decide +kernel
theorem d_M_start_16 : decode prog_14_method_53_code 16 = .ok (.aload_n 0, 1) := by decide +kernel
theorem d_M_start_17 : decode prog_14_method_53_code 17 = .ok (.getfield 145, 3) := by decide +kernel
theorem d_M_start_20 : decode prog_14_method_53_code 20 = .ok (.ifCond .le 5, 3) := by decide +kernel
theorem d_M_start_23 : decode prog_14_method_53_code 23 = .ok (.iconst 0, 1) := by decide +kernel
theorem d_M_start_24 : decode prog_14_method_53_code 24 = .ok (.ireturn, 1) := by decide +kernel
set_option maxHeartbeats 4000000 in
set_option maxRecDepth 100000 in
theorem c_M_start_x (l : Launch) (D : va_G) (dA : Nat → ClassId) (sz : Nat) (a : Nat) (fs : List Value) (h_fs_on : fs[7]? = some (.int 1)) (hl_fs : fs.length = 79) : Met l ⟨"SeriesVaultModel", "start", "()I"⟩ [Cond.code ⟨"SeriesVaultModel", "start", "()I"⟩ prog_14_method_53_code 2 (some FieldType.int)] { frames := 1, cells := 0, slots := 0, locals := 0 } (pC D dA [.ref a] [(a, .inr (9, fs))] sz) (va_Qi (fun (r : Int32) (_ : Unit) => r = 0) (fun (u9 : Unit) t9 => bW D (va_A [(a, .inr (9, fs))] sz) [(a, .inr (9, (fs.set 0 (.int 1))))] t9) (va_A [(a, .inr (9, fs))] sz)) 0 0 (va_A [(a, .inr (9, fs))] sz) := by
  refine mkC (Qc := fun A => va_Qi (fun (r : Int32) (_ : Unit) => r = 0) (fun (u9 : Unit) t9 => bW D A [(a, .inr (9, (fs.set 0 (.int 1))))] t9) A) (by decide) (Nat.le_of_ble_eq_true rfl) ?_
  intro A p e s m below meth c ls hsz hB
  obtain ⟨hx, hb, hr, hml, hown, hin, hlk, hE, hK, hP, hD, hS, hA, hN, hl⟩ := hB
  have hown : s.vm.findClass "SeriesVaultModel" = some m.cls := hown
  have hin : meth.name = "start" := hin
  have hl : lv_has ls 2 [(0, .ref a)] := hl
  obtain ⟨H, hH⟩ : ∃ z, z = s.heap := ⟨_, rfl⟩
  have hP : va_P D vwCl [(a, .inr (9, fs))] H := by rw [hH]; exact hP
  have hS : va_S A s.heap H [] := by rw [hH]; exact hS
  rw [← hH]
  refine lv_aload_n hx hb d_M_start_0 rfl (lv_at hl 0 rfl) ?_
  refine lv_aload_n hx hb d_M_start_1 rfl (lv_at hl 0 rfl) ?_
  refine gF (v := .int 1) hx hb hown hE hK hP 0 rfl rfl layM 7 (by decide) w324 h_fs_on d_M_start_2 ?_
  refine lv_if_eq hx hb d_M_start_5 (tgt := 12) rfl (fun h9 => absurd h9 (by decide)) (fun _ => ?_)
  refine lv_iconst (v := 1) hx hb d_M_start_8 (by decide) ?_
  refine lv_goto hx hb d_M_start_9 (tgt := 13) rfl ?_
  refine pF hx hb hown hE hK hP hD hS 0 rfl rfl layM tyM tokM nmM 0 (by decide) w319 rfl rfl rfl (by simp [hl_fs]) d_M_start_13 (fun H locs hP hD hS => ?_)
  have hP : va_P D vwCl [(a, .inr (9, (fs.set 0 (.int 1))))] H := hP
  have hD : va_D A [(a, .inr (9, (fs.set 0 (.int 1))))] := hD
  refine lv_aload_n hx hb d_M_start_16 rfl (lv_at hl 0 rfl) ?_
  refine gF (v := .int 1) hx hb hown hE hK hP 0 rfl rfl layM 0 (by decide) w319 (by simp [hl_fs]) d_M_start_17 ?_
  refine lv_if_le hx hb d_M_start_20 (tgt := 25) rfl (fun h9 => absurd h9 (by decide)) (fun _ => ?_)
  refine lv_iconst (v := 0) hx hb d_M_start_23 (by decide) ?_
  exact rtI hx hb hr hlk hP hD hS () rfl [0] rfl rfl (by decide) (Nat.le_of_ble_eq_true rfl) (Nat.le_of_ble_eq_true rfl) d_M_start_24
theorem d_M_names_0 : decode prog_14_method_92_code 0 = .ok (.aload_n 0, 1) := by decide +kernel
theorem d_M_names_1 : decode prog_14_method_92_code 1 = .ok (.iconst 0, 1) := by decide +kernel
theorem d_M_names_2 : decode prog_14_method_92_code 2 = .ok (.putfield 145, 3) := by decide +kernel
theorem d_M_names_5 : decode prog_14_method_92_code 5 = .ok (.aload_n 0, 1) := by decide +kernel
theorem d_M_names_6 : decode prog_14_method_92_code 6 = .ok (.getfield 197, 3) := by decide +kernel
theorem d_M_names_9 : decode prog_14_method_92_code 9 = .ok (.ifCond .eq 10, 3) := by decide +kernel
theorem d_M_names_19 : decode prog_14_method_92_code 19 = .ok (.iconst (-1), 1) := by decide +kernel
theorem d_M_names_20 : decode prog_14_method_92_code 20 = .ok (.ireturn, 1) := by decide +kernel
theorem w326 : Cond.fieldLink "SeriesVaultModel" 197 "SeriesVaultModel" "isTable" "Z" ∈ aW := aw_of (tb_9 (List.mem_of_getElem? (i := 5) rfl)) rfl
set_option maxHeartbeats 4000000 in
set_option maxRecDepth 100000 in
theorem c_M_names (l : Launch) (D : va_G) (dA : Nat → ClassId) (sz : Nat) (a : Nat) (fs : List Value) (h_fs_isTable : fs[71]? = some (.int 0)) (hl_fs : fs.length = 79) : Met l ⟨"SeriesVaultModel", "names", "()I"⟩ [Cond.code ⟨"SeriesVaultModel", "names", "()I"⟩ prog_14_method_92_code 1 (some FieldType.int)] { frames := 1, cells := 0, slots := 0, locals := 0 } (pC D dA [.ref a] [(a, .inr (9, fs))] sz) (va_Qi (fun (r : Int32) (_ : Unit) => r = (-1)) (fun (u9 : Unit) t9 => bW D (va_A [(a, .inr (9, fs))] sz) [(a, .inr (9, (fs.set 0 (.int 0))))] t9) (va_A [(a, .inr (9, fs))] sz)) 0 0 (va_A [(a, .inr (9, fs))] sz) := by
  refine mkC (Qc := fun A => va_Qi (fun (r : Int32) (_ : Unit) => r = (-1)) (fun (u9 : Unit) t9 => bW D A [(a, .inr (9, (fs.set 0 (.int 0))))] t9) A) (by decide) (Nat.le_of_ble_eq_true rfl) ?_
  intro A p e s m below meth c ls hsz hB
  obtain ⟨hx, hb, hr, hml, hown, hin, hlk, hE, hK, hP, hD, hS, hA, hN, hl⟩ := hB
  have hown : s.vm.findClass "SeriesVaultModel" = some m.cls := hown
  have hin : meth.name = "names" := hin
  have hl : lv_has ls 1 [(0, .ref a)] := hl
  obtain ⟨H, hH⟩ : ∃ z, z = s.heap := ⟨_, rfl⟩
  have hP : va_P D vwCl [(a, .inr (9, fs))] H := by rw [hH]; exact hP
  have hS : va_S A s.heap H [] := by rw [hH]; exact hS
  rw [← hH]
  refine lv_aload_n hx hb d_M_names_0 rfl (lv_at hl 0 rfl) ?_
  refine lv_iconst (v := 0) hx hb d_M_names_1 (by decide) ?_
  refine pF hx hb hown hE hK hP hD hS 0 rfl rfl layM tyM tokM nmM 0 (by decide) w319 rfl rfl rfl (by simp [hl_fs]) d_M_names_2 (fun H locs hP hD hS => ?_)
  have hP : va_P D vwCl [(a, .inr (9, (fs.set 0 (.int 0))))] H := hP
  have hD : va_D A [(a, .inr (9, (fs.set 0 (.int 0))))] := hD
  refine lv_aload_n hx hb d_M_names_5 rfl (lv_at hl 0 rfl) ?_
  refine gF (v := .int 0) hx hb hown hE hK hP 0 rfl rfl layM 71 (by decide) w326 (by simp [h_fs_isTable]) d_M_names_6 ?_
  refine lv_if_eq hx hb d_M_names_9 (tgt := 19) rfl (fun _ => ?_) (fun h9 => absurd (by decide) h9)
  refine lv_iconst (v := (-1)) hx hb d_M_names_19 (by decide) ?_
  exact rtI hx hb hr hlk hP hD hS () rfl [0] rfl rfl (by decide) (Nat.le_of_ble_eq_true rfl) (Nat.le_of_ble_eq_true rfl) d_M_names_20
theorem d_M_isRow_0 : decode prog_14_method_93_code 0 = .ok (.aload_n 0, 1) := by decide +kernel
theorem d_M_isRow_1 : decode prog_14_method_93_code 1 = .ok (.getfield 197, 3) := by decide +kernel
theorem d_M_isRow_4 : decode prog_14_method_93_code 4 = .ok (.ifCond .eq 19, 3) := by decide +kernel
theorem d_M_isRow_23 : decode prog_14_method_93_code 23 = .ok (.iconst 0, 1) := by decide +kernel
theorem d_M_isRow_24 : decode prog_14_method_93_code 24 = .ok (.ireturn, 1) := by decide +kernel
set_option maxHeartbeats 4000000 in
set_option maxRecDepth 100000 in
theorem c_M_isRow_0 (l : Launch) (D : va_G) (dA : Nat → ClassId) (sz : Nat) (a : Nat) (fs : List Value) (n : Int32) (h_fs_isTable : fs[71]? = some (.int 0)) (hl_fs : fs.length = 79) : Met l ⟨"SeriesVaultModel", "isRow", "(I)Z"⟩ [Cond.code ⟨"SeriesVaultModel", "isRow", "(I)Z"⟩ prog_14_method_93_code 2 (some FieldType.boolean)] { frames := 1, cells := 0, slots := 0, locals := 0 } (pC D dA [.ref a, .int n] [(a, .inr (9, fs))] sz) (va_Qi (fun (r : Int32) (_ : Unit) => r = 0) (fun (u9 : Unit) t9 => bW D (va_A [(a, .inr (9, fs))] sz) [(a, .inr (9, fs))] t9) (va_A [(a, .inr (9, fs))] sz)) 0 0 (va_A [(a, .inr (9, fs))] sz) := by
  refine mkC (Qc := fun A => va_Qi (fun (r : Int32) (_ : Unit) => r = 0) (fun (u9 : Unit) t9 => bW D A [(a, .inr (9, fs))] t9) A) (by decide) (Nat.le_of_ble_eq_true rfl) ?_
  intro A p e s m below meth c ls hsz hB
  obtain ⟨hx, hb, hr, hml, hown, hin, hlk, hE, hK, hP, hD, hS, hA, hN, hl⟩ := hB
  have hown : s.vm.findClass "SeriesVaultModel" = some m.cls := hown
  have hin : meth.name = "isRow" := hin
  have hl : lv_has ls 2 [(0, .ref a), (1, .int n)] := hl
  obtain ⟨H, hH⟩ : ∃ z, z = s.heap := ⟨_, rfl⟩
  have hP : va_P D vwCl [(a, .inr (9, fs))] H := by rw [hH]; exact hP
  have hS : va_S A s.heap H [] := by rw [hH]; exact hS
  rw [← hH]
  refine lv_aload_n hx hb d_M_isRow_0 rfl (lv_at hl 0 rfl) ?_
  refine gF (v := .int 0) hx hb hown hE hK hP 0 rfl rfl layM 71 (by decide) w326 h_fs_isTable d_M_isRow_1 ?_
  refine lv_if_eq hx hb d_M_isRow_4 (tgt := 23) rfl (fun _ => ?_) (fun h9 => absurd (by decide) h9)
  refine lv_iconst (v := 0) hx hb d_M_isRow_23 (by decide) ?_
  exact rtZ hx hb hr (by decide) hlk hP hD hS () rfl [0] rfl rfl (by decide) (Nat.le_of_ble_eq_true rfl) (Nat.le_of_ble_eq_true rfl) d_M_isRow_24
theorem d_M_text_0 : decode prog_14_method_94_code 0 = .ok (.aload_n 0, 1) := by decide +kernel
theorem d_M_text_1 : decode prog_14_method_94_code 1 = .ok (.aload_n 0, 1) := by decide +kernel
theorem d_M_text_2 : decode prog_14_method_94_code 2 = .ok (.iload_n 1, 1) := by decide +kernel
theorem d_M_text_3 : decode prog_14_method_94_code 3 = .ok (.invokevirtual 511, 3) := by decide +kernel
theorem d_M_text_6 : decode prog_14_method_94_code 6 = .ok (.ifCond .eq 7, 3) := by decide +kernel
theorem d_M_text_13 : decode prog_14_method_94_code 13 = .ok (.iconst 1, 1) := by decide +kernel
theorem d_M_text_14 : decode prog_14_method_94_code 14 = .ok (.putfield 145, 3) := by decide +kernel
theorem d_M_text_17 : decode prog_14_method_94_code 17 = .ok (.aload_n 0, 1) := by decide +kernel
theorem d_M_text_18 : decode prog_14_method_94_code 18 = .ok (.getfield 145, 3) := by decide +kernel
theorem d_M_text_21 : decode prog_14_method_94_code 21 = .ok (.ifCond .le 7, 3) := by decide +kernel
theorem d_M_text_24 : decode prog_14_method_94_code 24 = .ok (.iconst 0, 1) := by decide +kernel
theorem d_M_text_25 : decode prog_14_method_94_code 25 = .ok (.goto 54, 3) := by decide +kernel
theorem d_M_text_79 : decode prog_14_method_94_code 79 = .ok (.ireturn, 1) := by decide +kernel
theorem w327 : Cond.methodLink "SeriesVaultModel" 511 ⟨"SeriesVaultModel", "isRow", "(I)Z"⟩ ∈ aW := aw_of (tb_11 (List.mem_of_getElem? (i := 67) rfl)) rfl
theorem w328 : Cond.initialized "SeriesVaultModel" ∈ aW := aw_of (tb_1 (List.mem_of_getElem? (i := 16) rfl)) rfl
theorem w329 : Cond.code ⟨"SeriesVaultModel", "isRow", "(I)Z"⟩ prog_14_method_93_code 2 (some FieldType.boolean) ∈ aW := aw_of (tb_11 (List.mem_of_getElem? (i := 70) rfl)) rfl
theorem w330 : Cond.instanceMethod ⟨"SeriesVaultModel", "isRow", "(I)Z"⟩ ∈ aW := aw_of (tb_11 (List.mem_of_getElem? (i := 69) rfl)) rfl
theorem w331 : Cond.selects "SeriesVaultModel" ⟨"SeriesVaultModel", "isRow", "(I)Z"⟩ ⟨"SeriesVaultModel", "isRow", "(I)Z"⟩ ∈ aW := aw_pr (List.mem_map.mpr ⟨_, pv_8 (List.mem_of_getElem? (i := 15) rfl), rfl⟩) rfl
set_option maxHeartbeats 4000000 in
set_option maxRecDepth 100000 in
theorem c_M_text_x (l : Launch) (D : va_G) (dA : Nat → ClassId) (sz : Nat) (a : Nat) (fs : List Value) (n : Int32) (i : Int32) (j : Int32) (h_fs_isTable : fs[71]? = some (.int 0)) (hl_fs : fs.length = 79) : Met l ⟨"SeriesVaultModel", "text", "(III)I"⟩ [Cond.code ⟨"SeriesVaultModel", "text", "(III)I"⟩ prog_14_method_94_code 4 (some FieldType.int)] { frames := 2, cells := 0, slots := 0, locals := 21 } (pC D dA [.ref a, .int n, .int i, .int j] [(a, .inr (9, fs))] sz) (va_Qi (fun (r : Int32) (_ : Unit) => r = 0) (fun (u9 : Unit) t9 => bW D (va_A [(a, .inr (9, fs))] sz) [(a, .inr (9, (fs.set 0 (.int 1))))] t9) (va_A [(a, .inr (9, fs))] sz)) 0 0 (va_A [(a, .inr (9, fs))] sz) := by
  refine mkC (Qc := fun A => va_Qi (fun (r : Int32) (_ : Unit) => r = 0) (fun (u9 : Unit) t9 => bW D A [(a, .inr (9, (fs.set 0 (.int 1))))] t9) A) (by decide) (Nat.le_of_ble_eq_true rfl) ?_
  intro A p e s m below meth c ls hsz hB
  obtain ⟨hx, hb, hr, hml, hown, hin, hlk, hE, hK, hP, hD, hS, hA, hN, hl⟩ := hB
  have hown : s.vm.findClass "SeriesVaultModel" = some m.cls := hown
  have hin : meth.name = "text" := hin
  have hl : lv_has ls 4 [(0, .ref a), (1, .int n), (2, .int i), (3, .int j)] := hl
  obtain ⟨H, hH⟩ : ∃ z, z = s.heap := ⟨_, rfl⟩
  have hP : va_P D vwCl [(a, .inr (9, fs))] H := by rw [hH]; exact hP
  have hS : va_S A s.heap H [] := by rw [hH]; exact hS
  rw [← hH]
  refine lv_aload_n hx hb d_M_text_0 rfl (lv_at hl 0 rfl) ?_
  refine lv_aload_n hx hb d_M_text_1 rfl (lv_at hl 0 rfl) ?_
  refine lv_iload_n hx hb d_M_text_2 rfl (lv_at hl 1 rfl) ?_
  have hPc := hP.sub (ws' := [(a, .inr (9, fs))]) [0] rfl
  have hDc := hD.sub (ws' := [(a, .inr (9, fs))]) [0] (by decide) rfl
  refine jnI (rnV (As := [.int n]) (rest := [.ref a]) hx hb hml hown hE hK (hN _ _ hS) hPc hDc (c_M_isRow_0 l D dA H.size a fs n h_fs_isTable hl_fs) (q0 := 0) rfl rfl w329 w327 w330 w331 w328 rfl rfl ⟨⟨by decide, by decide⟩, rfl⟩ ⟨(Nat.le_of_ble_eq_true rfl), (Nat.le_of_ble_eq_true rfl)⟩ rfl hl.1 rfl (Nat.le_of_ble_eq_true rfl) d_M_text_3 ⟨(Nat.le_of_ble_eq_true rfl), (Nat.le_of_ble_eq_true rfl)⟩) hP hD hS hA [0] [] (wr := []) rfl rfl (by decide) (by decide) (fun r1 u9 H locs hp9 hP hD hS => ?_)
  have hP : va_P D vwCl [(a, .inr (9, fs))] H := hP
  have hD : va_D A [(a, .inr (9, fs))] := hD
  have hp9 : 0 = r1 := Eq.symm hp9
  subst hp9
  refine lv_if_eq hx hb d_M_text_6 (tgt := 13) rfl (fun _ => ?_) (fun h9 => absurd (by decide) h9)
  refine lv_iconst (v := 1) hx hb d_M_text_13 (by decide) ?_
  refine pF hx hb hown hE hK hP hD hS 0 rfl rfl layM tyM tokM nmM 0 (by decide) w319 rfl rfl rfl (by simp [hl_fs]) d_M_text_14 (fun H locs hP hD hS => ?_)
  have hP : va_P D vwCl [(a, .inr (9, (fs.set 0 (.int 1))))] H := hP
  have hD : va_D A [(a, .inr (9, (fs.set 0 (.int 1))))] := hD
  refine lv_aload_n hx hb d_M_text_17 rfl (lv_at hl 0 rfl) ?_
  refine gF (v := .int 1) hx hb hown hE hK hP 0 rfl rfl layM 0 (by decide) w319 (by simp [hl_fs]) d_M_text_18 ?_
  refine lv_if_le hx hb d_M_text_21 (tgt := 28) rfl (fun h9 => absurd h9 (by decide)) (fun _ => ?_)
  refine lv_iconst (v := 0) hx hb d_M_text_24 (by decide) ?_
  refine lv_goto hx hb d_M_text_25 (tgt := 79) rfl ?_
  exact rtI hx hb hr hlk hP hD hS () rfl [0] rfl rfl (by decide) (Nat.le_of_ble_eq_true rfl) (Nat.le_of_ble_eq_true rfl) d_M_text_79
theorem d_M_isThere_0 : decode prog_14_method_95_code 0 = .ok (.aload_n 0, 1) := by decide +kernel
theorem d_M_isThere_1 : decode prog_14_method_95_code 1 = .ok (.aload_n 0, 1) := by decide +kernel
theorem d_M_isThere_2 : decode prog_14_method_95_code 2 = .ok (.iload_n 1, 1) := by decide +kernel
theorem d_M_isThere_3 : decode prog_14_method_95_code 3 = .ok (.invokevirtual 511, 3) := by decide +kernel
theorem d_M_isThere_6 : decode prog_14_method_95_code 6 = .ok (.ifCond .eq 19, 3) := by decide +kernel
theorem d_M_isThere_25 : decode prog_14_method_95_code 25 = .ok (.iconst 1, 1) := by decide +kernel
theorem d_M_isThere_26 : decode prog_14_method_95_code 26 = .ok (.putfield 145, 3) := by decide +kernel
theorem d_M_isThere_29 : decode prog_14_method_95_code 29 = .ok (.aload_n 0, 1) := by decide +kernel
theorem d_M_isThere_30 : decode prog_14_method_95_code 30 = .ok (.getfield 145, 3) := by decide +kernel
theorem d_M_isThere_33 : decode prog_14_method_95_code 33 = .ok (.ifCond .ne 21, 3) := by decide +kernel
theorem d_M_isThere_54 : decode prog_14_method_95_code 54 = .ok (.iconst 0, 1) := by decide +kernel
theorem d_M_isThere_55 : decode prog_14_method_95_code 55 = .ok (.ireturn, 1) := by decide +kernel
set_option maxHeartbeats 4000000 in
set_option maxRecDepth 100000 in
theorem c_M_isThere_x (l : Launch) (D : va_G) (dA : Nat → ClassId) (sz : Nat) (a : Nat) (fs : List Value) (n : Int32) (i : Int32) (h_fs_isTable : fs[71]? = some (.int 0)) (hl_fs : fs.length = 79) : Met l ⟨"SeriesVaultModel", "isThere", "(II)Z"⟩ [Cond.code ⟨"SeriesVaultModel", "isThere", "(II)Z"⟩ prog_14_method_95_code 3 (some FieldType.boolean)] { frames := 2, cells := 0, slots := 0, locals := 21 } (pC D dA [.ref a, .int n, .int i] [(a, .inr (9, fs))] sz) (va_Qi (fun (r : Int32) (_ : Unit) => r = 0) (fun (u9 : Unit) t9 => bW D (va_A [(a, .inr (9, fs))] sz) [(a, .inr (9, (fs.set 0 (.int 1))))] t9) (va_A [(a, .inr (9, fs))] sz)) 0 0 (va_A [(a, .inr (9, fs))] sz) := by
  refine mkC (Qc := fun A => va_Qi (fun (r : Int32) (_ : Unit) => r = 0) (fun (u9 : Unit) t9 => bW D A [(a, .inr (9, (fs.set 0 (.int 1))))] t9) A) (by decide) (Nat.le_of_ble_eq_true rfl) ?_
  intro A p e s m below meth c ls hsz hB
  obtain ⟨hx, hb, hr, hml, hown, hin, hlk, hE, hK, hP, hD, hS, hA, hN, hl⟩ := hB
  have hown : s.vm.findClass "SeriesVaultModel" = some m.cls := hown
  have hin : meth.name = "isThere" := hin
  have hl : lv_has ls 3 [(0, .ref a), (1, .int n), (2, .int i)] := hl
  obtain ⟨H, hH⟩ : ∃ z, z = s.heap := ⟨_, rfl⟩
  have hP : va_P D vwCl [(a, .inr (9, fs))] H := by rw [hH]; exact hP
  have hS : va_S A s.heap H [] := by rw [hH]; exact hS
  rw [← hH]
  refine lv_aload_n hx hb d_M_isThere_0 rfl (lv_at hl 0 rfl) ?_
  refine lv_aload_n hx hb d_M_isThere_1 rfl (lv_at hl 0 rfl) ?_
  refine lv_iload_n hx hb d_M_isThere_2 rfl (lv_at hl 1 rfl) ?_
  have hPc := hP.sub (ws' := [(a, .inr (9, fs))]) [0] rfl
  have hDc := hD.sub (ws' := [(a, .inr (9, fs))]) [0] (by decide) rfl
  refine jnI (rnV (As := [.int n]) (rest := [.ref a]) hx hb hml hown hE hK (hN _ _ hS) hPc hDc (c_M_isRow_0 l D dA H.size a fs n h_fs_isTable hl_fs) (q0 := 0) rfl rfl w329 w327 w330 w331 w328 rfl rfl ⟨⟨by decide, by decide⟩, rfl⟩ ⟨(Nat.le_of_ble_eq_true rfl), (Nat.le_of_ble_eq_true rfl)⟩ rfl hl.1 rfl (Nat.le_of_ble_eq_true rfl) d_M_isThere_3 ⟨(Nat.le_of_ble_eq_true rfl), (Nat.le_of_ble_eq_true rfl)⟩) hP hD hS hA [0] [] (wr := []) rfl rfl (by decide) (by decide) (fun r1 u9 H locs hp9 hP hD hS => ?_)
  have hP : va_P D vwCl [(a, .inr (9, fs))] H := hP
  have hD : va_D A [(a, .inr (9, fs))] := hD
  have hp9 : 0 = r1 := Eq.symm hp9
  subst hp9
  refine lv_if_eq hx hb d_M_isThere_6 (tgt := 25) rfl (fun _ => ?_) (fun h9 => absurd (by decide) h9)
  refine lv_iconst (v := 1) hx hb d_M_isThere_25 (by decide) ?_
  refine pF hx hb hown hE hK hP hD hS 0 rfl rfl layM tyM tokM nmM 0 (by decide) w319 rfl rfl rfl (by simp [hl_fs]) d_M_isThere_26 (fun H locs hP hD hS => ?_)
  have hP : va_P D vwCl [(a, .inr (9, (fs.set 0 (.int 1))))] H := hP
  have hD : va_D A [(a, .inr (9, (fs.set 0 (.int 1))))] := hD
  refine lv_aload_n hx hb d_M_isThere_29 rfl (lv_at hl 0 rfl) ?_
  refine gF (v := .int 1) hx hb hown hE hK hP 0 rfl rfl layM 0 (by decide) w319 (by simp [hl_fs]) d_M_isThere_30 ?_
  refine lv_if_ne hx hb d_M_isThere_33 (tgt := 54) rfl (fun _ => ?_) (fun h9 => absurd h9 (by decide))
  refine lv_iconst (v := 0) hx hb d_M_isThere_54 (by decide) ?_
  exact rtZ hx hb hr (by decide) hlk hP hD hS () rfl [0] rfl rfl (by decide) (Nat.le_of_ble_eq_true rfl) (Nat.le_of_ble_eq_true rfl) d_M_isThere_55
theorem d_M_cell_0 : decode prog_14_method_96_code 0 = .ok (.aload_n 0, 1) := by decide +kernel
theorem d_M_cell_1 : decode prog_14_method_96_code 1 = .ok (.aload_n 0, 1) := by decide +kernel
theorem d_M_cell_2 : decode prog_14_method_96_code 2 = .ok (.iload_n 1, 1) := by decide +kernel
theorem d_M_cell_3 : decode prog_14_method_96_code 3 = .ok (.invokevirtual 511, 3) := by decide +kernel
theorem d_M_cell_6 : decode prog_14_method_96_code 6 = .ok (.ifCond .eq 19, 3) := by decide +kernel
theorem d_M_cell_25 : decode prog_14_method_96_code 25 = .ok (.iconst 1, 1) := by decide +kernel
theorem d_M_cell_26 : decode prog_14_method_96_code 26 = .ok (.putfield 145, 3) := by decide +kernel
theorem d_M_cell_29 : decode prog_14_method_96_code 29 = .ok (.aload_n 0, 1) := by decide +kernel
theorem d_M_cell_30 : decode prog_14_method_96_code 30 = .ok (.getfield 145, 3) := by decide +kernel
theorem d_M_cell_33 : decode prog_14_method_96_code 33 = .ok (.ifCond .ne 31, 3) := by decide +kernel
theorem d_M_cell_64 : decode prog_14_method_96_code 64 = .ok (.lconst 0, 1) := by decide +kernel
theorem d_M_cell_65 : decode prog_14_method_96_code 65 = .ok (.lreturn, 1) := by decide +kernel
set_option maxHeartbeats 4000000 in
set_option maxRecDepth 100000 in
theorem c_M_cell_x (l : Launch) (D : va_G) (dA : Nat → ClassId) (sz : Nat) (a : Nat) (fs : List Value) (n : Int32) (i : Int32) (h_fs_isTable : fs[71]? = some (.int 0)) (hl_fs : fs.length = 79) : Met l ⟨"SeriesVaultModel", "cell", "(II)J"⟩ [Cond.code ⟨"SeriesVaultModel", "cell", "(II)J"⟩ prog_14_method_96_code 3 (some FieldType.long)] { frames := 2, cells := 0, slots := 0, locals := 21 } (pC D dA [.ref a, .int n, .int i] [(a, .inr (9, fs))] sz) (va_Ql (fun (r : Int64) (_ : Unit) => r = 0) (fun (u9 : Unit) t9 => bW D (va_A [(a, .inr (9, fs))] sz) [(a, .inr (9, (fs.set 0 (.int 1))))] t9) (va_A [(a, .inr (9, fs))] sz)) 0 0 (va_A [(a, .inr (9, fs))] sz) := by
  refine mkC (Qc := fun A => va_Ql (fun (r : Int64) (_ : Unit) => r = 0) (fun (u9 : Unit) t9 => bW D A [(a, .inr (9, (fs.set 0 (.int 1))))] t9) A) (by decide) (Nat.le_of_ble_eq_true rfl) ?_
  intro A p e s m below meth c ls hsz hB
  obtain ⟨hx, hb, hr, hml, hown, hin, hlk, hE, hK, hP, hD, hS, hA, hN, hl⟩ := hB
  have hown : s.vm.findClass "SeriesVaultModel" = some m.cls := hown
  have hin : meth.name = "cell" := hin
  have hl : lv_has ls 3 [(0, .ref a), (1, .int n), (2, .int i)] := hl
  obtain ⟨H, hH⟩ : ∃ z, z = s.heap := ⟨_, rfl⟩
  have hP : va_P D vwCl [(a, .inr (9, fs))] H := by rw [hH]; exact hP
  have hS : va_S A s.heap H [] := by rw [hH]; exact hS
  rw [← hH]
  refine lv_aload_n hx hb d_M_cell_0 rfl (lv_at hl 0 rfl) ?_
  refine lv_aload_n hx hb d_M_cell_1 rfl (lv_at hl 0 rfl) ?_
  refine lv_iload_n hx hb d_M_cell_2 rfl (lv_at hl 1 rfl) ?_
  have hPc := hP.sub (ws' := [(a, .inr (9, fs))]) [0] rfl
  have hDc := hD.sub (ws' := [(a, .inr (9, fs))]) [0] (by decide) rfl
  refine jnI (rnV (As := [.int n]) (rest := [.ref a]) hx hb hml hown hE hK (hN _ _ hS) hPc hDc (c_M_isRow_0 l D dA H.size a fs n h_fs_isTable hl_fs) (q0 := 0) rfl rfl w329 w327 w330 w331 w328 rfl rfl ⟨⟨by decide, by decide⟩, rfl⟩ ⟨(Nat.le_of_ble_eq_true rfl), (Nat.le_of_ble_eq_true rfl)⟩ rfl hl.1 rfl (Nat.le_of_ble_eq_true rfl) d_M_cell_3 ⟨(Nat.le_of_ble_eq_true rfl), (Nat.le_of_ble_eq_true rfl)⟩) hP hD hS hA [0] [] (wr := []) rfl rfl (by decide) (by decide) (fun r1 u9 H locs hp9 hP hD hS => ?_)
  have hP : va_P D vwCl [(a, .inr (9, fs))] H := hP
  have hD : va_D A [(a, .inr (9, fs))] := hD
  have hp9 : 0 = r1 := Eq.symm hp9
  subst hp9
  refine lv_if_eq hx hb d_M_cell_6 (tgt := 25) rfl (fun _ => ?_) (fun h9 => absurd (by decide) h9)
  refine lv_iconst (v := 1) hx hb d_M_cell_25 (by decide) ?_
  refine pF hx hb hown hE hK hP hD hS 0 rfl rfl layM tyM tokM nmM 0 (by decide) w319 rfl rfl rfl (by simp [hl_fs]) d_M_cell_26 (fun H locs hP hD hS => ?_)
  have hP : va_P D vwCl [(a, .inr (9, (fs.set 0 (.int 1))))] H := hP
  have hD : va_D A [(a, .inr (9, (fs.set 0 (.int 1))))] := hD
  refine lv_aload_n hx hb d_M_cell_29 rfl (lv_at hl 0 rfl) ?_
  refine gF (v := .int 1) hx hb hown hE hK hP 0 rfl rfl layM 0 (by decide) w319 (by simp [hl_fs]) d_M_cell_30 ?_
  refine lv_if_ne hx hb d_M_cell_33 (tgt := 64) rfl (fun _ => ?_) (fun h9 => absurd h9 (by decide))
  refine lv_lconst (v := 0) hx hb d_M_cell_64 (by decide) ?_
  exact rtL hx hb hr hlk hP hD hS () rfl [0] rfl rfl (by decide) (Nat.le_of_ble_eq_true rfl) (Nat.le_of_ble_eq_true rfl) d_M_cell_65
theorem d_M_seriesFault_0 : decode prog_14_method_30_code 0 = .ok (.aload_n 0, 1) := by decide +kernel
theorem d_M_seriesFault_1 : decode prog_14_method_30_code 1 = .ok (.getfield 21, 3) := by decide +kernel
theorem d_M_seriesFault_4 : decode prog_14_method_30_code 4 = .ok (.ifCond .ne 7, 3) := by decide +kernel
theorem d_M_seriesFault_11 : decode prog_14_method_30_code 11 = .ok (.iload_n 1, 1) := by decide +kernel
theorem d_M_seriesFault_12 : decode prog_14_method_30_code 12 = .ok (.ifCond .lt 11, 3) := by decide +kernel
theorem d_M_seriesFault_23 : decode prog_14_method_30_code 23 = .ok (.iconst 2, 1) := by decide +kernel
theorem d_M_seriesFault_24 : decode prog_14_method_30_code 24 = .ok (.goto 4, 3) := by decide +kernel
theorem d_M_seriesFault_28 : decode prog_14_method_30_code 28 = .ok (.ireturn, 1) := by decide +kernel
theorem d_M_seriesFault_15 : decode prog_14_method_30_code 15 = .ok (.iload_n 1, 1) := by decide +kernel
theorem d_M_seriesFault_16 : decode prog_14_method_30_code 16 = .ok (.aload_n 0, 1) := by decide +kernel
theorem d_M_seriesFault_17 : decode prog_14_method_30_code 17 = .ok (.getfield 160, 3) := by decide +kernel
theorem d_M_seriesFault_20 : decode prog_14_method_30_code 20 = .ok (.if_icmp .lt 7, 3) := by decide +kernel
theorem w332 : Cond.fieldLink "SeriesVaultModel" 160 "SeriesVaultModel" "seriesCount" "I" ∈ aW := aw_of (tb_8 (List.mem_of_getElem? (i := 186) rfl)) rfl
set_option maxHeartbeats 4000000 in
set_option maxRecDepth 100000 in
theorem c_M_seriesFault_x (l : Launch) (D : va_G) (dA : Nat → ClassId) (sz : Nat) (a : Nat) (fs : List Value) (n : Int32) (h_fs_on : fs[7]? = some (.int 1)) (h_fs_seriesCount : fs[12]? = some (.int 0)) (hl_fs : fs.length = 79) : Met l ⟨"SeriesVaultModel", "seriesFault", "(I)I"⟩ [Cond.code ⟨"SeriesVaultModel", "seriesFault", "(I)I"⟩ prog_14_method_30_code 2 (some FieldType.int)] { frames := 1, cells := 0, slots := 0, locals := 0 } (pC D dA [.ref a, .int n] [(a, .inr (9, fs))] sz) (va_Qi (fun (r : Int32) (_ : Unit) => r = 2) (fun (u9 : Unit) t9 => bW D (va_A [(a, .inr (9, fs))] sz) [(a, .inr (9, fs))] t9) (va_A [(a, .inr (9, fs))] sz)) 0 0 (va_A [(a, .inr (9, fs))] sz) := by
  refine mkC (Qc := fun A => va_Qi (fun (r : Int32) (_ : Unit) => r = 2) (fun (u9 : Unit) t9 => bW D A [(a, .inr (9, fs))] t9) A) (by decide) (Nat.le_of_ble_eq_true rfl) ?_
  intro A p e s m below meth c ls hsz hB
  obtain ⟨hx, hb, hr, hml, hown, hin, hlk, hE, hK, hP, hD, hS, hA, hN, hl⟩ := hB
  have hown : s.vm.findClass "SeriesVaultModel" = some m.cls := hown
  have hin : meth.name = "seriesFault" := hin
  have hl : lv_has ls 2 [(0, .ref a), (1, .int n)] := hl
  obtain ⟨H, hH⟩ : ∃ z, z = s.heap := ⟨_, rfl⟩
  have hP : va_P D vwCl [(a, .inr (9, fs))] H := by rw [hH]; exact hP
  have hS : va_S A s.heap H [] := by rw [hH]; exact hS
  rw [← hH]
  refine lv_aload_n hx hb d_M_seriesFault_0 rfl (lv_at hl 0 rfl) ?_
  refine gF (v := .int 1) hx hb hown hE hK hP 0 rfl rfl layM 7 (by decide) w324 h_fs_on d_M_seriesFault_1 ?_
  refine lv_if_ne hx hb d_M_seriesFault_4 (tgt := 11) rfl (fun _ => ?_) (fun h9 => absurd h9 (by decide))
  refine lv_iload_n hx hb d_M_seriesFault_11 rfl (lv_at hl 1 rfl) ?_
  refine lv_if_lt hx hb d_M_seriesFault_12 (tgt := 23) rfl (fun hc => ?_) (fun hc => ?_)
  · refine lv_iconst (v := 2) hx hb d_M_seriesFault_23 (by decide) ?_
    refine lv_goto hx hb d_M_seriesFault_24 (tgt := 28) rfl ?_
    exact rtI hx hb hr hlk hP hD hS () rfl [0] rfl rfl (by decide) (Nat.le_of_ble_eq_true rfl) (Nat.le_of_ble_eq_true rfl) d_M_seriesFault_28
  · refine lv_iload_n hx hb d_M_seriesFault_15 rfl (lv_at hl 1 rfl) ?_
    refine lv_aload_n hx hb d_M_seriesFault_16 rfl (lv_at hl 0 rfl) ?_
    refine gF (v := .int 0) hx hb hown hE hK hP 0 rfl rfl layM 12 (by decide) w332 h_fs_seriesCount d_M_seriesFault_17 ?_
    refine lv_icmp_lt hx hb d_M_seriesFault_20 (tgt := 27) rfl (fun h9 => absurd h9 hc) (fun _ => ?_)
    refine lv_iconst (v := 2) hx hb d_M_seriesFault_23 (by decide) ?_
    refine lv_goto hx hb d_M_seriesFault_24 (tgt := 28) rfl ?_
    exact rtI hx hb hr hlk hP hD hS () rfl [0] rfl rfl (by decide) (Nat.le_of_ble_eq_true rfl) (Nat.le_of_ble_eq_true rfl) d_M_seriesFault_28
theorem d_M_letter_0 : decode prog_14_method_31_code 0 = .ok (.aload_n 0, 1) := by decide +kernel
theorem d_M_letter_1 : decode prog_14_method_31_code 1 = .ok (.aload_n 0, 1) := by decide +kernel
theorem d_M_letter_2 : decode prog_14_method_31_code 2 = .ok (.iload_n 1, 1) := by decide +kernel
theorem d_M_letter_3 : decode prog_14_method_31_code 3 = .ok (.invokevirtual 258, 3) := by decide +kernel
theorem d_M_letter_6 : decode prog_14_method_31_code 6 = .ok (.putfield 145, 3) := by decide +kernel
theorem d_M_letter_9 : decode prog_14_method_31_code 9 = .ok (.aload_n 0, 1) := by decide +kernel
theorem d_M_letter_10 : decode prog_14_method_31_code 10 = .ok (.getfield 145, 3) := by decide +kernel
theorem d_M_letter_13 : decode prog_14_method_31_code 13 = .ok (.ifCond .le 7, 3) := by decide +kernel
theorem d_M_letter_16 : decode prog_14_method_31_code 16 = .ok (.iconst 0, 1) := by decide +kernel
theorem d_M_letter_17 : decode prog_14_method_31_code 17 = .ok (.goto 33, 3) := by decide +kernel
theorem d_M_letter_50 : decode prog_14_method_31_code 50 = .ok (.ireturn, 1) := by decide +kernel
theorem w333 : Cond.methodLink "SeriesVaultModel" 258 ⟨"SeriesVaultModel", "seriesFault", "(I)I"⟩ ∈ aW := aw_of (tb_10 (List.mem_of_getElem? (i := 11) rfl)) rfl
theorem w334 : Cond.code ⟨"SeriesVaultModel", "seriesFault", "(I)I"⟩ prog_14_method_30_code 2 (some FieldType.int) ∈ aW := aw_of (tb_10 (List.mem_of_getElem? (i := 14) rfl)) rfl
theorem w335 : Cond.instanceMethod ⟨"SeriesVaultModel", "seriesFault", "(I)I"⟩ ∈ aW := aw_of (tb_10 (List.mem_of_getElem? (i := 13) rfl)) rfl
theorem w336 : Cond.selects "SeriesVaultModel" ⟨"SeriesVaultModel", "seriesFault", "(I)I"⟩ ⟨"SeriesVaultModel", "seriesFault", "(I)I"⟩ ∈ aW := aw_pr (List.mem_map.mpr ⟨_, pv_5 (List.mem_of_getElem? (i := 14) rfl), rfl⟩) rfl
set_option maxHeartbeats 4000000 in
set_option maxRecDepth 100000 in
theorem c_M_letter_x (l : Launch) (D : va_G) (dA : Nat → ClassId) (sz : Nat) (a : Nat) (fs : List Value) (n : Int32) (i : Int32) (h_fs_on : fs[7]? = some (.int 1)) (h_fs_seriesCount : fs[12]? = some (.int 0)) (hl_fs : fs.length = 79) : Met l ⟨"SeriesVaultModel", "letter", "(II)I"⟩ [Cond.code ⟨"SeriesVaultModel", "letter", "(II)I"⟩ prog_14_method_31_code 3 (some FieldType.int)] { frames := 2, cells := 0, slots := 0, locals := 21 } (pC D dA [.ref a, .int n, .int i] [(a, .inr (9, fs))] sz) (va_Qi (fun (r : Int32) (_ : Unit) => r = 0) (fun (u9 : Unit) t9 => bW D (va_A [(a, .inr (9, fs))] sz) [(a, .inr (9, (fs.set 0 (.int 2))))] t9) (va_A [(a, .inr (9, fs))] sz)) 0 0 (va_A [(a, .inr (9, fs))] sz) := by
  refine mkC (Qc := fun A => va_Qi (fun (r : Int32) (_ : Unit) => r = 0) (fun (u9 : Unit) t9 => bW D A [(a, .inr (9, (fs.set 0 (.int 2))))] t9) A) (by decide) (Nat.le_of_ble_eq_true rfl) ?_
  intro A p e s m below meth c ls hsz hB
  obtain ⟨hx, hb, hr, hml, hown, hin, hlk, hE, hK, hP, hD, hS, hA, hN, hl⟩ := hB
  have hown : s.vm.findClass "SeriesVaultModel" = some m.cls := hown
  have hin : meth.name = "letter" := hin
  have hl : lv_has ls 3 [(0, .ref a), (1, .int n), (2, .int i)] := hl
  obtain ⟨H, hH⟩ : ∃ z, z = s.heap := ⟨_, rfl⟩
  have hP : va_P D vwCl [(a, .inr (9, fs))] H := by rw [hH]; exact hP
  have hS : va_S A s.heap H [] := by rw [hH]; exact hS
  rw [← hH]
  refine lv_aload_n hx hb d_M_letter_0 rfl (lv_at hl 0 rfl) ?_
  refine lv_aload_n hx hb d_M_letter_1 rfl (lv_at hl 0 rfl) ?_
  refine lv_iload_n hx hb d_M_letter_2 rfl (lv_at hl 1 rfl) ?_
  have hPc := hP.sub (ws' := [(a, .inr (9, fs))]) [0] rfl
  have hDc := hD.sub (ws' := [(a, .inr (9, fs))]) [0] (by decide) rfl
  refine jnI (rnV (As := [.int n]) (rest := [.ref a]) hx hb hml hown hE hK (hN _ _ hS) hPc hDc (c_M_seriesFault_x l D dA H.size a fs n h_fs_on h_fs_seriesCount hl_fs) (q0 := 0) rfl rfl w334 w333 w335 w336 w328 rfl rfl ⟨⟨by decide, by decide⟩, rfl⟩ ⟨(Nat.le_of_ble_eq_true rfl), (Nat.le_of_ble_eq_true rfl)⟩ rfl hl.1 rfl (Nat.le_of_ble_eq_true rfl) d_M_letter_3 ⟨(Nat.le_of_ble_eq_true rfl), (Nat.le_of_ble_eq_true rfl)⟩) hP hD hS hA [0] [] (wr := []) rfl rfl (by decide) (by decide) (fun r1 u9 H locs hp9 hP hD hS => ?_)
  have hP : va_P D vwCl [(a, .inr (9, fs))] H := hP
  have hD : va_D A [(a, .inr (9, fs))] := hD
  have hp9 : 2 = r1 := Eq.symm hp9
  subst hp9
  refine pF hx hb hown hE hK hP hD hS 0 rfl rfl layM tyM tokM nmM 0 (by decide) w319 rfl rfl rfl (by simp [hl_fs]) d_M_letter_6 (fun H locs hP hD hS => ?_)
  have hP : va_P D vwCl [(a, .inr (9, (fs.set 0 (.int 2))))] H := hP
  have hD : va_D A [(a, .inr (9, (fs.set 0 (.int 2))))] := hD
  refine lv_aload_n hx hb d_M_letter_9 rfl (lv_at hl 0 rfl) ?_
  refine gF (v := .int 2) hx hb hown hE hK hP 0 rfl rfl layM 0 (by decide) w319 (by simp [hl_fs]) d_M_letter_10 ?_
  refine lv_if_le hx hb d_M_letter_13 (tgt := 20) rfl (fun h9 => absurd h9 (by decide)) (fun _ => ?_)
  refine lv_iconst (v := 0) hx hb d_M_letter_16 (by decide) ?_
  refine lv_goto hx hb d_M_letter_17 (tgt := 50) rfl ?_
  exact rtI hx hb hr hlk hP hD hS () rfl [0] rfl rfl (by decide) (Nat.le_of_ble_eq_true rfl) (Nat.le_of_ble_eq_true rfl) d_M_letter_50
theorem d_M_last_0 : decode prog_14_method_32_code 0 = .ok (.aload_n 0, 1) := by decide +kernel
theorem d_M_last_1 : decode prog_14_method_32_code 1 = .ok (.aload_n 0, 1) := by decide +kernel
theorem d_M_last_2 : decode prog_14_method_32_code 2 = .ok (.iload_n 1, 1) := by decide +kernel
theorem d_M_last_3 : decode prog_14_method_32_code 3 = .ok (.invokevirtual 258, 3) := by decide +kernel
theorem d_M_last_6 : decode prog_14_method_32_code 6 = .ok (.putfield 145, 3) := by decide +kernel
theorem d_M_last_9 : decode prog_14_method_32_code 9 = .ok (.aload_n 0, 1) := by decide +kernel
theorem d_M_last_10 : decode prog_14_method_32_code 10 = .ok (.getfield 145, 3) := by decide +kernel
theorem d_M_last_13 : decode prog_14_method_32_code 13 = .ok (.ifCond .le 7, 3) := by decide +kernel
theorem d_M_last_16 : decode prog_14_method_32_code 16 = .ok (.lconst 0, 1) := by decide +kernel
theorem d_M_last_17 : decode prog_14_method_32_code 17 = .ok (.goto 9, 3) := by decide +kernel
theorem d_M_last_26 : decode prog_14_method_32_code 26 = .ok (.lreturn, 1) := by decide +kernel
set_option maxHeartbeats 4000000 in
set_option maxRecDepth 100000 in
theorem c_M_last_x (l : Launch) (D : va_G) (dA : Nat → ClassId) (sz : Nat) (a : Nat) (fs : List Value) (n : Int32) (h_fs_on : fs[7]? = some (.int 1)) (h_fs_seriesCount : fs[12]? = some (.int 0)) (hl_fs : fs.length = 79) : Met l ⟨"SeriesVaultModel", "last", "(I)J"⟩ [Cond.code ⟨"SeriesVaultModel", "last", "(I)J"⟩ prog_14_method_32_code 2 (some FieldType.long)] { frames := 2, cells := 0, slots := 0, locals := 21 } (pC D dA [.ref a, .int n] [(a, .inr (9, fs))] sz) (va_Ql (fun (r : Int64) (_ : Unit) => r = 0) (fun (u9 : Unit) t9 => bW D (va_A [(a, .inr (9, fs))] sz) [(a, .inr (9, (fs.set 0 (.int 2))))] t9) (va_A [(a, .inr (9, fs))] sz)) 0 0 (va_A [(a, .inr (9, fs))] sz) := by
  refine mkC (Qc := fun A => va_Ql (fun (r : Int64) (_ : Unit) => r = 0) (fun (u9 : Unit) t9 => bW D A [(a, .inr (9, (fs.set 0 (.int 2))))] t9) A) (by decide) (Nat.le_of_ble_eq_true rfl) ?_
  intro A p e s m below meth c ls hsz hB
  obtain ⟨hx, hb, hr, hml, hown, hin, hlk, hE, hK, hP, hD, hS, hA, hN, hl⟩ := hB
  have hown : s.vm.findClass "SeriesVaultModel" = some m.cls := hown
  have hin : meth.name = "last" := hin
  have hl : lv_has ls 2 [(0, .ref a), (1, .int n)] := hl
  obtain ⟨H, hH⟩ : ∃ z, z = s.heap := ⟨_, rfl⟩
  have hP : va_P D vwCl [(a, .inr (9, fs))] H := by rw [hH]; exact hP
  have hS : va_S A s.heap H [] := by rw [hH]; exact hS
  rw [← hH]
  refine lv_aload_n hx hb d_M_last_0 rfl (lv_at hl 0 rfl) ?_
  refine lv_aload_n hx hb d_M_last_1 rfl (lv_at hl 0 rfl) ?_
  refine lv_iload_n hx hb d_M_last_2 rfl (lv_at hl 1 rfl) ?_
  have hPc := hP.sub (ws' := [(a, .inr (9, fs))]) [0] rfl
  have hDc := hD.sub (ws' := [(a, .inr (9, fs))]) [0] (by decide) rfl
  refine jnI (rnV (As := [.int n]) (rest := [.ref a]) hx hb hml hown hE hK (hN _ _ hS) hPc hDc (c_M_seriesFault_x l D dA H.size a fs n h_fs_on h_fs_seriesCount hl_fs) (q0 := 0) rfl rfl w334 w333 w335 w336 w328 rfl rfl ⟨⟨by decide, by decide⟩, rfl⟩ ⟨(Nat.le_of_ble_eq_true rfl), (Nat.le_of_ble_eq_true rfl)⟩ rfl hl.1 rfl (Nat.le_of_ble_eq_true rfl) d_M_last_3 ⟨(Nat.le_of_ble_eq_true rfl), (Nat.le_of_ble_eq_true rfl)⟩) hP hD hS hA [0] [] (wr := []) rfl rfl (by decide) (by decide) (fun r1 u9 H locs hp9 hP hD hS => ?_)
  have hP : va_P D vwCl [(a, .inr (9, fs))] H := hP
  have hD : va_D A [(a, .inr (9, fs))] := hD
  have hp9 : 2 = r1 := Eq.symm hp9
  subst hp9
  refine pF hx hb hown hE hK hP hD hS 0 rfl rfl layM tyM tokM nmM 0 (by decide) w319 rfl rfl rfl (by simp [hl_fs]) d_M_last_6 (fun H locs hP hD hS => ?_)
  have hP : va_P D vwCl [(a, .inr (9, (fs.set 0 (.int 2))))] H := hP
  have hD : va_D A [(a, .inr (9, (fs.set 0 (.int 2))))] := hD
  refine lv_aload_n hx hb d_M_last_9 rfl (lv_at hl 0 rfl) ?_
  refine gF (v := .int 2) hx hb hown hE hK hP 0 rfl rfl layM 0 (by decide) w319 (by simp [hl_fs]) d_M_last_10 ?_
  refine lv_if_le hx hb d_M_last_13 (tgt := 20) rfl (fun h9 => absurd h9 (by decide)) (fun _ => ?_)
  refine lv_lconst (v := 0) hx hb d_M_last_16 (by decide) ?_
  refine lv_goto hx hb d_M_last_17 (tgt := 26) rfl ?_
  exact rtL hx hb hr hlk hP hD hS () rfl [0] rfl rfl (by decide) (Nat.le_of_ble_eq_true rfl) (Nat.le_of_ble_eq_true rfl) d_M_last_26
theorem d_M_bulk_0 : decode prog_14_method_36_code 0 = .ok (.aload_n 0, 1) := by decide +kernel
theorem d_M_bulk_1 : decode prog_14_method_36_code 1 = .ok (.aload_n 0, 1) := by decide +kernel
theorem d_M_bulk_2 : decode prog_14_method_36_code 2 = .ok (.iload_n 1, 1) := by decide +kernel
theorem d_M_bulk_3 : decode prog_14_method_36_code 3 = .ok (.invokevirtual 258, 3) := by decide +kernel
theorem d_M_bulk_6 : decode prog_14_method_36_code 6 = .ok (.putfield 145, 3) := by decide +kernel
theorem d_M_bulk_9 : decode prog_14_method_36_code 9 = .ok (.aload_n 0, 1) := by decide +kernel
theorem d_M_bulk_10 : decode prog_14_method_36_code 10 = .ok (.getfield 145, 3) := by decide +kernel
theorem d_M_bulk_13 : decode prog_14_method_36_code 13 = .ok (.ifCond .le 5, 3) := by decide +kernel
theorem d_M_bulk_16 : decode prog_14_method_36_code 16 = .ok (.iconst 0, 1) := by decide +kernel
theorem d_M_bulk_17 : decode prog_14_method_36_code 17 = .ok (.ireturn, 1) := by decide +kernel
set_option maxHeartbeats 4000000 in
set_option maxRecDepth 100000 in
theorem c_M_bulk_x (l : Launch) (D : va_G) (dA : Nat → ClassId) (sz : Nat) (a : Nat) (fs : List Value) (n : Int32) (h_fs_on : fs[7]? = some (.int 1)) (h_fs_seriesCount : fs[12]? = some (.int 0)) (hl_fs : fs.length = 79) : Met l ⟨"SeriesVaultModel", "bulk", "(I)I"⟩ [Cond.code ⟨"SeriesVaultModel", "bulk", "(I)I"⟩ prog_14_method_36_code 7 (some FieldType.int)] { frames := 2, cells := 0, slots := 0, locals := 21 } (pC D dA [.ref a, .int n] [(a, .inr (9, fs))] sz) (va_Qi (fun (r : Int32) (_ : Unit) => r = 0) (fun (u9 : Unit) t9 => bW D (va_A [(a, .inr (9, fs))] sz) [(a, .inr (9, (fs.set 0 (.int 2))))] t9) (va_A [(a, .inr (9, fs))] sz)) 0 0 (va_A [(a, .inr (9, fs))] sz) := by
  refine mkC (Qc := fun A => va_Qi (fun (r : Int32) (_ : Unit) => r = 0) (fun (u9 : Unit) t9 => bW D A [(a, .inr (9, (fs.set 0 (.int 2))))] t9) A) (by decide) (Nat.le_of_ble_eq_true rfl) ?_
  intro A p e s m below meth c ls hsz hB
  obtain ⟨hx, hb, hr, hml, hown, hin, hlk, hE, hK, hP, hD, hS, hA, hN, hl⟩ := hB
  have hown : s.vm.findClass "SeriesVaultModel" = some m.cls := hown
  have hin : meth.name = "bulk" := hin
  have hl : lv_has ls 7 [(0, .ref a), (1, .int n)] := hl
  obtain ⟨H, hH⟩ : ∃ z, z = s.heap := ⟨_, rfl⟩
  have hP : va_P D vwCl [(a, .inr (9, fs))] H := by rw [hH]; exact hP
  have hS : va_S A s.heap H [] := by rw [hH]; exact hS
  rw [← hH]
  refine lv_aload_n hx hb d_M_bulk_0 rfl (lv_at hl 0 rfl) ?_
  refine lv_aload_n hx hb d_M_bulk_1 rfl (lv_at hl 0 rfl) ?_
  refine lv_iload_n hx hb d_M_bulk_2 rfl (lv_at hl 1 rfl) ?_
  have hPc := hP.sub (ws' := [(a, .inr (9, fs))]) [0] rfl
  have hDc := hD.sub (ws' := [(a, .inr (9, fs))]) [0] (by decide) rfl
  refine jnI (rnV (As := [.int n]) (rest := [.ref a]) hx hb hml hown hE hK (hN _ _ hS) hPc hDc (c_M_seriesFault_x l D dA H.size a fs n h_fs_on h_fs_seriesCount hl_fs) (q0 := 0) rfl rfl w334 w333 w335 w336 w328 rfl rfl ⟨⟨by decide, by decide⟩, rfl⟩ ⟨(Nat.le_of_ble_eq_true rfl), (Nat.le_of_ble_eq_true rfl)⟩ rfl hl.1 rfl (Nat.le_of_ble_eq_true rfl) d_M_bulk_3 ⟨(Nat.le_of_ble_eq_true rfl), (Nat.le_of_ble_eq_true rfl)⟩) hP hD hS hA [0] [] (wr := []) rfl rfl (by decide) (by decide) (fun r1 u9 H locs hp9 hP hD hS => ?_)
  have hP : va_P D vwCl [(a, .inr (9, fs))] H := hP
  have hD : va_D A [(a, .inr (9, fs))] := hD
  have hp9 : 2 = r1 := Eq.symm hp9
  subst hp9
  refine pF hx hb hown hE hK hP hD hS 0 rfl rfl layM tyM tokM nmM 0 (by decide) w319 rfl rfl rfl (by simp [hl_fs]) d_M_bulk_6 (fun H locs hP hD hS => ?_)
  have hP : va_P D vwCl [(a, .inr (9, (fs.set 0 (.int 2))))] H := hP
  have hD : va_D A [(a, .inr (9, (fs.set 0 (.int 2))))] := hD
  refine lv_aload_n hx hb d_M_bulk_9 rfl (lv_at hl 0 rfl) ?_
  refine gF (v := .int 2) hx hb hown hE hK hP 0 rfl rfl layM 0 (by decide) w319 (by simp [hl_fs]) d_M_bulk_10 ?_
  refine lv_if_le hx hb d_M_bulk_13 (tgt := 18) rfl (fun h9 => absurd h9 (by decide)) (fun _ => ?_)
  refine lv_iconst (v := 0) hx hb d_M_bulk_16 (by decide) ?_
  exact rtI hx hb hr hlk hP hD hS () rfl [0] rfl rfl (by decide) (Nat.le_of_ble_eq_true rfl) (Nat.le_of_ble_eq_true rfl) d_M_bulk_17
theorem d_M_append_0 : decode prog_14_method_34_code 0 = .ok (.aload_n 0, 1) := by decide +kernel
theorem d_M_append_1 : decode prog_14_method_34_code 1 = .ok (.aload_n 0, 1) := by decide +kernel
theorem d_M_append_2 : decode prog_14_method_34_code 2 = .ok (.iload_n 1, 1) := by decide +kernel
theorem d_M_append_3 : decode prog_14_method_34_code 3 = .ok (.invokevirtual 258, 3) := by decide +kernel
theorem d_M_append_6 : decode prog_14_method_34_code 6 = .ok (.putfield 145, 3) := by decide +kernel
theorem d_M_append_9 : decode prog_14_method_34_code 9 = .ok (.aload_n 0, 1) := by decide +kernel
theorem d_M_append_10 : decode prog_14_method_34_code 10 = .ok (.aload_n 0, 1) := by decide +kernel
theorem d_M_append_11 : decode prog_14_method_34_code 11 = .ok (.getfield 145, 3) := by decide +kernel
theorem d_M_append_14 : decode prog_14_method_34_code 14 = .ok (.ifCond .ne 12, 3) := by decide +kernel
theorem d_M_append_26 : decode prog_14_method_34_code 26 = .ok (.aload_n 0, 1) := by decide +kernel
theorem d_M_append_27 : decode prog_14_method_34_code 27 = .ok (.getfield 145, 3) := by decide +kernel
theorem d_M_append_30 : decode prog_14_method_34_code 30 = .ok (.putfield 145, 3) := by decide +kernel
theorem d_M_append_33 : decode prog_14_method_34_code 33 = .ok (.aload_n 0, 1) := by decide +kernel
theorem d_M_append_34 : decode prog_14_method_34_code 34 = .ok (.getfield 145, 3) := by decide +kernel
theorem d_M_append_37 : decode prog_14_method_34_code 37 = .ok (.ifCond .le 5, 3) := by decide +kernel
theorem d_M_append_40 : decode prog_14_method_34_code 40 = .ok (.iconst 0, 1) := by decide +kernel
theorem d_M_append_41 : decode prog_14_method_34_code 41 = .ok (.ireturn, 1) := by decide +kernel
set_option maxHeartbeats 4000000 in
set_option maxRecDepth 100000 in
theorem c_M_append_x (l : Launch) (D : va_G) (dA : Nat → ClassId) (sz : Nat) (a : Nat) (fs : List Value) (n : Int32) (t : Int64) (v : Int64) (h_fs_on : fs[7]? = some (.int 1)) (h_fs_seriesCount : fs[12]? = some (.int 0)) (hl_fs : fs.length = 79) : Met l ⟨"SeriesVaultModel", "append", "(IJJ)I"⟩ [Cond.code ⟨"SeriesVaultModel", "append", "(IJJ)I"⟩ prog_14_method_34_code 6 (some FieldType.int)] { frames := 2, cells := 0, slots := 0, locals := 21 } (pC D dA [.ref a, .int n, .long t, .long v] [(a, .inr (9, fs))] sz) (va_Qi (fun (r : Int32) (_ : Unit) => r = 0) (fun (u9 : Unit) t9 => bW D (va_A [(a, .inr (9, fs))] sz) [(a, .inr (9, ((fs.set 0 (.int 2)).set 0 (.int 2))))] t9) (va_A [(a, .inr (9, fs))] sz)) 0 0 (va_A [(a, .inr (9, fs))] sz) := by
  refine mkC (Qc := fun A => va_Qi (fun (r : Int32) (_ : Unit) => r = 0) (fun (u9 : Unit) t9 => bW D A [(a, .inr (9, ((fs.set 0 (.int 2)).set 0 (.int 2))))] t9) A) (by decide) (Nat.le_of_ble_eq_true rfl) ?_
  intro A p e s m below meth c ls hsz hB
  obtain ⟨hx, hb, hr, hml, hown, hin, hlk, hE, hK, hP, hD, hS, hA, hN, hl⟩ := hB
  have hown : s.vm.findClass "SeriesVaultModel" = some m.cls := hown
  have hin : meth.name = "append" := hin
  have hl : lv_has ls 6 [(0, .ref a), (1, .int n), (2, .long t), (4, .long v)] := hl
  obtain ⟨H, hH⟩ : ∃ z, z = s.heap := ⟨_, rfl⟩
  have hP : va_P D vwCl [(a, .inr (9, fs))] H := by rw [hH]; exact hP
  have hS : va_S A s.heap H [] := by rw [hH]; exact hS
  rw [← hH]
  refine lv_aload_n hx hb d_M_append_0 rfl (lv_at hl 0 rfl) ?_
  refine lv_aload_n hx hb d_M_append_1 rfl (lv_at hl 0 rfl) ?_
  refine lv_iload_n hx hb d_M_append_2 rfl (lv_at hl 1 rfl) ?_
  have hPc := hP.sub (ws' := [(a, .inr (9, fs))]) [0] rfl
  have hDc := hD.sub (ws' := [(a, .inr (9, fs))]) [0] (by decide) rfl
  refine jnI (rnV (As := [.int n]) (rest := [.ref a]) hx hb hml hown hE hK (hN _ _ hS) hPc hDc (c_M_seriesFault_x l D dA H.size a fs n h_fs_on h_fs_seriesCount hl_fs) (q0 := 0) rfl rfl w334 w333 w335 w336 w328 rfl rfl ⟨⟨by decide, by decide⟩, rfl⟩ ⟨(Nat.le_of_ble_eq_true rfl), (Nat.le_of_ble_eq_true rfl)⟩ rfl hl.1 rfl (Nat.le_of_ble_eq_true rfl) d_M_append_3 ⟨(Nat.le_of_ble_eq_true rfl), (Nat.le_of_ble_eq_true rfl)⟩) hP hD hS hA [0] [] (wr := []) rfl rfl (by decide) (by decide) (fun r1 u9 H locs hp9 hP hD hS => ?_)
  have hP : va_P D vwCl [(a, .inr (9, fs))] H := hP
  have hD : va_D A [(a, .inr (9, fs))] := hD
  have hp9 : 2 = r1 := Eq.symm hp9
  subst hp9
  refine pF hx hb hown hE hK hP hD hS 0 rfl rfl layM tyM tokM nmM 0 (by decide) w319 rfl rfl rfl (by simp [hl_fs]) d_M_append_6 (fun H locs hP hD hS => ?_)
  have hP : va_P D vwCl [(a, .inr (9, (fs.set 0 (.int 2))))] H := hP
  have hD : va_D A [(a, .inr (9, (fs.set 0 (.int 2))))] := hD
  refine lv_aload_n hx hb d_M_append_9 rfl (lv_at hl 0 rfl) ?_
  refine lv_aload_n hx hb d_M_append_10 rfl (lv_at hl 0 rfl) ?_
  refine gF (v := .int 2) hx hb hown hE hK hP 0 rfl rfl layM 0 (by decide) w319 (by simp [hl_fs]) d_M_append_11 ?_
  refine lv_if_ne hx hb d_M_append_14 (tgt := 26) rfl (fun _ => ?_) (fun h9 => absurd h9 (by decide))
  refine lv_aload_n hx hb d_M_append_26 rfl (lv_at hl 0 rfl) ?_
  refine gF (v := .int 2) hx hb hown hE hK hP 0 rfl rfl layM 0 (by decide) w319 (by simp [hl_fs]) d_M_append_27 ?_
  refine pF hx hb hown hE hK hP hD hS 0 rfl rfl layM tyM tokM nmM 0 (by decide) w319 rfl rfl rfl (by simp [hl_fs]) d_M_append_30 (fun H locs hP hD hS => ?_)
  have hP : va_P D vwCl [(a, .inr (9, ((fs.set 0 (.int 2)).set 0 (.int 2))))] H := hP
  have hD : va_D A [(a, .inr (9, ((fs.set 0 (.int 2)).set 0 (.int 2))))] := hD
  refine lv_aload_n hx hb d_M_append_33 rfl (lv_at hl 0 rfl) ?_
  refine gF (v := .int 2) hx hb hown hE hK hP 0 rfl rfl layM 0 (by decide) w319 (by simp [hl_fs]) d_M_append_34 ?_
  refine lv_if_le hx hb d_M_append_37 (tgt := 42) rfl (fun h9 => absurd h9 (by decide)) (fun _ => ?_)
  refine lv_iconst (v := 0) hx hb d_M_append_40 (by decide) ?_
  exact rtI hx hb hr hlk hP hD hS () rfl [0] rfl rfl (by decide) (Nat.le_of_ble_eq_true rfl) (Nat.le_of_ble_eq_true rfl) d_M_append_41
theorem d_M_delete_0 : decode prog_14_method_37_code 0 = .ok (.aload_n 0, 1) := by decide +kernel
theorem d_M_delete_1 : decode prog_14_method_37_code 1 = .ok (.aload_n 0, 1) := by decide +kernel
theorem d_M_delete_2 : decode prog_14_method_37_code 2 = .ok (.iload_n 1, 1) := by decide +kernel
theorem d_M_delete_3 : decode prog_14_method_37_code 3 = .ok (.invokevirtual 258, 3) := by decide +kernel
theorem d_M_delete_6 : decode prog_14_method_37_code 6 = .ok (.putfield 145, 3) := by decide +kernel
theorem d_M_delete_9 : decode prog_14_method_37_code 9 = .ok (.aload_n 0, 1) := by decide +kernel
theorem d_M_delete_10 : decode prog_14_method_37_code 10 = .ok (.aload_n 0, 1) := by decide +kernel
theorem d_M_delete_11 : decode prog_14_method_37_code 11 = .ok (.getfield 145, 3) := by decide +kernel
theorem d_M_delete_14 : decode prog_14_method_37_code 14 = .ok (.ifCond .ne 14, 3) := by decide +kernel
theorem d_M_delete_28 : decode prog_14_method_37_code 28 = .ok (.aload_n 0, 1) := by decide +kernel
theorem d_M_delete_29 : decode prog_14_method_37_code 29 = .ok (.getfield 145, 3) := by decide +kernel
theorem d_M_delete_32 : decode prog_14_method_37_code 32 = .ok (.putfield 145, 3) := by decide +kernel
theorem d_M_delete_35 : decode prog_14_method_37_code 35 = .ok (.aload_n 0, 1) := by decide +kernel
theorem d_M_delete_36 : decode prog_14_method_37_code 36 = .ok (.getfield 145, 3) := by decide +kernel
theorem d_M_delete_39 : decode prog_14_method_37_code 39 = .ok (.ifCond .le 5, 3) := by decide +kernel
theorem d_M_delete_42 : decode prog_14_method_37_code 42 = .ok (.iconst 0, 1) := by decide +kernel
theorem d_M_delete_43 : decode prog_14_method_37_code 43 = .ok (.ireturn, 1) := by decide +kernel
set_option maxHeartbeats 4000000 in
set_option maxRecDepth 100000 in
theorem c_M_delete_x (l : Launch) (D : va_G) (dA : Nat → ClassId) (sz : Nat) (a : Nat) (fs : List Value) (n : Int32) (t : Int64) (v : Int64) (h_fs_on : fs[7]? = some (.int 1)) (h_fs_seriesCount : fs[12]? = some (.int 0)) (hl_fs : fs.length = 79) : Met l ⟨"SeriesVaultModel", "delete", "(IJJ)I"⟩ [Cond.code ⟨"SeriesVaultModel", "delete", "(IJJ)I"⟩ prog_14_method_37_code 7 (some FieldType.int)] { frames := 2, cells := 0, slots := 0, locals := 21 } (pC D dA [.ref a, .int n, .long t, .long v] [(a, .inr (9, fs))] sz) (va_Qi (fun (r : Int32) (_ : Unit) => r = 0) (fun (u9 : Unit) t9 => bW D (va_A [(a, .inr (9, fs))] sz) [(a, .inr (9, ((fs.set 0 (.int 2)).set 0 (.int 2))))] t9) (va_A [(a, .inr (9, fs))] sz)) 0 0 (va_A [(a, .inr (9, fs))] sz) := by
  refine mkC (Qc := fun A => va_Qi (fun (r : Int32) (_ : Unit) => r = 0) (fun (u9 : Unit) t9 => bW D A [(a, .inr (9, ((fs.set 0 (.int 2)).set 0 (.int 2))))] t9) A) (by decide) (Nat.le_of_ble_eq_true rfl) ?_
  intro A p e s m below meth c ls hsz hB
  obtain ⟨hx, hb, hr, hml, hown, hin, hlk, hE, hK, hP, hD, hS, hA, hN, hl⟩ := hB
  have hown : s.vm.findClass "SeriesVaultModel" = some m.cls := hown
  have hin : meth.name = "delete" := hin
  have hl : lv_has ls 7 [(0, .ref a), (1, .int n), (2, .long t), (4, .long v)] := hl
  obtain ⟨H, hH⟩ : ∃ z, z = s.heap := ⟨_, rfl⟩
  have hP : va_P D vwCl [(a, .inr (9, fs))] H := by rw [hH]; exact hP
  have hS : va_S A s.heap H [] := by rw [hH]; exact hS
  rw [← hH]
  refine lv_aload_n hx hb d_M_delete_0 rfl (lv_at hl 0 rfl) ?_
  refine lv_aload_n hx hb d_M_delete_1 rfl (lv_at hl 0 rfl) ?_
  refine lv_iload_n hx hb d_M_delete_2 rfl (lv_at hl 1 rfl) ?_
  have hPc := hP.sub (ws' := [(a, .inr (9, fs))]) [0] rfl
  have hDc := hD.sub (ws' := [(a, .inr (9, fs))]) [0] (by decide) rfl
  refine jnI (rnV (As := [.int n]) (rest := [.ref a]) hx hb hml hown hE hK (hN _ _ hS) hPc hDc (c_M_seriesFault_x l D dA H.size a fs n h_fs_on h_fs_seriesCount hl_fs) (q0 := 0) rfl rfl w334 w333 w335 w336 w328 rfl rfl ⟨⟨by decide, by decide⟩, rfl⟩ ⟨(Nat.le_of_ble_eq_true rfl), (Nat.le_of_ble_eq_true rfl)⟩ rfl hl.1 rfl (Nat.le_of_ble_eq_true rfl) d_M_delete_3 ⟨(Nat.le_of_ble_eq_true rfl), (Nat.le_of_ble_eq_true rfl)⟩) hP hD hS hA [0] [] (wr := []) rfl rfl (by decide) (by decide) (fun r1 u9 H locs hp9 hP hD hS => ?_)
  have hP : va_P D vwCl [(a, .inr (9, fs))] H := hP
  have hD : va_D A [(a, .inr (9, fs))] := hD
  have hp9 : 2 = r1 := Eq.symm hp9
  subst hp9
  refine pF hx hb hown hE hK hP hD hS 0 rfl rfl layM tyM tokM nmM 0 (by decide) w319 rfl rfl rfl (by simp [hl_fs]) d_M_delete_6 (fun H locs hP hD hS => ?_)
  have hP : va_P D vwCl [(a, .inr (9, (fs.set 0 (.int 2))))] H := hP
  have hD : va_D A [(a, .inr (9, (fs.set 0 (.int 2))))] := hD
  refine lv_aload_n hx hb d_M_delete_9 rfl (lv_at hl 0 rfl) ?_
  refine lv_aload_n hx hb d_M_delete_10 rfl (lv_at hl 0 rfl) ?_
  refine gF (v := .int 2) hx hb hown hE hK hP 0 rfl rfl layM 0 (by decide) w319 (by simp [hl_fs]) d_M_delete_11 ?_
  refine lv_if_ne hx hb d_M_delete_14 (tgt := 28) rfl (fun _ => ?_) (fun h9 => absurd h9 (by decide))
  refine lv_aload_n hx hb d_M_delete_28 rfl (lv_at hl 0 rfl) ?_
  refine gF (v := .int 2) hx hb hown hE hK hP 0 rfl rfl layM 0 (by decide) w319 (by simp [hl_fs]) d_M_delete_29 ?_
  refine pF hx hb hown hE hK hP hD hS 0 rfl rfl layM tyM tokM nmM 0 (by decide) w319 rfl rfl rfl (by simp [hl_fs]) d_M_delete_32 (fun H locs hP hD hS => ?_)
  have hP : va_P D vwCl [(a, .inr (9, ((fs.set 0 (.int 2)).set 0 (.int 2))))] H := hP
  have hD : va_D A [(a, .inr (9, ((fs.set 0 (.int 2)).set 0 (.int 2))))] := hD
  refine lv_aload_n hx hb d_M_delete_35 rfl (lv_at hl 0 rfl) ?_
  refine gF (v := .int 2) hx hb hown hE hK hP 0 rfl rfl layM 0 (by decide) w319 (by simp [hl_fs]) d_M_delete_36 ?_
  refine lv_if_le hx hb d_M_delete_39 (tgt := 44) rfl (fun h9 => absurd h9 (by decide)) (fun _ => ?_)
  refine lv_iconst (v := 0) hx hb d_M_delete_42 (by decide) ?_
  exact rtI hx hb hr hlk hP hD hS () rfl [0] rfl rfl (by decide) (Nat.le_of_ble_eq_true rfl) (Nat.le_of_ble_eq_true rfl) d_M_delete_43
theorem d_M_synced_0 : decode prog_14_method_12_code 0 = .ok (.aload_n 0, 1) := by decide +kernel
theorem d_M_synced_1 : decode prog_14_method_12_code 1 = .ok (.getfield 194, 3) := by decide +kernel
theorem d_M_synced_4 : decode prog_14_method_12_code 4 = .ok (.ifCond .eq 12, 3) := by decide +kernel
theorem d_M_synced_16 : decode prog_14_method_12_code 16 = .ok (.aload_n 0, 1) := by decide +kernel
theorem d_M_synced_17 : decode prog_14_method_12_code 17 = .ok (.iconst 0, 1) := by decide +kernel
theorem d_M_synced_18 : decode prog_14_method_12_code 18 = .ok (.putfield 194, 3) := by decide +kernel
theorem d_M_synced_21 : decode prog_14_method_12_code 21 = .ok (.aload_n 0, 1) := by decide +kernel
theorem d_M_synced_22 : decode prog_14_method_12_code 22 = .ok (.aload_n 0, 1) := by decide +kernel
theorem d_M_synced_23 : decode prog_14_method_12_code 23 = .ok (.getfield 182, 3) := by decide +kernel
theorem d_M_synced_26 : decode prog_14_method_12_code 26 = .ok (.putfield 185, 3) := by decide +kernel
theorem d_M_synced_29 : decode prog_14_method_12_code 29 = .ok (.iconst 1, 1) := by decide +kernel
theorem d_M_synced_30 : decode prog_14_method_12_code 30 = .ok (.ireturn, 1) := by decide +kernel
theorem w337 : Cond.fieldLink "SeriesVaultModel" 194 "SeriesVaultModel" "fresh" "Z" ∈ aW := aw_of (tb_8 (List.mem_of_getElem? (i := 215) rfl)) rfl
theorem w338 : Cond.fieldLink "SeriesVaultModel" 182 "SeriesVaultModel" "records" "I" ∈ aW := aw_of (tb_8 (List.mem_of_getElem? (i := 211) rfl)) rfl
theorem w339 : Cond.fieldLink "SeriesVaultModel" 185 "SeriesVaultModel" "kept" "I" ∈ aW := aw_of (tb_8 (List.mem_of_getElem? (i := 212) rfl)) rfl
set_option maxHeartbeats 4000000 in
set_option maxRecDepth 100000 in
theorem c_M_synced (l : Launch) (D : va_G) (dA : Nat → ClassId) (sz : Nat) (a : Nat) (fs : List Value) (h_fs_records : fs[37]? = some (.int 0)) (h_fs_fresh : fs[41]? = some (.int 0)) (hl_fs : fs.length = 79) : Met l ⟨"SeriesVaultModel", "synced", "()Z"⟩ [Cond.code ⟨"SeriesVaultModel", "synced", "()Z"⟩ prog_14_method_12_code 1 (some FieldType.boolean)] { frames := 1, cells := 0, slots := 0, locals := 0 } (pC D dA [.ref a] [(a, .inr (9, fs))] sz) (va_Qi (fun (r : Int32) (_ : Unit) => r = 1) (fun (u9 : Unit) t9 => bW D (va_A [(a, .inr (9, fs))] sz) [(a, .inr (9, ((fs.set 41 (.int 0)).set 38 (.int 0))))] t9) (va_A [(a, .inr (9, fs))] sz)) 0 0 (va_A [(a, .inr (9, fs))] sz) := by
  refine mkC (Qc := fun A => va_Qi (fun (r : Int32) (_ : Unit) => r = 1) (fun (u9 : Unit) t9 => bW D A [(a, .inr (9, ((fs.set 41 (.int 0)).set 38 (.int 0))))] t9) A) (by decide) (Nat.le_of_ble_eq_true rfl) ?_
  intro A p e s m below meth c ls hsz hB
  obtain ⟨hx, hb, hr, hml, hown, hin, hlk, hE, hK, hP, hD, hS, hA, hN, hl⟩ := hB
  have hown : s.vm.findClass "SeriesVaultModel" = some m.cls := hown
  have hin : meth.name = "synced" := hin
  have hl : lv_has ls 1 [(0, .ref a)] := hl
  obtain ⟨H, hH⟩ : ∃ z, z = s.heap := ⟨_, rfl⟩
  have hP : va_P D vwCl [(a, .inr (9, fs))] H := by rw [hH]; exact hP
  have hS : va_S A s.heap H [] := by rw [hH]; exact hS
  rw [← hH]
  refine lv_aload_n hx hb d_M_synced_0 rfl (lv_at hl 0 rfl) ?_
  refine gF (v := .int 0) hx hb hown hE hK hP 0 rfl rfl layM 41 (by decide) w337 h_fs_fresh d_M_synced_1 ?_
  refine lv_if_eq hx hb d_M_synced_4 (tgt := 16) rfl (fun _ => ?_) (fun h9 => absurd (by decide) h9)
  refine lv_aload_n hx hb d_M_synced_16 rfl (lv_at hl 0 rfl) ?_
  refine lv_iconst (v := 0) hx hb d_M_synced_17 (by decide) ?_
  refine pF hx hb hown hE hK hP hD hS 0 rfl rfl layM tyM tokM nmM 41 (by decide) w337 rfl rfl rfl (by simp [hl_fs]) d_M_synced_18 (fun H locs hP hD hS => ?_)
  have hP : va_P D vwCl [(a, .inr (9, (fs.set 41 (.int 0))))] H := hP
  have hD : va_D A [(a, .inr (9, (fs.set 41 (.int 0))))] := hD
  refine lv_aload_n hx hb d_M_synced_21 rfl (lv_at hl 0 rfl) ?_
  refine lv_aload_n hx hb d_M_synced_22 rfl (lv_at hl 0 rfl) ?_
  refine gF (v := .int 0) hx hb hown hE hK hP 0 rfl rfl layM 37 (by decide) w338 (by simp [h_fs_records]) d_M_synced_23 ?_
  refine pF hx hb hown hE hK hP hD hS 0 rfl rfl layM tyM tokM nmM 38 (by decide) w339 rfl rfl rfl (by simp [hl_fs]) d_M_synced_26 (fun H locs hP hD hS => ?_)
  have hP : va_P D vwCl [(a, .inr (9, ((fs.set 41 (.int 0)).set 38 (.int 0))))] H := hP
  have hD : va_D A [(a, .inr (9, ((fs.set 41 (.int 0)).set 38 (.int 0))))] := hD
  refine lv_iconst (v := 1) hx hb d_M_synced_29 (by decide) ?_
  exact rtZ hx hb hr (by decide) hlk hP hD hS () rfl [0] rfl rfl (by decide) (Nat.le_of_ble_eq_true rfl) (Nat.le_of_ble_eq_true rfl) d_M_synced_30
theorem d_M_sync_0 : decode prog_14_method_43_code 0 = .ok (.aload_n 0, 1) := by decide +kernel
theorem d_M_sync_1 : decode prog_14_method_43_code 1 = .ok (.aload_n 0, 1) := by decide +kernel
theorem d_M_sync_2 : decode prog_14_method_43_code 2 = .ok (.getfield 21, 3) := by decide +kernel
theorem d_M_sync_5 : decode prog_14_method_43_code 5 = .ok (.ifCond .eq 7, 3) := by decide +kernel
theorem d_M_sync_8 : decode prog_14_method_43_code 8 = .ok (.iconst 0, 1) := by decide +kernel
theorem d_M_sync_9 : decode prog_14_method_43_code 9 = .ok (.goto 4, 3) := by decide +kernel
theorem d_M_sync_13 : decode prog_14_method_43_code 13 = .ok (.putfield 145, 3) := by decide +kernel
theorem d_M_sync_16 : decode prog_14_method_43_code 16 = .ok (.aload_n 0, 1) := by decide +kernel
theorem d_M_sync_17 : decode prog_14_method_43_code 17 = .ok (.getfield 145, 3) := by decide +kernel
theorem d_M_sync_20 : decode prog_14_method_43_code 20 = .ok (.ifCond .le 5, 3) := by decide +kernel
theorem d_M_sync_25 : decode prog_14_method_43_code 25 = .ok (.aload_n 0, 1) := by decide +kernel
theorem d_M_sync_26 : decode prog_14_method_43_code 26 = .ok (.getfield 194, 3) := by decide +kernel
theorem d_M_sync_29 : decode prog_14_method_43_code 29 = .ok (.istore_n 1, 1) := by decide +kernel
theorem d_M_sync_30 : decode prog_14_method_43_code 30 = .ok (.aload_n 0, 1) := by decide +kernel
theorem d_M_sync_31 : decode prog_14_method_43_code 31 = .ok (.aload_n 0, 1) := by decide +kernel
theorem d_M_sync_32 : decode prog_14_method_43_code 32 = .ok (.invokevirtual 204, 3) := by decide +kernel
theorem d_M_sync_35 : decode prog_14_method_43_code 35 = .ok (.ifCond .eq 7, 3) := by decide +kernel
theorem d_M_sync_38 : decode prog_14_method_43_code 38 = .ok (.iconst 0, 1) := by decide +kernel
theorem d_M_sync_39 : decode prog_14_method_43_code 39 = .ok (.goto 4, 3) := by decide +kernel
theorem d_M_sync_43 : decode prog_14_method_43_code 43 = .ok (.putfield 145, 3) := by decide +kernel
theorem d_M_sync_46 : decode prog_14_method_43_code 46 = .ok (.aload_n 0, 1) := by decide +kernel
theorem d_M_sync_47 : decode prog_14_method_43_code 47 = .ok (.getfield 145, 3) := by decide +kernel
theorem d_M_sync_50 : decode prog_14_method_43_code 50 = .ok (.ifCond .ne 11, 3) := by decide +kernel
theorem d_M_sync_53 : decode prog_14_method_43_code 53 = .ok (.iload_n 1, 1) := by decide +kernel
theorem d_M_sync_54 : decode prog_14_method_43_code 54 = .ok (.ifCond .eq 7, 3) := by decide +kernel
theorem d_M_sync_61 : decode prog_14_method_43_code 61 = .ok (.iconst 0, 1) := by decide +kernel
theorem d_M_sync_62 : decode prog_14_method_43_code 62 = .ok (.ireturn, 1) := by decide +kernel
theorem w340 : Cond.methodLink "SeriesVaultModel" 204 ⟨"SeriesVaultModel", "synced", "()Z"⟩ ∈ aW := aw_of (tb_9 (List.mem_of_getElem? (i := 234) rfl)) rfl
theorem w341 : Cond.code ⟨"SeriesVaultModel", "synced", "()Z"⟩ prog_14_method_12_code 1 (some FieldType.boolean) ∈ aW := aw_of (tb_9 (List.mem_of_getElem? (i := 237) rfl)) rfl
theorem w342 : Cond.instanceMethod ⟨"SeriesVaultModel", "synced", "()Z"⟩ ∈ aW := aw_of (tb_9 (List.mem_of_getElem? (i := 236) rfl)) rfl
theorem w343 : Cond.selects "SeriesVaultModel" ⟨"SeriesVaultModel", "synced", "()Z"⟩ ⟨"SeriesVaultModel", "synced", "()Z"⟩ ∈ aW := aw_pr (List.mem_map.mpr ⟨_, pv_5 (List.mem_of_getElem? (i := 11) rfl), rfl⟩) rfl
set_option maxHeartbeats 4000000 in
set_option maxRecDepth 100000 in
theorem c_M_sync_0 (l : Launch) (D : va_G) (dA : Nat → ClassId) (sz : Nat) (a : Nat) (fs : List Value) (h_fs_on : fs[7]? = some (.int 1)) (h_fs_records : fs[37]? = some (.int 0)) (h_fs_fresh : fs[41]? = some (.int 0)) (hl_fs : fs.length = 79) : Met l ⟨"SeriesVaultModel", "sync", "()Z"⟩ [Cond.code ⟨"SeriesVaultModel", "sync", "()Z"⟩ prog_14_method_43_code 2 (some FieldType.boolean)] { frames := 2, cells := 0, slots := 0, locals := 20 } (pC D dA [.ref a] [(a, .inr (9, fs))] sz) (va_Qi (fun (r : Int32) (_ : Unit) => r = 0) (fun (u9 : Unit) t9 => bW D (va_A [(a, .inr (9, fs))] sz) [(a, .inr (9, ((((fs.set 0 (.int 0)).set 41 (.int 0)).set 38 (.int 0)).set 0 (.int 0))))] t9) (va_A [(a, .inr (9, fs))] sz)) 0 0 (va_A [(a, .inr (9, fs))] sz) := by
  refine mkC (Qc := fun A => va_Qi (fun (r : Int32) (_ : Unit) => r = 0) (fun (u9 : Unit) t9 => bW D A [(a, .inr (9, ((((fs.set 0 (.int 0)).set 41 (.int 0)).set 38 (.int 0)).set 0 (.int 0))))] t9) A) (by decide) (Nat.le_of_ble_eq_true rfl) ?_
  intro A p e s m below meth c ls hsz hB
  obtain ⟨hx, hb, hr, hml, hown, hin, hlk, hE, hK, hP, hD, hS, hA, hN, hl⟩ := hB
  have hown : s.vm.findClass "SeriesVaultModel" = some m.cls := hown
  have hin : meth.name = "sync" := hin
  have hl : lv_has ls 2 [(0, .ref a)] := hl
  obtain ⟨H, hH⟩ : ∃ z, z = s.heap := ⟨_, rfl⟩
  have hP : va_P D vwCl [(a, .inr (9, fs))] H := by rw [hH]; exact hP
  have hS : va_S A s.heap H [] := by rw [hH]; exact hS
  rw [← hH]
  refine lv_aload_n hx hb d_M_sync_0 rfl (lv_at hl 0 rfl) ?_
  refine lv_aload_n hx hb d_M_sync_1 rfl (lv_at hl 0 rfl) ?_
  refine gF (v := .int 1) hx hb hown hE hK hP 0 rfl rfl layM 7 (by decide) w324 h_fs_on d_M_sync_2 ?_
  refine lv_if_eq hx hb d_M_sync_5 (tgt := 12) rfl (fun h9 => absurd h9 (by decide)) (fun _ => ?_)
  refine lv_iconst (v := 0) hx hb d_M_sync_8 (by decide) ?_
  refine lv_goto hx hb d_M_sync_9 (tgt := 13) rfl ?_
  refine pF hx hb hown hE hK hP hD hS 0 rfl rfl layM tyM tokM nmM 0 (by decide) w319 rfl rfl rfl (by simp [hl_fs]) d_M_sync_13 (fun H locs hP hD hS => ?_)
  have hP : va_P D vwCl [(a, .inr (9, (fs.set 0 (.int 0))))] H := hP
  have hD : va_D A [(a, .inr (9, (fs.set 0 (.int 0))))] := hD
  refine lv_aload_n hx hb d_M_sync_16 rfl (lv_at hl 0 rfl) ?_
  refine gF (v := .int 0) hx hb hown hE hK hP 0 rfl rfl layM 0 (by decide) w319 (by simp [hl_fs]) d_M_sync_17 ?_
  refine lv_if_le hx hb d_M_sync_20 (tgt := 25) rfl (fun _ => ?_) (fun h9 => absurd (by decide) h9)
  refine lv_aload_n hx hb d_M_sync_25 rfl (lv_at hl 0 rfl) ?_
  refine gF (v := .int 0) hx hb hown hE hK hP 0 rfl rfl layM 41 (by decide) w337 (by simp [h_fs_fresh]) d_M_sync_26 ?_
  refine lv_istore_n hx hb d_M_sync_29 rfl hl (by decide) rfl (fun ls hl => ?_)
  have hl : lv_has ls 2 [(1, .int 0), (0, .ref a)] := hl
  refine lv_aload_n hx hb d_M_sync_30 rfl (lv_at hl 1 rfl) ?_
  refine lv_aload_n hx hb d_M_sync_31 rfl (lv_at hl 1 rfl) ?_
  have hPc := hP.sub (ws' := [(a, .inr (9, (fs.set 0 (.int 0))))]) [0] rfl
  have hDc := hD.sub (ws' := [(a, .inr (9, (fs.set 0 (.int 0))))]) [0] (by decide) rfl
  refine jnI (rnV (As := []) (rest := [.ref a]) hx hb hml hown hE hK (hN _ _ hS) hPc hDc (c_M_synced l D dA H.size a (fs.set 0 (.int 0)) (by simp [h_fs_records]) (by simp [h_fs_fresh]) (by simp [hl_fs])) (q0 := 0) rfl rfl w341 w340 w342 w343 w328 rfl rfl ⟨⟨by decide, by decide⟩, rfl⟩ ⟨(Nat.le_of_ble_eq_true rfl), (Nat.le_of_ble_eq_true rfl)⟩ rfl hl.1 rfl (Nat.le_of_ble_eq_true rfl) d_M_sync_32 ⟨(Nat.le_of_ble_eq_true rfl), (Nat.le_of_ble_eq_true rfl)⟩) hP hD hS hA [0] [] (wr := []) rfl rfl (by decide) (by decide) (fun r1 u9 H locs hp9 hP hD hS => ?_)
  have hP : va_P D vwCl [(a, .inr (9, (((fs.set 0 (.int 0)).set 41 (.int 0)).set 38 (.int 0))))] H := hP
  have hD : va_D A [(a, .inr (9, (((fs.set 0 (.int 0)).set 41 (.int 0)).set 38 (.int 0))))] := hD
  have hp9 : 1 = r1 := Eq.symm hp9
  subst hp9
  refine lv_if_eq hx hb d_M_sync_35 (tgt := 42) rfl (fun h9 => absurd h9 (by decide)) (fun _ => ?_)
  refine lv_iconst (v := 0) hx hb d_M_sync_38 (by decide) ?_
  refine lv_goto hx hb d_M_sync_39 (tgt := 43) rfl ?_
  refine pF hx hb hown hE hK hP hD hS 0 rfl rfl layM tyM tokM nmM 0 (by decide) w319 rfl rfl rfl (by simp [hl_fs]) d_M_sync_43 (fun H locs hP hD hS => ?_)
  have hP : va_P D vwCl [(a, .inr (9, ((((fs.set 0 (.int 0)).set 41 (.int 0)).set 38 (.int 0)).set 0 (.int 0))))] H := hP
  have hD : va_D A [(a, .inr (9, ((((fs.set 0 (.int 0)).set 41 (.int 0)).set 38 (.int 0)).set 0 (.int 0))))] := hD
  refine lv_aload_n hx hb d_M_sync_46 rfl (lv_at hl 1 rfl) ?_
  refine gF (v := .int 0) hx hb hown hE hK hP 0 rfl rfl layM 0 (by decide) w319 (by simp [hl_fs]) d_M_sync_47 ?_
  refine lv_if_ne hx hb d_M_sync_50 (tgt := 61) rfl (fun h9 => absurd (by decide) h9) (fun _ => ?_)
  refine lv_iload_n hx hb d_M_sync_53 rfl (lv_at hl 0 rfl) ?_
  refine lv_if_eq hx hb d_M_sync_54 (tgt := 61) rfl (fun _ => ?_) (fun h9 => absurd (by decide) h9)
  refine lv_iconst (v := 0) hx hb d_M_sync_61 (by decide) ?_
  exact rtZ hx hb hr (by decide) hlk hP hD hS () rfl [0] rfl rfl (by decide) (Nat.le_of_ble_eq_true rfl) (Nat.le_of_ble_eq_true rfl) d_M_sync_62
theorem d_M_flush_0 : decode prog_14_method_44_code 0 = .ok (.aload_n 0, 1) := by decide +kernel
theorem d_M_flush_1 : decode prog_14_method_44_code 1 = .ok (.aload_n 0, 1) := by decide +kernel
theorem d_M_flush_2 : decode prog_14_method_44_code 2 = .ok (.getfield 21, 3) := by decide +kernel
theorem d_M_flush_5 : decode prog_14_method_44_code 5 = .ok (.ifCond .eq 7, 3) := by decide +kernel
theorem d_M_flush_8 : decode prog_14_method_44_code 8 = .ok (.iconst 0, 1) := by decide +kernel
theorem d_M_flush_9 : decode prog_14_method_44_code 9 = .ok (.goto 4, 3) := by decide +kernel
theorem d_M_flush_13 : decode prog_14_method_44_code 13 = .ok (.putfield 145, 3) := by decide +kernel
theorem d_M_flush_16 : decode prog_14_method_44_code 16 = .ok (.aload_n 0, 1) := by decide +kernel
theorem d_M_flush_17 : decode prog_14_method_44_code 17 = .ok (.getfield 145, 3) := by decide +kernel
theorem d_M_flush_20 : decode prog_14_method_44_code 20 = .ok (.ifCond .gt 10, 3) := by decide +kernel
theorem d_M_flush_23 : decode prog_14_method_44_code 23 = .ok (.aload_n 0, 1) := by decide +kernel
theorem d_M_flush_24 : decode prog_14_method_44_code 24 = .ok (.getfield 182, 3) := by decide +kernel
theorem d_M_flush_27 : decode prog_14_method_44_code 27 = .ok (.ifCond .ne 5, 3) := by decide +kernel
theorem d_M_flush_30 : decode prog_14_method_44_code 30 = .ok (.iconst 0, 1) := by decide +kernel
theorem d_M_flush_31 : decode prog_14_method_44_code 31 = .ok (.ireturn, 1) := by decide +kernel
set_option maxHeartbeats 4000000 in
set_option maxRecDepth 100000 in
theorem c_M_flush_0 (l : Launch) (D : va_G) (dA : Nat → ClassId) (sz : Nat) (a : Nat) (fs : List Value) (h_fs_on : fs[7]? = some (.int 1)) (h_fs_records : fs[37]? = some (.int 0)) (hl_fs : fs.length = 79) : Met l ⟨"SeriesVaultModel", "flush", "()I"⟩ [Cond.code ⟨"SeriesVaultModel", "flush", "()I"⟩ prog_14_method_44_code 5 (some FieldType.int)] { frames := 1, cells := 0, slots := 0, locals := 0 } (pC D dA [.ref a] [(a, .inr (9, fs))] sz) (va_Qi (fun (r : Int32) (_ : Unit) => r = 0) (fun (u9 : Unit) t9 => bW D (va_A [(a, .inr (9, fs))] sz) [(a, .inr (9, (fs.set 0 (.int 0))))] t9) (va_A [(a, .inr (9, fs))] sz)) 0 0 (va_A [(a, .inr (9, fs))] sz) := by
  refine mkC (Qc := fun A => va_Qi (fun (r : Int32) (_ : Unit) => r = 0) (fun (u9 : Unit) t9 => bW D A [(a, .inr (9, (fs.set 0 (.int 0))))] t9) A) (by decide) (Nat.le_of_ble_eq_true rfl) ?_
  intro A p e s m below meth c ls hsz hB
  obtain ⟨hx, hb, hr, hml, hown, hin, hlk, hE, hK, hP, hD, hS, hA, hN, hl⟩ := hB
  have hown : s.vm.findClass "SeriesVaultModel" = some m.cls := hown
  have hin : meth.name = "flush" := hin
  have hl : lv_has ls 5 [(0, .ref a)] := hl
  obtain ⟨H, hH⟩ : ∃ z, z = s.heap := ⟨_, rfl⟩
  have hP : va_P D vwCl [(a, .inr (9, fs))] H := by rw [hH]; exact hP
  have hS : va_S A s.heap H [] := by rw [hH]; exact hS
  rw [← hH]
  refine lv_aload_n hx hb d_M_flush_0 rfl (lv_at hl 0 rfl) ?_
  refine lv_aload_n hx hb d_M_flush_1 rfl (lv_at hl 0 rfl) ?_
  refine gF (v := .int 1) hx hb hown hE hK hP 0 rfl rfl layM 7 (by decide) w324 h_fs_on d_M_flush_2 ?_
  refine lv_if_eq hx hb d_M_flush_5 (tgt := 12) rfl (fun h9 => absurd h9 (by decide)) (fun _ => ?_)
  refine lv_iconst (v := 0) hx hb d_M_flush_8 (by decide) ?_
  refine lv_goto hx hb d_M_flush_9 (tgt := 13) rfl ?_
  refine pF hx hb hown hE hK hP hD hS 0 rfl rfl layM tyM tokM nmM 0 (by decide) w319 rfl rfl rfl (by simp [hl_fs]) d_M_flush_13 (fun H locs hP hD hS => ?_)
  have hP : va_P D vwCl [(a, .inr (9, (fs.set 0 (.int 0))))] H := hP
  have hD : va_D A [(a, .inr (9, (fs.set 0 (.int 0))))] := hD
  refine lv_aload_n hx hb d_M_flush_16 rfl (lv_at hl 0 rfl) ?_
  refine gF (v := .int 0) hx hb hown hE hK hP 0 rfl rfl layM 0 (by decide) w319 (by simp [hl_fs]) d_M_flush_17 ?_
  refine lv_if_gt hx hb d_M_flush_20 (tgt := 30) rfl (fun h9 => absurd h9 (by decide)) (fun _ => ?_)
  refine lv_aload_n hx hb d_M_flush_23 rfl (lv_at hl 0 rfl) ?_
  refine gF (v := .int 0) hx hb hown hE hK hP 0 rfl rfl layM 37 (by decide) w338 (by simp [h_fs_records]) d_M_flush_24 ?_
  refine lv_if_ne hx hb d_M_flush_27 (tgt := 32) rfl (fun h9 => absurd (by decide) h9) (fun _ => ?_)
  refine lv_iconst (v := 0) hx hb d_M_flush_30 (by decide) ?_
  exact rtI hx hb hr hlk hP hD hS () rfl [0] rfl rfl (by decide) (Nat.le_of_ble_eq_true rfl) (Nat.le_of_ble_eq_true rfl) d_M_flush_31
theorem d_M_compact_0 : decode prog_14_method_45_code 0 = .ok (.aload_n 0, 1) := by decide +kernel
theorem d_M_compact_1 : decode prog_14_method_45_code 1 = .ok (.aload_n 0, 1) := by decide +kernel
theorem d_M_compact_2 : decode prog_14_method_45_code 2 = .ok (.getfield 21, 3) := by decide +kernel
theorem d_M_compact_5 : decode prog_14_method_45_code 5 = .ok (.ifCond .ne 7, 3) := by decide +kernel
theorem d_M_compact_12 : decode prog_14_method_45_code 12 = .ok (.iload_n 1, 1) := by decide +kernel
theorem d_M_compact_13 : decode prog_14_method_45_code 13 = .ok (.ifCond .lt 13, 3) := by decide +kernel
theorem d_M_compact_26 : decode prog_14_method_45_code 26 = .ok (.iconst 2, 1) := by decide +kernel
theorem d_M_compact_27 : decode prog_14_method_45_code 27 = .ok (.goto 4, 3) := by decide +kernel
theorem d_M_compact_31 : decode prog_14_method_45_code 31 = .ok (.putfield 145, 3) := by decide +kernel
theorem d_M_compact_34 : decode prog_14_method_45_code 34 = .ok (.aload_n 0, 1) := by decide +kernel
theorem d_M_compact_35 : decode prog_14_method_45_code 35 = .ok (.getfield 145, 3) := by decide +kernel
theorem d_M_compact_38 : decode prog_14_method_45_code 38 = .ok (.ifCond .le 5, 3) := by decide +kernel
theorem d_M_compact_41 : decode prog_14_method_45_code 41 = .ok (.iconst 0, 1) := by decide +kernel
theorem d_M_compact_42 : decode prog_14_method_45_code 42 = .ok (.ireturn, 1) := by decide +kernel
theorem d_M_compact_16 : decode prog_14_method_45_code 16 = .ok (.iload_n 1, 1) := by decide +kernel
theorem d_M_compact_17 : decode prog_14_method_45_code 17 = .ok (.aload_n 0, 1) := by decide +kernel
theorem d_M_compact_18 : decode prog_14_method_45_code 18 = .ok (.getfield 179, 3) := by decide +kernel
theorem d_M_compact_21 : decode prog_14_method_45_code 21 = .ok (.iconst 1, 1) := by decide +kernel
theorem d_M_compact_22 : decode prog_14_method_45_code 22 = .ok (.isub, 1) := by decide +kernel
theorem d_M_compact_23 : decode prog_14_method_45_code 23 = .ok (.if_icmp .lt 7, 3) := by decide +kernel
theorem w344 : Cond.fieldLink "SeriesVaultModel" 179 "SeriesVaultModel" "parcelCount" "I" ∈ aW := aw_of (tb_8 (List.mem_of_getElem? (i := 202) rfl)) rfl
set_option maxHeartbeats 4000000 in
set_option maxRecDepth 100000 in
theorem c_M_compact_x (l : Launch) (D : va_G) (dA : Nat → ClassId) (sz : Nat) (a : Nat) (fs : List Value) (n : Int32) (h_fs_on : fs[7]? = some (.int 1)) (h_fs_parcelCount : fs[28]? = some (.int 0)) (hl_fs : fs.length = 79) : Met l ⟨"SeriesVaultModel", "compact", "(I)I"⟩ [Cond.code ⟨"SeriesVaultModel", "compact", "(I)I"⟩ prog_14_method_45_code 7 (some FieldType.int)] { frames := 1, cells := 0, slots := 0, locals := 0 } (pC D dA [.ref a, .int n] [(a, .inr (9, fs))] sz) (va_Qi (fun (r : Int32) (_ : Unit) => r = 0) (fun (u9 : Unit) t9 => bW D (va_A [(a, .inr (9, fs))] sz) [(a, .inr (9, (fs.set 0 (.int 2))))] t9) (va_A [(a, .inr (9, fs))] sz)) 0 0 (va_A [(a, .inr (9, fs))] sz) := by
  refine mkC (Qc := fun A => va_Qi (fun (r : Int32) (_ : Unit) => r = 0) (fun (u9 : Unit) t9 => bW D A [(a, .inr (9, (fs.set 0 (.int 2))))] t9) A) (by decide) (Nat.le_of_ble_eq_true rfl) ?_
  intro A p e s m below meth c ls hsz hB
  obtain ⟨hx, hb, hr, hml, hown, hin, hlk, hE, hK, hP, hD, hS, hA, hN, hl⟩ := hB
  have hown : s.vm.findClass "SeriesVaultModel" = some m.cls := hown
  have hin : meth.name = "compact" := hin
  have hl : lv_has ls 7 [(0, .ref a), (1, .int n)] := hl
  obtain ⟨H, hH⟩ : ∃ z, z = s.heap := ⟨_, rfl⟩
  have hP : va_P D vwCl [(a, .inr (9, fs))] H := by rw [hH]; exact hP
  have hS : va_S A s.heap H [] := by rw [hH]; exact hS
  rw [← hH]
  refine lv_aload_n hx hb d_M_compact_0 rfl (lv_at hl 0 rfl) ?_
  refine lv_aload_n hx hb d_M_compact_1 rfl (lv_at hl 0 rfl) ?_
  refine gF (v := .int 1) hx hb hown hE hK hP 0 rfl rfl layM 7 (by decide) w324 h_fs_on d_M_compact_2 ?_
  refine lv_if_ne hx hb d_M_compact_5 (tgt := 12) rfl (fun _ => ?_) (fun h9 => absurd h9 (by decide))
  refine lv_iload_n hx hb d_M_compact_12 rfl (lv_at hl 1 rfl) ?_
  refine lv_if_lt hx hb d_M_compact_13 (tgt := 26) rfl (fun hc => ?_) (fun hc => ?_)
  · refine lv_iconst (v := 2) hx hb d_M_compact_26 (by decide) ?_
    refine lv_goto hx hb d_M_compact_27 (tgt := 31) rfl ?_
    refine pF hx hb hown hE hK hP hD hS 0 rfl rfl layM tyM tokM nmM 0 (by decide) w319 rfl rfl rfl (by simp [hl_fs]) d_M_compact_31 (fun H locs hP hD hS => ?_)
    have hP : va_P D vwCl [(a, .inr (9, (fs.set 0 (.int 2))))] H := hP
    have hD : va_D A [(a, .inr (9, (fs.set 0 (.int 2))))] := hD
    refine lv_aload_n hx hb d_M_compact_34 rfl (lv_at hl 0 rfl) ?_
    refine gF (v := .int 2) hx hb hown hE hK hP 0 rfl rfl layM 0 (by decide) w319 (by simp [hl_fs]) d_M_compact_35 ?_
    refine lv_if_le hx hb d_M_compact_38 (tgt := 43) rfl (fun h9 => absurd h9 (by decide)) (fun _ => ?_)
    refine lv_iconst (v := 0) hx hb d_M_compact_41 (by decide) ?_
    exact rtI hx hb hr hlk hP hD hS () rfl [0] rfl rfl (by decide) (Nat.le_of_ble_eq_true rfl) (Nat.le_of_ble_eq_true rfl) d_M_compact_42
  · refine lv_iload_n hx hb d_M_compact_16 rfl (lv_at hl 1 rfl) ?_
    refine lv_aload_n hx hb d_M_compact_17 rfl (lv_at hl 0 rfl) ?_
    refine gF (v := .int 0) hx hb hown hE hK hP 0 rfl rfl layM 28 (by decide) w344 h_fs_parcelCount d_M_compact_18 ?_
    refine lv_iconst (v := 1) hx hb d_M_compact_21 (by decide) ?_
    refine lv_isub hx hb d_M_compact_22 (tpi (y := (-1)) (by decide) ?_)
    refine lv_icmp_lt hx hb d_M_compact_23 (tgt := 30) rfl (fun h9 => absurd h9 (nlt_m1 hc)) (fun _ => ?_)
    refine lv_iconst (v := 2) hx hb d_M_compact_26 (by decide) ?_
    refine lv_goto hx hb d_M_compact_27 (tgt := 31) rfl ?_
    refine pF hx hb hown hE hK hP hD hS 0 rfl rfl layM tyM tokM nmM 0 (by decide) w319 rfl rfl rfl (by simp [hl_fs]) d_M_compact_31 (fun H locs hP hD hS => ?_)
    have hP : va_P D vwCl [(a, .inr (9, (fs.set 0 (.int 2))))] H := hP
    have hD : va_D A [(a, .inr (9, (fs.set 0 (.int 2))))] := hD
    refine lv_aload_n hx hb d_M_compact_34 rfl (lv_at hl 0 rfl) ?_
    refine gF (v := .int 2) hx hb hown hE hK hP 0 rfl rfl layM 0 (by decide) w319 (by simp [hl_fs]) d_M_compact_35 ?_
    refine lv_if_le hx hb d_M_compact_38 (tgt := 43) rfl (fun h9 => absurd h9 (by decide)) (fun _ => ?_)
    refine lv_iconst (v := 0) hx hb d_M_compact_41 (by decide) ?_
    exact rtI hx hb hr hlk hP hD hS () rfl [0] rfl rfl (by decide) (Nat.le_of_ble_eq_true rfl) (Nat.le_of_ble_eq_true rfl) d_M_compact_42
theorem d_M_parcel_0 : decode prog_14_method_49_code 0 = .ok (.aload_n 0, 1) := by decide +kernel
theorem d_M_parcel_1 : decode prog_14_method_49_code 1 = .ok (.aload_n 0, 1) := by decide +kernel
theorem d_M_parcel_2 : decode prog_14_method_49_code 2 = .ok (.getfield 21, 3) := by decide +kernel
theorem d_M_parcel_5 : decode prog_14_method_49_code 5 = .ok (.ifCond .ne 7, 3) := by decide +kernel
theorem d_M_parcel_12 : decode prog_14_method_49_code 12 = .ok (.iload_n 1, 1) := by decide +kernel
theorem d_M_parcel_13 : decode prog_14_method_49_code 13 = .ok (.ifCond .lt 11, 3) := by decide +kernel
theorem d_M_parcel_24 : decode prog_14_method_49_code 24 = .ok (.iconst 2, 1) := by decide +kernel
theorem d_M_parcel_25 : decode prog_14_method_49_code 25 = .ok (.goto 17, 3) := by decide +kernel
theorem d_M_parcel_42 : decode prog_14_method_49_code 42 = .ok (.putfield 145, 3) := by decide +kernel
theorem d_M_parcel_45 : decode prog_14_method_49_code 45 = .ok (.aload_n 0, 1) := by decide +kernel
theorem d_M_parcel_46 : decode prog_14_method_49_code 46 = .ok (.getfield 145, 3) := by decide +kernel
theorem d_M_parcel_49 : decode prog_14_method_49_code 49 = .ok (.ifCond .le 5, 3) := by decide +kernel
theorem d_M_parcel_52 : decode prog_14_method_49_code 52 = .ok (.iconst 0, 1) := by decide +kernel
theorem d_M_parcel_53 : decode prog_14_method_49_code 53 = .ok (.ireturn, 1) := by decide +kernel
theorem d_M_parcel_16 : decode prog_14_method_49_code 16 = .ok (.iload_n 1, 1) := by decide +kernel
theorem d_M_parcel_17 : decode prog_14_method_49_code 17 = .ok (.aload_n 0, 1) := by decide +kernel
theorem d_M_parcel_18 : decode prog_14_method_49_code 18 = .ok (.getfield 179, 3) := by decide +kernel
theorem d_M_parcel_21 : decode prog_14_method_49_code 21 = .ok (.if_icmp .lt 7, 3) := by decide +kernel
set_option maxHeartbeats 4000000 in
set_option maxRecDepth 100000 in
theorem c_M_parcel_x (l : Launch) (D : va_G) (dA : Nat → ClassId) (sz : Nat) (a : Nat) (fs : List Value) (n : Int32) (i : Int32) (h_fs_on : fs[7]? = some (.int 1)) (h_fs_parcelCount : fs[28]? = some (.int 0)) (hl_fs : fs.length = 79) : Met l ⟨"SeriesVaultModel", "parcel", "(II)I"⟩ [Cond.code ⟨"SeriesVaultModel", "parcel", "(II)I"⟩ prog_14_method_49_code 10 (some FieldType.int)] { frames := 1, cells := 0, slots := 0, locals := 0 } (pC D dA [.ref a, .int n, .int i] [(a, .inr (9, fs))] sz) (va_Qi (fun (r : Int32) (_ : Unit) => r = 0) (fun (u9 : Unit) t9 => bW D (va_A [(a, .inr (9, fs))] sz) [(a, .inr (9, (fs.set 0 (.int 2))))] t9) (va_A [(a, .inr (9, fs))] sz)) 0 0 (va_A [(a, .inr (9, fs))] sz) := by
  refine mkC (Qc := fun A => va_Qi (fun (r : Int32) (_ : Unit) => r = 0) (fun (u9 : Unit) t9 => bW D A [(a, .inr (9, (fs.set 0 (.int 2))))] t9) A) (by decide) (Nat.le_of_ble_eq_true rfl) ?_
  intro A p e s m below meth c ls hsz hB
  obtain ⟨hx, hb, hr, hml, hown, hin, hlk, hE, hK, hP, hD, hS, hA, hN, hl⟩ := hB
  have hown : s.vm.findClass "SeriesVaultModel" = some m.cls := hown
  have hin : meth.name = "parcel" := hin
  have hl : lv_has ls 10 [(0, .ref a), (1, .int n), (2, .int i)] := hl
  obtain ⟨H, hH⟩ : ∃ z, z = s.heap := ⟨_, rfl⟩
  have hP : va_P D vwCl [(a, .inr (9, fs))] H := by rw [hH]; exact hP
  have hS : va_S A s.heap H [] := by rw [hH]; exact hS
  rw [← hH]
  refine lv_aload_n hx hb d_M_parcel_0 rfl (lv_at hl 0 rfl) ?_
  refine lv_aload_n hx hb d_M_parcel_1 rfl (lv_at hl 0 rfl) ?_
  refine gF (v := .int 1) hx hb hown hE hK hP 0 rfl rfl layM 7 (by decide) w324 h_fs_on d_M_parcel_2 ?_
  refine lv_if_ne hx hb d_M_parcel_5 (tgt := 12) rfl (fun _ => ?_) (fun h9 => absurd h9 (by decide))
  refine lv_iload_n hx hb d_M_parcel_12 rfl (lv_at hl 1 rfl) ?_
  refine lv_if_lt hx hb d_M_parcel_13 (tgt := 24) rfl (fun hc => ?_) (fun hc => ?_)
  · refine lv_iconst (v := 2) hx hb d_M_parcel_24 (by decide) ?_
    refine lv_goto hx hb d_M_parcel_25 (tgt := 42) rfl ?_
    refine pF hx hb hown hE hK hP hD hS 0 rfl rfl layM tyM tokM nmM 0 (by decide) w319 rfl rfl rfl (by simp [hl_fs]) d_M_parcel_42 (fun H locs hP hD hS => ?_)
    have hP : va_P D vwCl [(a, .inr (9, (fs.set 0 (.int 2))))] H := hP
    have hD : va_D A [(a, .inr (9, (fs.set 0 (.int 2))))] := hD
    refine lv_aload_n hx hb d_M_parcel_45 rfl (lv_at hl 0 rfl) ?_
    refine gF (v := .int 2) hx hb hown hE hK hP 0 rfl rfl layM 0 (by decide) w319 (by simp [hl_fs]) d_M_parcel_46 ?_
    refine lv_if_le hx hb d_M_parcel_49 (tgt := 54) rfl (fun h9 => absurd h9 (by decide)) (fun _ => ?_)
    refine lv_iconst (v := 0) hx hb d_M_parcel_52 (by decide) ?_
    exact rtI hx hb hr hlk hP hD hS () rfl [0] rfl rfl (by decide) (Nat.le_of_ble_eq_true rfl) (Nat.le_of_ble_eq_true rfl) d_M_parcel_53
  · refine lv_iload_n hx hb d_M_parcel_16 rfl (lv_at hl 1 rfl) ?_
    refine lv_aload_n hx hb d_M_parcel_17 rfl (lv_at hl 0 rfl) ?_
    refine gF (v := .int 0) hx hb hown hE hK hP 0 rfl rfl layM 28 (by decide) w344 h_fs_parcelCount d_M_parcel_18 ?_
    refine lv_icmp_lt hx hb d_M_parcel_21 (tgt := 28) rfl (fun h9 => absurd h9 hc) (fun _ => ?_)
    refine lv_iconst (v := 2) hx hb d_M_parcel_24 (by decide) ?_
    refine lv_goto hx hb d_M_parcel_25 (tgt := 42) rfl ?_
    refine pF hx hb hown hE hK hP hD hS 0 rfl rfl layM tyM tokM nmM 0 (by decide) w319 rfl rfl rfl (by simp [hl_fs]) d_M_parcel_42 (fun H locs hP hD hS => ?_)
    have hP : va_P D vwCl [(a, .inr (9, (fs.set 0 (.int 2))))] H := hP
    have hD : va_D A [(a, .inr (9, (fs.set 0 (.int 2))))] := hD
    refine lv_aload_n hx hb d_M_parcel_45 rfl (lv_at hl 0 rfl) ?_
    refine gF (v := .int 2) hx hb hown hE hK hP 0 rfl rfl layM 0 (by decide) w319 (by simp [hl_fs]) d_M_parcel_46 ?_
    refine lv_if_le hx hb d_M_parcel_49 (tgt := 54) rfl (fun h9 => absurd h9 (by decide)) (fun _ => ?_)
    refine lv_iconst (v := 0) hx hb d_M_parcel_52 (by decide) ?_
    exact rtI hx hb hr hlk hP hD hS () rfl [0] rfl rfl (by decide) (Nat.le_of_ble_eq_true rfl) (Nat.le_of_ble_eq_true rfl) d_M_parcel_53
