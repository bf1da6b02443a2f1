theorem d_M_at_0 : decode prog_14_method_56_code 0 = .ok (.iload_n 1, 1) := by decide +kernel
theorem d_M_at_1 : decode prog_14_method_56_code 1 = .ok (.ifCond .lt 24, 3) := by decide +kernel
theorem d_M_at_25 : decode prog_14_method_56_code 25 = .ok (.iconst 0, 1) := by decide +kernel
theorem d_M_at_26 : decode prog_14_method_56_code 26 = .ok (.ireturn, 1) := by decide +kernel
theorem d_M_at_4 : decode prog_14_method_56_code 4 = .ok (.iload_n 1, 1) := by decide +kernel
theorem d_M_at_5 : decode prog_14_method_56_code 5 = .ok (.aload_n 0, 1) := by decide +kernel
theorem d_M_at_6 : decode prog_14_method_56_code 6 = .ok (.getfield 148, 3) := by decide +kernel
theorem d_M_at_9 : decode prog_14_method_56_code 9 = .ok (.if_icmp .ge 16, 3) := by decide +kernel
set_option maxHeartbeats 4000000 in
set_option maxRecDepth 100000 in
theorem c_M_at_0 (l : Launch) (D : va_G) (dA : Nat → ClassId) (sz : Nat) (a : Nat) (fs : List Value) (n : Int32) (h_fs_length : fs[2]? = some (.int 0)) (hl_fs : fs.length = 79) : Met l ⟨"SeriesVaultModel", "at", "(I)I"⟩ [Cond.code ⟨"SeriesVaultModel", "at", "(I)I"⟩ prog_14_method_56_code 2 (some FieldType.int)] { frames := 1, cells := 0, slots := 0, locals := 0 } (pC D dA [.ref a, .int n] [(a, .inr (9, fs))] sz) (va_Qi (fun (r : Int32) (_ : Unit) => r = 0) (fun (u9 : Unit) t9 => bW D (va_A [(a, .inr (9, fs))] sz) [(a, .inr (9, fs))] t9) (va_A [(a, .inr (9, fs))] sz)) 0 0 (va_A [(a, .inr (9, fs))] sz) := by
  refine mkC (Qc := fun A => va_Qi (fun (r : Int32) (_ : Unit) => r = 0) (fun (u9 : Unit) t9 => bW D A [(a, .inr (9, fs))] t9) A) (by decide) (Nat.le_of_ble_eq_true rfl) ?_
  intro A p e s m below meth c ls hsz hB
  obtain ⟨hx, hb, hr, hml, hown, hin, hlk, hE, hK, hP, hD, hS, hA, hN, hl⟩ := hB
  have hown : s.vm.findClass "SeriesVaultModel" = some m.cls := hown
  have hin : meth.name = "at" := hin
  have hl : lv_has ls 2 [(0, .ref a), (1, .int n)] := hl
  obtain ⟨H, hH⟩ : ∃ z, z = s.heap := ⟨_, rfl⟩
  have hP : va_P D vwCl [(a, .inr (9, fs))] H := by rw [hH]; exact hP
  have hS : va_S A s.heap H [] := by rw [hH]; exact hS
  rw [← hH]
  refine lv_iload_n hx hb d_M_at_0 rfl (lv_at hl 1 rfl) ?_
  refine lv_if_lt hx hb d_M_at_1 (tgt := 25) rfl (fun hc => ?_) (fun hc => ?_)
  · refine lv_iconst (v := 0) hx hb d_M_at_25 (by decide) ?_
    exact rtI hx hb hr hlk hP hD hS () rfl [0] rfl rfl (by decide) (Nat.le_of_ble_eq_true rfl) (Nat.le_of_ble_eq_true rfl) d_M_at_26
  · refine lv_iload_n hx hb d_M_at_4 rfl (lv_at hl 1 rfl) ?_
    refine lv_aload_n hx hb d_M_at_5 rfl (lv_at hl 0 rfl) ?_
    refine gF (v := .int 0) hx hb hown hE hK hP 0 rfl rfl layM 2 (by decide) w320 h_fs_length d_M_at_6 ?_
    refine lv_icmp_ge hx hb d_M_at_9 (tgt := 25) rfl (fun _ => ?_) (fun h9 => absurd (Int32.not_lt.mp hc) h9)
    refine lv_iconst (v := 0) hx hb d_M_at_25 (by decide) ?_
    exact rtI hx hb hr hlk hP hD hS () rfl [0] rfl rfl (by decide) (Nat.le_of_ble_eq_true rfl) (Nat.le_of_ble_eq_true rfl) d_M_at_26
theorem d_M_next_0 : decode prog_14_method_57_code 0 = .ok (.aload_n 0, 1) := by decide +kernel
theorem d_M_next_1 : decode prog_14_method_57_code 1 = .ok (.getfield 342, 3) := by decide +kernel
theorem d_M_next_4 : decode prog_14_method_57_code 4 = .ok (.aload_n 0, 1) := by decide +kernel
theorem d_M_next_5 : decode prog_14_method_57_code 5 = .ok (.getfield 148, 3) := by decide +kernel
theorem d_M_next_8 : decode prog_14_method_57_code 8 = .ok (.if_icmp .ge 30, 3) := by decide +kernel
theorem d_M_next_38 : decode prog_14_method_57_code 38 = .ok (.aload_n 0, 1) := by decide +kernel
theorem d_M_next_39 : decode prog_14_method_57_code 39 = .ok (.aload_n 0, 1) := by decide +kernel
theorem d_M_next_40 : decode prog_14_method_57_code 40 = .ok (.getfield 342, 3) := by decide +kernel
theorem d_M_next_43 : decode prog_14_method_57_code 43 = .ok (.putfield 345, 3) := by decide +kernel
theorem d_M_next_46 : decode prog_14_method_57_code 46 = .ok (.aload_n 0, 1) := by decide +kernel
theorem d_M_next_47 : decode prog_14_method_57_code 47 = .ok (.aload_n 0, 1) := by decide +kernel
theorem d_M_next_48 : decode prog_14_method_57_code 48 = .ok (.getfield 345, 3) := by decide +kernel
theorem d_M_next_51 : decode prog_14_method_57_code 51 = .ok (.invokevirtual 348, 3) := by decide +kernel
theorem d_M_next_54 : decode prog_14_method_57_code 54 = .ok (.istore_n 1, 1) := by decide +kernel
theorem d_M_next_55 : decode prog_14_method_57_code 55 = .ok (.aload_n 0, 1) := by decide +kernel
theorem d_M_next_56 : decode prog_14_method_57_code 56 = .ok (.getfield 345, 3) := by decide +kernel
theorem d_M_next_59 : decode prog_14_method_57_code 59 = .ok (.aload_n 0, 1) := by decide +kernel
theorem d_M_next_60 : decode prog_14_method_57_code 60 = .ok (.getfield 148, 3) := by decide +kernel
theorem d_M_next_63 : decode prog_14_method_57_code 63 = .ok (.if_icmp .lt 11, 3) := by decide +kernel
theorem d_M_next_66 : decode prog_14_method_57_code 66 = .ok (.aload_n 0, 1) := by decide +kernel
theorem d_M_next_67 : decode prog_14_method_57_code 67 = .ok (.iconst 0, 1) := by decide +kernel
theorem d_M_next_68 : decode prog_14_method_57_code 68 = .ok (.putfield 351, 3) := by decide +kernel
theorem d_M_next_71 : decode prog_14_method_57_code 71 = .ok (.goto 204, 3) := by decide +kernel
theorem d_M_next_275 : decode prog_14_method_57_code 275 = .ok (.iconst 1, 1) := by decide +kernel
theorem d_M_next_276 : decode prog_14_method_57_code 276 = .ok (.ireturn, 1) := by decide +kernel
theorem w463 : Cond.fieldLink "SeriesVaultModel" 342 "SeriesVaultModel" "to" "I" ∈ aW := aw_of (tb_8 (List.mem_of_getElem? (i := 220) rfl)) rfl
theorem w464 : Cond.fieldLink "SeriesVaultModel" 345 "SeriesVaultModel" "from" "I" ∈ aW := aw_of (tb_8 (List.mem_of_getElem? (i := 219) rfl)) rfl
theorem w465 : Cond.methodLink "SeriesVaultModel" 348 ⟨"SeriesVaultModel", "at", "(I)I"⟩ ∈ aW := aw_of (tb_10 (List.mem_of_getElem? (i := 161) rfl)) rfl
theorem w466 : Cond.code ⟨"SeriesVaultModel", "at", "(I)I"⟩ prog_14_method_56_code 2 (some FieldType.int) ∈ aW := aw_of (tb_10 (List.mem_of_getElem? (i := 164) rfl)) rfl
theorem w467 : Cond.instanceMethod ⟨"SeriesVaultModel", "at", "(I)I"⟩ ∈ aW := aw_of (tb_10 (List.mem_of_getElem? (i := 163) rfl)) rfl
theorem w468 : Cond.selects "SeriesVaultModel" ⟨"SeriesVaultModel", "at", "(I)I"⟩ ⟨"SeriesVaultModel", "at", "(I)I"⟩ ∈ aW := aw_pr (List.mem_map.mpr ⟨_, pv_7 (List.mem_of_getElem? (i := 0) rfl), rfl⟩) rfl
theorem w469 : Cond.fieldLink "SeriesVaultModel" 351 "SeriesVaultModel" "kind" "I" ∈ aW := aw_of (tb_8 (List.mem_of_getElem? (i := 218) rfl)) rfl
set_option maxHeartbeats 4000000 in
set_option maxRecDepth 100000 in
theorem c_M_next_0 (l : Launch) (D : va_G) (dA : Nat → ClassId) (sz : Nat) (a : Nat) (fs : List Value) (h_fs_length : fs[2]? = some (.int 0)) (h_fs_to : fs[46]? = some (.int 0)) (hl_fs : fs.length = 79) : Met l ⟨"SeriesVaultModel", "next", "()Z"⟩ [Cond.code ⟨"SeriesVaultModel", "next", "()Z"⟩ prog_14_method_57_code 2 (some FieldType.boolean)] { frames := 2, cells := 0, slots := 0, locals := 21 } (pC D dA [.ref a] [(a, .inr (9, fs))] sz) (va_Qi (fun (r : Int32) (_ : Unit) => r = 1) (fun (u9 : Unit) t9 => bW D (va_A [(a, .inr (9, fs))] sz) [(a, .inr (9, ((fs.set 45 (.int 0)).set 44 (.int 0))))] t9) (va_A [(a, .inr (9, fs))] sz)) 0 0 (va_A [(a, .inr (9, fs))] sz) := by
  refine mkC (Qc := fun A => va_Qi (fun (r : Int32) (_ : Unit) => r = 1) (fun (u9 : Unit) t9 => bW D A [(a, .inr (9, ((fs.set 45 (.int 0)).set 44 (.int 0))))] t9) A) (by decide) (Nat.le_of_ble_eq_true rfl) ?_
  intro A p e s m below meth c ls hsz hB
  obtain ⟨hx, hb, hr, hml, hown, hin, hlk, hE, hK, hP, hD, hS, hA, hN, hl⟩ := hB
  have hown : s.vm.findClass "SeriesVaultModel" = some m.cls := hown
  have hin : meth.name = "next" := hin
  have hl : lv_has ls 2 [(0, .ref a)] := hl
  obtain ⟨H, hH⟩ : ∃ z, z = s.heap := ⟨_, rfl⟩
  have hP : va_P D vwCl [(a, .inr (9, fs))] H := by rw [hH]; exact hP
  have hS : va_S A s.heap H [] := by rw [hH]; exact hS
  rw [← hH]
  refine lv_aload_n hx hb d_M_next_0 rfl (lv_at hl 0 rfl) ?_
  refine gF (v := .int 0) hx hb hown hE hK hP 0 rfl rfl layM 46 (by decide) w463 h_fs_to d_M_next_1 ?_
  refine lv_aload_n hx hb d_M_next_4 rfl (lv_at hl 0 rfl) ?_
  refine gF (v := .int 0) hx hb hown hE hK hP 0 rfl rfl layM 2 (by decide) w320 h_fs_length d_M_next_5 ?_
  refine lv_icmp_ge hx hb d_M_next_8 (tgt := 38) rfl (fun _ => ?_) (fun h9 => absurd (by decide) h9)
  refine lv_aload_n hx hb d_M_next_38 rfl (lv_at hl 0 rfl) ?_
  refine lv_aload_n hx hb d_M_next_39 rfl (lv_at hl 0 rfl) ?_
  refine gF (v := .int 0) hx hb hown hE hK hP 0 rfl rfl layM 46 (by decide) w463 h_fs_to d_M_next_40 ?_
  refine pF hx hb hown hE hK hP hD hS 0 rfl rfl layM tyM tokM nmM 45 (by decide) w464 rfl rfl rfl (by simp [hl_fs]) d_M_next_43 (fun H locs hP hD hS => ?_)
  have hP : va_P D vwCl [(a, .inr (9, (fs.set 45 (.int 0))))] H := hP
  have hD : va_D A [(a, .inr (9, (fs.set 45 (.int 0))))] := hD
  refine lv_aload_n hx hb d_M_next_46 rfl (lv_at hl 0 rfl) ?_
  refine lv_aload_n hx hb d_M_next_47 rfl (lv_at hl 0 rfl) ?_
  refine gF (v := .int 0) hx hb hown hE hK hP 0 rfl rfl layM 45 (by decide) w464 (by simp [hl_fs]) d_M_next_48 ?_
  have hPc := hP.sub (ws' := [(a, .inr (9, (fs.set 45 (.int 0))))]) [0] rfl
  have hDc := hD.sub (ws' := [(a, .inr (9, (fs.set 45 (.int 0))))]) [0] (by decide) rfl
  refine jnI (rnV (As := [.int 0]) (rest := []) hx hb hml hown hE hK (hN _ _ hS) hPc hDc (c_M_at_0 l D dA H.size a (fs.set 45 (.int 0)) 0 (by simp [h_fs_length]) (by simp [hl_fs])) (q0 := 0) rfl rfl w466 w465 w467 w468 w328 rfl rfl ⟨⟨by decide, by decide⟩, rfl⟩ ⟨(Nat.le_of_ble_eq_true rfl), (Nat.le_of_ble_eq_true rfl)⟩ rfl hl.1 rfl (Nat.le_of_ble_eq_true rfl) d_M_next_51 ⟨(Nat.le_of_ble_eq_true rfl), (Nat.le_of_ble_eq_true rfl)⟩) hP hD hS hA [0] [] (wr := []) rfl rfl (by decide) (by decide) (fun r1 u9 H locs hp9 hP hD hS => ?_)
  have hP : va_P D vwCl [(a, .inr (9, (fs.set 45 (.int 0))))] H := hP
  have hD : va_D A [(a, .inr (9, (fs.set 45 (.int 0))))] := hD
  have hp9 : 0 = r1 := Eq.symm hp9
  subst hp9
  refine lv_istore_n hx hb d_M_next_54 rfl hl (by decide) rfl (fun ls hl => ?_)
  have hl : lv_has ls 2 [(1, .int 0), (0, .ref a)] := hl
  refine lv_aload_n hx hb d_M_next_55 rfl (lv_at hl 1 rfl) ?_
  refine gF (v := .int 0) hx hb hown hE hK hP 0 rfl rfl layM 45 (by decide) w464 (by simp [hl_fs]) d_M_next_56 ?_
  refine lv_aload_n hx hb d_M_next_59 rfl (lv_at hl 1 rfl) ?_
  refine gF (v := .int 0) hx hb hown hE hK hP 0 rfl rfl layM 2 (by decide) w320 (by simp [h_fs_length]) d_M_next_60 ?_
  refine lv_icmp_lt hx hb d_M_next_63 (tgt := 74) rfl (fun h9 => absurd h9 (by decide)) (fun _ => ?_)
  refine lv_aload_n hx hb d_M_next_66 rfl (lv_at hl 1 rfl) ?_
  refine lv_iconst (v := 0) hx hb d_M_next_67 (by decide) ?_
  refine pF hx hb hown hE hK hP hD hS 0 rfl rfl layM tyM tokM nmM 44 (by decide) w469 rfl rfl rfl (by simp [hl_fs]) d_M_next_68 (fun H locs hP hD hS => ?_)
  have hP : va_P D vwCl [(a, .inr (9, ((fs.set 45 (.int 0)).set 44 (.int 0))))] H := hP
  have hD : va_D A [(a, .inr (9, ((fs.set 45 (.int 0)).set 44 (.int 0))))] := hD
  refine lv_goto hx hb d_M_next_71 (tgt := 275) rfl ?_
  refine lv_iconst (v := 1) hx hb d_M_next_275 (by decide) ?_
  exact rtZ hx hb hr (by decide) hlk hP hD hS () rfl [0] rfl rfl (by decide) (Nat.le_of_ble_eq_true rfl) (Nat.le_of_ble_eq_true rfl) d_M_next_276
theorem d_M_function_0 : decode prog_14_method_62_code 0 = .ok (.aload_n 0, 1) := by decide +kernel
theorem d_M_function_1 : decode prog_14_method_62_code 1 = .ok (.getfield 351, 3) := by decide +kernel
theorem d_M_function_4 : decode prog_14_method_62_code 4 = .ok (.iconst 2, 1) := by decide +kernel
theorem d_M_function_5 : decode prog_14_method_62_code 5 = .ok (.if_icmp .ne 15, 3) := by decide +kernel
theorem d_M_function_20 : decode prog_14_method_62_code 20 = .ok (.iconst 0, 1) := by decide +kernel
theorem d_M_function_21 : decode prog_14_method_62_code 21 = .ok (.istore_n 1, 1) := by decide +kernel
theorem d_M_function_22 : decode prog_14_method_62_code 22 = .ok (.iload_n 1, 1) := by decide +kernel
theorem d_M_function_23 : decode prog_14_method_62_code 23 = .ok (.iconst 3, 1) := by decide +kernel
theorem d_M_function_24 : decode prog_14_method_62_code 24 = .ok (.if_icmp .ne 25, 3) := by decide +kernel
theorem d_M_function_49 : decode prog_14_method_62_code 49 = .ok (.iload_n 1, 1) := by decide +kernel
theorem d_M_function_50 : decode prog_14_method_62_code 50 = .ok (.iconst 4, 1) := by decide +kernel
theorem d_M_function_51 : decode prog_14_method_62_code 51 = .ok (.if_icmp .ne 25, 3) := by decide +kernel
theorem d_M_function_76 : decode prog_14_method_62_code 76 = .ok (.aload_n 0, 1) := by decide +kernel
theorem d_M_function_77 : decode prog_14_method_62_code 77 = .ok (.aload_n 0, 1) := by decide +kernel
theorem d_M_function_78 : decode prog_14_method_62_code 78 = .ok (.getfield 342, 3) := by decide +kernel
theorem d_M_function_81 : decode prog_14_method_62_code 81 = .ok (.iconst 1, 1) := by decide +kernel
theorem d_M_function_82 : decode prog_14_method_62_code 82 = .ok (.isub, 1) := by decide +kernel
theorem d_M_function_83 : decode prog_14_method_62_code 83 = .ok (.invokevirtual 348, 3) := by decide +kernel
theorem d_M_function_86 : decode prog_14_method_62_code 86 = .ok (.istore_n 2, 1) := by decide +kernel
theorem d_M_function_87 : decode prog_14_method_62_code 87 = .ok (.aload_n 0, 1) := by decide +kernel
theorem d_M_function_88 : decode prog_14_method_62_code 88 = .ok (.aload_n 0, 1) := by decide +kernel
theorem d_M_function_89 : decode prog_14_method_62_code 89 = .ok (.getfield 342, 3) := by decide +kernel
theorem d_M_function_92 : decode prog_14_method_62_code 92 = .ok (.iconst 2, 1) := by decide +kernel
theorem d_M_function_93 : decode prog_14_method_62_code 93 = .ok (.isub, 1) := by decide +kernel
theorem d_M_function_94 : decode prog_14_method_62_code 94 = .ok (.invokevirtual 348, 3) := by decide +kernel
theorem d_M_function_97 : decode prog_14_method_62_code 97 = .ok (.istore_n 3, 1) := by decide +kernel
theorem d_M_function_98 : decode prog_14_method_62_code 98 = .ok (.iload_n 2, 1) := by decide +kernel
theorem d_M_function_99 : decode prog_14_method_62_code 99 = .ok (.bipush 116, 2) := by decide +kernel
theorem d_M_function_101 : decode prog_14_method_62_code 101 = .ok (.if_icmp .ne 7, 3) := by decide +kernel
theorem d_M_function_108 : decode prog_14_method_62_code 108 = .ok (.iconst 0, 1) := by decide +kernel
theorem d_M_function_109 : decode prog_14_method_62_code 109 = .ok (.istore 4, 2) := by decide +kernel
theorem d_M_function_111 : decode prog_14_method_62_code 111 = .ok (.iload_n 1, 1) := by decide +kernel
theorem d_M_function_112 : decode prog_14_method_62_code 112 = .ok (.iconst 5, 1) := by decide +kernel
theorem d_M_function_113 : decode prog_14_method_62_code 113 = .ok (.if_icmp .ne 89, 3) := by decide +kernel
theorem d_M_function_202 : decode prog_14_method_62_code 202 = .ok (.iload_n 1, 1) := by decide +kernel
theorem d_M_function_203 : decode prog_14_method_62_code 203 = .ok (.bipush 6, 2) := by decide +kernel
theorem d_M_function_205 : decode prog_14_method_62_code 205 = .ok (.if_icmp .eq 5, 3) := by decide +kernel
theorem d_M_function_208 : decode prog_14_method_62_code 208 = .ok (.iconst (-1), 1) := by decide +kernel
theorem d_M_function_209 : decode prog_14_method_62_code 209 = .ok (.ireturn, 1) := by decide +kernel
set_option maxHeartbeats 4000000 in
set_option maxRecDepth 100000 in
theorem c_M_function_0 (l : Launch) (D : va_G) (dA : Nat → ClassId) (sz : Nat) (a : Nat) (fs : List Value) (h_fs_length : fs[2]? = some (.int 0)) (h_fs_kind : fs[44]? = some (.int 0)) (h_fs_to : fs[46]? = some (.int 0)) (hl_fs : fs.length = 79) : Met l ⟨"SeriesVaultModel", "function", "()I"⟩ [Cond.code ⟨"SeriesVaultModel", "function", "()I"⟩ prog_14_method_62_code 5 (some FieldType.int)] { frames := 2, cells := 0, slots := 0, locals := 21 } (pC D dA [.ref a] [(a, .inr (9, fs))] sz) (va_Qi (fun (r : Int32) (_ : Unit) => r = (-1)) (fun (u9 : Unit) t9 => bW D (va_A [(a, .inr (9, fs))] sz) [(a, .inr (9, fs))] t9) (va_A [(a, .inr (9, fs))] sz)) 0 0 (va_A [(a, .inr (9, fs))] sz) := by
  refine mkC (Qc := fun A => va_Qi (fun (r : Int32) (_ : Unit) => r = (-1)) (fun (u9 : Unit) t9 => bW D A [(a, .inr (9, fs))] t9) A) (by decide) (Nat.le_of_ble_eq_true rfl) ?_
  intro A p e s m below meth c ls hsz hB
  obtain ⟨hx, hb, hr, hml, hown, hin, hlk, hE, hK, hP, hD, hS, hA, hN, hl⟩ := hB
  have hown : s.vm.findClass "SeriesVaultModel" = some m.cls := hown
  have hin : meth.name = "function" := hin
  have hl : lv_has ls 5 [(0, .ref a)] := hl
  obtain ⟨H, hH⟩ : ∃ z, z = s.heap := ⟨_, rfl⟩
  have hP : va_P D vwCl [(a, .inr (9, fs))] H := by rw [hH]; exact hP
  have hS : va_S A s.heap H [] := by rw [hH]; exact hS
  rw [← hH]
  refine lv_aload_n hx hb d_M_function_0 rfl (lv_at hl 0 rfl) ?_
  refine gF (v := .int 0) hx hb hown hE hK hP 0 rfl rfl layM 44 (by decide) w469 h_fs_kind d_M_function_1 ?_
  refine lv_iconst (v := 2) hx hb d_M_function_4 (by decide) ?_
  refine lv_icmp_ne hx hb d_M_function_5 (tgt := 20) rfl (fun _ => ?_) (fun h9 => absurd h9 (by decide))
  refine lv_iconst (v := 0) hx hb d_M_function_20 (by decide) ?_
  refine lv_istore_n hx hb d_M_function_21 rfl hl (by decide) rfl (fun ls hl => ?_)
  have hl : lv_has ls 5 [(1, .int 0), (0, .ref a)] := hl
  refine lv_iload_n hx hb d_M_function_22 rfl (lv_at hl 0 rfl) ?_
  refine lv_iconst (v := 3) hx hb d_M_function_23 (by decide) ?_
  refine lv_icmp_ne hx hb d_M_function_24 (tgt := 49) rfl (fun _ => ?_) (fun h9 => absurd h9 (by decide))
  refine lv_iload_n hx hb d_M_function_49 rfl (lv_at hl 0 rfl) ?_
  refine lv_iconst (v := 4) hx hb d_M_function_50 (by decide) ?_
  refine lv_icmp_ne hx hb d_M_function_51 (tgt := 76) rfl (fun _ => ?_) (fun h9 => absurd h9 (by decide))
  refine lv_aload_n hx hb d_M_function_76 rfl (lv_at hl 1 rfl) ?_
  refine lv_aload_n hx hb d_M_function_77 rfl (lv_at hl 1 rfl) ?_
  refine gF (v := .int 0) hx hb hown hE hK hP 0 rfl rfl layM 46 (by decide) w463 h_fs_to d_M_function_78 ?_
  refine lv_iconst (v := 1) hx hb d_M_function_81 (by decide) ?_
  refine lv_isub hx hb d_M_function_82 (tpi (y := (-1)) (by decide) ?_)
  have hPc := hP.sub (ws' := [(a, .inr (9, fs))]) [0] rfl
  have hDc := hD.sub (ws' := [(a, .inr (9, fs))]) [0] (by decide) rfl
  refine jnI (rnV (As := [.int (-1)]) (rest := []) hx hb hml hown hE hK (hN _ _ hS) hPc hDc (c_M_at_0 l D dA H.size a fs (-1) h_fs_length hl_fs) (q0 := 0) rfl rfl w466 w465 w467 w468 w328 rfl rfl ⟨⟨by decide, by decide⟩, rfl⟩ ⟨(Nat.le_of_ble_eq_true rfl), (Nat.le_of_ble_eq_true rfl)⟩ rfl hl.1 rfl (Nat.le_of_ble_eq_true rfl) d_M_function_83 ⟨(Nat.le_of_ble_eq_true rfl), (Nat.le_of_ble_eq_true rfl)⟩) hP hD hS hA [0] [] (wr := []) rfl rfl (by decide) (by decide) (fun r1 u9 H locs hp9 hP hD hS => ?_)
  have hP : va_P D vwCl [(a, .inr (9, fs))] H := hP
  have hD : va_D A [(a, .inr (9, fs))] := hD
  have hp9 : 0 = r1 := Eq.symm hp9
  subst hp9
  refine lv_istore_n hx hb d_M_function_86 rfl hl (by decide) rfl (fun ls hl => ?_)
  have hl : lv_has ls 5 [(2, .int 0), (1, .int 0), (0, .ref a)] := hl
  refine lv_aload_n hx hb d_M_function_87 rfl (lv_at hl 2 rfl) ?_
  refine lv_aload_n hx hb d_M_function_88 rfl (lv_at hl 2 rfl) ?_
  refine gF (v := .int 0) hx hb hown hE hK hP 0 rfl rfl layM 46 (by decide) w463 h_fs_to d_M_function_89 ?_
  refine lv_iconst (v := 2) hx hb d_M_function_92 (by decide) ?_
  refine lv_isub hx hb d_M_function_93 (tpi (y := (-2)) (by decide) ?_)
  have hPc := hP.sub (ws' := [(a, .inr (9, fs))]) [0] rfl
  have hDc := hD.sub (ws' := [(a, .inr (9, fs))]) [0] (by decide) rfl
  refine jnI (rnV (As := [.int (-2)]) (rest := []) hx hb hml hown hE hK (hN _ _ hS) hPc hDc (c_M_at_0 l D dA H.size a fs (-2) h_fs_length hl_fs) (q0 := 0) rfl rfl w466 w465 w467 w468 w328 rfl rfl ⟨⟨by decide, by decide⟩, rfl⟩ ⟨(Nat.le_of_ble_eq_true rfl), (Nat.le_of_ble_eq_true rfl)⟩ rfl hl.1 rfl (Nat.le_of_ble_eq_true rfl) d_M_function_94 ⟨(Nat.le_of_ble_eq_true rfl), (Nat.le_of_ble_eq_true rfl)⟩) hP hD hS hA [0] [] (wr := []) rfl rfl (by decide) (by decide) (fun r2 u9 H locs hp9 hP hD hS => ?_)
  have hP : va_P D vwCl [(a, .inr (9, fs))] H := hP
  have hD : va_D A [(a, .inr (9, fs))] := hD
  have hp9 : 0 = r2 := Eq.symm hp9
  subst hp9
  refine lv_istore_n hx hb d_M_function_97 rfl hl (by decide) rfl (fun ls hl => ?_)
  have hl : lv_has ls 5 [(3, .int 0), (2, .int 0), (1, .int 0), (0, .ref a)] := hl
  refine lv_iload_n hx hb d_M_function_98 rfl (lv_at hl 1 rfl) ?_
  refine lv_bipush (v := 116) hx hb d_M_function_99 (by decide) ?_
  refine lv_icmp_ne hx hb d_M_function_101 (tgt := 108) rfl (fun _ => ?_) (fun h9 => absurd h9 (by decide))
  refine lv_iconst (v := 0) hx hb d_M_function_108 (by decide) ?_
  refine lv_istore hx hb d_M_function_109 hl (by decide) rfl (fun ls hl => ?_)
  have hl : lv_has ls 5 [(4, .int 0), (3, .int 0), (2, .int 0), (1, .int 0), (0, .ref a)] := hl
  refine lv_iload_n hx hb d_M_function_111 rfl (lv_at hl 3 rfl) ?_
  refine lv_iconst (v := 5) hx hb d_M_function_112 (by decide) ?_
  refine lv_icmp_ne hx hb d_M_function_113 (tgt := 202) rfl (fun _ => ?_) (fun h9 => absurd h9 (by decide))
  refine lv_iload_n hx hb d_M_function_202 rfl (lv_at hl 3 rfl) ?_
  refine lv_bipush (v := 6) hx hb d_M_function_203 (by decide) ?_
  refine lv_icmp_eq hx hb d_M_function_205 (tgt := 210) rfl (fun h9 => absurd h9 (by decide)) (fun _ => ?_)
  refine lv_iconst (v := (-1)) hx hb d_M_function_208 (by decide) ?_
  exact rtI hx hb hr hlk hP hD hS () rfl [0] rfl rfl (by decide) (Nat.le_of_ble_eq_true rfl) (Nat.le_of_ble_eq_true rfl) d_M_function_209
theorem d_M_operand_0 : decode prog_14_method_86_code 0 = .ok (.aload_n 0, 1) := by decide +kernel
theorem d_M_operand_1 : decode prog_14_method_86_code 1 = .ok (.getfield 351, 3) := by decide +kernel
theorem d_M_operand_4 : decode prog_14_method_86_code 4 = .ok (.bipush 45, 2) := by decide +kernel
theorem d_M_operand_6 : decode prog_14_method_86_code 6 = .ok (.if_icmp .eq 12, 3) := by decide +kernel
theorem d_M_operand_9 : decode prog_14_method_86_code 9 = .ok (.aload_n 0, 1) := by decide +kernel
theorem d_M_operand_10 : decode prog_14_method_86_code 10 = .ok (.getfield 351, 3) := by decide +kernel
theorem d_M_operand_13 : decode prog_14_method_86_code 13 = .ok (.bipush 40, 2) := by decide +kernel
theorem d_M_operand_15 : decode prog_14_method_86_code 15 = .ok (.if_icmp .ne 24, 3) := by decide +kernel
theorem d_M_operand_39 : decode prog_14_method_86_code 39 = .ok (.aload_n 0, 1) := by decide +kernel
theorem d_M_operand_40 : decode prog_14_method_86_code 40 = .ok (.iconst 0, 1) := by decide +kernel
theorem d_M_operand_41 : decode prog_14_method_86_code 41 = .ok (.putfield 472, 3) := by decide +kernel
theorem d_M_operand_44 : decode prog_14_method_86_code 44 = .ok (.aload_n 0, 1) := by decide +kernel
theorem d_M_operand_45 : decode prog_14_method_86_code 45 = .ok (.invokevirtual 475, 3) := by decide +kernel
theorem d_M_operand_48 : decode prog_14_method_86_code 48 = .ok (.istore_n 1, 1) := by decide +kernel
theorem d_M_operand_49 : decode prog_14_method_86_code 49 = .ok (.aload_n 0, 1) := by decide +kernel
theorem d_M_operand_50 : decode prog_14_method_86_code 50 = .ok (.getfield 351, 3) := by decide +kernel
theorem d_M_operand_53 : decode prog_14_method_86_code 53 = .ok (.iconst 1, 1) := by decide +kernel
theorem d_M_operand_54 : decode prog_14_method_86_code 54 = .ok (.if_icmp .eq 17, 3) := by decide +kernel
theorem d_M_operand_57 : decode prog_14_method_86_code 57 = .ok (.iload_n 1, 1) := by decide +kernel
theorem d_M_operand_58 : decode prog_14_method_86_code 58 = .ok (.ifCond .ge 13, 3) := by decide +kernel
theorem d_M_operand_61 : decode prog_14_method_86_code 61 = .ok (.aload_n 0, 1) := by decide +kernel
theorem d_M_operand_62 : decode prog_14_method_86_code 62 = .ok (.iconst 2, 1) := by decide +kernel
theorem d_M_operand_63 : decode prog_14_method_86_code 63 = .ok (.aload_n 0, 1) := by decide +kernel
theorem d_M_operand_64 : decode prog_14_method_86_code 64 = .ok (.getfield 345, 3) := by decide +kernel
theorem d_M_operand_67 : decode prog_14_method_86_code 67 = .ok (.invokevirtual 224, 3) := by decide +kernel
theorem d_M_operand_70 : decode prog_14_method_86_code 70 = .ok (.ireturn, 1) := by decide +kernel
theorem w470 : Cond.fieldLink "SeriesVaultModel" 472 "SeriesVaultModel" "wants" "Z" ∈ aW := aw_of (tb_9 (List.mem_of_getElem? (i := 4) rfl)) rfl
theorem w471 : Cond.methodLink "SeriesVaultModel" 475 ⟨"SeriesVaultModel", "function", "()I"⟩ ∈ aW := aw_of (tb_10 (List.mem_of_getElem? (i := 189) rfl)) rfl
theorem w472 : Cond.code ⟨"SeriesVaultModel", "function", "()I"⟩ prog_14_method_62_code 5 (some FieldType.int) ∈ aW := aw_of (tb_10 (List.mem_of_getElem? (i := 192) rfl)) rfl
theorem w473 : Cond.instanceMethod ⟨"SeriesVaultModel", "function", "()I"⟩ ∈ aW := aw_of (tb_10 (List.mem_of_getElem? (i := 191) rfl)) rfl
theorem w474 : Cond.selects "SeriesVaultModel" ⟨"SeriesVaultModel", "function", "()I"⟩ ⟨"SeriesVaultModel", "function", "()I"⟩ ∈ aW := aw_pr (List.mem_map.mpr ⟨_, pv_7 (List.mem_of_getElem? (i := 5) rfl), rfl⟩) rfl
set_option maxHeartbeats 4000000 in
set_option maxRecDepth 100000 in
theorem c_M_operand_0 (l : Launch) (D : va_G) (dA : Nat → ClassId) (sz : Nat) (a : Nat) (fs : List Value) (h_fs_length : fs[2]? = some (.int 0)) (h_fs_faultCode : fs[3]? = some (.int 0)) (h_fs_kind : fs[44]? = some (.int 0)) (h_fs_from : fs[45]? = some (.int 0)) (h_fs_to : fs[46]? = some (.int 0)) (hl_fs : fs.length = 79) : Met l ⟨"SeriesVaultModel", "operand", "()Z"⟩ [Cond.code ⟨"SeriesVaultModel", "operand", "()Z"⟩ prog_14_method_86_code 2 (some FieldType.boolean)] { frames := 3, cells := 0, slots := 0, locals := 45 } (pC D dA [.ref a] [(a, .inr (9, fs))] sz) (va_Qi (fun (r : Int32) (_ : Unit) => r = 0) (fun (u9 : Unit) t9 => bW D (va_A [(a, .inr (9, fs))] sz) [(a, .inr (9, (((fs.set 70 (.int 0)).set 3 (.int 2)).set 4 (.int 0))))] t9) (va_A [(a, .inr (9, fs))] sz)) 0 0 (va_A [(a, .inr (9, fs))] sz) := by
  refine mkC (Qc := fun A => va_Qi (fun (r : Int32) (_ : Unit) => r = 0) (fun (u9 : Unit) t9 => bW D A [(a, .inr (9, (((fs.set 70 (.int 0)).set 3 (.int 2)).set 4 (.int 0))))] t9) A) (by decide) (Nat.le_of_ble_eq_true rfl) ?_
  intro A p e s m below meth c ls hsz hB
  obtain ⟨hx, hb, hr, hml, hown, hin, hlk, hE, hK, hP, hD, hS, hA, hN, hl⟩ := hB
  have hown : s.vm.findClass "SeriesVaultModel" = some m.cls := hown
  have hin : meth.name = "operand" := hin
  have hl : lv_has ls 2 [(0, .ref a)] := hl
  obtain ⟨H, hH⟩ : ∃ z, z = s.heap := ⟨_, rfl⟩
  have hP : va_P D vwCl [(a, .inr (9, fs))] H := by rw [hH]; exact hP
  have hS : va_S A s.heap H [] := by rw [hH]; exact hS
  rw [← hH]
  refine lv_aload_n hx hb d_M_operand_0 rfl (lv_at hl 0 rfl) ?_
  refine gF (v := .int 0) hx hb hown hE hK hP 0 rfl rfl layM 44 (by decide) w469 h_fs_kind d_M_operand_1 ?_
  refine lv_bipush (v := 45) hx hb d_M_operand_4 (by decide) ?_
  refine lv_icmp_eq hx hb d_M_operand_6 (tgt := 18) rfl (fun h9 => absurd h9 (by decide)) (fun _ => ?_)
  refine lv_aload_n hx hb d_M_operand_9 rfl (lv_at hl 0 rfl) ?_
  refine gF (v := .int 0) hx hb hown hE hK hP 0 rfl rfl layM 44 (by decide) w469 h_fs_kind d_M_operand_10 ?_
  refine lv_bipush (v := 40) hx hb d_M_operand_13 (by decide) ?_
  refine lv_icmp_ne hx hb d_M_operand_15 (tgt := 39) rfl (fun _ => ?_) (fun h9 => absurd h9 (by decide))
  refine lv_aload_n hx hb d_M_operand_39 rfl (lv_at hl 0 rfl) ?_
  refine lv_iconst (v := 0) hx hb d_M_operand_40 (by decide) ?_
  refine pF hx hb hown hE hK hP hD hS 0 rfl rfl layM tyM tokM nmM 70 (by decide) w470 rfl rfl rfl (by simp [hl_fs]) d_M_operand_41 (fun H locs hP hD hS => ?_)
  have hP : va_P D vwCl [(a, .inr (9, (fs.set 70 (.int 0))))] H := hP
  have hD : va_D A [(a, .inr (9, (fs.set 70 (.int 0))))] := hD
  refine lv_aload_n hx hb d_M_operand_44 rfl (lv_at hl 0 rfl) ?_
  have hPc := hP.sub (ws' := [(a, .inr (9, (fs.set 70 (.int 0))))]) [0] rfl
  have hDc := hD.sub (ws' := [(a, .inr (9, (fs.set 70 (.int 0))))]) [0] (by decide) rfl
  refine jnI (rnV (As := []) (rest := []) hx hb hml hown hE hK (hN _ _ hS) hPc hDc (c_M_function_0 l D dA H.size a (fs.set 70 (.int 0)) (by simp [h_fs_length]) (by simp [h_fs_kind]) (by simp [h_fs_to]) (by simp [hl_fs])) (q0 := 0) rfl rfl w472 w471 w473 w474 w328 rfl rfl ⟨⟨by decide, by decide⟩, rfl⟩ ⟨(Nat.le_of_ble_eq_true rfl), (Nat.le_of_ble_eq_true rfl)⟩ rfl hl.1 rfl (Nat.le_of_ble_eq_true rfl) d_M_operand_45 ⟨(Nat.le_of_ble_eq_true rfl), (Nat.le_of_ble_eq_true rfl)⟩) hP hD hS hA [0] [] (wr := []) rfl rfl (by decide) (by decide) (fun r1 u9 H locs hp9 hP hD hS => ?_)
  have hP : va_P D vwCl [(a, .inr (9, (fs.set 70 (.int 0))))] H := hP
  have hD : va_D A [(a, .inr (9, (fs.set 70 (.int 0))))] := hD
  have hp9 : (-1) = r1 := Eq.symm hp9
  subst hp9
  refine lv_istore_n hx hb d_M_operand_48 rfl hl (by decide) rfl (fun ls hl => ?_)
  have hl : lv_has ls 2 [(1, .int (-1)), (0, .ref a)] := hl
  refine lv_aload_n hx hb d_M_operand_49 rfl (lv_at hl 1 rfl) ?_
  refine gF (v := .int 0) hx hb hown hE hK hP 0 rfl rfl layM 44 (by decide) w469 (by simp [h_fs_kind]) d_M_operand_50 ?_
  refine lv_iconst (v := 1) hx hb d_M_operand_53 (by decide) ?_
  refine lv_icmp_eq hx hb d_M_operand_54 (tgt := 71) rfl (fun h9 => absurd h9 (by decide)) (fun _ => ?_)
  refine lv_iload_n hx hb d_M_operand_57 rfl (lv_at hl 0 rfl) ?_
  refine lv_if_ge hx hb d_M_operand_58 (tgt := 71) rfl (fun h9 => absurd h9 (by decide)) (fun _ => ?_)
  refine lv_aload_n hx hb d_M_operand_61 rfl (lv_at hl 1 rfl) ?_
  refine lv_iconst (v := 2) hx hb d_M_operand_62 (by decide) ?_
  refine lv_aload_n hx hb d_M_operand_63 rfl (lv_at hl 1 rfl) ?_
  refine gF (v := .int 0) hx hb hown hE hK hP 0 rfl rfl layM 45 (by decide) w464 (by simp [h_fs_from]) d_M_operand_64 ?_
  have hPc := hP.sub (ws' := [(a, .inr (9, (fs.set 70 (.int 0))))]) [0] rfl
  have hDc := hD.sub (ws' := [(a, .inr (9, (fs.set 70 (.int 0))))]) [0] (by decide) rfl
  refine jnI (rnV (As := [.int 2, .int 0]) (rest := []) hx hb hml hown hE hK (hN _ _ hS) hPc hDc (c_M_flaw l D dA H.size a (fs.set 70 (.int 0)) 2 0 (by simp [h_fs_faultCode]) (by simp [hl_fs])) (q0 := 0) rfl rfl w431 w430 w432 w433 w328 rfl rfl ⟨⟨by decide, by decide⟩, rfl⟩ ⟨(Nat.le_of_ble_eq_true rfl), (Nat.le_of_ble_eq_true rfl)⟩ rfl hl.1 rfl (Nat.le_of_ble_eq_true rfl) d_M_operand_67 ⟨(Nat.le_of_ble_eq_true rfl), (Nat.le_of_ble_eq_true rfl)⟩) hP hD hS hA [0] [] (wr := []) rfl rfl (by decide) (by decide) (fun r2 u9 H locs hp9 hP hD hS => ?_)
  have hP : va_P D vwCl [(a, .inr (9, (((fs.set 70 (.int 0)).set 3 (.int 2)).set 4 (.int 0))))] H := hP
  have hD : va_D A [(a, .inr (9, (((fs.set 70 (.int 0)).set 3 (.int 2)).set 4 (.int 0))))] := hD
  have hp9 : 0 = r2 := Eq.symm hp9
  subst hp9
  exact rtZ hx hb hr (by decide) hlk hP hD hS () rfl [0] rfl rfl (by decide) (Nat.le_of_ble_eq_true rfl) (Nat.le_of_ble_eq_true rfl) d_M_operand_70
theorem d_M_question_0 : decode prog_14_method_89_code 0 = .ok (.aload_n 0, 1) := by decide +kernel
theorem d_M_question_1 : decode prog_14_method_89_code 1 = .ok (.iload_n 1, 1) := by decide +kernel
theorem d_M_question_2 : decode prog_14_method_89_code 2 = .ok (.putfield 442, 3) := by decide +kernel
theorem d_M_question_5 : decode prog_14_method_89_code 5 = .ok (.aload_n 0, 1) := by decide +kernel
theorem d_M_question_6 : decode prog_14_method_89_code 6 = .ok (.iconst 0, 1) := by decide +kernel
theorem d_M_question_7 : decode prog_14_method_89_code 7 = .ok (.putfield 400, 3) := by decide +kernel
theorem d_M_question_10 : decode prog_14_method_89_code 10 = .ok (.aload_n 0, 1) := by decide +kernel
theorem d_M_question_11 : decode prog_14_method_89_code 11 = .ok (.iconst 0, 1) := by decide +kernel
theorem d_M_question_12 : decode prog_14_method_89_code 12 = .ok (.putfield 439, 3) := by decide +kernel
theorem d_M_question_15 : decode prog_14_method_89_code 15 = .ok (.aload_n 0, 1) := by decide +kernel
theorem d_M_question_16 : decode prog_14_method_89_code 16 = .ok (.iconst 0, 1) := by decide +kernel
theorem d_M_question_17 : decode prog_14_method_89_code 17 = .ok (.putfield 436, 3) := by decide +kernel
theorem d_M_question_20 : decode prog_14_method_89_code 20 = .ok (.aload_n 0, 1) := by decide +kernel
theorem d_M_question_21 : decode prog_14_method_89_code 21 = .ok (.iconst 0, 1) := by decide +kernel
theorem d_M_question_22 : decode prog_14_method_89_code 22 = .ok (.putfield 342, 3) := by decide +kernel
theorem d_M_question_25 : decode prog_14_method_89_code 25 = .ok (.aload_n 0, 1) := by decide +kernel
theorem d_M_question_26 : decode prog_14_method_89_code 26 = .ok (.iconst 1, 1) := by decide +kernel
theorem d_M_question_27 : decode prog_14_method_89_code 27 = .ok (.putfield 472, 3) := by decide +kernel
theorem d_M_question_30 : decode prog_14_method_89_code 30 = .ok (.aload_n 0, 1) := by decide +kernel
theorem d_M_question_31 : decode prog_14_method_89_code 31 = .ok (.invokevirtual 373, 3) := by decide +kernel
theorem d_M_question_34 : decode prog_14_method_89_code 34 = .ok (.istore_n 2, 1) := by decide +kernel
theorem d_M_question_35 : decode prog_14_method_89_code 35 = .ok (.iload_n 2, 1) := by decide +kernel
theorem d_M_question_36 : decode prog_14_method_89_code 36 = .ok (.ifCond .eq 39, 3) := by decide +kernel
theorem d_M_question_39 : decode prog_14_method_89_code 39 = .ok (.aload_n 0, 1) := by decide +kernel
theorem d_M_question_40 : decode prog_14_method_89_code 40 = .ok (.getfield 351, 3) := by decide +kernel
theorem d_M_question_43 : decode prog_14_method_89_code 43 = .ok (.ifCond .ne 10, 3) := by decide +kernel
theorem d_M_question_46 : decode prog_14_method_89_code 46 = .ok (.aload_n 0, 1) := by decide +kernel
theorem d_M_question_47 : decode prog_14_method_89_code 47 = .ok (.getfield 472, 3) := by decide +kernel
theorem d_M_question_50 : decode prog_14_method_89_code 50 = .ok (.ifCond .eq 25, 3) := by decide +kernel
theorem d_M_question_53 : decode prog_14_method_89_code 53 = .ok (.aload_n 0, 1) := by decide +kernel
theorem d_M_question_54 : decode prog_14_method_89_code 54 = .ok (.getfield 472, 3) := by decide +kernel
theorem d_M_question_57 : decode prog_14_method_89_code 57 = .ok (.ifCond .eq 10, 3) := by decide +kernel
theorem d_M_question_60 : decode prog_14_method_89_code 60 = .ok (.aload_n 0, 1) := by decide +kernel
theorem d_M_question_61 : decode prog_14_method_89_code 61 = .ok (.invokevirtual 489, 3) := by decide +kernel
theorem d_M_question_64 : decode prog_14_method_89_code 64 = .ok (.goto 7, 3) := by decide +kernel
theorem d_M_question_71 : decode prog_14_method_89_code 71 = .ok (.istore_n 2, 1) := by decide +kernel
theorem d_M_question_72 : decode prog_14_method_89_code 72 = .ok (.goto (-37), 3) := by decide +kernel
theorem d_M_question_75 : decode prog_14_method_89_code 75 = .ok (.iload_n 2, 1) := by decide +kernel
theorem d_M_question_76 : decode prog_14_method_89_code 76 = .ok (.ifCond .eq 20, 3) := by decide +kernel
theorem d_M_question_96 : decode prog_14_method_89_code 96 = .ok (.iload_n 2, 1) := by decide +kernel
theorem d_M_question_97 : decode prog_14_method_89_code 97 = .ok (.ifCond .eq 15, 3) := by decide +kernel
theorem d_M_question_112 : decode prog_14_method_89_code 112 = .ok (.iconst 0, 1) := by decide +kernel
theorem d_M_question_113 : decode prog_14_method_89_code 113 = .ok (.ireturn, 1) := by decide +kernel
theorem w475 : Cond.fieldLink "SeriesVaultModel" 442 "SeriesVaultModel" "works" "Z" ∈ aW := aw_of (tb_8 (List.mem_of_getElem? (i := 230) rfl)) rfl
theorem w476 : Cond.fieldLink "SeriesVaultModel" 400 "SeriesVaultModel" "pile" "I" ∈ aW := aw_of (tb_8 (List.mem_of_getElem? (i := 229) rfl)) rfl
theorem w477 : Cond.fieldLink "SeriesVaultModel" 439 "SeriesVaultModel" "signCount" "I" ∈ aW := aw_of (tb_9 (List.mem_of_getElem? (i := 2) rfl)) rfl
theorem w478 : Cond.fieldLink "SeriesVaultModel" 436 "SeriesVaultModel" "open" "I" ∈ aW := aw_of (tb_9 (List.mem_of_getElem? (i := 3) rfl)) rfl
theorem w479 : Cond.methodLink "SeriesVaultModel" 373 ⟨"SeriesVaultModel", "next", "()Z"⟩ ∈ aW := aw_of (tb_10 (List.mem_of_getElem? (i := 157) rfl)) rfl
theorem w480 : Cond.code ⟨"SeriesVaultModel", "next", "()Z"⟩ prog_14_method_57_code 2 (some FieldType.boolean) ∈ aW := aw_of (tb_10 (List.mem_of_getElem? (i := 160) rfl)) rfl
theorem w481 : Cond.instanceMethod ⟨"SeriesVaultModel", "next", "()Z"⟩ ∈ aW := aw_of (tb_10 (List.mem_of_getElem? (i := 159) rfl)) rfl
theorem w482 : Cond.selects "SeriesVaultModel" ⟨"SeriesVaultModel", "next", "()Z"⟩ ⟨"SeriesVaultModel", "next", "()Z"⟩ ∈ aW := aw_pr (List.mem_map.mpr ⟨_, pv_6 (List.mem_of_getElem? (i := 15) rfl), rfl⟩) rfl
theorem w483 : Cond.methodLink "SeriesVaultModel" 489 ⟨"SeriesVaultModel", "operand", "()Z"⟩ ∈ aW := aw_of (tb_10 (List.mem_of_getElem? (i := 181) rfl)) rfl
theorem w484 : Cond.code ⟨"SeriesVaultModel", "operand", "()Z"⟩ prog_14_method_86_code 2 (some FieldType.boolean) ∈ aW := aw_of (tb_10 (List.mem_of_getElem? (i := 184) rfl)) rfl
theorem w485 : Cond.instanceMethod ⟨"SeriesVaultModel", "operand", "()Z"⟩ ∈ aW := aw_of (tb_10 (List.mem_of_getElem? (i := 183) rfl)) rfl
theorem w486 : Cond.selects "SeriesVaultModel" ⟨"SeriesVaultModel", "operand", "()Z"⟩ ⟨"SeriesVaultModel", "operand", "()Z"⟩ ∈ aW := aw_pr (List.mem_map.mpr ⟨_, pv_7 (List.mem_of_getElem? (i := 3) rfl), rfl⟩) rfl
set_option maxHeartbeats 4000000 in
set_option maxRecDepth 100000 in
theorem c_M_question_0 (l : Launch) (D : va_G) (dA : Nat → ClassId) (sz : Nat) (a : Nat) (fs : List Value) (h_fs_length : fs[2]? = some (.int 0)) (h_fs_faultCode : fs[3]? = some (.int 0)) (hl_fs : fs.length = 79) : Met l ⟨"SeriesVaultModel", "question", "(Z)Z"⟩ [Cond.code ⟨"SeriesVaultModel", "question", "(Z)Z"⟩ prog_14_method_89_code 3 (some FieldType.boolean)] { frames := 4, cells := 0, slots := 0, locals := 66 } (pC D dA [.ref a, .int 0] [(a, .inr (9, fs))] sz) (va_Qi (fun (r : Int32) (_ : Unit) => r = 0) (fun (u9 : Unit) t9 => bW D (va_A [(a, .inr (9, fs))] sz) [(a, .inr (9, (((((((((((fs.set 56 (.int 0)).set 55 (.int 0)).set 68 (.int 0)).set 69 (.int 0)).set 46 (.int 0)).set 70 (.int 1)).set 45 (.int 0)).set 44 (.int 0)).set 70 (.int 0)).set 3 (.int 2)).set 4 (.int 0))))] t9) (va_A [(a, .inr (9, fs))] sz)) 0 0 (va_A [(a, .inr (9, fs))] sz) := by
  refine mkC (Qc := fun A => va_Qi (fun (r : Int32) (_ : Unit) => r = 0) (fun (u9 : Unit) t9 => bW D A [(a, .inr (9, (((((((((((fs.set 56 (.int 0)).set 55 (.int 0)).set 68 (.int 0)).set 69 (.int 0)).set 46 (.int 0)).set 70 (.int 1)).set 45 (.int 0)).set 44 (.int 0)).set 70 (.int 0)).set 3 (.int 2)).set 4 (.int 0))))] t9) A) (by decide) (Nat.le_of_ble_eq_true rfl) ?_
  intro A p e s m below meth c ls hsz hB
  obtain ⟨hx, hb, hr, hml, hown, hin, hlk, hE, hK, hP, hD, hS, hA, hN, hl⟩ := hB
  have hown : s.vm.findClass "SeriesVaultModel" = some m.cls := hown
  have hin : meth.name = "question" := hin
  have hl : lv_has ls 3 [(0, .ref a), (1, .int 0)] := hl
  obtain ⟨H, hH⟩ : ∃ z, z = s.heap := ⟨_, rfl⟩
  have hP : va_P D vwCl [(a, .inr (9, fs))] H := by rw [hH]; exact hP
  have hS : va_S A s.heap H [] := by rw [hH]; exact hS
  rw [← hH]
  refine lv_aload_n hx hb d_M_question_0 rfl (lv_at hl 0 rfl) ?_
  refine lv_iload_n hx hb d_M_question_1 rfl (lv_at hl 1 rfl) ?_
  refine pF hx hb hown hE hK hP hD hS 0 rfl rfl layM tyM tokM nmM 56 (by decide) w475 rfl rfl rfl (by simp [hl_fs]) d_M_question_2 (fun H locs hP hD hS => ?_)
  have hP : va_P D vwCl [(a, .inr (9, (fs.set 56 (.int 0))))] H := hP
  have hD : va_D A [(a, .inr (9, (fs.set 56 (.int 0))))] := hD
  refine lv_aload_n hx hb d_M_question_5 rfl (lv_at hl 0 rfl) ?_
  refine lv_iconst (v := 0) hx hb d_M_question_6 (by decide) ?_
  refine pF hx hb hown hE hK hP hD hS 0 rfl rfl layM tyM tokM nmM 55 (by decide) w476 rfl rfl rfl (by simp [hl_fs]) d_M_question_7 (fun H locs hP hD hS => ?_)
  have hP : va_P D vwCl [(a, .inr (9, ((fs.set 56 (.int 0)).set 55 (.int 0))))] H := hP
  have hD : va_D A [(a, .inr (9, ((fs.set 56 (.int 0)).set 55 (.int 0))))] := hD
  refine lv_aload_n hx hb d_M_question_10 rfl (lv_at hl 0 rfl) ?_
  refine lv_iconst (v := 0) hx hb d_M_question_11 (by decide) ?_
  refine pF hx hb hown hE hK hP hD hS 0 rfl rfl layM tyM tokM nmM 68 (by decide) w477 rfl rfl rfl (by simp [hl_fs]) d_M_question_12 (fun H locs hP hD hS => ?_)
  have hP : va_P D vwCl [(a, .inr (9, (((fs.set 56 (.int 0)).set 55 (.int 0)).set 68 (.int 0))))] H := hP
  have hD : va_D A [(a, .inr (9, (((fs.set 56 (.int 0)).set 55 (.int 0)).set 68 (.int 0))))] := hD
  refine lv_aload_n hx hb d_M_question_15 rfl (lv_at hl 0 rfl) ?_
  refine lv_iconst (v := 0) hx hb d_M_question_16 (by decide) ?_
  refine pF hx hb hown hE hK hP hD hS 0 rfl rfl layM tyM tokM nmM 69 (by decide) w478 rfl rfl rfl (by simp [hl_fs]) d_M_question_17 (fun H locs hP hD hS => ?_)
  have hP : va_P D vwCl [(a, .inr (9, ((((fs.set 56 (.int 0)).set 55 (.int 0)).set 68 (.int 0)).set 69 (.int 0))))] H := hP
  have hD : va_D A [(a, .inr (9, ((((fs.set 56 (.int 0)).set 55 (.int 0)).set 68 (.int 0)).set 69 (.int 0))))] := hD
  refine lv_aload_n hx hb d_M_question_20 rfl (lv_at hl 0 rfl) ?_
  refine lv_iconst (v := 0) hx hb d_M_question_21 (by decide) ?_
  refine pF hx hb hown hE hK hP hD hS 0 rfl rfl layM tyM tokM nmM 46 (by decide) w463 rfl rfl rfl (by simp [hl_fs]) d_M_question_22 (fun H locs hP hD hS => ?_)
  have hP : va_P D vwCl [(a, .inr (9, (((((fs.set 56 (.int 0)).set 55 (.int 0)).set 68 (.int 0)).set 69 (.int 0)).set 46 (.int 0))))] H := hP
  have hD : va_D A [(a, .inr (9, (((((fs.set 56 (.int 0)).set 55 (.int 0)).set 68 (.int 0)).set 69 (.int 0)).set 46 (.int 0))))] := hD
  refine lv_aload_n hx hb d_M_question_25 rfl (lv_at hl 0 rfl) ?_
  refine lv_iconst (v := 1) hx hb d_M_question_26 (by decide) ?_
  refine pF hx hb hown hE hK hP hD hS 0 rfl rfl layM tyM tokM nmM 70 (by decide) w470 rfl rfl rfl (by simp [hl_fs]) d_M_question_27 (fun H locs hP hD hS => ?_)
  have hP : va_P D vwCl [(a, .inr (9, ((((((fs.set 56 (.int 0)).set 55 (.int 0)).set 68 (.int 0)).set 69 (.int 0)).set 46 (.int 0)).set 70 (.int 1))))] H := hP
  have hD : va_D A [(a, .inr (9, ((((((fs.set 56 (.int 0)).set 55 (.int 0)).set 68 (.int 0)).set 69 (.int 0)).set 46 (.int 0)).set 70 (.int 1))))] := hD
  refine lv_aload_n hx hb d_M_question_30 rfl (lv_at hl 0 rfl) ?_
  have hPc := hP.sub (ws' := [(a, .inr (9, ((((((fs.set 56 (.int 0)).set 55 (.int 0)).set 68 (.int 0)).set 69 (.int 0)).set 46 (.int 0)).set 70 (.int 1))))]) [0] rfl
  have hDc := hD.sub (ws' := [(a, .inr (9, ((((((fs.set 56 (.int 0)).set 55 (.int 0)).set 68 (.int 0)).set 69 (.int 0)).set 46 (.int 0)).set 70 (.int 1))))]) [0] (by decide) rfl
  refine jnI (rnV (As := []) (rest := []) hx hb hml hown hE hK (hN _ _ hS) hPc hDc (c_M_next_0 l D dA H.size a ((((((fs.set 56 (.int 0)).set 55 (.int 0)).set 68 (.int 0)).set 69 (.int 0)).set 46 (.int 0)).set 70 (.int 1)) (by simp [h_fs_length]) (by simp [hl_fs]) (by simp [hl_fs])) (q0 := 0) rfl rfl w480 w479 w481 w482 w328 rfl rfl ⟨⟨by decide, by decide⟩, rfl⟩ ⟨(Nat.le_of_ble_eq_true rfl), (Nat.le_of_ble_eq_true rfl)⟩ rfl hl.1 rfl (Nat.le_of_ble_eq_true rfl) d_M_question_31 ⟨(Nat.le_of_ble_eq_true rfl), (Nat.le_of_ble_eq_true rfl)⟩) hP hD hS hA [0] [] (wr := []) rfl rfl (by decide) (by decide) (fun r1 u9 H locs hp9 hP hD hS => ?_)
  have hP : va_P D vwCl [(a, .inr (9, ((((((((fs.set 56 (.int 0)).set 55 (.int 0)).set 68 (.int 0)).set 69 (.int 0)).set 46 (.int 0)).set 70 (.int 1)).set 45 (.int 0)).set 44 (.int 0))))] H := hP
  have hD : va_D A [(a, .inr (9, ((((((((fs.set 56 (.int 0)).set 55 (.int 0)).set 68 (.int 0)).set 69 (.int 0)).set 46 (.int 0)).set 70 (.int 1)).set 45 (.int 0)).set 44 (.int 0))))] := hD
  have hp9 : 1 = r1 := Eq.symm hp9
  subst hp9
  refine lv_istore_n hx hb d_M_question_34 rfl hl (by decide) rfl (fun ls hl => ?_)
  have hl : lv_has ls 3 [(2, .int 1), (0, .ref a), (1, .int 0)] := hl
  refine lv_iload_n hx hb d_M_question_35 rfl (lv_at hl 0 rfl) ?_
  refine lv_if_eq hx hb d_M_question_36 (tgt := 75) rfl (fun h9 => absurd h9 (by decide)) (fun _ => ?_)
  refine lv_aload_n hx hb d_M_question_39 rfl (lv_at hl 1 rfl) ?_
  refine gF (v := .int 0) hx hb hown hE hK hP 0 rfl rfl layM 44 (by decide) w469 (by simp [hl_fs]) d_M_question_40 ?_
  refine lv_if_ne hx hb d_M_question_43 (tgt := 53) rfl (fun h9 => absurd (by decide) h9) (fun _ => ?_)
  refine lv_aload_n hx hb d_M_question_46 rfl (lv_at hl 1 rfl) ?_
  refine gF (v := .int 1) hx hb hown hE hK hP 0 rfl rfl layM 70 (by decide) w470 (by simp [hl_fs]) d_M_question_47 ?_
  refine lv_if_eq hx hb d_M_question_50 (tgt := 75) rfl (fun h9 => absurd h9 (by decide)) (fun _ => ?_)
  refine lv_aload_n hx hb d_M_question_53 rfl (lv_at hl 1 rfl) ?_
  refine gF (v := .int 1) hx hb hown hE hK hP 0 rfl rfl layM 70 (by decide) w470 (by simp [hl_fs]) d_M_question_54 ?_
  refine lv_if_eq hx hb d_M_question_57 (tgt := 67) rfl (fun h9 => absurd h9 (by decide)) (fun _ => ?_)
  refine lv_aload_n hx hb d_M_question_60 rfl (lv_at hl 1 rfl) ?_
  have hPc := hP.sub (ws' := [(a, .inr (9, ((((((((fs.set 56 (.int 0)).set 55 (.int 0)).set 68 (.int 0)).set 69 (.int 0)).set 46 (.int 0)).set 70 (.int 1)).set 45 (.int 0)).set 44 (.int 0))))]) [0] rfl
  have hDc := hD.sub (ws' := [(a, .inr (9, ((((((((fs.set 56 (.int 0)).set 55 (.int 0)).set 68 (.int 0)).set 69 (.int 0)).set 46 (.int 0)).set 70 (.int 1)).set 45 (.int 0)).set 44 (.int 0))))]) [0] (by decide) rfl
  refine jnI (rnV (As := []) (rest := []) hx hb hml hown hE hK (hN _ _ hS) hPc hDc (c_M_operand_0 l D dA H.size a ((((((((fs.set 56 (.int 0)).set 55 (.int 0)).set 68 (.int 0)).set 69 (.int 0)).set 46 (.int 0)).set 70 (.int 1)).set 45 (.int 0)).set 44 (.int 0)) (by simp [h_fs_length]) (by simp [h_fs_faultCode]) (by simp [hl_fs]) (by simp [hl_fs]) (by simp [hl_fs]) (by simp [hl_fs])) (q0 := 0) rfl rfl w484 w483 w485 w486 w328 rfl rfl ⟨⟨by decide, by decide⟩, rfl⟩ ⟨(Nat.le_of_ble_eq_true rfl), (Nat.le_of_ble_eq_true rfl)⟩ rfl hl.1 rfl (Nat.le_of_ble_eq_true rfl) d_M_question_61 ⟨(Nat.le_of_ble_eq_true rfl), (Nat.le_of_ble_eq_true rfl)⟩) hP hD hS hA [0] [] (wr := []) rfl rfl (by decide) (by decide) (fun r2 u9 H locs hp9 hP hD hS => ?_)
  have hP : va_P D vwCl [(a, .inr (9, (((((((((((fs.set 56 (.int 0)).set 55 (.int 0)).set 68 (.int 0)).set 69 (.int 0)).set 46 (.int 0)).set 70 (.int 1)).set 45 (.int 0)).set 44 (.int 0)).set 70 (.int 0)).set 3 (.int 2)).set 4 (.int 0))))] H := hP
  have hD : va_D A [(a, .inr (9, (((((((((((fs.set 56 (.int 0)).set 55 (.int 0)).set 68 (.int 0)).set 69 (.int 0)).set 46 (.int 0)).set 70 (.int 1)).set 45 (.int 0)).set 44 (.int 0)).set 70 (.int 0)).set 3 (.int 2)).set 4 (.int 0))))] := hD
  have hp9 : 0 = r2 := Eq.symm hp9
  subst hp9
  refine lv_goto hx hb d_M_question_64 (tgt := 71) rfl ?_
  refine lv_istore_n hx hb d_M_question_71 rfl hl (by decide) rfl (fun ls hl => ?_)
  have hl : lv_has ls 3 [(2, .int 0), (0, .ref a), (1, .int 0)] := hl
  refine lv_goto hx hb d_M_question_72 (tgt := 35) rfl ?_
  refine lv_iload_n hx hb d_M_question_35 rfl (lv_at hl 0 rfl) ?_
  refine lv_if_eq hx hb d_M_question_36 (tgt := 75) rfl (fun _ => ?_) (fun h9 => absurd (by decide) h9)
  refine lv_iload_n hx hb d_M_question_75 rfl (lv_at hl 0 rfl) ?_
  refine lv_if_eq hx hb d_M_question_76 (tgt := 96) rfl (fun _ => ?_) (fun h9 => absurd (by decide) h9)
  refine lv_iload_n hx hb d_M_question_96 rfl (lv_at hl 0 rfl) ?_
  refine lv_if_eq hx hb d_M_question_97 (tgt := 112) rfl (fun _ => ?_) (fun h9 => absurd (by decide) h9)
  refine lv_iconst (v := 0) hx hb d_M_question_112 (by decide) ?_
  exact rtZ hx hb hr (by decide) hlk hP hD hS () rfl [0] rfl rfl (by decide) (Nat.le_of_ble_eq_true rfl) (Nat.le_of_ble_eq_true rfl) d_M_question_113
theorem d_M_ask_0 : decode prog_14_method_91_code 0 = .ok (.aload_n 0, 1) := by decide +kernel
theorem d_M_ask_1 : decode prog_14_method_91_code 1 = .ok (.aload_n 0, 1) := by decide +kernel
theorem d_M_ask_2 : decode prog_14_method_91_code 2 = .ok (.getfield 21, 3) := by decide +kernel
theorem d_M_ask_5 : decode prog_14_method_91_code 5 = .ok (.ifCond .ne 7, 3) := by decide +kernel
theorem d_M_ask_12 : decode prog_14_method_91_code 12 = .ok (.lload_n 1, 1) := by decide +kernel
theorem d_M_ask_13 : decode prog_14_method_91_code 13 = .ok (.lconst 0, 1) := by decide +kernel
theorem d_M_ask_14 : decode prog_14_method_91_code 14 = .ok (.lcmp, 1) := by decide +kernel
theorem d_M_ask_15 : decode prog_14_method_91_code 15 = .ok (.ifCond .lt 38, 3) := by decide +kernel
theorem d_M_ask_18 : decode prog_14_method_91_code 18 = .ok (.lload_n 1, 1) := by decide +kernel
theorem d_M_ask_19 : decode prog_14_method_91_code 19 = .ok (.ldc2_w 261, 3) := by decide +kernel
theorem d_M_ask_22 : decode prog_14_method_91_code 22 = .ok (.lcmp, 1) := by decide +kernel
theorem d_M_ask_23 : decode prog_14_method_91_code 23 = .ok (.ifCond .gt 30, 3) := by decide +kernel
theorem d_M_ask_26 : decode prog_14_method_91_code 26 = .ok (.lload_n 3, 1) := by decide +kernel
theorem d_M_ask_27 : decode prog_14_method_91_code 27 = .ok (.lconst 1, 1) := by decide +kernel
theorem d_M_ask_28 : decode prog_14_method_91_code 28 = .ok (.lcmp, 1) := by decide +kernel
theorem d_M_ask_29 : decode prog_14_method_91_code 29 = .ok (.ifCond .lt 24, 3) := by decide +kernel
theorem d_M_ask_32 : decode prog_14_method_91_code 32 = .ok (.lload_n 3, 1) := by decide +kernel
theorem d_M_ask_33 : decode prog_14_method_91_code 33 = .ok (.ldc2_w 261, 3) := by decide +kernel
theorem d_M_ask_36 : decode prog_14_method_91_code 36 = .ok (.lcmp, 1) := by decide +kernel
theorem d_M_ask_37 : decode prog_14_method_91_code 37 = .ok (.ifCond .gt 16, 3) := by decide +kernel
theorem d_M_ask_40 : decode prog_14_method_91_code 40 = .ok (.iload 5, 2) := by decide +kernel
theorem d_M_ask_42 : decode prog_14_method_91_code 42 = .ok (.iconst 1, 1) := by decide +kernel
theorem d_M_ask_43 : decode prog_14_method_91_code 43 = .ok (.if_icmp .lt 10, 3) := by decide +kernel
theorem d_M_ask_46 : decode prog_14_method_91_code 46 = .ok (.iload 5, 2) := by decide +kernel
theorem d_M_ask_48 : decode prog_14_method_91_code 48 = .ok (.bipush 64, 2) := by decide +kernel
theorem d_M_ask_50 : decode prog_14_method_91_code 50 = .ok (.if_icmp .le 7, 3) := by decide +kernel
theorem d_M_ask_57 : decode prog_14_method_91_code 57 = .ok (.iconst 0, 1) := by decide +kernel
theorem d_M_ask_58 : decode prog_14_method_91_code 58 = .ok (.putfield 145, 3) := by decide +kernel
theorem d_M_ask_61 : decode prog_14_method_91_code 61 = .ok (.aload_n 0, 1) := by decide +kernel
theorem d_M_ask_62 : decode prog_14_method_91_code 62 = .ok (.getfield 145, 3) := by decide +kernel
theorem d_M_ask_65 : decode prog_14_method_91_code 65 = .ok (.ifCond .le 5, 3) := by decide +kernel
theorem d_M_ask_70 : decode prog_14_method_91_code 70 = .ok (.aload_n 0, 1) := by decide +kernel
theorem d_M_ask_71 : decode prog_14_method_91_code 71 = .ok (.iconst 0, 1) := by decide +kernel
theorem d_M_ask_72 : decode prog_14_method_91_code 72 = .ok (.putfield 151, 3) := by decide +kernel
theorem d_M_ask_75 : decode prog_14_method_91_code 75 = .ok (.aload_n 0, 1) := by decide +kernel
theorem d_M_ask_76 : decode prog_14_method_91_code 76 = .ok (.iconst 0, 1) := by decide +kernel
theorem d_M_ask_77 : decode prog_14_method_91_code 77 = .ok (.putfield 154, 3) := by decide +kernel
theorem d_M_ask_80 : decode prog_14_method_91_code 80 = .ok (.aload_n 0, 1) := by decide +kernel
theorem d_M_ask_81 : decode prog_14_method_91_code 81 = .ok (.lload_n 1, 1) := by decide +kernel
theorem d_M_ask_82 : decode prog_14_method_91_code 82 = .ok (.putfield 406, 3) := by decide +kernel
theorem d_M_ask_85 : decode prog_14_method_91_code 85 = .ok (.aload_n 0, 1) := by decide +kernel
theorem d_M_ask_86 : decode prog_14_method_91_code 86 = .ok (.lload_n 3, 1) := by decide +kernel
theorem d_M_ask_87 : decode prog_14_method_91_code 87 = .ok (.putfield 409, 3) := by decide +kernel
theorem d_M_ask_90 : decode prog_14_method_91_code 90 = .ok (.aload_n 0, 1) := by decide +kernel
theorem d_M_ask_91 : decode prog_14_method_91_code 91 = .ok (.iload 5, 2) := by decide +kernel
theorem d_M_ask_93 : decode prog_14_method_91_code 93 = .ok (.putfield 412, 3) := by decide +kernel
theorem d_M_ask_96 : decode prog_14_method_91_code 96 = .ok (.aload_n 0, 1) := by decide +kernel
theorem d_M_ask_97 : decode prog_14_method_91_code 97 = .ok (.iconst 0, 1) := by decide +kernel
theorem d_M_ask_98 : decode prog_14_method_91_code 98 = .ok (.putfield 197, 3) := by decide +kernel
theorem d_M_ask_101 : decode prog_14_method_91_code 101 = .ok (.aload_n 0, 1) := by decide +kernel
theorem d_M_ask_102 : decode prog_14_method_91_code 102 = .ok (.iconst 0, 1) := by decide +kernel
theorem d_M_ask_103 : decode prog_14_method_91_code 103 = .ok (.invokevirtual 504, 3) := by decide +kernel
theorem d_M_ask_106 : decode prog_14_method_91_code 106 = .ok (.ifCond .eq 15, 3) := by decide +kernel
theorem d_M_ask_121 : decode prog_14_method_91_code 121 = .ok (.iconst 0, 1) := by decide +kernel
theorem d_M_ask_122 : decode prog_14_method_91_code 122 = .ok (.istore 6, 2) := by decide +kernel
theorem d_M_ask_124 : decode prog_14_method_91_code 124 = .ok (.iload 6, 2) := by decide +kernel
theorem d_M_ask_126 : decode prog_14_method_91_code 126 = .ok (.ifCond .eq 7, 3) := by decide +kernel
theorem d_M_ask_133 : decode prog_14_method_91_code 133 = .ok (.aload_n 0, 1) := by decide +kernel
theorem d_M_ask_134 : decode prog_14_method_91_code 134 = .ok (.iconst 0, 1) := by decide +kernel
theorem d_M_ask_135 : decode prog_14_method_91_code 135 = .ok (.putfield 148, 3) := by decide +kernel
theorem d_M_ask_138 : decode prog_14_method_91_code 138 = .ok (.iload 6, 2) := by decide +kernel
theorem d_M_ask_140 : decode prog_14_method_91_code 140 = .ok (.ifCond .eq 10, 3) := by decide +kernel
theorem d_M_ask_150 : decode prog_14_method_91_code 150 = .ok (.iconst (-1), 1) := by decide +kernel
theorem d_M_ask_151 : decode prog_14_method_91_code 151 = .ok (.ireturn, 1) := by decide +kernel
theorem w487 : Cond.fieldLink "SeriesVaultModel" 406 "SeriesVaultModel" "windowsFrom" "J" ∈ aW := aw_of (tb_8 (List.mem_of_getElem? (i := 231) rfl)) rfl
theorem w488 : Cond.fieldLink "SeriesVaultModel" 409 "SeriesVaultModel" "width" "J" ∈ aW := aw_of (tb_8 (List.mem_of_getElem? (i := 232) rfl)) rfl
theorem w489 : Cond.fieldLink "SeriesVaultModel" 412 "SeriesVaultModel" "windows" "I" ∈ aW := aw_of (tb_8 (List.mem_of_getElem? (i := 233) rfl)) rfl
theorem w490 : Cond.methodLink "SeriesVaultModel" 504 ⟨"SeriesVaultModel", "question", "(Z)Z"⟩ ∈ aW := aw_of (tb_10 (List.mem_of_getElem? (i := 153) rfl)) rfl
theorem w491 : Cond.code ⟨"SeriesVaultModel", "question", "(Z)Z"⟩ prog_14_method_89_code 3 (some FieldType.boolean) ∈ aW := aw_of (tb_10 (List.mem_of_getElem? (i := 156) rfl)) rfl
theorem w492 : Cond.instanceMethod ⟨"SeriesVaultModel", "question", "(Z)Z"⟩ ∈ aW := aw_of (tb_10 (List.mem_of_getElem? (i := 155) rfl)) rfl
theorem w493 : Cond.selects "SeriesVaultModel" ⟨"SeriesVaultModel", "question", "(Z)Z"⟩ ⟨"SeriesVaultModel", "question", "(Z)Z"⟩ ∈ aW := aw_pr (List.mem_map.mpr ⟨_, pv_6 (List.mem_of_getElem? (i := 14) rfl), rfl⟩) rfl
set_option maxHeartbeats 4000000 in
set_option maxRecDepth 100000 in
theorem c_M_ask (l : Launch) (D : va_G) (dA : Nat → ClassId) (sz : Nat) (a : Nat) (fs : List Value) (t : Int64) (w : Int64) (n : Int32) (h1 : ¬ t < 0) (h2 : t ≤ 1099511627775) (h3 : ¬ w < 1) (h4 : w ≤ 1099511627775) (h5 : ¬ n < 1) (h6 : n ≤ 64) (h_fs_length : fs[2]? = some (.int 0)) (h_fs_on : fs[7]? = some (.int 1)) (hl_fs : fs.length = 79) : Met l ⟨"SeriesVaultModel", "ask", "(JJI)I"⟩ [Cond.code ⟨"SeriesVaultModel", "ask", "(JJI)I"⟩ prog_14_method_91_code 7 (some FieldType.int)] { frames := 5, cells := 0, slots := 0, locals := 88 } (pC D dA [.ref a, .long t, .long w, .int n] [(a, .inr (9, fs))] sz) (va_Qi (fun (r : Int32) (_ : Unit) => r = (-1)) (fun (u9 : Unit) t9 => bW D (va_A [(a, .inr (9, fs))] sz) [(a, .inr (9, (((((((((((((((((((fs.set 0 (.int 0)).set 3 (.int 0)).set 4 (.int 0)).set 57 (.long t)).set 58 (.long w)).set 59 (.int n)).set 71 (.int 0)).set 56 (.int 0)).set 55 (.int 0)).set 68 (.int 0)).set 69 (.int 0)).set 46 (.int 0)).set 70 (.int 1)).set 45 (.int 0)).set 44 (.int 0)).set 70 (.int 0)).set 3 (.int 2)).set 4 (.int 0)).set 2 (.int 0))))] t9) (va_A [(a, .inr (9, fs))] sz)) 0 0 (va_A [(a, .inr (9, fs))] sz) := by
  refine mkC (Qc := fun A => va_Qi (fun (r : Int32) (_ : Unit) => r = (-1)) (fun (u9 : Unit) t9 => bW D A [(a, .inr (9, (((((((((((((((((((fs.set 0 (.int 0)).set 3 (.int 0)).set 4 (.int 0)).set 57 (.long t)).set 58 (.long w)).set 59 (.int n)).set 71 (.int 0)).set 56 (.int 0)).set 55 (.int 0)).set 68 (.int 0)).set 69 (.int 0)).set 46 (.int 0)).set 70 (.int 1)).set 45 (.int 0)).set 44 (.int 0)).set 70 (.int 0)).set 3 (.int 2)).set 4 (.int 0)).set 2 (.int 0))))] t9) A) (by decide) (Nat.le_of_ble_eq_true rfl) ?_
  intro A p e s m below meth c ls hsz hB
  obtain ⟨hx, hb, hr, hml, hown, hin, hlk, hE, hK, hP, hD, hS, hA, hN, hl⟩ := hB
  have hown : s.vm.findClass "SeriesVaultModel" = some m.cls := hown
  have hin : meth.name = "ask" := hin
  have hl : lv_has ls 7 [(0, .ref a), (1, .long t), (3, .long w), (5, .int n)] := hl
  obtain ⟨H, hH⟩ : ∃ z, z = s.heap := ⟨_, rfl⟩
  have hP : va_P D vwCl [(a, .inr (9, fs))] H := by rw [hH]; exact hP
  have hS : va_S A s.heap H [] := by rw [hH]; exact hS
  rw [← hH]
  refine lv_aload_n hx hb d_M_ask_0 rfl (lv_at hl 0 rfl) ?_
  refine lv_aload_n hx hb d_M_ask_1 rfl (lv_at hl 0 rfl) ?_
  refine gF (v := .int 1) hx hb hown hE hK hP 0 rfl rfl layM 7 (by decide) w324 h_fs_on d_M_ask_2 ?_
  refine lv_if_ne hx hb d_M_ask_5 (tgt := 12) rfl (fun _ => ?_) (fun h9 => absurd h9 (by decide))
  refine lv_lload_n hx hb d_M_ask_12 rfl (lv_at hl 1 rfl) ?_
  refine lv_lconst (v := 0) hx hb d_M_ask_13 (by decide) ?_
  refine W.lcmp hx hb d_M_ask_14 ?_
  refine lv_if_lt hx hb d_M_ask_15 (tgt := 53) rfl (fun h9 => absurd h9 (mt (lg_cmp_lt _ _).mp (h1))) (fun _ => ?_)
  refine lv_lload_n hx hb d_M_ask_18 rfl (lv_at hl 1 rfl) ?_
  refine lv_ldc2 (v := 1099511627775) hx hb hown (hE.t w450 rfl) d_M_ask_19 ?_
  refine W.lcmp hx hb d_M_ask_22 ?_
  refine lv_if_gt hx hb d_M_ask_23 (tgt := 53) rfl (fun h9 => absurd h9 (mt (lg_cmp_gt _ _).mp (Int64.not_lt.mpr (h2)))) (fun _ => ?_)
  refine lv_lload_n hx hb d_M_ask_26 rfl (lv_at hl 2 rfl) ?_
  refine lv_lconst (v := 1) hx hb d_M_ask_27 (by decide) ?_
  refine W.lcmp hx hb d_M_ask_28 ?_
  refine lv_if_lt hx hb d_M_ask_29 (tgt := 53) rfl (fun h9 => absurd h9 (mt (lg_cmp_lt _ _).mp (h3))) (fun _ => ?_)
  refine lv_lload_n hx hb d_M_ask_32 rfl (lv_at hl 2 rfl) ?_
  refine lv_ldc2 (v := 1099511627775) hx hb hown (hE.t w450 rfl) d_M_ask_33 ?_
  refine W.lcmp hx hb d_M_ask_36 ?_
  refine lv_if_gt hx hb d_M_ask_37 (tgt := 53) rfl (fun h9 => absurd h9 (mt (lg_cmp_gt _ _).mp (Int64.not_lt.mpr (h4)))) (fun _ => ?_)
  refine lv_iload hx hb d_M_ask_40 (lv_at hl 3 rfl) ?_
  refine lv_iconst (v := 1) hx hb d_M_ask_42 (by decide) ?_
  refine lv_icmp_lt hx hb d_M_ask_43 (tgt := 53) rfl (fun h9 => absurd h9 h5) (fun _ => ?_)
  refine lv_iload hx hb d_M_ask_46 (lv_at hl 3 rfl) ?_
  refine lv_bipush (v := 64) hx hb d_M_ask_48 (by decide) ?_
  refine lv_icmp_le hx hb d_M_ask_50 (tgt := 57) rfl (fun _ => ?_) (fun h9 => absurd h6 h9)
  refine lv_iconst (v := 0) hx hb d_M_ask_57 (by decide) ?_
  refine pF hx hb hown hE hK hP hD hS 0 rfl rfl layM tyM tokM nmM 0 (by decide) w319 rfl rfl rfl (by simp [hl_fs]) d_M_ask_58 (fun H locs hP hD hS => ?_)
  have hP : va_P D vwCl [(a, .inr (9, (fs.set 0 (.int 0))))] H := hP
  have hD : va_D A [(a, .inr (9, (fs.set 0 (.int 0))))] := hD
  refine lv_aload_n hx hb d_M_ask_61 rfl (lv_at hl 0 rfl) ?_
  refine gF (v := .int 0) hx hb hown hE hK hP 0 rfl rfl layM 0 (by decide) w319 (by simp [hl_fs]) d_M_ask_62 ?_
  refine lv_if_le hx hb d_M_ask_65 (tgt := 70) rfl (fun _ => ?_) (fun h9 => absurd (by decide) h9)
  refine lv_aload_n hx hb d_M_ask_70 rfl (lv_at hl 0 rfl) ?_
  refine lv_iconst (v := 0) hx hb d_M_ask_71 (by decide) ?_
  refine pF hx hb hown hE hK hP hD hS 0 rfl rfl layM tyM tokM nmM 3 (by decide) w321 rfl rfl rfl (by simp [hl_fs]) d_M_ask_72 (fun H locs hP hD hS => ?_)
  have hP : va_P D vwCl [(a, .inr (9, ((fs.set 0 (.int 0)).set 3 (.int 0))))] H := hP
  have hD : va_D A [(a, .inr (9, ((fs.set 0 (.int 0)).set 3 (.int 0))))] := hD
  refine lv_aload_n hx hb d_M_ask_75 rfl (lv_at hl 0 rfl) ?_
  refine lv_iconst (v := 0) hx hb d_M_ask_76 (by decide) ?_
  refine pF hx hb hown hE hK hP hD hS 0 rfl rfl layM tyM tokM nmM 4 (by decide) w322 rfl rfl rfl (by simp [hl_fs]) d_M_ask_77 (fun H locs hP hD hS => ?_)
  have hP : va_P D vwCl [(a, .inr (9, (((fs.set 0 (.int 0)).set 3 (.int 0)).set 4 (.int 0))))] H := hP
  have hD : va_D A [(a, .inr (9, (((fs.set 0 (.int 0)).set 3 (.int 0)).set 4 (.int 0))))] := hD
  refine lv_aload_n hx hb d_M_ask_80 rfl (lv_at hl 0 rfl) ?_
  refine lv_lload_n hx hb d_M_ask_81 rfl (lv_at hl 1 rfl) ?_
  refine pF hx hb hown hE hK hP hD hS 0 rfl rfl layM tyM tokM nmM 57 (by decide) w487 rfl rfl rfl (by simp [hl_fs]) d_M_ask_82 (fun H locs hP hD hS => ?_)
  have hP : va_P D vwCl [(a, .inr (9, ((((fs.set 0 (.int 0)).set 3 (.int 0)).set 4 (.int 0)).set 57 (.long t))))] H := hP
  have hD : va_D A [(a, .inr (9, ((((fs.set 0 (.int 0)).set 3 (.int 0)).set 4 (.int 0)).set 57 (.long t))))] := hD
  refine lv_aload_n hx hb d_M_ask_85 rfl (lv_at hl 0 rfl) ?_
  refine lv_lload_n hx hb d_M_ask_86 rfl (lv_at hl 2 rfl) ?_
  refine pF hx hb hown hE hK hP hD hS 0 rfl rfl layM tyM tokM nmM 58 (by decide) w488 rfl rfl rfl (by simp [hl_fs]) d_M_ask_87 (fun H locs hP hD hS => ?_)
  have hP : va_P D vwCl [(a, .inr (9, (((((fs.set 0 (.int 0)).set 3 (.int 0)).set 4 (.int 0)).set 57 (.long t)).set 58 (.long w))))] H := hP
  have hD : va_D A [(a, .inr (9, (((((fs.set 0 (.int 0)).set 3 (.int 0)).set 4 (.int 0)).set 57 (.long t)).set 58 (.long w))))] := hD
  refine lv_aload_n hx hb d_M_ask_90 rfl (lv_at hl 0 rfl) ?_
  refine lv_iload hx hb d_M_ask_91 (lv_at hl 3 rfl) ?_
  refine pF hx hb hown hE hK hP hD hS 0 rfl rfl layM tyM tokM nmM 59 (by decide) w489 rfl rfl rfl (by simp [hl_fs]) d_M_ask_93 (fun H locs hP hD hS => ?_)
  have hP : va_P D vwCl [(a, .inr (9, ((((((fs.set 0 (.int 0)).set 3 (.int 0)).set 4 (.int 0)).set 57 (.long t)).set 58 (.long w)).set 59 (.int n))))] H := hP
  have hD : va_D A [(a, .inr (9, ((((((fs.set 0 (.int 0)).set 3 (.int 0)).set 4 (.int 0)).set 57 (.long t)).set 58 (.long w)).set 59 (.int n))))] := hD
  refine lv_aload_n hx hb d_M_ask_96 rfl (lv_at hl 0 rfl) ?_
  refine lv_iconst (v := 0) hx hb d_M_ask_97 (by decide) ?_
  refine pF hx hb hown hE hK hP hD hS 0 rfl rfl layM tyM tokM nmM 71 (by decide) w326 rfl rfl rfl (by simp [hl_fs]) d_M_ask_98 (fun H locs hP hD hS => ?_)
  have hP : va_P D vwCl [(a, .inr (9, (((((((fs.set 0 (.int 0)).set 3 (.int 0)).set 4 (.int 0)).set 57 (.long t)).set 58 (.long w)).set 59 (.int n)).set 71 (.int 0))))] H := hP
  have hD : va_D A [(a, .inr (9, (((((((fs.set 0 (.int 0)).set 3 (.int 0)).set 4 (.int 0)).set 57 (.long t)).set 58 (.long w)).set 59 (.int n)).set 71 (.int 0))))] := hD
  refine lv_aload_n hx hb d_M_ask_101 rfl (lv_at hl 0 rfl) ?_
  refine lv_iconst (v := 0) hx hb d_M_ask_102 (by decide) ?_
  have hPc := hP.sub (ws' := [(a, .inr (9, (((((((fs.set 0 (.int 0)).set 3 (.int 0)).set 4 (.int 0)).set 57 (.long t)).set 58 (.long w)).set 59 (.int n)).set 71 (.int 0))))]) [0] rfl
  have hDc := hD.sub (ws' := [(a, .inr (9, (((((((fs.set 0 (.int 0)).set 3 (.int 0)).set 4 (.int 0)).set 57 (.long t)).set 58 (.long w)).set 59 (.int n)).set 71 (.int 0))))]) [0] (by decide) rfl
  refine jnI (rnV (As := [.int 0]) (rest := []) hx hb hml hown hE hK (hN _ _ hS) hPc hDc (c_M_question_0 l D dA H.size a (((((((fs.set 0 (.int 0)).set 3 (.int 0)).set 4 (.int 0)).set 57 (.long t)).set 58 (.long w)).set 59 (.int n)).set 71 (.int 0)) (by simp [h_fs_length]) (by simp [hl_fs]) (by simp [hl_fs])) (q0 := 0) rfl rfl w491 w490 w492 w493 w328 rfl rfl ⟨⟨by decide, by decide⟩, rfl⟩ ⟨(Nat.le_of_ble_eq_true rfl), (Nat.le_of_ble_eq_true rfl)⟩ rfl hl.1 rfl (Nat.le_of_ble_eq_true rfl) d_M_ask_103 ⟨(Nat.le_of_ble_eq_true rfl), (Nat.le_of_ble_eq_true rfl)⟩) hP hD hS hA [0] [] (wr := []) rfl rfl (by decide) (by decide) (fun r1 u9 H locs hp9 hP hD hS => ?_)
  have hP : va_P D vwCl [(a, .inr (9, ((((((((((((((((((fs.set 0 (.int 0)).set 3 (.int 0)).set 4 (.int 0)).set 57 (.long t)).set 58 (.long w)).set 59 (.int n)).set 71 (.int 0)).set 56 (.int 0)).set 55 (.int 0)).set 68 (.int 0)).set 69 (.int 0)).set 46 (.int 0)).set 70 (.int 1)).set 45 (.int 0)).set 44 (.int 0)).set 70 (.int 0)).set 3 (.int 2)).set 4 (.int 0))))] H := hP
  have hD : va_D A [(a, .inr (9, ((((((((((((((((((fs.set 0 (.int 0)).set 3 (.int 0)).set 4 (.int 0)).set 57 (.long t)).set 58 (.long w)).set 59 (.int n)).set 71 (.int 0)).set 56 (.int 0)).set 55 (.int 0)).set 68 (.int 0)).set 69 (.int 0)).set 46 (.int 0)).set 70 (.int 1)).set 45 (.int 0)).set 44 (.int 0)).set 70 (.int 0)).set 3 (.int 2)).set 4 (.int 0))))] := hD
  have hp9 : 0 = r1 := Eq.symm hp9
  subst hp9
  refine lv_if_eq hx hb d_M_ask_106 (tgt := 121) rfl (fun _ => ?_) (fun h9 => absurd (by decide) h9)
  refine lv_iconst (v := 0) hx hb d_M_ask_121 (by decide) ?_
  refine lv_istore hx hb d_M_ask_122 hl (by decide) rfl (fun ls hl => ?_)
  have hl : lv_has ls 7 [(6, .int 0), (0, .ref a), (1, .long t), (3, .long w), (5, .int n)] := hl
  refine lv_iload hx hb d_M_ask_124 (lv_at hl 0 rfl) ?_
  refine lv_if_eq hx hb d_M_ask_126 (tgt := 133) rfl (fun _ => ?_) (fun h9 => absurd (by decide) h9)
  refine lv_aload_n hx hb d_M_ask_133 rfl (lv_at hl 1 rfl) ?_
  refine lv_iconst (v := 0) hx hb d_M_ask_134 (by decide) ?_
  refine pF hx hb hown hE hK hP hD hS 0 rfl rfl layM tyM tokM nmM 2 (by decide) w320 rfl rfl rfl (by simp [hl_fs]) d_M_ask_135 (fun H locs hP hD hS => ?_)
  have hP : va_P D vwCl [(a, .inr (9, (((((((((((((((((((fs.set 0 (.int 0)).set 3 (.int 0)).set 4 (.int 0)).set 57 (.long t)).set 58 (.long w)).set 59 (.int n)).set 71 (.int 0)).set 56 (.int 0)).set 55 (.int 0)).set 68 (.int 0)).set 69 (.int 0)).set 46 (.int 0)).set 70 (.int 1)).set 45 (.int 0)).set 44 (.int 0)).set 70 (.int 0)).set 3 (.int 2)).set 4 (.int 0)).set 2 (.int 0))))] H := hP
  have hD : va_D A [(a, .inr (9, (((((((((((((((((((fs.set 0 (.int 0)).set 3 (.int 0)).set 4 (.int 0)).set 57 (.long t)).set 58 (.long w)).set 59 (.int n)).set 71 (.int 0)).set 56 (.int 0)).set 55 (.int 0)).set 68 (.int 0)).set 69 (.int 0)).set 46 (.int 0)).set 70 (.int 1)).set 45 (.int 0)).set 44 (.int 0)).set 70 (.int 0)).set 3 (.int 2)).set 4 (.int 0)).set 2 (.int 0))))] := hD
  refine lv_iload hx hb d_M_ask_138 (lv_at hl 0 rfl) ?_
  refine lv_if_eq hx hb d_M_ask_140 (tgt := 150) rfl (fun _ => ?_) (fun h9 => absurd (by decide) h9)
  refine lv_iconst (v := (-1)) hx hb d_M_ask_150 (by decide) ?_
  exact rtI hx hb hr hlk hP hD hS () rfl [0] rfl rfl (by decide) (Nat.le_of_ble_eq_true rfl) (Nat.le_of_ble_eq_true rfl) d_M_ask_151
theorem d_M_ask_53 : decode prog_14_method_91_code 53 = .ok (.iconst 2, 1) := by decide +kernel
theorem d_M_ask_54 : decode prog_14_method_91_code 54 = .ok (.goto 4, 3) := by decide +kernel
theorem d_M_ask_68 : decode prog_14_method_91_code 68 = .ok (.iconst 0, 1) := by decide +kernel
theorem d_M_ask_69 : decode prog_14_method_91_code 69 = .ok (.ireturn, 1) := by decide +kernel
set_option maxHeartbeats 4000000 in
set_option maxRecDepth 100000 in
theorem c_M_ask_x (l : Launch) (D : va_G) (dA : Nat → ClassId) (sz : Nat) (a : Nat) (fs : List Value) (t : Int64) (w : Int64) (n : Int32) (h0 : t < 0 ∨ 1099511627775 < t ∨ w < 1 ∨ 1099511627775 < w ∨ n < 1 ∨ 64 < n) (h_fs_on : fs[7]? = some (.int 1)) (hl_fs : fs.length = 79) : Met l ⟨"SeriesVaultModel", "ask", "(JJI)I"⟩ [Cond.code ⟨"SeriesVaultModel", "ask", "(JJI)I"⟩ prog_14_method_91_code 7 (some FieldType.int)] { frames := 1, cells := 0, slots := 0, locals := 0 } (pC D dA [.ref a, .long t, .long w, .int n] [(a, .inr (9, fs))] sz) (va_Qi (fun (r : Int32) (_ : Unit) => r = 0) (fun (u9 : Unit) t9 => bW D (va_A [(a, .inr (9, fs))] sz) [(a, .inr (9, (fs.set 0 (.int 2))))] t9) (va_A [(a, .inr (9, fs))] sz)) 0 0 (va_A [(a, .inr (9, fs))] sz) := by
  refine mkC (Qc := fun A => va_Qi (fun (r : Int32) (_ : Unit) => r = 0) (fun (u9 : Unit) t9 => bW D A [(a, .inr (9, (fs.set 0 (.int 2))))] t9) A) (by decide) (Nat.le_of_ble_eq_true rfl) ?_
  intro A p e s m below meth c ls hsz hB
  obtain ⟨hx, hb, hr, hml, hown, hin, hlk, hE, hK, hP, hD, hS, hA, hN, hl⟩ := hB
  have hown : s.vm.findClass "SeriesVaultModel" = some m.cls := hown
  have hin : meth.name = "ask" := hin
  have hl : lv_has ls 7 [(0, .ref a), (1, .long t), (3, .long w), (5, .int n)] := hl
  obtain ⟨H, hH⟩ : ∃ z, z = s.heap := ⟨_, rfl⟩
  have hP : va_P D vwCl [(a, .inr (9, fs))] H := by rw [hH]; exact hP
  have hS : va_S A s.heap H [] := by rw [hH]; exact hS
  rw [← hH]
  refine lv_aload_n hx hb d_M_ask_0 rfl (lv_at hl 0 rfl) ?_
  refine lv_aload_n hx hb d_M_ask_1 rfl (lv_at hl 0 rfl) ?_
  refine gF (v := .int 1) hx hb hown hE hK hP 0 rfl rfl layM 7 (by decide) w324 h_fs_on d_M_ask_2 ?_
  refine lv_if_ne hx hb d_M_ask_5 (tgt := 12) rfl (fun _ => ?_) (fun h9 => absurd h9 (by decide))
  refine lv_lload_n hx hb d_M_ask_12 rfl (lv_at hl 1 rfl) ?_
  refine lv_lconst (v := 0) hx hb d_M_ask_13 (by decide) ?_
  refine W.lcmp hx hb d_M_ask_14 ?_
  refine lv_if_lt hx hb d_M_ask_15 (tgt := 53) rfl (fun hc => ?_) (fun hc => ?_)
  · refine lv_iconst (v := 2) hx hb d_M_ask_53 (by decide) ?_
    refine lv_goto hx hb d_M_ask_54 (tgt := 58) rfl ?_
    refine pF hx hb hown hE hK hP hD hS 0 rfl rfl layM tyM tokM nmM 0 (by decide) w319 rfl rfl rfl (by simp [hl_fs]) d_M_ask_58 (fun H locs hP hD hS => ?_)
    have hP : va_P D vwCl [(a, .inr (9, (fs.set 0 (.int 2))))] H := hP
    have hD : va_D A [(a, .inr (9, (fs.set 0 (.int 2))))] := hD
    refine lv_aload_n hx hb d_M_ask_61 rfl (lv_at hl 0 rfl) ?_
    refine gF (v := .int 2) hx hb hown hE hK hP 0 rfl rfl layM 0 (by decide) w319 (by simp [hl_fs]) d_M_ask_62 ?_
    refine lv_if_le hx hb d_M_ask_65 (tgt := 70) rfl (fun h9 => absurd h9 (by decide)) (fun _ => ?_)
    refine lv_iconst (v := 0) hx hb d_M_ask_68 (by decide) ?_
    exact rtI hx hb hr hlk hP hD hS () rfl [0] rfl rfl (by decide) (Nat.le_of_ble_eq_true rfl) (Nat.le_of_ble_eq_true rfl) d_M_ask_69
  · refine lv_lload_n hx hb d_M_ask_18 rfl (lv_at hl 1 rfl) ?_
    refine lv_ldc2 (v := 1099511627775) hx hb hown (hE.t w450 rfl) d_M_ask_19 ?_
    refine W.lcmp hx hb d_M_ask_22 ?_
    refine lv_if_gt hx hb d_M_ask_23 (tgt := 53) rfl (fun hd => ?_) (fun hd => ?_)
    · refine lv_iconst (v := 2) hx hb d_M_ask_53 (by decide) ?_
      refine lv_goto hx hb d_M_ask_54 (tgt := 58) rfl ?_
      refine pF hx hb hown hE hK hP hD hS 0 rfl rfl layM tyM tokM nmM 0 (by decide) w319 rfl rfl rfl (by simp [hl_fs]) d_M_ask_58 (fun H locs hP hD hS => ?_)
      have hP : va_P D vwCl [(a, .inr (9, (fs.set 0 (.int 2))))] H := hP
      have hD : va_D A [(a, .inr (9, (fs.set 0 (.int 2))))] := hD
      refine lv_aload_n hx hb d_M_ask_61 rfl (lv_at hl 0 rfl) ?_
      refine gF (v := .int 2) hx hb hown hE hK hP 0 rfl rfl layM 0 (by decide) w319 (by simp [hl_fs]) d_M_ask_62 ?_
      refine lv_if_le hx hb d_M_ask_65 (tgt := 70) rfl (fun h9 => absurd h9 (by decide)) (fun _ => ?_)
      refine lv_iconst (v := 0) hx hb d_M_ask_68 (by decide) ?_
      exact rtI hx hb hr hlk hP hD hS () rfl [0] rfl rfl (by decide) (Nat.le_of_ble_eq_true rfl) (Nat.le_of_ble_eq_true rfl) d_M_ask_69
    · refine lv_lload_n hx hb d_M_ask_26 rfl (lv_at hl 2 rfl) ?_
      refine lv_lconst (v := 1) hx hb d_M_ask_27 (by decide) ?_
      refine W.lcmp hx hb d_M_ask_28 ?_
      refine lv_if_lt hx hb d_M_ask_29 (tgt := 53) rfl (fun he => ?_) (fun he => ?_)
      · refine lv_iconst (v := 2) hx hb d_M_ask_53 (by decide) ?_
        refine lv_goto hx hb d_M_ask_54 (tgt := 58) rfl ?_
        refine pF hx hb hown hE hK hP hD hS 0 rfl rfl layM tyM tokM nmM 0 (by decide) w319 rfl rfl rfl (by simp [hl_fs]) d_M_ask_58 (fun H locs hP hD hS => ?_)
        have hP : va_P D vwCl [(a, .inr (9, (fs.set 0 (.int 2))))] H := hP
        have hD : va_D A [(a, .inr (9, (fs.set 0 (.int 2))))] := hD
        refine lv_aload_n hx hb d_M_ask_61 rfl (lv_at hl 0 rfl) ?_
        refine gF (v := .int 2) hx hb hown hE hK hP 0 rfl rfl layM 0 (by decide) w319 (by simp [hl_fs]) d_M_ask_62 ?_
        refine lv_if_le hx hb d_M_ask_65 (tgt := 70) rfl (fun h9 => absurd h9 (by decide)) (fun _ => ?_)
        refine lv_iconst (v := 0) hx hb d_M_ask_68 (by decide) ?_
        exact rtI hx hb hr hlk hP hD hS () rfl [0] rfl rfl (by decide) (Nat.le_of_ble_eq_true rfl) (Nat.le_of_ble_eq_true rfl) d_M_ask_69
      · refine lv_lload_n hx hb d_M_ask_32 rfl (lv_at hl 2 rfl) ?_
        refine lv_ldc2 (v := 1099511627775) hx hb hown (hE.t w450 rfl) d_M_ask_33 ?_
        refine W.lcmp hx hb d_M_ask_36 ?_
        refine lv_if_gt hx hb d_M_ask_37 (tgt := 53) rfl (fun hf => ?_) (fun hf => ?_)
        · refine lv_iconst (v := 2) hx hb d_M_ask_53 (by decide) ?_
          refine lv_goto hx hb d_M_ask_54 (tgt := 58) rfl ?_
          refine pF hx hb hown hE hK hP hD hS 0 rfl rfl layM tyM tokM nmM 0 (by decide) w319 rfl rfl rfl (by simp [hl_fs]) d_M_ask_58 (fun H locs hP hD hS => ?_)
          have hP : va_P D vwCl [(a, .inr (9, (fs.set 0 (.int 2))))] H := hP
          have hD : va_D A [(a, .inr (9, (fs.set 0 (.int 2))))] := hD
          refine lv_aload_n hx hb d_M_ask_61 rfl (lv_at hl 0 rfl) ?_
          refine gF (v := .int 2) hx hb hown hE hK hP 0 rfl rfl layM 0 (by decide) w319 (by simp [hl_fs]) d_M_ask_62 ?_
          refine lv_if_le hx hb d_M_ask_65 (tgt := 70) rfl (fun h9 => absurd h9 (by decide)) (fun _ => ?_)
          refine lv_iconst (v := 0) hx hb d_M_ask_68 (by decide) ?_
          exact rtI hx hb hr hlk hP hD hS () rfl [0] rfl rfl (by decide) (Nat.le_of_ble_eq_true rfl) (Nat.le_of_ble_eq_true rfl) d_M_ask_69
        · refine lv_iload hx hb d_M_ask_40 (lv_at hl 3 rfl) ?_
          refine lv_iconst (v := 1) hx hb d_M_ask_42 (by decide) ?_
          refine lv_icmp_lt hx hb d_M_ask_43 (tgt := 53) rfl (fun hg => ?_) (fun hg => ?_)
          · refine lv_iconst (v := 2) hx hb d_M_ask_53 (by decide) ?_
            refine lv_goto hx hb d_M_ask_54 (tgt := 58) rfl ?_
            refine pF hx hb hown hE hK hP hD hS 0 rfl rfl layM tyM tokM nmM 0 (by decide) w319 rfl rfl rfl (by simp [hl_fs]) d_M_ask_58 (fun H locs hP hD hS => ?_)
            have hP : va_P D vwCl [(a, .inr (9, (fs.set 0 (.int 2))))] H := hP
            have hD : va_D A [(a, .inr (9, (fs.set 0 (.int 2))))] := hD
            refine lv_aload_n hx hb d_M_ask_61 rfl (lv_at hl 0 rfl) ?_
            refine gF (v := .int 2) hx hb hown hE hK hP 0 rfl rfl layM 0 (by decide) w319 (by simp [hl_fs]) d_M_ask_62 ?_
            refine lv_if_le hx hb d_M_ask_65 (tgt := 70) rfl (fun h9 => absurd h9 (by decide)) (fun _ => ?_)
            refine lv_iconst (v := 0) hx hb d_M_ask_68 (by decide) ?_
            exact rtI hx hb hr hlk hP hD hS () rfl [0] rfl rfl (by decide) (Nat.le_of_ble_eq_true rfl) (Nat.le_of_ble_eq_true rfl) d_M_ask_69
          · refine lv_iload hx hb d_M_ask_46 (lv_at hl 3 rfl) ?_
            refine lv_bipush (v := 64) hx hb d_M_ask_48 (by decide) ?_
            refine lv_icmp_le hx hb d_M_ask_50 (tgt := 57) rfl (fun h9 => absurd h9 (ask_l h0 hc hd he hf hg)) (fun _ => ?_)
            refine lv_iconst (v := 2) hx hb d_M_ask_53 (by decide) ?_
            refine lv_goto hx hb d_M_ask_54 (tgt := 58) rfl ?_
            refine pF hx hb hown hE hK hP hD hS 0 rfl rfl layM tyM tokM nmM 0 (by decide) w319 rfl rfl rfl (by simp [hl_fs]) d_M_ask_58 (fun H locs hP hD hS => ?_)
            have hP : va_P D vwCl [(a, .inr (9, (fs.set 0 (.int 2))))] H := hP
            have hD : va_D A [(a, .inr (9, (fs.set 0 (.int 2))))] := hD
            refine lv_aload_n hx hb d_M_ask_61 rfl (lv_at hl 0 rfl) ?_
            refine gF (v := .int 2) hx hb hown hE hK hP 0 rfl rfl layM 0 (by decide) w319 (by simp [hl_fs]) d_M_ask_62 ?_
            refine lv_if_le hx hb d_M_ask_65 (tgt := 70) rfl (fun h9 => absurd h9 (by decide)) (fun _ => ?_)
            refine lv_iconst (v := 0) hx hb d_M_ask_68 (by decide) ?_
            exact rtI hx hb hr hlk hP hD hS () rfl [0] rfl rfl (by decide) (Nat.le_of_ble_eq_true rfl) (Nat.le_of_ble_eq_true rfl) d_M_ask_69
