theorem d_SeriesVaultLaw_end_0 : decode method_4_code 0 = .ok (.aload_n 0, 1) := by decide +kernel
theorem d_SeriesVaultLaw_end_1 : decode method_4_code 1 = .ok (.iload_n 1, 1) := by decide +kernel
theorem d_SeriesVaultLaw_end_2 : decode method_4_code 2 = .ok (.invokevirtual 15, 3) := by decide +kernel
theorem d_SeriesVaultLaw_end_5 : decode method_4_code 5 = .ok (.goto 6, 3) := by decide +kernel
theorem d_SeriesVaultLaw_end_11 : decode method_4_code 11 = .ok (.iconst 0, 1) := by decide +kernel
theorem d_SeriesVaultLaw_end_12 : decode method_4_code 12 = .ok (.ireturn, 1) := by decide +kernel
theorem w345 : Cond.methodLink "SeriesVaultLaw" 15 ⟨"SeriesVault", "end", "(I)V"⟩ ∈ aW := aw_of (tb_3 (List.mem_of_getElem? (i := 139) rfl)) rfl
theorem w346 : Cond.code ⟨"SeriesVault", "end", "(I)V"⟩ prog_1_method_4_code 2 none ∈ aW := aw_of (tb_3 (List.mem_of_getElem? (i := 142) rfl)) rfl
theorem w347 : Cond.instanceMethod ⟨"SeriesVault", "end", "(I)V"⟩ ∈ aW := aw_of (tb_3 (List.mem_of_getElem? (i := 140) rfl)) rfl
theorem w348 : Cond.selects "SeriesVault" ⟨"SeriesVault", "end", "(I)V"⟩ ⟨"SeriesVault", "end", "(I)V"⟩ ∈ aW := aw_of (tb_3 (List.mem_of_getElem? (i := 141) rfl)) rfl
set_option maxHeartbeats 4000000 in
set_option maxRecDepth 100000 in
theorem c_K_end (l : Launch) (htr : l.stackTraces = false) (D : va_G) (dA : Nat → ClassId) (sz : Nat) (a : Nat) (fs : List Value) (tl : Int32) (n : Int32) (h1 : ¬ n < 0) (h2 : n ≤ tl) (h_fs_tapeLength : fs[1]? = some (.int tl)) (hl_fs : fs.length = 18) : Met l ⟨"SeriesVaultLaw", "end", "(LSeriesVault;I)I"⟩ [Cond.codeWith ⟨"SeriesVaultLaw", "end", "(LSeriesVault;I)I"⟩ method_4_code 3 (some FieldType.int) [(0, 5, 8, 19)]] { frames := 2, cells := 0, slots := 0, locals := 21 } (pC D dA [.ref a, .int n] [(a, .inr (0, fs))] sz) (va_Qi (fun (r : Int32) (_ : Unit) => r = 0) (fun (u9 : Unit) t9 => bW D (va_A [(a, .inr (0, fs))] sz) [(a, .inr (0, (fs.set 1 (.int n))))] t9) (va_A [(a, .inr (0, fs))] sz)) 0 0 (va_A [(a, .inr (0, fs))] sz) := by
  refine mkW (Qc := fun A => va_Qi (fun (r : Int32) (_ : Unit) => r = 0) (fun (u9 : Unit) t9 => bW D A [(a, .inr (0, (fs.set 1 (.int n))))] t9) A) (by decide) (Nat.le_of_ble_eq_true rfl) ?_
  intro A p e s m below meth c ls hsz htab hB
  obtain ⟨hx, hb, hr, hml, hown, hin, hlk, hE, hK, hP, hD, hS, hA, hN, hl⟩ := hB
  have hown : s.vm.findClass "SeriesVaultLaw" = some m.cls := hown
  have hin : meth.name = "end" := hin
  have hl : lv_has ls 3 [(0, .ref a), (1, .int n)] := hl
  obtain ⟨H, hH⟩ : ∃ z, z = s.heap := ⟨_, rfl⟩
  have hP : va_P D vwCl [(a, .inr (0, fs))] H := by rw [hH]; exact hP
  have hS : va_S A s.heap H [] := by rw [hH]; exact hS
  rw [← hH]
  refine lv_aload_n hx hb d_SeriesVaultLaw_end_0 rfl (lv_at hl 0 rfl) ?_
  refine lv_iload_n hx hb d_SeriesVaultLaw_end_1 rfl (lv_at hl 1 rfl) ?_
  have hPc := hP.sub (ws' := [(a, .inr (0, fs))]) [0] rfl
  have hDc := hD.sub (ws' := [(a, .inr (0, fs))]) [0] (by decide) rfl
  refine jnV (rnV (As := [.int n]) (rest := []) hx hb hml hown hE hK (hN _ _ hS) hPc hDc (c_V_end l D dA H.size a fs tl n h1 h2 h_fs_tapeLength hl_fs) (q0 := 0) rfl rfl w346 w345 w347 w348 w277 rfl rfl ⟨⟨by decide, by decide⟩, rfl⟩ ⟨(Nat.le_of_ble_eq_true rfl), (Nat.le_of_ble_eq_true rfl)⟩ rfl hl.1 rfl (Nat.le_of_ble_eq_true rfl) d_SeriesVaultLaw_end_2 ⟨(Nat.le_of_ble_eq_true rfl), (Nat.le_of_ble_eq_true rfl)⟩) hP hD hS hA [0] [] (wr := []) rfl rfl (by decide) (by decide) (fun u9 H locs hp9 hP hD hS => ?_)
  have hP : va_P D vwCl [(a, .inr (0, (fs.set 1 (.int n))))] H := hP
  have hD : va_D A [(a, .inr (0, (fs.set 1 (.int n))))] := hD
  refine lv_goto hx hb d_SeriesVaultLaw_end_5 (tgt := 11) rfl ?_
  refine lv_iconst (v := 0) hx hb d_SeriesVaultLaw_end_11 (by decide) ?_
  exact rtI hx hb hr hlk hP hD hS () rfl [0] rfl rfl (by decide) (Nat.le_of_ble_eq_true rfl) (Nat.le_of_ble_eq_true rfl) d_SeriesVaultLaw_end_12
theorem d_SeriesVaultLaw_end_8 : decode method_4_code 8 = .ok (.astore_n 2, 1) := by decide +kernel
theorem d_SeriesVaultLaw_end_9 : decode method_4_code 9 = .ok (.iconst 1, 1) := by decide +kernel
theorem d_SeriesVaultLaw_end_10 : decode method_4_code 10 = .ok (.ireturn, 1) := by decide +kernel
theorem w349 : Cond.classLink "SeriesVaultLaw" 19 "java/lang/IllegalArgumentException" ∈ aW := aw_of (tb_3 (List.mem_of_getElem? (i := 138) rfl)) rfl
set_option maxHeartbeats 4000000 in
set_option maxRecDepth 100000 in
theorem c_K_end_x (l : Launch) (htr : l.stackTraces = false) (D : va_G) (dA : Nat → ClassId) (sz : Nat) (a : Nat) (fs : List Value) (tl : Int32) (n : Int32) (h0 : n < 0 ∨ tl < n) (h_fs_tapeLength : fs[1]? = some (.int tl)) (hl_fs : fs.length = 18) : Met l ⟨"SeriesVaultLaw", "end", "(LSeriesVault;I)I"⟩ [Cond.codeWith ⟨"SeriesVaultLaw", "end", "(LSeriesVault;I)I"⟩ method_4_code 3 (some FieldType.int) [(0, 5, 8, 19)]] { frames := 7, cells := 1, slots := 6, locals := 102 } (pC D dA [.ref a, .int n] [(a, .inr (0, fs))] sz) (va_Qi (fun (r : Int32) (_ : Unit) => r = 1) (fun (u9 : Unit) t9 => bW D (va_A [(a, .inr (0, fs))] sz) [(a, .inr (0, fs))] t9) (va_A [(a, .inr (0, fs))] sz)) 1 6 (va_A [(a, .inr (0, fs))] sz) := by
  refine mkW (Qc := fun A => va_Qi (fun (r : Int32) (_ : Unit) => r = 1) (fun (u9 : Unit) t9 => bW D A [(a, .inr (0, fs))] t9) A) (by decide) (Nat.le_of_ble_eq_true rfl) ?_
  intro A p e s m below meth c ls hsz htab hB
  obtain ⟨hx, hb, hr, hml, hown, hin, hlk, hE, hK, hP, hD, hS, hA, hN, hl⟩ := hB
  have hown : s.vm.findClass "SeriesVaultLaw" = some m.cls := hown
  have hin : meth.name = "end" := hin
  have hl : lv_has ls 3 [(0, .ref a), (1, .int n)] := hl
  obtain ⟨H, hH⟩ : ∃ z, z = s.heap := ⟨_, rfl⟩
  have hP : va_P D vwCl [(a, .inr (0, fs))] H := by rw [hH]; exact hP
  have hS : va_S A s.heap H [] := by rw [hH]; exact hS
  rw [← hH]
  refine lv_aload_n hx hb d_SeriesVaultLaw_end_0 rfl (lv_at hl 0 rfl) ?_
  refine lv_iload_n hx hb d_SeriesVaultLaw_end_1 rfl (lv_at hl 1 rfl) ?_
  have hPc := hP.sub (ws' := [(a, .inr (0, fs))]) [0] rfl
  have hDc := hD.sub (ws' := [(a, .inr (0, fs))]) [0] (by decide) rfl
  refine xnV (As := [.int n]) (rest := []) hx hb hml hown hE hK (hN _ _ hS) hPc hDc (c_V_end_x l htr D dA H.size a fs tl n h0 h_fs_tapeLength hl_fs) (q0 := 0) rfl rfl w346 w345 w347 w348 w277 rfl rfl ⟨⟨by decide, by decide⟩, rfl⟩ ⟨(Nat.le_of_ble_eq_true rfl), (Nat.le_of_ble_eq_true rfl)⟩ rfl hl.1 rfl (Nat.le_of_ble_eq_true rfl) d_SeriesVaultLaw_end_2 ⟨(Nat.le_of_ble_eq_true rfl), (Nat.le_of_ble_eq_true rfl)⟩ hP hD hS hA [0] [] (wr := []) rfl rfl (by decide) (by decide) (fun x1 ce H locs hP hD hS hce hcv hcl => ?_)
  have hP : va_P D vwCl [(a, .inr (0, fs))] H := hP
  have hD : va_D A [(a, .inr (0, fs))] := hD
  refine xCatch (E := "java/lang/IllegalArgumentException") hown hE [] ⟨0, 5, 8, 19⟩ [] htab (fun _ h => absurd h List.not_mem_nil) (by decide) (by decide) w349 w267 hce hcv hcl ?_
  refine lv_astore_n hx hb d_SeriesVaultLaw_end_8 rfl hl (by decide) rfl (fun ls hl => ?_)
  have hl : lv_has ls 3 [(2, .ref x1), (0, .ref a), (1, .int n)] := hl
  refine lv_iconst (v := 1) hx hb d_SeriesVaultLaw_end_9 (by decide) ?_
  exact rtI hx hb hr hlk hP hD hS () rfl [0] rfl rfl (by decide) (Nat.le_of_ble_eq_true rfl) (Nat.le_of_ble_eq_true rfl) d_SeriesVaultLaw_end_10
theorem d_SeriesVaultLaw_fault_0 : decode method_7_code 0 = .ok (.aload_n 2, 1) := by decide +kernel
theorem d_SeriesVaultLaw_fault_1 : decode method_7_code 1 = .ok (.iconst 0, 1) := by decide +kernel
theorem d_SeriesVaultLaw_fault_2 : decode method_7_code 2 = .ok (.aload_n 0, 1) := by decide +kernel
theorem d_SeriesVaultLaw_fault_3 : decode method_7_code 3 = .ok (.iload_n 1, 1) := by decide +kernel
theorem d_SeriesVaultLaw_fault_4 : decode method_7_code 4 = .ok (.invokevirtual 31, 3) := by decide +kernel
theorem d_SeriesVaultLaw_fault_7 : decode method_7_code 7 = .ok (.i2l, 1) := by decide +kernel
theorem d_SeriesVaultLaw_fault_8 : decode method_7_code 8 = .ok (.lastore, 1) := by decide +kernel
theorem d_SeriesVaultLaw_fault_9 : decode method_7_code 9 = .ok (.goto 6, 3) := by decide +kernel
theorem d_SeriesVaultLaw_fault_15 : decode method_7_code 15 = .ok (.iconst 0, 1) := by decide +kernel
theorem d_SeriesVaultLaw_fault_16 : decode method_7_code 16 = .ok (.ireturn, 1) := by decide +kernel
theorem w350 : Cond.methodLink "SeriesVaultLaw" 31 ⟨"SeriesVault", "fault", "(I)I"⟩ ∈ aW := aw_of (tb_5 (List.mem_of_getElem? (i := 96) rfl)) rfl
theorem w351 : Cond.code ⟨"SeriesVault", "fault", "(I)I"⟩ prog_1_method_6_code 2 (some FieldType.int) ∈ aW := aw_of (tb_5 (List.mem_of_getElem? (i := 99) rfl)) rfl
theorem w352 : Cond.instanceMethod ⟨"SeriesVault", "fault", "(I)I"⟩ ∈ aW := aw_of (tb_5 (List.mem_of_getElem? (i := 97) rfl)) rfl
theorem w353 : Cond.selects "SeriesVault" ⟨"SeriesVault", "fault", "(I)I"⟩ ⟨"SeriesVault", "fault", "(I)I"⟩ ∈ aW := aw_of (tb_5 (List.mem_of_getElem? (i := 98) rfl)) rfl
set_option maxHeartbeats 4000000 in
set_option maxRecDepth 100000 in
theorem c_K_fault_0 (l : Launch) (htr : l.stackTraces = false) (D : va_G) (dA : Nat → ClassId) (sz : Nat) (a : Nat) (fs : List Value) (fc : Int32) (o : Nat) (g : Nat → Int64) (h_fs_faultCode : fs[2]? = some (.int fc)) (hl_fs : fs.length = 18) : Met l ⟨"SeriesVaultLaw", "fault", "(LSeriesVault;I[J)I"⟩ [Cond.codeWith ⟨"SeriesVaultLaw", "fault", "(LSeriesVault;I[J)I"⟩ method_7_code 4 (some FieldType.int) [(0, 9, 12, 35)]] { frames := 2, cells := 0, slots := 0, locals := 21 } (pC D dA [.ref a, .int 0, .ref o] [(a, .inr (0, fs)), (o, .inl (dA 2, 1, .inr (.inl g)))] sz) (va_Qi (fun (r : Int32) (_ : Unit) => r = 0) (fun (u9 : Unit) t9 => bW D (va_A [(a, .inr (0, fs)), (o, .inl (dA 2, 1, .inr (.inl g)))] sz) [(a, .inr (0, fs)), (o, .inl (dA 2, 1, .inr (.inl (vp_updL g 0 fc.toInt64))))] t9) (va_A [(a, .inr (0, fs)), (o, .inl (dA 2, 1, .inr (.inl g)))] sz)) 0 0 (va_A [(a, .inr (0, fs)), (o, .inl (dA 2, 1, .inr (.inl g)))] sz) := by
  refine mkW (Qc := fun A => va_Qi (fun (r : Int32) (_ : Unit) => r = 0) (fun (u9 : Unit) t9 => bW D A [(a, .inr (0, fs)), (o, .inl (dA 2, 1, .inr (.inl (vp_updL g 0 fc.toInt64))))] t9) A) (by decide) (Nat.le_of_ble_eq_true rfl) ?_
  intro A p e s m below meth c ls hsz htab hB
  obtain ⟨hx, hb, hr, hml, hown, hin, hlk, hE, hK, hP, hD, hS, hA, hN, hl⟩ := hB
  have hown : s.vm.findClass "SeriesVaultLaw" = some m.cls := hown
  have hin : meth.name = "fault" := hin
  have hl : lv_has ls 4 [(0, .ref a), (1, .int 0), (2, .ref o)] := hl
  obtain ⟨H, hH⟩ : ∃ z, z = s.heap := ⟨_, rfl⟩
  have hP : va_P D vwCl [(a, .inr (0, fs)), (o, .inl (dA 2, 1, .inr (.inl g)))] H := by rw [hH]; exact hP
  have hS : va_S A s.heap H [] := by rw [hH]; exact hS
  rw [← hH]
  refine lv_aload_n hx hb d_SeriesVaultLaw_fault_0 rfl (lv_at hl 2 rfl) ?_
  refine lv_iconst (v := 0) hx hb d_SeriesVaultLaw_fault_1 (by decide) ?_
  refine lv_aload_n hx hb d_SeriesVaultLaw_fault_2 rfl (lv_at hl 0 rfl) ?_
  refine lv_iload_n hx hb d_SeriesVaultLaw_fault_3 rfl (lv_at hl 1 rfl) ?_
  have hPc := hP.sub (ws' := [(a, .inr (0, fs))]) [0] rfl
  have hDc := hD.sub (ws' := [(a, .inr (0, fs))]) [0] (by decide) rfl
  refine jnI (rnV (As := [.int 0]) (rest := [.int 0, .ref o]) hx hb hml hown hE hK (hN _ _ hS) hPc hDc (c_V_fault_0 l D dA H.size a fs fc h_fs_faultCode hl_fs) (q0 := 0) rfl rfl w351 w350 w352 w353 w277 rfl rfl ⟨⟨by decide, by decide⟩, rfl⟩ ⟨(Nat.le_of_ble_eq_true rfl), (Nat.le_of_ble_eq_true rfl)⟩ rfl hl.1 rfl (Nat.le_of_ble_eq_true rfl) d_SeriesVaultLaw_fault_4 ⟨(Nat.le_of_ble_eq_true rfl), (Nat.le_of_ble_eq_true rfl)⟩) hP hD hS hA [0] [1] (wr := [(o, .inl (dA 2, 1, .inr (.inl g)))]) rfl rfl (by decide) (by decide) (fun r1 u9 H locs hp9 hP hD hS => ?_)
  have hP : va_P D vwCl [(o, .inl (dA 2, 1, .inr (.inl g))), (a, .inr (0, fs))] H := hP
  have hD : va_D A [(o, .inl (dA 2, 1, .inr (.inl g))), (a, .inr (0, fs))] := hD
  have hp9 : fc = r1 := Eq.symm hp9
  subst hp9
  refine lv_i2l hx hb d_SeriesVaultLaw_fault_7 rfl ?_
  refine va_last hx hb hK hP hD hS 0 2 rfl rfl (by unfold vp_in; decide) d_SeriesVaultLaw_fault_8 (fun H locs hP hD hS => ?_)
  have hP : va_P D vwCl [(o, .inl (dA 2, 1, .inr (.inl (vp_updL g 0 fc.toInt64)))), (a, .inr (0, fs))] H := hP
  have hD : va_D A [(o, .inl (dA 2, 1, .inr (.inl (vp_updL g 0 fc.toInt64)))), (a, .inr (0, fs))] := hD
  refine lv_goto hx hb d_SeriesVaultLaw_fault_9 (tgt := 15) rfl ?_
  refine lv_iconst (v := 0) hx hb d_SeriesVaultLaw_fault_15 (by decide) ?_
  exact rtI hx hb hr hlk hP hD hS () rfl [1, 0] rfl rfl (by decide) (Nat.le_of_ble_eq_true rfl) (Nat.le_of_ble_eq_true rfl) d_SeriesVaultLaw_fault_16
set_option maxHeartbeats 4000000 in
set_option maxRecDepth 100000 in
theorem c_K_fault_1 (l : Launch) (htr : l.stackTraces = false) (D : va_G) (dA : Nat → ClassId) (sz : Nat) (a : Nat) (fs : List Value) (fp : Int32) (o : Nat) (g : Nat → Int64) (h_fs_faultPlace : fs[3]? = some (.int fp)) (hl_fs : fs.length = 18) : Met l ⟨"SeriesVaultLaw", "fault", "(LSeriesVault;I[J)I"⟩ [Cond.codeWith ⟨"SeriesVaultLaw", "fault", "(LSeriesVault;I[J)I"⟩ method_7_code 4 (some FieldType.int) [(0, 9, 12, 35)]] { frames := 2, cells := 0, slots := 0, locals := 21 } (pC D dA [.ref a, .int 1, .ref o] [(a, .inr (0, fs)), (o, .inl (dA 2, 1, .inr (.inl g)))] sz) (va_Qi (fun (r : Int32) (_ : Unit) => r = 0) (fun (u9 : Unit) t9 => bW D (va_A [(a, .inr (0, fs)), (o, .inl (dA 2, 1, .inr (.inl g)))] sz) [(a, .inr (0, fs)), (o, .inl (dA 2, 1, .inr (.inl (vp_updL g 0 fp.toInt64))))] t9) (va_A [(a, .inr (0, fs)), (o, .inl (dA 2, 1, .inr (.inl g)))] sz)) 0 0 (va_A [(a, .inr (0, fs)), (o, .inl (dA 2, 1, .inr (.inl g)))] sz) := by
  refine mkW (Qc := fun A => va_Qi (fun (r : Int32) (_ : Unit) => r = 0) (fun (u9 : Unit) t9 => bW D A [(a, .inr (0, fs)), (o, .inl (dA 2, 1, .inr (.inl (vp_updL g 0 fp.toInt64))))] t9) A) (by decide) (Nat.le_of_ble_eq_true rfl) ?_
  intro A p e s m below meth c ls hsz htab hB
  obtain ⟨hx, hb, hr, hml, hown, hin, hlk, hE, hK, hP, hD, hS, hA, hN, hl⟩ := hB
  have hown : s.vm.findClass "SeriesVaultLaw" = some m.cls := hown
  have hin : meth.name = "fault" := hin
  have hl : lv_has ls 4 [(0, .ref a), (1, .int 1), (2, .ref o)] := hl
  obtain ⟨H, hH⟩ : ∃ z, z = s.heap := ⟨_, rfl⟩
  have hP : va_P D vwCl [(a, .inr (0, fs)), (o, .inl (dA 2, 1, .inr (.inl g)))] H := by rw [hH]; exact hP
  have hS : va_S A s.heap H [] := by rw [hH]; exact hS
  rw [← hH]
  refine lv_aload_n hx hb d_SeriesVaultLaw_fault_0 rfl (lv_at hl 2 rfl) ?_
  refine lv_iconst (v := 0) hx hb d_SeriesVaultLaw_fault_1 (by decide) ?_
  refine lv_aload_n hx hb d_SeriesVaultLaw_fault_2 rfl (lv_at hl 0 rfl) ?_
  refine lv_iload_n hx hb d_SeriesVaultLaw_fault_3 rfl (lv_at hl 1 rfl) ?_
  have hPc := hP.sub (ws' := [(a, .inr (0, fs))]) [0] rfl
  have hDc := hD.sub (ws' := [(a, .inr (0, fs))]) [0] (by decide) rfl
  refine jnI (rnV (As := [.int 1]) (rest := [.int 0, .ref o]) hx hb hml hown hE hK (hN _ _ hS) hPc hDc (c_V_fault_1 l D dA H.size a fs fp h_fs_faultPlace hl_fs) (q0 := 0) rfl rfl w351 w350 w352 w353 w277 rfl rfl ⟨⟨by decide, by decide⟩, rfl⟩ ⟨(Nat.le_of_ble_eq_true rfl), (Nat.le_of_ble_eq_true rfl)⟩ rfl hl.1 rfl (Nat.le_of_ble_eq_true rfl) d_SeriesVaultLaw_fault_4 ⟨(Nat.le_of_ble_eq_true rfl), (Nat.le_of_ble_eq_true rfl)⟩) hP hD hS hA [0] [1] (wr := [(o, .inl (dA 2, 1, .inr (.inl g)))]) rfl rfl (by decide) (by decide) (fun r1 u9 H locs hp9 hP hD hS => ?_)
  have hP : va_P D vwCl [(o, .inl (dA 2, 1, .inr (.inl g))), (a, .inr (0, fs))] H := hP
  have hD : va_D A [(o, .inl (dA 2, 1, .inr (.inl g))), (a, .inr (0, fs))] := hD
  have hp9 : fp = r1 := Eq.symm hp9
  subst hp9
  refine lv_i2l hx hb d_SeriesVaultLaw_fault_7 rfl ?_
  refine va_last hx hb hK hP hD hS 0 2 rfl rfl (by unfold vp_in; decide) d_SeriesVaultLaw_fault_8 (fun H locs hP hD hS => ?_)
  have hP : va_P D vwCl [(o, .inl (dA 2, 1, .inr (.inl (vp_updL g 0 fp.toInt64)))), (a, .inr (0, fs))] H := hP
  have hD : va_D A [(o, .inl (dA 2, 1, .inr (.inl (vp_updL g 0 fp.toInt64)))), (a, .inr (0, fs))] := hD
  refine lv_goto hx hb d_SeriesVaultLaw_fault_9 (tgt := 15) rfl ?_
  refine lv_iconst (v := 0) hx hb d_SeriesVaultLaw_fault_15 (by decide) ?_
  exact rtI hx hb hr hlk hP hD hS () rfl [1, 0] rfl rfl (by decide) (Nat.le_of_ble_eq_true rfl) (Nat.le_of_ble_eq_true rfl) d_SeriesVaultLaw_fault_16
theorem d_SeriesVaultLaw_fault_12 : decode method_7_code 12 = .ok (.astore_n 3, 1) := by decide +kernel
theorem d_SeriesVaultLaw_fault_13 : decode method_7_code 13 = .ok (.iconst 1, 1) := by decide +kernel
theorem d_SeriesVaultLaw_fault_14 : decode method_7_code 14 = .ok (.ireturn, 1) := by decide +kernel
theorem w354 : Cond.classLink "SeriesVaultLaw" 35 "java/lang/IndexOutOfBoundsException" ∈ aW := aw_of (tb_5 (List.mem_of_getElem? (i := 95) rfl)) rfl
set_option maxHeartbeats 4000000 in
set_option maxRecDepth 100000 in
theorem c_K_fault_x (l : Launch) (htr : l.stackTraces = false) (D : va_G) (dA : Nat → ClassId) (sz : Nat) (a : Nat) (fs : List Value) (n : Int32) (o : Nat) (g : Nat → Int64) (h0 : n < 0 ∨ 1 < n) (hl_fs : fs.length = 18) : Met l ⟨"SeriesVaultLaw", "fault", "(LSeriesVault;I[J)I"⟩ [Cond.codeWith ⟨"SeriesVaultLaw", "fault", "(LSeriesVault;I[J)I"⟩ method_7_code 4 (some FieldType.int) [(0, 9, 12, 35)]] { frames := 7, cells := 1, slots := 6, locals := 102 } (pC D dA [.ref a, .int n, .ref o] [(a, .inr (0, fs)), (o, .inl (dA 2, 1, .inr (.inl g)))] sz) (va_Qi (fun (r : Int32) (_ : Unit) => r = 1) (fun (u9 : Unit) t9 => bW D (va_A [(a, .inr (0, fs)), (o, .inl (dA 2, 1, .inr (.inl g)))] sz) [(a, .inr (0, fs)), (o, .inl (dA 2, 1, .inr (.inl g)))] t9) (va_A [(a, .inr (0, fs)), (o, .inl (dA 2, 1, .inr (.inl g)))] sz)) 1 6 (va_A [(a, .inr (0, fs)), (o, .inl (dA 2, 1, .inr (.inl g)))] sz) := by
  refine mkW (Qc := fun A => va_Qi (fun (r : Int32) (_ : Unit) => r = 1) (fun (u9 : Unit) t9 => bW D A [(a, .inr (0, fs)), (o, .inl (dA 2, 1, .inr (.inl g)))] t9) A) (by decide) (Nat.le_of_ble_eq_true rfl) ?_
  intro A p e s m below meth c ls hsz htab hB
  obtain ⟨hx, hb, hr, hml, hown, hin, hlk, hE, hK, hP, hD, hS, hA, hN, hl⟩ := hB
  have hown : s.vm.findClass "SeriesVaultLaw" = some m.cls := hown
  have hin : meth.name = "fault" := hin
  have hl : lv_has ls 4 [(0, .ref a), (1, .int n), (2, .ref o)] := hl
  obtain ⟨H, hH⟩ : ∃ z, z = s.heap := ⟨_, rfl⟩
  have hP : va_P D vwCl [(a, .inr (0, fs)), (o, .inl (dA 2, 1, .inr (.inl g)))] H := by rw [hH]; exact hP
  have hS : va_S A s.heap H [] := by rw [hH]; exact hS
  rw [← hH]
  refine lv_aload_n hx hb d_SeriesVaultLaw_fault_0 rfl (lv_at hl 2 rfl) ?_
  refine lv_iconst (v := 0) hx hb d_SeriesVaultLaw_fault_1 (by decide) ?_
  refine lv_aload_n hx hb d_SeriesVaultLaw_fault_2 rfl (lv_at hl 0 rfl) ?_
  refine lv_iload_n hx hb d_SeriesVaultLaw_fault_3 rfl (lv_at hl 1 rfl) ?_
  have hPc := hP.sub (ws' := [(a, .inr (0, fs))]) [0] rfl
  have hDc := hD.sub (ws' := [(a, .inr (0, fs))]) [0] (by decide) rfl
  refine xnV (As := [.int n]) (rest := [.int 0, .ref o]) hx hb hml hown hE hK (hN _ _ hS) hPc hDc (c_V_fault_x l htr D dA H.size a fs n h0 hl_fs) (q0 := 0) rfl rfl w351 w350 w352 w353 w277 rfl rfl ⟨⟨by decide, by decide⟩, rfl⟩ ⟨(Nat.le_of_ble_eq_true rfl), (Nat.le_of_ble_eq_true rfl)⟩ rfl hl.1 rfl (Nat.le_of_ble_eq_true rfl) d_SeriesVaultLaw_fault_4 ⟨(Nat.le_of_ble_eq_true rfl), (Nat.le_of_ble_eq_true rfl)⟩ hP hD hS hA [0] [1] (wr := [(o, .inl (dA 2, 1, .inr (.inl g)))]) rfl rfl (by decide) (by decide) (fun x1 ce H locs hP hD hS hce hcv hcl => ?_)
  have hP : va_P D vwCl [(o, .inl (dA 2, 1, .inr (.inl g))), (a, .inr (0, fs))] H := hP
  have hD : va_D A [(o, .inl (dA 2, 1, .inr (.inl g))), (a, .inr (0, fs))] := hD
  refine xCatch (E := "java/lang/IndexOutOfBoundsException") hown hE [] ⟨0, 9, 12, 35⟩ [] htab (fun _ h => absurd h List.not_mem_nil) (by decide) (by decide) w354 w222 hce hcv hcl ?_
  refine lv_astore_n hx hb d_SeriesVaultLaw_fault_12 rfl hl (by decide) rfl (fun ls hl => ?_)
  have hl : lv_has ls 4 [(3, .ref x1), (0, .ref a), (1, .int n), (2, .ref o)] := hl
  refine lv_iconst (v := 1) hx hb d_SeriesVaultLaw_fault_13 (by decide) ?_
  exact rtI hx hb hr hlk hP hD hS () rfl [1, 0] rfl rfl (by decide) (Nat.le_of_ble_eq_true rfl) (Nat.le_of_ble_eq_true rfl) d_SeriesVaultLaw_fault_14
theorem d_SeriesVaultLaw_off_0 : decode method_24_code 0 = .ok (.aload_n 0, 1) := by decide +kernel
theorem d_SeriesVaultLaw_off_1 : decode method_24_code 1 = .ok (.invokevirtual 94, 3) := by decide +kernel
theorem d_SeriesVaultLaw_off_4 : decode method_24_code 4 = .ok (.goto 6, 3) := by decide +kernel
theorem d_SeriesVaultLaw_off_10 : decode method_24_code 10 = .ok (.iconst 0, 1) := by decide +kernel
theorem d_SeriesVaultLaw_off_11 : decode method_24_code 11 = .ok (.ireturn, 1) := by decide +kernel
theorem w355 : Cond.methodLink "SeriesVaultLaw" 94 ⟨"SeriesVault", "off", "()V"⟩ ∈ aW := aw_of (tb_8 (List.mem_of_getElem? (i := 148) rfl)) rfl
theorem w356 : Cond.code ⟨"SeriesVault", "off", "()V"⟩ prog_1_method_12_code 1 none ∈ aW := aw_of (tb_8 (List.mem_of_getElem? (i := 151) rfl)) rfl
theorem w357 : Cond.instanceMethod ⟨"SeriesVault", "off", "()V"⟩ ∈ aW := aw_of (tb_8 (List.mem_of_getElem? (i := 149) rfl)) rfl
theorem w358 : Cond.selects "SeriesVault" ⟨"SeriesVault", "off", "()V"⟩ ⟨"SeriesVault", "off", "()V"⟩ ∈ aW := aw_of (tb_8 (List.mem_of_getElem? (i := 150) rfl)) rfl
set_option maxHeartbeats 4000000 in
set_option maxRecDepth 100000 in
theorem c_K_off (l : Launch) (htr : l.stackTraces = false) (D : va_G) (dA : Nat → ClassId) (sz : Nat) (a : Nat) (fs : List Value) (h_fs_powered : fs[5]? = some (.int 1)) (hl_fs : fs.length = 18) : Met l ⟨"SeriesVaultLaw", "off", "(LSeriesVault;)I"⟩ [Cond.codeWith ⟨"SeriesVaultLaw", "off", "(LSeriesVault;)I"⟩ method_24_code 2 (some FieldType.int) [(0, 4, 7, 29)]] { frames := 3, cells := 0, slots := 0, locals := 40 } (pC D dA [.ref a] [(a, .inr (0, fs))] sz) (va_Qi (fun (r : Int32) (_ : Unit) => r = 0) (fun (u9 : Unit) t9 => bW D (va_A [(a, .inr (0, fs))] sz) [(a, .inr (0, (fs.set 5 (.int 0))))] t9) (va_A [(a, .inr (0, fs))] sz)) 0 0 (va_A [(a, .inr (0, fs))] sz) := by
  refine mkW (Qc := fun A => va_Qi (fun (r : Int32) (_ : Unit) => r = 0) (fun (u9 : Unit) t9 => bW D A [(a, .inr (0, (fs.set 5 (.int 0))))] t9) A) (by decide) (Nat.le_of_ble_eq_true rfl) ?_
  intro A p e s m below meth c ls hsz htab hB
  obtain ⟨hx, hb, hr, hml, hown, hin, hlk, hE, hK, hP, hD, hS, hA, hN, hl⟩ := hB
  have hown : s.vm.findClass "SeriesVaultLaw" = some m.cls := hown
  have hin : meth.name = "off" := hin
  have hl : lv_has ls 2 [(0, .ref a)] := hl
  obtain ⟨H, hH⟩ : ∃ z, z = s.heap := ⟨_, rfl⟩
  have hP : va_P D vwCl [(a, .inr (0, fs))] H := by rw [hH]; exact hP
  have hS : va_S A s.heap H [] := by rw [hH]; exact hS
  rw [← hH]
  refine lv_aload_n hx hb d_SeriesVaultLaw_off_0 rfl (lv_at hl 0 rfl) ?_
  have hPc := hP.sub (ws' := [(a, .inr (0, fs))]) [0] rfl
  have hDc := hD.sub (ws' := [(a, .inr (0, fs))]) [0] (by decide) rfl
  refine jnV (rnV (As := []) (rest := []) hx hb hml hown hE hK (hN _ _ hS) hPc hDc (c_V_off l D dA H.size a fs h_fs_powered hl_fs) (q0 := 0) rfl rfl w356 w355 w357 w358 w277 rfl rfl ⟨⟨by decide, by decide⟩, rfl⟩ ⟨(Nat.le_of_ble_eq_true rfl), (Nat.le_of_ble_eq_true rfl)⟩ rfl hl.1 rfl (Nat.le_of_ble_eq_true rfl) d_SeriesVaultLaw_off_1 ⟨(Nat.le_of_ble_eq_true rfl), (Nat.le_of_ble_eq_true rfl)⟩) hP hD hS hA [0] [] (wr := []) rfl rfl (by decide) (by decide) (fun u9 H locs hp9 hP hD hS => ?_)
  have hP : va_P D vwCl [(a, .inr (0, (fs.set 5 (.int 0))))] H := hP
  have hD : va_D A [(a, .inr (0, (fs.set 5 (.int 0))))] := hD
  refine lv_goto hx hb d_SeriesVaultLaw_off_4 (tgt := 10) rfl ?_
  refine lv_iconst (v := 0) hx hb d_SeriesVaultLaw_off_10 (by decide) ?_
  exact rtI hx hb hr hlk hP hD hS () rfl [0] rfl rfl (by decide) (Nat.le_of_ble_eq_true rfl) (Nat.le_of_ble_eq_true rfl) d_SeriesVaultLaw_off_11
theorem d_SeriesVaultLaw_cut_0 : decode method_23_code 0 = .ok (.aload_n 0, 1) := by decide +kernel
theorem d_SeriesVaultLaw_cut_1 : decode method_23_code 1 = .ok (.iload_n 1, 1) := by decide +kernel
theorem d_SeriesVaultLaw_cut_2 : decode method_23_code 2 = .ok (.invokevirtual 91, 3) := by decide +kernel
theorem d_SeriesVaultLaw_cut_5 : decode method_23_code 5 = .ok (.goto 9, 3) := by decide +kernel
theorem d_SeriesVaultLaw_cut_14 : decode method_23_code 14 = .ok (.iconst 0, 1) := by decide +kernel
theorem d_SeriesVaultLaw_cut_15 : decode method_23_code 15 = .ok (.ireturn, 1) := by decide +kernel
theorem w359 : Cond.methodLink "SeriesVaultLaw" 91 ⟨"SeriesVault", "cut", "(I)V"⟩ ∈ aW := aw_of (tb_8 (List.mem_of_getElem? (i := 141) rfl)) rfl
theorem w360 : Cond.code ⟨"SeriesVault", "cut", "(I)V"⟩ prog_1_method_11_code 2 none ∈ aW := aw_of (tb_8 (List.mem_of_getElem? (i := 144) rfl)) rfl
theorem w361 : Cond.instanceMethod ⟨"SeriesVault", "cut", "(I)V"⟩ ∈ aW := aw_of (tb_8 (List.mem_of_getElem? (i := 142) rfl)) rfl
theorem w362 : Cond.selects "SeriesVault" ⟨"SeriesVault", "cut", "(I)V"⟩ ⟨"SeriesVault", "cut", "(I)V"⟩ ∈ aW := aw_of (tb_8 (List.mem_of_getElem? (i := 143) rfl)) rfl
set_option maxHeartbeats 4000000 in
set_option maxRecDepth 100000 in
theorem c_K_cut (l : Launch) (htr : l.stackTraces = false) (D : va_G) (dA : Nat → ClassId) (sz : Nat) (a : Nat) (fs : List Value) (n : Int32) (h1 : (-1) ≤ n) (h_fs_powered : fs[5]? = some (.int 1)) (hl_fs : fs.length = 18) : Met l ⟨"SeriesVaultLaw", "cut", "(LSeriesVault;I)I"⟩ [Cond.codeWith ⟨"SeriesVaultLaw", "cut", "(LSeriesVault;I)I"⟩ method_23_code 3 (some FieldType.int) [(0, 5, 8, 29), (0, 5, 11, 19)]] { frames := 3, cells := 0, slots := 0, locals := 41 } (pC D dA [.ref a, .int n] [(a, .inr (0, fs))] sz) (va_Qi (fun (r : Int32) (_ : Unit) => r = 0) (fun (u9 : Unit) t9 => bW D (va_A [(a, .inr (0, fs))] sz) [(a, .inr (0, (fs.set 6 (.int n))))] t9) (va_A [(a, .inr (0, fs))] sz)) 0 0 (va_A [(a, .inr (0, fs))] sz) := by
  refine mkW (Qc := fun A => va_Qi (fun (r : Int32) (_ : Unit) => r = 0) (fun (u9 : Unit) t9 => bW D A [(a, .inr (0, (fs.set 6 (.int n))))] t9) A) (by decide) (Nat.le_of_ble_eq_true rfl) ?_
  intro A p e s m below meth c ls hsz htab hB
  obtain ⟨hx, hb, hr, hml, hown, hin, hlk, hE, hK, hP, hD, hS, hA, hN, hl⟩ := hB
  have hown : s.vm.findClass "SeriesVaultLaw" = some m.cls := hown
  have hin : meth.name = "cut" := hin
  have hl : lv_has ls 3 [(0, .ref a), (1, .int n)] := hl
  obtain ⟨H, hH⟩ : ∃ z, z = s.heap := ⟨_, rfl⟩
  have hP : va_P D vwCl [(a, .inr (0, fs))] H := by rw [hH]; exact hP
  have hS : va_S A s.heap H [] := by rw [hH]; exact hS
  rw [← hH]
  refine lv_aload_n hx hb d_SeriesVaultLaw_cut_0 rfl (lv_at hl 0 rfl) ?_
  refine lv_iload_n hx hb d_SeriesVaultLaw_cut_1 rfl (lv_at hl 1 rfl) ?_
  have hPc := hP.sub (ws' := [(a, .inr (0, fs))]) [0] rfl
  have hDc := hD.sub (ws' := [(a, .inr (0, fs))]) [0] (by decide) rfl
  refine jnV (rnV (As := [.int n]) (rest := []) hx hb hml hown hE hK (hN _ _ hS) hPc hDc (c_V_cut l D dA H.size a fs n h1 h_fs_powered hl_fs) (q0 := 0) rfl rfl w360 w359 w361 w362 w277 rfl rfl ⟨⟨by decide, by decide⟩, rfl⟩ ⟨(Nat.le_of_ble_eq_true rfl), (Nat.le_of_ble_eq_true rfl)⟩ rfl hl.1 rfl (Nat.le_of_ble_eq_true rfl) d_SeriesVaultLaw_cut_2 ⟨(Nat.le_of_ble_eq_true rfl), (Nat.le_of_ble_eq_true rfl)⟩) hP hD hS hA [0] [] (wr := []) rfl rfl (by decide) (by decide) (fun u9 H locs hp9 hP hD hS => ?_)
  have hP : va_P D vwCl [(a, .inr (0, (fs.set 6 (.int n))))] H := hP
  have hD : va_D A [(a, .inr (0, (fs.set 6 (.int n))))] := hD
  refine lv_goto hx hb d_SeriesVaultLaw_cut_5 (tgt := 14) rfl ?_
  refine lv_iconst (v := 0) hx hb d_SeriesVaultLaw_cut_14 (by decide) ?_
  exact rtI hx hb hr hlk hP hD hS () rfl [0] rfl rfl (by decide) (Nat.le_of_ble_eq_true rfl) (Nat.le_of_ble_eq_true rfl) d_SeriesVaultLaw_cut_15
theorem d_SeriesVaultLaw_cut_11 : decode method_23_code 11 = .ok (.astore_n 2, 1) := by decide +kernel
theorem d_SeriesVaultLaw_cut_12 : decode method_23_code 12 = .ok (.iconst 2, 1) := by decide +kernel
theorem d_SeriesVaultLaw_cut_13 : decode method_23_code 13 = .ok (.ireturn, 1) := by decide +kernel
theorem w363 : Cond.classLink "SeriesVaultLaw" 29 "java/lang/IllegalStateException" ∈ aW := aw_of (tb_3 (List.mem_of_getElem? (i := 168) rfl)) rfl
set_option maxHeartbeats 4000000 in
set_option maxRecDepth 100000 in
theorem c_K_cut_x (l : Launch) (htr : l.stackTraces = false) (D : va_G) (dA : Nat → ClassId) (sz : Nat) (a : Nat) (fs : List Value) (n : Int32) (h1 : n < (-1)) (h_fs_powered : fs[5]? = some (.int 1)) (hl_fs : fs.length = 18) : Met l ⟨"SeriesVaultLaw", "cut", "(LSeriesVault;I)I"⟩ [Cond.codeWith ⟨"SeriesVaultLaw", "cut", "(LSeriesVault;I)I"⟩ method_23_code 3 (some FieldType.int) [(0, 5, 8, 29), (0, 5, 11, 19)]] { frames := 7, cells := 1, slots := 6, locals := 102 } (pC D dA [.ref a, .int n] [(a, .inr (0, fs))] sz) (va_Qi (fun (r : Int32) (_ : Unit) => r = 2) (fun (u9 : Unit) t9 => bW D (va_A [(a, .inr (0, fs))] sz) [(a, .inr (0, fs))] t9) (va_A [(a, .inr (0, fs))] sz)) 1 6 (va_A [(a, .inr (0, fs))] sz) := by
  refine mkW (Qc := fun A => va_Qi (fun (r : Int32) (_ : Unit) => r = 2) (fun (u9 : Unit) t9 => bW D A [(a, .inr (0, fs))] t9) A) (by decide) (Nat.le_of_ble_eq_true rfl) ?_
  intro A p e s m below meth c ls hsz htab hB
  obtain ⟨hx, hb, hr, hml, hown, hin, hlk, hE, hK, hP, hD, hS, hA, hN, hl⟩ := hB
  have hown : s.vm.findClass "SeriesVaultLaw" = some m.cls := hown
  have hin : meth.name = "cut" := hin
  have hl : lv_has ls 3 [(0, .ref a), (1, .int n)] := hl
  obtain ⟨H, hH⟩ : ∃ z, z = s.heap := ⟨_, rfl⟩
  have hP : va_P D vwCl [(a, .inr (0, fs))] H := by rw [hH]; exact hP
  have hS : va_S A s.heap H [] := by rw [hH]; exact hS
  rw [← hH]
  refine lv_aload_n hx hb d_SeriesVaultLaw_cut_0 rfl (lv_at hl 0 rfl) ?_
  refine lv_iload_n hx hb d_SeriesVaultLaw_cut_1 rfl (lv_at hl 1 rfl) ?_
  have hPc := hP.sub (ws' := [(a, .inr (0, fs))]) [0] rfl
  have hDc := hD.sub (ws' := [(a, .inr (0, fs))]) [0] (by decide) rfl
  refine xnV (As := [.int n]) (rest := []) hx hb hml hown hE hK (hN _ _ hS) hPc hDc (c_V_cut_x l htr D dA H.size a fs n h1 h_fs_powered hl_fs) (q0 := 0) rfl rfl w360 w359 w361 w362 w277 rfl rfl ⟨⟨by decide, by decide⟩, rfl⟩ ⟨(Nat.le_of_ble_eq_true rfl), (Nat.le_of_ble_eq_true rfl)⟩ rfl hl.1 rfl (Nat.le_of_ble_eq_true rfl) d_SeriesVaultLaw_cut_2 ⟨(Nat.le_of_ble_eq_true rfl), (Nat.le_of_ble_eq_true rfl)⟩ hP hD hS hA [0] [] (wr := []) rfl rfl (by decide) (by decide) (fun x1 ce H locs hP hD hS hce hcv hcl => ?_)
  have hP : va_P D vwCl [(a, .inr (0, fs))] H := hP
  have hD : va_D A [(a, .inr (0, fs))] := hD
  refine xCatch (E := "java/lang/IllegalArgumentException") hown hE [⟨0, 5, 8, 29⟩] ⟨0, 5, 11, 19⟩ [] htab (List.forall_mem_cons.mpr ⟨⟨by decide, "java/lang/IllegalStateException", w363, by decide⟩, fun _ h => absurd h List.not_mem_nil⟩) (by decide) (by decide) w349 w267 hce hcv hcl ?_
  refine lv_astore_n hx hb d_SeriesVaultLaw_cut_11 rfl hl (by decide) rfl (fun ls hl => ?_)
  have hl : lv_has ls 3 [(2, .ref x1), (0, .ref a), (1, .int n)] := hl
  refine lv_iconst (v := 2) hx hb d_SeriesVaultLaw_cut_12 (by decide) ?_
  exact rtI hx hb hr hlk hP hD hS () rfl [0] rfl rfl (by decide) (Nat.le_of_ble_eq_true rfl) (Nat.le_of_ble_eq_true rfl) d_SeriesVaultLaw_cut_13
theorem d_SeriesVaultLaw_start_0 : decode method_25_code 0 = .ok (.aload_n 1, 1) := by decide +kernel
theorem d_SeriesVaultLaw_start_1 : decode method_25_code 1 = .ok (.iconst 0, 1) := by decide +kernel
theorem d_SeriesVaultLaw_start_2 : decode method_25_code 2 = .ok (.aload_n 0, 1) := by decide +kernel
theorem d_SeriesVaultLaw_start_3 : decode method_25_code 3 = .ok (.invokevirtual 97, 3) := by decide +kernel
theorem d_SeriesVaultLaw_start_11 : decode method_25_code 11 = .ok (.astore_n 2, 1) := by decide +kernel
theorem d_SeriesVaultLaw_start_12 : decode method_25_code 12 = .ok (.iconst 1, 1) := by decide +kernel
theorem d_SeriesVaultLaw_start_13 : decode method_25_code 13 = .ok (.ireturn, 1) := by decide +kernel
theorem w364 : Cond.methodLink "SeriesVaultLaw" 97 ⟨"SeriesVault", "start", "()I"⟩ ∈ aW := aw_of (tb_8 (List.mem_of_getElem? (i := 155) rfl)) rfl
theorem w365 : Cond.code ⟨"SeriesVault", "start", "()I"⟩ prog_1_method_18_code 2 (some FieldType.int) ∈ aW := aw_of (tb_8 (List.mem_of_getElem? (i := 158) rfl)) rfl
theorem w366 : Cond.instanceMethod ⟨"SeriesVault", "start", "()I"⟩ ∈ aW := aw_of (tb_8 (List.mem_of_getElem? (i := 156) rfl)) rfl
theorem w367 : Cond.selects "SeriesVault" ⟨"SeriesVault", "start", "()I"⟩ ⟨"SeriesVault", "start", "()I"⟩ ∈ aW := aw_of (tb_8 (List.mem_of_getElem? (i := 157) rfl)) rfl
set_option maxHeartbeats 4000000 in
set_option maxRecDepth 100000 in
theorem c_K_start_x (l : Launch) (htr : l.stackTraces = false) (D : va_G) (dA : Nat → ClassId) (sz : Nat) (a : Nat) (fs : List Value) (o : Nat) (g : Nat → Int64) (h_fs_powered : fs[5]? = some (.int 1)) (hl_fs : fs.length = 18) : Met l ⟨"SeriesVaultLaw", "start", "(LSeriesVault;[J)I"⟩ [Cond.codeWith ⟨"SeriesVaultLaw", "start", "(LSeriesVault;[J)I"⟩ method_25_code 3 (some FieldType.int) [(0, 8, 11, 29)]] { frames := 7, cells := 1, slots := 6, locals := 102 } (pC D dA [.ref a, .ref o] [(a, .inr (0, fs)), (o, .inl (dA 2, 1, .inr (.inl g)))] sz) (va_Qi (fun (r : Int32) (_ : Unit) => r = 1) (fun (u9 : Unit) t9 => bW D (va_A [(a, .inr (0, fs)), (o, .inl (dA 2, 1, .inr (.inl g)))] sz) [(a, .inr (0, fs)), (o, .inl (dA 2, 1, .inr (.inl g)))] t9) (va_A [(a, .inr (0, fs)), (o, .inl (dA 2, 1, .inr (.inl g)))] sz)) 1 6 (va_A [(a, .inr (0, fs)), (o, .inl (dA 2, 1, .inr (.inl g)))] sz) := by
  refine mkW (Qc := fun A => va_Qi (fun (r : Int32) (_ : Unit) => r = 1) (fun (u9 : Unit) t9 => bW D A [(a, .inr (0, fs)), (o, .inl (dA 2, 1, .inr (.inl g)))] t9) A) (by decide) (Nat.le_of_ble_eq_true rfl) ?_
  intro A p e s m below meth c ls hsz htab hB
  obtain ⟨hx, hb, hr, hml, hown, hin, hlk, hE, hK, hP, hD, hS, hA, hN, hl⟩ := hB
  have hown : s.vm.findClass "SeriesVaultLaw" = some m.cls := hown
  have hin : meth.name = "start" := hin
  have hl : lv_has ls 3 [(0, .ref a), (1, .ref o)] := hl
  obtain ⟨H, hH⟩ : ∃ z, z = s.heap := ⟨_, rfl⟩
  have hP : va_P D vwCl [(a, .inr (0, fs)), (o, .inl (dA 2, 1, .inr (.inl g)))] H := by rw [hH]; exact hP
  have hS : va_S A s.heap H [] := by rw [hH]; exact hS
  rw [← hH]
  refine lv_aload_n hx hb d_SeriesVaultLaw_start_0 rfl (lv_at hl 1 rfl) ?_
  refine lv_iconst (v := 0) hx hb d_SeriesVaultLaw_start_1 (by decide) ?_
  refine lv_aload_n hx hb d_SeriesVaultLaw_start_2 rfl (lv_at hl 0 rfl) ?_
  have hPc := hP.sub (ws' := [(a, .inr (0, fs))]) [0] rfl
  have hDc := hD.sub (ws' := [(a, .inr (0, fs))]) [0] (by decide) rfl
  refine xnV (As := []) (rest := [.int 0, .ref o]) hx hb hml hown hE hK (hN _ _ hS) hPc hDc (c_V_start_x l htr D dA H.size a fs h_fs_powered hl_fs) (q0 := 0) rfl rfl w365 w364 w366 w367 w277 rfl rfl ⟨⟨by decide, by decide⟩, rfl⟩ ⟨(Nat.le_of_ble_eq_true rfl), (Nat.le_of_ble_eq_true rfl)⟩ rfl hl.1 rfl (Nat.le_of_ble_eq_true rfl) d_SeriesVaultLaw_start_3 ⟨(Nat.le_of_ble_eq_true rfl), (Nat.le_of_ble_eq_true rfl)⟩ hP hD hS hA [0] [1] (wr := [(o, .inl (dA 2, 1, .inr (.inl g)))]) rfl rfl (by decide) (by decide) (fun x1 ce H locs hP hD hS hce hcv hcl => ?_)
  have hP : va_P D vwCl [(o, .inl (dA 2, 1, .inr (.inl g))), (a, .inr (0, fs))] H := hP
  have hD : va_D A [(o, .inl (dA 2, 1, .inr (.inl g))), (a, .inr (0, fs))] := hD
  refine xCatch (E := "java/lang/IllegalStateException") hown hE [] ⟨0, 8, 11, 29⟩ [] htab (fun _ h => absurd h List.not_mem_nil) (by decide) (by decide) w363 w289 hce hcv hcl ?_
  refine lv_astore_n hx hb d_SeriesVaultLaw_start_11 rfl hl (by decide) rfl (fun ls hl => ?_)
  have hl : lv_has ls 3 [(2, .ref x1), (0, .ref a), (1, .ref o)] := hl
  refine lv_iconst (v := 1) hx hb d_SeriesVaultLaw_start_12 (by decide) ?_
  exact rtI hx hb hr hlk hP hD hS () rfl [1, 0] rfl rfl (by decide) (Nat.le_of_ble_eq_true rfl) (Nat.le_of_ble_eq_true rfl) d_SeriesVaultLaw_start_13
theorem d_SeriesVaultLaw_letter_0 : decode method_8_code 0 = .ok (.aload_n 3, 1) := by decide +kernel
theorem d_SeriesVaultLaw_letter_1 : decode method_8_code 1 = .ok (.iconst 0, 1) := by decide +kernel
theorem d_SeriesVaultLaw_letter_2 : decode method_8_code 2 = .ok (.aload_n 0, 1) := by decide +kernel
theorem d_SeriesVaultLaw_letter_3 : decode method_8_code 3 = .ok (.iload_n 1, 1) := by decide +kernel
theorem d_SeriesVaultLaw_letter_4 : decode method_8_code 4 = .ok (.iload_n 2, 1) := by decide +kernel
theorem d_SeriesVaultLaw_letter_5 : decode method_8_code 5 = .ok (.invokevirtual 37, 3) := by decide +kernel
theorem d_SeriesVaultLaw_letter_17 : decode method_8_code 17 = .ok (.astore 4, 2) := by decide +kernel
theorem d_SeriesVaultLaw_letter_19 : decode method_8_code 19 = .ok (.iconst 2, 1) := by decide +kernel
theorem d_SeriesVaultLaw_letter_20 : decode method_8_code 20 = .ok (.ireturn, 1) := by decide +kernel
theorem w368 : Cond.methodLink "SeriesVaultLaw" 37 ⟨"SeriesVault", "letter", "(II)I"⟩ ∈ aW := aw_of (tb_5 (List.mem_of_getElem? (i := 118) rfl)) rfl
theorem w369 : Cond.code ⟨"SeriesVault", "letter", "(II)I"⟩ prog_1_method_26_code 3 (some FieldType.int) ∈ aW := aw_of (tb_5 (List.mem_of_getElem? (i := 121) rfl)) rfl
theorem w370 : Cond.instanceMethod ⟨"SeriesVault", "letter", "(II)I"⟩ ∈ aW := aw_of (tb_5 (List.mem_of_getElem? (i := 119) rfl)) rfl
theorem w371 : Cond.selects "SeriesVault" ⟨"SeriesVault", "letter", "(II)I"⟩ ⟨"SeriesVault", "letter", "(II)I"⟩ ∈ aW := aw_of (tb_5 (List.mem_of_getElem? (i := 120) rfl)) rfl
set_option maxHeartbeats 4000000 in
set_option maxRecDepth 100000 in
theorem c_K_letter_x (l : Launch) (htr : l.stackTraces = false) (D : va_G) (dA : Nat → ClassId) (sz : Nat) (a : Nat) (fs : List Value) (b : Nat) (gs : List Value) (k : Int32) (n : Int32) (i : Int32) (o : Nat) (g : Nat → Int64) (h0 : n < 0 ∨ k ≤ n) (h_fs_powered : fs[5]? = some (.int 1)) (h_fs_now : fs[11]? = some (.ref b)) (hl_fs : fs.length = 18) (h_gs_seriesCount : gs[8]? = some (.int k)) (hl_gs : gs.length = 11) : Met l ⟨"SeriesVaultLaw", "letter", "(LSeriesVault;II[J)I"⟩ [Cond.codeWith ⟨"SeriesVaultLaw", "letter", "(LSeriesVault;II[J)I"⟩ method_8_code 5 (some FieldType.int) [(0, 10, 13, 29), (0, 10, 17, 35)]] { frames := 8, cells := 1, slots := 6, locals := 124 } (pC D dA [.ref a, .int n, .int i, .ref o] [(a, .inr (0, fs)), (b, .inr (3, gs)), (o, .inl (dA 2, 1, .inr (.inl g)))] sz) (va_Qi (fun (r : Int32) (_ : Unit) => r = 2) (fun (u9 : Unit) t9 => bW D (va_A [(a, .inr (0, fs)), (b, .inr (3, gs)), (o, .inl (dA 2, 1, .inr (.inl g)))] sz) [(a, .inr (0, fs)), (b, .inr (3, gs)), (o, .inl (dA 2, 1, .inr (.inl g)))] t9) (va_A [(a, .inr (0, fs)), (b, .inr (3, gs)), (o, .inl (dA 2, 1, .inr (.inl g)))] sz)) 1 6 (va_A [(a, .inr (0, fs)), (b, .inr (3, gs)), (o, .inl (dA 2, 1, .inr (.inl g)))] sz) := by
  refine mkW (Qc := fun A => va_Qi (fun (r : Int32) (_ : Unit) => r = 2) (fun (u9 : Unit) t9 => bW D A [(a, .inr (0, fs)), (b, .inr (3, gs)), (o, .inl (dA 2, 1, .inr (.inl g)))] t9) A) (by decide) (Nat.le_of_ble_eq_true rfl) ?_
  intro A p e s m below meth c ls hsz htab hB
  obtain ⟨hx, hb, hr, hml, hown, hin, hlk, hE, hK, hP, hD, hS, hA, hN, hl⟩ := hB
  have hown : s.vm.findClass "SeriesVaultLaw" = some m.cls := hown
  have hin : meth.name = "letter" := hin
  have hl : lv_has ls 5 [(0, .ref a), (1, .int n), (2, .int i), (3, .ref o)] := hl
  obtain ⟨H, hH⟩ : ∃ z, z = s.heap := ⟨_, rfl⟩
  have hP : va_P D vwCl [(a, .inr (0, fs)), (b, .inr (3, gs)), (o, .inl (dA 2, 1, .inr (.inl g)))] H := by rw [hH]; exact hP
  have hS : va_S A s.heap H [] := by rw [hH]; exact hS
  rw [← hH]
  refine lv_aload_n hx hb d_SeriesVaultLaw_letter_0 rfl (lv_at hl 3 rfl) ?_
  refine lv_iconst (v := 0) hx hb d_SeriesVaultLaw_letter_1 (by decide) ?_
  refine lv_aload_n hx hb d_SeriesVaultLaw_letter_2 rfl (lv_at hl 0 rfl) ?_
  refine lv_iload_n hx hb d_SeriesVaultLaw_letter_3 rfl (lv_at hl 1 rfl) ?_
  refine lv_iload_n hx hb d_SeriesVaultLaw_letter_4 rfl (lv_at hl 2 rfl) ?_
  have hPc := hP.sub (ws' := [(a, .inr (0, fs)), (b, .inr (3, gs))]) [0, 1] rfl
  have hDc := hD.sub (ws' := [(a, .inr (0, fs)), (b, .inr (3, gs))]) [0, 1] (by decide) rfl
  refine xnV (As := [.int n, .int i]) (rest := [.int 0, .ref o]) hx hb hml hown hE hK (hN _ _ hS) hPc hDc (c_V_letter_x l htr D dA H.size a fs b gs k n i h0 h_fs_powered h_fs_now hl_fs h_gs_seriesCount hl_gs) (q0 := 0) rfl rfl w369 w368 w370 w371 w277 rfl rfl ⟨⟨by decide, by decide⟩, rfl⟩ ⟨(Nat.le_of_ble_eq_true rfl), (Nat.le_of_ble_eq_true rfl)⟩ rfl hl.1 rfl (Nat.le_of_ble_eq_true rfl) d_SeriesVaultLaw_letter_5 ⟨(Nat.le_of_ble_eq_true rfl), (Nat.le_of_ble_eq_true rfl)⟩ hP hD hS hA [0, 1] [2] (wr := [(o, .inl (dA 2, 1, .inr (.inl g)))]) rfl rfl (by decide) (by decide) (fun x1 ce H locs hP hD hS hce hcv hcl => ?_)
  have hP : va_P D vwCl [(o, .inl (dA 2, 1, .inr (.inl g))), (a, .inr (0, fs)), (b, .inr (3, gs))] H := hP
  have hD : va_D A [(o, .inl (dA 2, 1, .inr (.inl g))), (a, .inr (0, fs)), (b, .inr (3, gs))] := hD
  refine xCatch (E := "java/lang/IndexOutOfBoundsException") hown hE [⟨0, 10, 13, 29⟩] ⟨0, 10, 17, 35⟩ [] htab (List.forall_mem_cons.mpr ⟨⟨by decide, "java/lang/IllegalStateException", w363, by decide⟩, fun _ h => absurd h List.not_mem_nil⟩) (by decide) (by decide) w354 w222 hce hcv hcl ?_
  refine lv_astore hx hb d_SeriesVaultLaw_letter_17 hl (by decide) rfl (fun ls hl => ?_)
  have hl : lv_has ls 5 [(4, .ref x1), (0, .ref a), (1, .int n), (2, .int i), (3, .ref o)] := hl
  refine lv_iconst (v := 2) hx hb d_SeriesVaultLaw_letter_19 (by decide) ?_
  exact rtI hx hb hr hlk hP hD hS () rfl [1, 2, 0] rfl rfl (by decide) (Nat.le_of_ble_eq_true rfl) (Nat.le_of_ble_eq_true rfl) d_SeriesVaultLaw_letter_20
theorem d_SeriesVaultLaw_last_0 : decode method_22_code 0 = .ok (.aload_n 2, 1) := by decide +kernel
theorem d_SeriesVaultLaw_last_1 : decode method_22_code 1 = .ok (.iconst 0, 1) := by decide +kernel
theorem d_SeriesVaultLaw_last_2 : decode method_22_code 2 = .ok (.aload_n 0, 1) := by decide +kernel
theorem d_SeriesVaultLaw_last_3 : decode method_22_code 3 = .ok (.iload_n 1, 1) := by decide +kernel
theorem d_SeriesVaultLaw_last_4 : decode method_22_code 4 = .ok (.invokevirtual 87, 3) := by decide +kernel
theorem d_SeriesVaultLaw_last_14 : decode method_22_code 14 = .ok (.astore_n 3, 1) := by decide +kernel
theorem d_SeriesVaultLaw_last_15 : decode method_22_code 15 = .ok (.iconst 2, 1) := by decide +kernel
theorem d_SeriesVaultLaw_last_16 : decode method_22_code 16 = .ok (.ireturn, 1) := by decide +kernel
theorem w372 : Cond.methodLink "SeriesVaultLaw" 87 ⟨"SeriesVault", "last", "(I)J"⟩ ∈ aW := aw_of (tb_8 (List.mem_of_getElem? (i := 134) rfl)) rfl
theorem w373 : Cond.code ⟨"SeriesVault", "last", "(I)J"⟩ prog_1_method_27_code 2 (some FieldType.long) ∈ aW := aw_of (tb_8 (List.mem_of_getElem? (i := 137) rfl)) rfl
theorem w374 : Cond.instanceMethod ⟨"SeriesVault", "last", "(I)J"⟩ ∈ aW := aw_of (tb_8 (List.mem_of_getElem? (i := 135) rfl)) rfl
theorem w375 : Cond.selects "SeriesVault" ⟨"SeriesVault", "last", "(I)J"⟩ ⟨"SeriesVault", "last", "(I)J"⟩ ∈ aW := aw_of (tb_8 (List.mem_of_getElem? (i := 136) rfl)) rfl
set_option maxHeartbeats 4000000 in
set_option maxRecDepth 100000 in
theorem c_K_last_x (l : Launch) (htr : l.stackTraces = false) (D : va_G) (dA : Nat → ClassId) (sz : Nat) (a : Nat) (fs : List Value) (b : Nat) (gs : List Value) (k : Int32) (n : Int32) (o : Nat) (g : Nat → Int64) (h0 : n < 0 ∨ k ≤ n) (h_fs_powered : fs[5]? = some (.int 1)) (h_fs_now : fs[11]? = some (.ref b)) (hl_fs : fs.length = 18) (h_gs_seriesCount : gs[8]? = some (.int k)) (hl_gs : gs.length = 11) : Met l ⟨"SeriesVaultLaw", "last", "(LSeriesVault;I[J)I"⟩ [Cond.codeWith ⟨"SeriesVaultLaw", "last", "(LSeriesVault;I[J)I"⟩ method_22_code 4 (some FieldType.int) [(0, 8, 11, 29), (0, 8, 14, 35)]] { frames := 8, cells := 1, slots := 6, locals := 123 } (pC D dA [.ref a, .int n, .ref o] [(a, .inr (0, fs)), (b, .inr (3, gs)), (o, .inl (dA 2, 1, .inr (.inl g)))] sz) (va_Qi (fun (r : Int32) (_ : Unit) => r = 2) (fun (u9 : Unit) t9 => bW D (va_A [(a, .inr (0, fs)), (b, .inr (3, gs)), (o, .inl (dA 2, 1, .inr (.inl g)))] sz) [(a, .inr (0, fs)), (b, .inr (3, gs)), (o, .inl (dA 2, 1, .inr (.inl g)))] t9) (va_A [(a, .inr (0, fs)), (b, .inr (3, gs)), (o, .inl (dA 2, 1, .inr (.inl g)))] sz)) 1 6 (va_A [(a, .inr (0, fs)), (b, .inr (3, gs)), (o, .inl (dA 2, 1, .inr (.inl g)))] sz) := by
  refine mkW (Qc := fun A => va_Qi (fun (r : Int32) (_ : Unit) => r = 2) (fun (u9 : Unit) t9 => bW D A [(a, .inr (0, fs)), (b, .inr (3, gs)), (o, .inl (dA 2, 1, .inr (.inl g)))] t9) A) (by decide) (Nat.le_of_ble_eq_true rfl) ?_
  intro A p e s m below meth c ls hsz htab hB
  obtain ⟨hx, hb, hr, hml, hown, hin, hlk, hE, hK, hP, hD, hS, hA, hN, hl⟩ := hB
  have hown : s.vm.findClass "SeriesVaultLaw" = some m.cls := hown
  have hin : meth.name = "last" := hin
  have hl : lv_has ls 4 [(0, .ref a), (1, .int n), (2, .ref o)] := hl
  obtain ⟨H, hH⟩ : ∃ z, z = s.heap := ⟨_, rfl⟩
  have hP : va_P D vwCl [(a, .inr (0, fs)), (b, .inr (3, gs)), (o, .inl (dA 2, 1, .inr (.inl g)))] H := by rw [hH]; exact hP
  have hS : va_S A s.heap H [] := by rw [hH]; exact hS
  rw [← hH]
  refine lv_aload_n hx hb d_SeriesVaultLaw_last_0 rfl (lv_at hl 2 rfl) ?_
  refine lv_iconst (v := 0) hx hb d_SeriesVaultLaw_last_1 (by decide) ?_
  refine lv_aload_n hx hb d_SeriesVaultLaw_last_2 rfl (lv_at hl 0 rfl) ?_
  refine lv_iload_n hx hb d_SeriesVaultLaw_last_3 rfl (lv_at hl 1 rfl) ?_
  have hPc := hP.sub (ws' := [(a, .inr (0, fs)), (b, .inr (3, gs))]) [0, 1] rfl
  have hDc := hD.sub (ws' := [(a, .inr (0, fs)), (b, .inr (3, gs))]) [0, 1] (by decide) rfl
  refine xnV (As := [.int n]) (rest := [.int 0, .ref o]) hx hb hml hown hE hK (hN _ _ hS) hPc hDc (c_V_last_x l htr D dA H.size a fs b gs k n h0 h_fs_powered h_fs_now hl_fs h_gs_seriesCount hl_gs) (q0 := 0) rfl rfl w373 w372 w374 w375 w277 rfl rfl ⟨⟨by decide, by decide⟩, rfl⟩ ⟨(Nat.le_of_ble_eq_true rfl), (Nat.le_of_ble_eq_true rfl)⟩ rfl hl.1 rfl (Nat.le_of_ble_eq_true rfl) d_SeriesVaultLaw_last_4 ⟨(Nat.le_of_ble_eq_true rfl), (Nat.le_of_ble_eq_true rfl)⟩ hP hD hS hA [0, 1] [2] (wr := [(o, .inl (dA 2, 1, .inr (.inl g)))]) rfl rfl (by decide) (by decide) (fun x1 ce H locs hP hD hS hce hcv hcl => ?_)
  have hP : va_P D vwCl [(o, .inl (dA 2, 1, .inr (.inl g))), (a, .inr (0, fs)), (b, .inr (3, gs))] H := hP
  have hD : va_D A [(o, .inl (dA 2, 1, .inr (.inl g))), (a, .inr (0, fs)), (b, .inr (3, gs))] := hD
  refine xCatch (E := "java/lang/IndexOutOfBoundsException") hown hE [⟨0, 8, 11, 29⟩] ⟨0, 8, 14, 35⟩ [] htab (List.forall_mem_cons.mpr ⟨⟨by decide, "java/lang/IllegalStateException", w363, by decide⟩, fun _ h => absurd h List.not_mem_nil⟩) (by decide) (by decide) w354 w222 hce hcv hcl ?_
  refine lv_astore_n hx hb d_SeriesVaultLaw_last_14 rfl hl (by decide) rfl (fun ls hl => ?_)
  have hl : lv_has ls 4 [(3, .ref x1), (0, .ref a), (1, .int n), (2, .ref o)] := hl
  refine lv_iconst (v := 2) hx hb d_SeriesVaultLaw_last_15 (by decide) ?_
  exact rtI hx hb hr hlk hP hD hS () rfl [1, 2, 0] rfl rfl (by decide) (Nat.le_of_ble_eq_true rfl) (Nat.le_of_ble_eq_true rfl) d_SeriesVaultLaw_last_16
theorem d_SeriesVaultLaw_append_0 : decode method_9_code 0 = .ok (.aload 6, 2) := by decide +kernel
theorem d_SeriesVaultLaw_append_2 : decode method_9_code 2 = .ok (.iconst 0, 1) := by decide +kernel
theorem d_SeriesVaultLaw_append_3 : decode method_9_code 3 = .ok (.aload_n 0, 1) := by decide +kernel
theorem d_SeriesVaultLaw_append_4 : decode method_9_code 4 = .ok (.iload_n 1, 1) := by decide +kernel
theorem d_SeriesVaultLaw_append_5 : decode method_9_code 5 = .ok (.lload_n 2, 1) := by decide +kernel
theorem d_SeriesVaultLaw_append_6 : decode method_9_code 6 = .ok (.lload 4, 2) := by decide +kernel
theorem d_SeriesVaultLaw_append_8 : decode method_9_code 8 = .ok (.invokevirtual 41, 3) := by decide +kernel
theorem d_SeriesVaultLaw_append_20 : decode method_9_code 20 = .ok (.astore 7, 2) := by decide +kernel
theorem d_SeriesVaultLaw_append_22 : decode method_9_code 22 = .ok (.iconst 2, 1) := by decide +kernel
theorem d_SeriesVaultLaw_append_23 : decode method_9_code 23 = .ok (.ireturn, 1) := by decide +kernel
theorem w376 : Cond.methodLink "SeriesVaultLaw" 41 ⟨"SeriesVault", "append", "(IJJ)I"⟩ ∈ aW := aw_of (tb_5 (List.mem_of_getElem? (i := 133) rfl)) rfl
theorem w377 : Cond.code ⟨"SeriesVault", "append", "(IJJ)I"⟩ prog_1_method_28_code 6 (some FieldType.int) ∈ aW := aw_of (tb_5 (List.mem_of_getElem? (i := 136) rfl)) rfl
theorem w378 : Cond.instanceMethod ⟨"SeriesVault", "append", "(IJJ)I"⟩ ∈ aW := aw_of (tb_5 (List.mem_of_getElem? (i := 134) rfl)) rfl
theorem w379 : Cond.selects "SeriesVault" ⟨"SeriesVault", "append", "(IJJ)I"⟩ ⟨"SeriesVault", "append", "(IJJ)I"⟩ ∈ aW := aw_of (tb_5 (List.mem_of_getElem? (i := 135) rfl)) rfl
set_option maxHeartbeats 4000000 in
set_option maxRecDepth 100000 in
theorem c_K_append_x (l : Launch) (htr : l.stackTraces = false) (D : va_G) (dA : Nat → ClassId) (sz : Nat) (a : Nat) (fs : List Value) (b : Nat) (gs : List Value) (k : Int32) (n : Int32) (t : Int64) (v : Int64) (o : Nat) (g : Nat → Int64) (h0 : n < 0 ∨ k ≤ n) (h_fs_powered : fs[5]? = some (.int 1)) (h_fs_now : fs[11]? = some (.ref b)) (hl_fs : fs.length = 18) (h_gs_seriesCount : gs[8]? = some (.int k)) (hl_gs : gs.length = 11) : Met l ⟨"SeriesVaultLaw", "append", "(LSeriesVault;IJJ[J)I"⟩ [Cond.codeWith ⟨"SeriesVaultLaw", "append", "(LSeriesVault;IJJ[J)I"⟩ method_9_code 8 (some FieldType.int) [(0, 13, 16, 29), (0, 13, 20, 35), (0, 13, 24, 19), (0, 13, 28, 13)]] { frames := 8, cells := 1, slots := 6, locals := 127 } (pC D dA [.ref a, .int n, .long t, .long v, .ref o] [(a, .inr (0, fs)), (b, .inr (3, gs)), (o, .inl (dA 2, 1, .inr (.inl g)))] sz) (va_Qi (fun (r : Int32) (_ : Unit) => r = 2) (fun (u9 : Unit) t9 => bW D (va_A [(a, .inr (0, fs)), (b, .inr (3, gs)), (o, .inl (dA 2, 1, .inr (.inl g)))] sz) [(a, .inr (0, fs)), (b, .inr (3, gs)), (o, .inl (dA 2, 1, .inr (.inl g)))] t9) (va_A [(a, .inr (0, fs)), (b, .inr (3, gs)), (o, .inl (dA 2, 1, .inr (.inl g)))] sz)) 1 6 (va_A [(a, .inr (0, fs)), (b, .inr (3, gs)), (o, .inl (dA 2, 1, .inr (.inl g)))] sz) := by
  refine mkW (Qc := fun A => va_Qi (fun (r : Int32) (_ : Unit) => r = 2) (fun (u9 : Unit) t9 => bW D A [(a, .inr (0, fs)), (b, .inr (3, gs)), (o, .inl (dA 2, 1, .inr (.inl g)))] t9) A) (by decide) (Nat.le_of_ble_eq_true rfl) ?_
  intro A p e s m below meth c ls hsz htab hB
  obtain ⟨hx, hb, hr, hml, hown, hin, hlk, hE, hK, hP, hD, hS, hA, hN, hl⟩ := hB
  have hown : s.vm.findClass "SeriesVaultLaw" = some m.cls := hown
  have hin : meth.name = "append" := hin
  have hl : lv_has ls 8 [(0, .ref a), (1, .int n), (2, .long t), (4, .long v), (6, .ref o)] := hl
  obtain ⟨H, hH⟩ : ∃ z, z = s.heap := ⟨_, rfl⟩
  have hP : va_P D vwCl [(a, .inr (0, fs)), (b, .inr (3, gs)), (o, .inl (dA 2, 1, .inr (.inl g)))] H := by rw [hH]; exact hP
  have hS : va_S A s.heap H [] := by rw [hH]; exact hS
  rw [← hH]
  refine lv_aload hx hb d_SeriesVaultLaw_append_0 (lv_at hl 4 rfl) ?_
  refine lv_iconst (v := 0) hx hb d_SeriesVaultLaw_append_2 (by decide) ?_
  refine lv_aload_n hx hb d_SeriesVaultLaw_append_3 rfl (lv_at hl 0 rfl) ?_
  refine lv_iload_n hx hb d_SeriesVaultLaw_append_4 rfl (lv_at hl 1 rfl) ?_
  refine lv_lload_n hx hb d_SeriesVaultLaw_append_5 rfl (lv_at hl 2 rfl) ?_
  refine lv_lload hx hb d_SeriesVaultLaw_append_6 (lv_at hl 3 rfl) ?_
  have hPc := hP.sub (ws' := [(a, .inr (0, fs)), (b, .inr (3, gs))]) [0, 1] rfl
  have hDc := hD.sub (ws' := [(a, .inr (0, fs)), (b, .inr (3, gs))]) [0, 1] (by decide) rfl
  refine xnV (As := [.int n, .long t, .long v]) (rest := [.int 0, .ref o]) hx hb hml hown hE hK (hN _ _ hS) hPc hDc (c_V_append_x l htr D dA H.size a fs b gs k n t v h0 h_fs_powered h_fs_now hl_fs h_gs_seriesCount hl_gs) (q0 := 0) rfl rfl w377 w376 w378 w379 w277 rfl rfl ⟨⟨by decide, by decide⟩, rfl⟩ ⟨(Nat.le_of_ble_eq_true rfl), (Nat.le_of_ble_eq_true rfl)⟩ rfl hl.1 rfl (Nat.le_of_ble_eq_true rfl) d_SeriesVaultLaw_append_8 ⟨(Nat.le_of_ble_eq_true rfl), (Nat.le_of_ble_eq_true rfl)⟩ hP hD hS hA [0, 1] [2] (wr := [(o, .inl (dA 2, 1, .inr (.inl g)))]) rfl rfl (by decide) (by decide) (fun x1 ce H locs hP hD hS hce hcv hcl => ?_)
  have hP : va_P D vwCl [(o, .inl (dA 2, 1, .inr (.inl g))), (a, .inr (0, fs)), (b, .inr (3, gs))] H := hP
  have hD : va_D A [(o, .inl (dA 2, 1, .inr (.inl g))), (a, .inr (0, fs)), (b, .inr (3, gs))] := hD
  refine xCatch (E := "java/lang/IndexOutOfBoundsException") hown hE [⟨0, 13, 16, 29⟩] ⟨0, 13, 20, 35⟩ [⟨0, 13, 24, 19⟩, ⟨0, 13, 28, 13⟩] htab (List.forall_mem_cons.mpr ⟨⟨by decide, "java/lang/IllegalStateException", w363, by decide⟩, fun _ h => absurd h List.not_mem_nil⟩) (by decide) (by decide) w354 w222 hce hcv hcl ?_
  refine lv_astore hx hb d_SeriesVaultLaw_append_20 hl (by decide) rfl (fun ls hl => ?_)
  have hl : lv_has ls 8 [(7, .ref x1), (0, .ref a), (1, .int n), (2, .long t), (4, .long v), (6, .ref o)] := hl
  refine lv_iconst (v := 2) hx hb d_SeriesVaultLaw_append_22 (by decide) ?_
  exact rtI hx hb hr hlk hP hD hS () rfl [1, 2, 0] rfl rfl (by decide) (Nat.le_of_ble_eq_true rfl) (Nat.le_of_ble_eq_true rfl) d_SeriesVaultLaw_append_23
theorem d_SeriesVaultLaw_bulk_0 : decode method_10_code 0 = .ok (.aload_n 2, 1) := by decide +kernel
theorem d_SeriesVaultLaw_bulk_1 : decode method_10_code 1 = .ok (.iconst 0, 1) := by decide +kernel
theorem d_SeriesVaultLaw_bulk_2 : decode method_10_code 2 = .ok (.aload_n 0, 1) := by decide +kernel
theorem d_SeriesVaultLaw_bulk_3 : decode method_10_code 3 = .ok (.iload_n 1, 1) := by decide +kernel
theorem d_SeriesVaultLaw_bulk_4 : decode method_10_code 4 = .ok (.invokevirtual 45, 3) := by decide +kernel
theorem d_SeriesVaultLaw_bulk_15 : decode method_10_code 15 = .ok (.astore_n 3, 1) := by decide +kernel
theorem d_SeriesVaultLaw_bulk_16 : decode method_10_code 16 = .ok (.iconst 2, 1) := by decide +kernel
theorem d_SeriesVaultLaw_bulk_17 : decode method_10_code 17 = .ok (.ireturn, 1) := by decide +kernel
theorem w380 : Cond.methodLink "SeriesVaultLaw" 45 ⟨"SeriesVault", "bulk", "(I)I"⟩ ∈ aW := aw_of (tb_5 (List.mem_of_getElem? (i := 166) rfl)) rfl
theorem w381 : Cond.code ⟨"SeriesVault", "bulk", "(I)I"⟩ prog_1_method_33_code 6 (some FieldType.int) ∈ aW := aw_of (tb_5 (List.mem_of_getElem? (i := 169) rfl)) rfl
theorem w382 : Cond.instanceMethod ⟨"SeriesVault", "bulk", "(I)I"⟩ ∈ aW := aw_of (tb_5 (List.mem_of_getElem? (i := 167) rfl)) rfl
theorem w383 : Cond.selects "SeriesVault" ⟨"SeriesVault", "bulk", "(I)I"⟩ ⟨"SeriesVault", "bulk", "(I)I"⟩ ∈ aW := aw_of (tb_5 (List.mem_of_getElem? (i := 168) rfl)) rfl
set_option maxHeartbeats 4000000 in
set_option maxRecDepth 100000 in
theorem c_K_bulk_x (l : Launch) (htr : l.stackTraces = false) (D : va_G) (dA : Nat → ClassId) (sz : Nat) (a : Nat) (fs : List Value) (b : Nat) (gs : List Value) (k : Int32) (n : Int32) (o : Nat) (g : Nat → Int64) (h0 : n < 0 ∨ k ≤ n) (h_fs_powered : fs[5]? = some (.int 1)) (h_fs_now : fs[11]? = some (.ref b)) (hl_fs : fs.length = 18) (h_gs_seriesCount : gs[8]? = some (.int k)) (hl_gs : gs.length = 11) : Met l ⟨"SeriesVaultLaw", "bulk", "(LSeriesVault;I[J)I"⟩ [Cond.codeWith ⟨"SeriesVaultLaw", "bulk", "(LSeriesVault;I[J)I"⟩ method_10_code 4 (some FieldType.int) [(0, 9, 12, 29), (0, 9, 15, 35)]] { frames := 8, cells := 1, slots := 6, locals := 127 } (pC D dA [.ref a, .int n, .ref o] [(a, .inr (0, fs)), (b, .inr (3, gs)), (o, .inl (dA 2, 1, .inr (.inl g)))] sz) (va_Qi (fun (r : Int32) (_ : Unit) => r = 2) (fun (u9 : Unit) t9 => bW D (va_A [(a, .inr (0, fs)), (b, .inr (3, gs)), (o, .inl (dA 2, 1, .inr (.inl g)))] sz) [(a, .inr (0, fs)), (b, .inr (3, gs)), (o, .inl (dA 2, 1, .inr (.inl g)))] t9) (va_A [(a, .inr (0, fs)), (b, .inr (3, gs)), (o, .inl (dA 2, 1, .inr (.inl g)))] sz)) 1 6 (va_A [(a, .inr (0, fs)), (b, .inr (3, gs)), (o, .inl (dA 2, 1, .inr (.inl g)))] sz) := by
  refine mkW (Qc := fun A => va_Qi (fun (r : Int32) (_ : Unit) => r = 2) (fun (u9 : Unit) t9 => bW D A [(a, .inr (0, fs)), (b, .inr (3, gs)), (o, .inl (dA 2, 1, .inr (.inl g)))] t9) A) (by decide) (Nat.le_of_ble_eq_true rfl) ?_
  intro A p e s m below meth c ls hsz htab hB
  obtain ⟨hx, hb, hr, hml, hown, hin, hlk, hE, hK, hP, hD, hS, hA, hN, hl⟩ := hB
  have hown : s.vm.findClass "SeriesVaultLaw" = some m.cls := hown
  have hin : meth.name = "bulk" := hin
  have hl : lv_has ls 4 [(0, .ref a), (1, .int n), (2, .ref o)] := hl
  obtain ⟨H, hH⟩ : ∃ z, z = s.heap := ⟨_, rfl⟩
  have hP : va_P D vwCl [(a, .inr (0, fs)), (b, .inr (3, gs)), (o, .inl (dA 2, 1, .inr (.inl g)))] H := by rw [hH]; exact hP
  have hS : va_S A s.heap H [] := by rw [hH]; exact hS
  rw [← hH]
  refine lv_aload_n hx hb d_SeriesVaultLaw_bulk_0 rfl (lv_at hl 2 rfl) ?_
  refine lv_iconst (v := 0) hx hb d_SeriesVaultLaw_bulk_1 (by decide) ?_
  refine lv_aload_n hx hb d_SeriesVaultLaw_bulk_2 rfl (lv_at hl 0 rfl) ?_
  refine lv_iload_n hx hb d_SeriesVaultLaw_bulk_3 rfl (lv_at hl 1 rfl) ?_
  have hPc := hP.sub (ws' := [(a, .inr (0, fs)), (b, .inr (3, gs))]) [0, 1] rfl
  have hDc := hD.sub (ws' := [(a, .inr (0, fs)), (b, .inr (3, gs))]) [0, 1] (by decide) rfl
  refine xnV (As := [.int n]) (rest := [.int 0, .ref o]) hx hb hml hown hE hK (hN _ _ hS) hPc hDc (c_V_bulk_x l htr D dA H.size a fs b gs k n h0 h_fs_powered h_fs_now hl_fs h_gs_seriesCount hl_gs) (q0 := 0) rfl rfl w381 w380 w382 w383 w277 rfl rfl ⟨⟨by decide, by decide⟩, rfl⟩ ⟨(Nat.le_of_ble_eq_true rfl), (Nat.le_of_ble_eq_true rfl)⟩ rfl hl.1 rfl (Nat.le_of_ble_eq_true rfl) d_SeriesVaultLaw_bulk_4 ⟨(Nat.le_of_ble_eq_true rfl), (Nat.le_of_ble_eq_true rfl)⟩ hP hD hS hA [0, 1] [2] (wr := [(o, .inl (dA 2, 1, .inr (.inl g)))]) rfl rfl (by decide) (by decide) (fun x1 ce H locs hP hD hS hce hcv hcl => ?_)
  have hP : va_P D vwCl [(o, .inl (dA 2, 1, .inr (.inl g))), (a, .inr (0, fs)), (b, .inr (3, gs))] H := hP
  have hD : va_D A [(o, .inl (dA 2, 1, .inr (.inl g))), (a, .inr (0, fs)), (b, .inr (3, gs))] := hD
  refine xCatch (E := "java/lang/IndexOutOfBoundsException") hown hE [⟨0, 9, 12, 29⟩] ⟨0, 9, 15, 35⟩ [] htab (List.forall_mem_cons.mpr ⟨⟨by decide, "java/lang/IllegalStateException", w363, by decide⟩, fun _ h => absurd h List.not_mem_nil⟩) (by decide) (by decide) w354 w222 hce hcv hcl ?_
  refine lv_astore_n hx hb d_SeriesVaultLaw_bulk_15 rfl hl (by decide) rfl (fun ls hl => ?_)
  have hl : lv_has ls 4 [(3, .ref x1), (0, .ref a), (1, .int n), (2, .ref o)] := hl
  refine lv_iconst (v := 2) hx hb d_SeriesVaultLaw_bulk_16 (by decide) ?_
  exact rtI hx hb hr hlk hP hD hS () rfl [1, 2, 0] rfl rfl (by decide) (Nat.le_of_ble_eq_true rfl) (Nat.le_of_ble_eq_true rfl) d_SeriesVaultLaw_bulk_17
theorem d_SeriesVaultLaw_delete_0 : decode method_11_code 0 = .ok (.aload 6, 2) := by decide +kernel
theorem d_SeriesVaultLaw_delete_2 : decode method_11_code 2 = .ok (.iconst 0, 1) := by decide +kernel
theorem d_SeriesVaultLaw_delete_3 : decode method_11_code 3 = .ok (.aload_n 0, 1) := by decide +kernel
theorem d_SeriesVaultLaw_delete_4 : decode method_11_code 4 = .ok (.iload_n 1, 1) := by decide +kernel
theorem d_SeriesVaultLaw_delete_5 : decode method_11_code 5 = .ok (.lload_n 2, 1) := by decide +kernel
theorem d_SeriesVaultLaw_delete_6 : decode method_11_code 6 = .ok (.lload 4, 2) := by decide +kernel
theorem d_SeriesVaultLaw_delete_8 : decode method_11_code 8 = .ok (.invokevirtual 48, 3) := by decide +kernel
theorem d_SeriesVaultLaw_delete_20 : decode method_11_code 20 = .ok (.astore 7, 2) := by decide +kernel
theorem d_SeriesVaultLaw_delete_22 : decode method_11_code 22 = .ok (.iconst 2, 1) := by decide +kernel
theorem d_SeriesVaultLaw_delete_23 : decode method_11_code 23 = .ok (.ireturn, 1) := by decide +kernel
theorem w384 : Cond.methodLink "SeriesVaultLaw" 48 ⟨"SeriesVault", "delete", "(IJJ)I"⟩ ∈ aW := aw_of (tb_5 (List.mem_of_getElem? (i := 177) rfl)) rfl
theorem w385 : Cond.code ⟨"SeriesVault", "delete", "(IJJ)I"⟩ prog_1_method_34_code 8 (some FieldType.int) ∈ aW := aw_of (tb_5 (List.mem_of_getElem? (i := 180) rfl)) rfl
theorem w386 : Cond.instanceMethod ⟨"SeriesVault", "delete", "(IJJ)I"⟩ ∈ aW := aw_of (tb_5 (List.mem_of_getElem? (i := 178) rfl)) rfl
theorem w387 : Cond.selects "SeriesVault" ⟨"SeriesVault", "delete", "(IJJ)I"⟩ ⟨"SeriesVault", "delete", "(IJJ)I"⟩ ∈ aW := aw_of (tb_5 (List.mem_of_getElem? (i := 179) rfl)) rfl
set_option maxHeartbeats 4000000 in
set_option maxRecDepth 100000 in
theorem c_K_delete_x (l : Launch) (htr : l.stackTraces = false) (D : va_G) (dA : Nat → ClassId) (sz : Nat) (a : Nat) (fs : List Value) (b : Nat) (gs : List Value) (k : Int32) (n : Int32) (t : Int64) (v : Int64) (o : Nat) (g : Nat → Int64) (h0 : n < 0 ∨ k ≤ n) (h_fs_powered : fs[5]? = some (.int 1)) (h_fs_now : fs[11]? = some (.ref b)) (hl_fs : fs.length = 18) (h_gs_seriesCount : gs[8]? = some (.int k)) (hl_gs : gs.length = 11) : Met l ⟨"SeriesVaultLaw", "delete", "(LSeriesVault;IJJ[J)I"⟩ [Cond.codeWith ⟨"SeriesVaultLaw", "delete", "(LSeriesVault;IJJ[J)I"⟩ method_11_code 8 (some FieldType.int) [(0, 13, 16, 29), (0, 13, 20, 35), (0, 13, 24, 19), (0, 13, 28, 13)]] { frames := 8, cells := 1, slots := 6, locals := 129 } (pC D dA [.ref a, .int n, .long t, .long v, .ref o] [(a, .inr (0, fs)), (b, .inr (3, gs)), (o, .inl (dA 2, 1, .inr (.inl g)))] sz) (va_Qi (fun (r : Int32) (_ : Unit) => r = 2) (fun (u9 : Unit) t9 => bW D (va_A [(a, .inr (0, fs)), (b, .inr (3, gs)), (o, .inl (dA 2, 1, .inr (.inl g)))] sz) [(a, .inr (0, fs)), (b, .inr (3, gs)), (o, .inl (dA 2, 1, .inr (.inl g)))] t9) (va_A [(a, .inr (0, fs)), (b, .inr (3, gs)), (o, .inl (dA 2, 1, .inr (.inl g)))] sz)) 1 6 (va_A [(a, .inr (0, fs)), (b, .inr (3, gs)), (o, .inl (dA 2, 1, .inr (.inl g)))] sz) := by
  refine mkW (Qc := fun A => va_Qi (fun (r : Int32) (_ : Unit) => r = 2) (fun (u9 : Unit) t9 => bW D A [(a, .inr (0, fs)), (b, .inr (3, gs)), (o, .inl (dA 2, 1, .inr (.inl g)))] t9) A) (by decide) (Nat.le_of_ble_eq_true rfl) ?_
  intro A p e s m below meth c ls hsz htab hB
  obtain ⟨hx, hb, hr, hml, hown, hin, hlk, hE, hK, hP, hD, hS, hA, hN, hl⟩ := hB
  have hown : s.vm.findClass "SeriesVaultLaw" = some m.cls := hown
  have hin : meth.name = "delete" := hin
  have hl : lv_has ls 8 [(0, .ref a), (1, .int n), (2, .long t), (4, .long v), (6, .ref o)] := hl
  obtain ⟨H, hH⟩ : ∃ z, z = s.heap := ⟨_, rfl⟩
  have hP : va_P D vwCl [(a, .inr (0, fs)), (b, .inr (3, gs)), (o, .inl (dA 2, 1, .inr (.inl g)))] H := by rw [hH]; exact hP
  have hS : va_S A s.heap H [] := by rw [hH]; exact hS
  rw [← hH]
  refine lv_aload hx hb d_SeriesVaultLaw_delete_0 (lv_at hl 4 rfl) ?_
  refine lv_iconst (v := 0) hx hb d_SeriesVaultLaw_delete_2 (by decide) ?_
  refine lv_aload_n hx hb d_SeriesVaultLaw_delete_3 rfl (lv_at hl 0 rfl) ?_
  refine lv_iload_n hx hb d_SeriesVaultLaw_delete_4 rfl (lv_at hl 1 rfl) ?_
  refine lv_lload_n hx hb d_SeriesVaultLaw_delete_5 rfl (lv_at hl 2 rfl) ?_
  refine lv_lload hx hb d_SeriesVaultLaw_delete_6 (lv_at hl 3 rfl) ?_
  have hPc := hP.sub (ws' := [(a, .inr (0, fs)), (b, .inr (3, gs))]) [0, 1] rfl
  have hDc := hD.sub (ws' := [(a, .inr (0, fs)), (b, .inr (3, gs))]) [0, 1] (by decide) rfl
  refine xnV (As := [.int n, .long t, .long v]) (rest := [.int 0, .ref o]) hx hb hml hown hE hK (hN _ _ hS) hPc hDc (c_V_delete_x l htr D dA H.size a fs b gs k n t v h0 h_fs_powered h_fs_now hl_fs h_gs_seriesCount hl_gs) (q0 := 0) rfl rfl w385 w384 w386 w387 w277 rfl rfl ⟨⟨by decide, by decide⟩, rfl⟩ ⟨(Nat.le_of_ble_eq_true rfl), (Nat.le_of_ble_eq_true rfl)⟩ rfl hl.1 rfl (Nat.le_of_ble_eq_true rfl) d_SeriesVaultLaw_delete_8 ⟨(Nat.le_of_ble_eq_true rfl), (Nat.le_of_ble_eq_true rfl)⟩ hP hD hS hA [0, 1] [2] (wr := [(o, .inl (dA 2, 1, .inr (.inl g)))]) rfl rfl (by decide) (by decide) (fun x1 ce H locs hP hD hS hce hcv hcl => ?_)
  have hP : va_P D vwCl [(o, .inl (dA 2, 1, .inr (.inl g))), (a, .inr (0, fs)), (b, .inr (3, gs))] H := hP
  have hD : va_D A [(o, .inl (dA 2, 1, .inr (.inl g))), (a, .inr (0, fs)), (b, .inr (3, gs))] := hD
  refine xCatch (E := "java/lang/IndexOutOfBoundsException") hown hE [⟨0, 13, 16, 29⟩] ⟨0, 13, 20, 35⟩ [⟨0, 13, 24, 19⟩, ⟨0, 13, 28, 13⟩] htab (List.forall_mem_cons.mpr ⟨⟨by decide, "java/lang/IllegalStateException", w363, by decide⟩, fun _ h => absurd h List.not_mem_nil⟩) (by decide) (by decide) w354 w222 hce hcv hcl ?_
  refine lv_astore hx hb d_SeriesVaultLaw_delete_20 hl (by decide) rfl (fun ls hl => ?_)
  have hl : lv_has ls 8 [(7, .ref x1), (0, .ref a), (1, .int n), (2, .long t), (4, .long v), (6, .ref o)] := hl
  refine lv_iconst (v := 2) hx hb d_SeriesVaultLaw_delete_22 (by decide) ?_
  exact rtI hx hb hr hlk hP hD hS () rfl [1, 2, 0] rfl rfl (by decide) (Nat.le_of_ble_eq_true rfl) (Nat.le_of_ble_eq_true rfl) d_SeriesVaultLaw_delete_23
theorem d_SeriesVaultLaw_compact_0 : decode method_14_code 0 = .ok (.aload_n 2, 1) := by decide +kernel
theorem d_SeriesVaultLaw_compact_1 : decode method_14_code 1 = .ok (.iconst 0, 1) := by decide +kernel
theorem d_SeriesVaultLaw_compact_2 : decode method_14_code 2 = .ok (.aload_n 0, 1) := by decide +kernel
theorem d_SeriesVaultLaw_compact_3 : decode method_14_code 3 = .ok (.iload_n 1, 1) := by decide +kernel
theorem d_SeriesVaultLaw_compact_4 : decode method_14_code 4 = .ok (.invokevirtual 58, 3) := by decide +kernel
theorem d_SeriesVaultLaw_compact_15 : decode method_14_code 15 = .ok (.astore_n 3, 1) := by decide +kernel
theorem d_SeriesVaultLaw_compact_16 : decode method_14_code 16 = .ok (.iconst 2, 1) := by decide +kernel
theorem d_SeriesVaultLaw_compact_17 : decode method_14_code 17 = .ok (.ireturn, 1) := by decide +kernel
theorem w388 : Cond.methodLink "SeriesVaultLaw" 58 ⟨"SeriesVault", "compact", "(I)I"⟩ ∈ aW := aw_of (tb_6 (List.mem_of_getElem? (i := 119) rfl)) rfl
theorem w389 : Cond.code ⟨"SeriesVault", "compact", "(I)I"⟩ prog_1_method_40_code 4 (some FieldType.int) ∈ aW := aw_of (tb_6 (List.mem_of_getElem? (i := 122) rfl)) rfl
theorem w390 : Cond.instanceMethod ⟨"SeriesVault", "compact", "(I)I"⟩ ∈ aW := aw_of (tb_6 (List.mem_of_getElem? (i := 120) rfl)) rfl
theorem w391 : Cond.selects "SeriesVault" ⟨"SeriesVault", "compact", "(I)I"⟩ ⟨"SeriesVault", "compact", "(I)I"⟩ ∈ aW := aw_of (tb_6 (List.mem_of_getElem? (i := 121) rfl)) rfl
set_option maxHeartbeats 4000000 in
set_option maxRecDepth 100000 in
theorem c_K_compact_x (l : Launch) (htr : l.stackTraces = false) (D : va_G) (dA : Nat → ClassId) (sz : Nat) (a : Nat) (fs : List Value) (b : Nat) (gs : List Value) (k : Int32) (n : Int32) (o : Nat) (g : Nat → Int64) (h0 : n < 0 ∨ k - 1 ≤ n) (h_fs_powered : fs[5]? = some (.int 1)) (h_fs_now : fs[11]? = some (.ref b)) (hl_fs : fs.length = 18) (h_gs_parcelCount : gs[1]? = some (.int k)) (hl_gs : gs.length = 11) : Met l ⟨"SeriesVaultLaw", "compact", "(LSeriesVault;I[J)I"⟩ [Cond.codeWith ⟨"SeriesVaultLaw", "compact", "(LSeriesVault;I[J)I"⟩ method_14_code 4 (some FieldType.int) [(0, 9, 12, 29), (0, 9, 15, 35), (0, 9, 18, 13)]] { frames := 7, cells := 1, slots := 6, locals := 104 } (pC D dA [.ref a, .int n, .ref o] [(a, .inr (0, fs)), (b, .inr (3, gs)), (o, .inl (dA 2, 1, .inr (.inl g)))] sz) (va_Qi (fun (r : Int32) (_ : Unit) => r = 2) (fun (u9 : Unit) t9 => bW D (va_A [(a, .inr (0, fs)), (b, .inr (3, gs)), (o, .inl (dA 2, 1, .inr (.inl g)))] sz) [(b, .inr (3, gs)), (a, .inr (0, fs)), (o, .inl (dA 2, 1, .inr (.inl g)))] t9) (va_A [(a, .inr (0, fs)), (b, .inr (3, gs)), (o, .inl (dA 2, 1, .inr (.inl g)))] sz)) 1 6 (va_A [(a, .inr (0, fs)), (b, .inr (3, gs)), (o, .inl (dA 2, 1, .inr (.inl g)))] sz) := by
  refine mkW (Qc := fun A => va_Qi (fun (r : Int32) (_ : Unit) => r = 2) (fun (u9 : Unit) t9 => bW D A [(b, .inr (3, gs)), (a, .inr (0, fs)), (o, .inl (dA 2, 1, .inr (.inl g)))] t9) A) (by decide) (Nat.le_of_ble_eq_true rfl) ?_
  intro A p e s m below meth c ls hsz htab hB
  obtain ⟨hx, hb, hr, hml, hown, hin, hlk, hE, hK, hP, hD, hS, hA, hN, hl⟩ := hB
  have hown : s.vm.findClass "SeriesVaultLaw" = some m.cls := hown
  have hin : meth.name = "compact" := hin
  have hl : lv_has ls 4 [(0, .ref a), (1, .int n), (2, .ref o)] := hl
  obtain ⟨H, hH⟩ : ∃ z, z = s.heap := ⟨_, rfl⟩
  have hP : va_P D vwCl [(a, .inr (0, fs)), (b, .inr (3, gs)), (o, .inl (dA 2, 1, .inr (.inl g)))] H := by rw [hH]; exact hP
  have hS : va_S A s.heap H [] := by rw [hH]; exact hS
  rw [← hH]
  refine lv_aload_n hx hb d_SeriesVaultLaw_compact_0 rfl (lv_at hl 2 rfl) ?_
  refine lv_iconst (v := 0) hx hb d_SeriesVaultLaw_compact_1 (by decide) ?_
  refine lv_aload_n hx hb d_SeriesVaultLaw_compact_2 rfl (lv_at hl 0 rfl) ?_
  refine lv_iload_n hx hb d_SeriesVaultLaw_compact_3 rfl (lv_at hl 1 rfl) ?_
  have hPc := hP.sub (ws' := [(a, .inr (0, fs)), (b, .inr (3, gs))]) [0, 1] rfl
  have hDc := hD.sub (ws' := [(a, .inr (0, fs)), (b, .inr (3, gs))]) [0, 1] (by decide) rfl
  refine xnV (As := [.int n]) (rest := [.int 0, .ref o]) hx hb hml hown hE hK (hN _ _ hS) hPc hDc (c_V_compact_x l htr D dA H.size a fs b gs k n h0 h_fs_powered h_fs_now hl_fs h_gs_parcelCount hl_gs) (q0 := 0) rfl rfl w389 w388 w390 w391 w277 rfl rfl ⟨⟨by decide, by decide⟩, rfl⟩ ⟨(Nat.le_of_ble_eq_true rfl), (Nat.le_of_ble_eq_true rfl)⟩ rfl hl.1 rfl (Nat.le_of_ble_eq_true rfl) d_SeriesVaultLaw_compact_4 ⟨(Nat.le_of_ble_eq_true rfl), (Nat.le_of_ble_eq_true rfl)⟩ hP hD hS hA [0, 1] [2] (wr := [(o, .inl (dA 2, 1, .inr (.inl g)))]) rfl rfl (by decide) (by decide) (fun x1 ce H locs hP hD hS hce hcv hcl => ?_)
  have hP : va_P D vwCl [(o, .inl (dA 2, 1, .inr (.inl g))), (b, .inr (3, gs)), (a, .inr (0, fs))] H := hP
  have hD : va_D A [(o, .inl (dA 2, 1, .inr (.inl g))), (b, .inr (3, gs)), (a, .inr (0, fs))] := hD
  refine xCatch (E := "java/lang/IndexOutOfBoundsException") hown hE [⟨0, 9, 12, 29⟩] ⟨0, 9, 15, 35⟩ [⟨0, 9, 18, 13⟩] htab (List.forall_mem_cons.mpr ⟨⟨by decide, "java/lang/IllegalStateException", w363, by decide⟩, fun _ h => absurd h List.not_mem_nil⟩) (by decide) (by decide) w354 w222 hce hcv hcl ?_
  refine lv_astore_n hx hb d_SeriesVaultLaw_compact_15 rfl hl (by decide) rfl (fun ls hl => ?_)
  have hl : lv_has ls 4 [(3, .ref x1), (0, .ref a), (1, .int n), (2, .ref o)] := hl
  refine lv_iconst (v := 2) hx hb d_SeriesVaultLaw_compact_16 (by decide) ?_
  exact rtI hx hb hr hlk hP hD hS () rfl [1, 2, 0] rfl rfl (by decide) (Nat.le_of_ble_eq_true rfl) (Nat.le_of_ble_eq_true rfl) d_SeriesVaultLaw_compact_17
theorem d_SeriesVaultLaw_parcel_0 : decode method_21_code 0 = .ok (.aload_n 3, 1) := by decide +kernel
theorem d_SeriesVaultLaw_parcel_1 : decode method_21_code 1 = .ok (.iconst 0, 1) := by decide +kernel
theorem d_SeriesVaultLaw_parcel_2 : decode method_21_code 2 = .ok (.aload_n 0, 1) := by decide +kernel
theorem d_SeriesVaultLaw_parcel_3 : decode method_21_code 3 = .ok (.iload_n 1, 1) := by decide +kernel
theorem d_SeriesVaultLaw_parcel_4 : decode method_21_code 4 = .ok (.iload_n 2, 1) := by decide +kernel
theorem d_SeriesVaultLaw_parcel_5 : decode method_21_code 5 = .ok (.invokevirtual 84, 3) := by decide +kernel
theorem d_SeriesVaultLaw_parcel_17 : decode method_21_code 17 = .ok (.astore 4, 2) := by decide +kernel
theorem d_SeriesVaultLaw_parcel_19 : decode method_21_code 19 = .ok (.iconst 2, 1) := by decide +kernel
theorem d_SeriesVaultLaw_parcel_20 : decode method_21_code 20 = .ok (.ireturn, 1) := by decide +kernel
theorem w392 : Cond.methodLink "SeriesVaultLaw" 84 ⟨"SeriesVault", "parcel", "(II)I"⟩ ∈ aW := aw_of (tb_8 (List.mem_of_getElem? (i := 122) rfl)) rfl
theorem w393 : Cond.code ⟨"SeriesVault", "parcel", "(II)I"⟩ prog_1_method_44_code 4 (some FieldType.int) ∈ aW := aw_of (tb_8 (List.mem_of_getElem? (i := 125) rfl)) rfl
theorem w394 : Cond.instanceMethod ⟨"SeriesVault", "parcel", "(II)I"⟩ ∈ aW := aw_of (tb_8 (List.mem_of_getElem? (i := 123) rfl)) rfl
theorem w395 : Cond.selects "SeriesVault" ⟨"SeriesVault", "parcel", "(II)I"⟩ ⟨"SeriesVault", "parcel", "(II)I"⟩ ∈ aW := aw_of (tb_8 (List.mem_of_getElem? (i := 124) rfl)) rfl
set_option maxHeartbeats 4000000 in
set_option maxRecDepth 100000 in
theorem c_K_parcel_x (l : Launch) (htr : l.stackTraces = false) (D : va_G) (dA : Nat → ClassId) (sz : Nat) (a : Nat) (fs : List Value) (b : Nat) (gs : List Value) (k : Int32) (n : Int32) (i : Int32) (o : Nat) (g : Nat → Int64) (h0 : n < 0 ∨ k ≤ n) (h_fs_powered : fs[5]? = some (.int 1)) (h_fs_now : fs[11]? = some (.ref b)) (hl_fs : fs.length = 18) (h_gs_parcelCount : gs[1]? = some (.int k)) (hl_gs : gs.length = 11) : Met l ⟨"SeriesVaultLaw", "parcel", "(LSeriesVault;II[J)I"⟩ [Cond.codeWith ⟨"SeriesVaultLaw", "parcel", "(LSeriesVault;II[J)I"⟩ method_21_code 5 (some FieldType.int) [(0, 10, 13, 29), (0, 10, 17, 35), (0, 10, 21, 19)]] { frames := 7, cells := 1, slots := 6, locals := 104 } (pC D dA [.ref a, .int n, .int i, .ref o] [(a, .inr (0, fs)), (b, .inr (3, gs)), (o, .inl (dA 2, 1, .inr (.inl g)))] sz) (va_Qi (fun (r : Int32) (_ : Unit) => r = 2) (fun (u9 : Unit) t9 => bW D (va_A [(a, .inr (0, fs)), (b, .inr (3, gs)), (o, .inl (dA 2, 1, .inr (.inl g)))] sz) [(b, .inr (3, gs)), (a, .inr (0, fs)), (o, .inl (dA 2, 1, .inr (.inl g)))] t9) (va_A [(a, .inr (0, fs)), (b, .inr (3, gs)), (o, .inl (dA 2, 1, .inr (.inl g)))] sz)) 1 6 (va_A [(a, .inr (0, fs)), (b, .inr (3, gs)), (o, .inl (dA 2, 1, .inr (.inl g)))] sz) := by
  refine mkW (Qc := fun A => va_Qi (fun (r : Int32) (_ : Unit) => r = 2) (fun (u9 : Unit) t9 => bW D A [(b, .inr (3, gs)), (a, .inr (0, fs)), (o, .inl (dA 2, 1, .inr (.inl g)))] t9) A) (by decide) (Nat.le_of_ble_eq_true rfl) ?_
  intro A p e s m below meth c ls hsz htab hB
  obtain ⟨hx, hb, hr, hml, hown, hin, hlk, hE, hK, hP, hD, hS, hA, hN, hl⟩ := hB
  have hown : s.vm.findClass "SeriesVaultLaw" = some m.cls := hown
  have hin : meth.name = "parcel" := hin
  have hl : lv_has ls 5 [(0, .ref a), (1, .int n), (2, .int i), (3, .ref o)] := hl
  obtain ⟨H, hH⟩ : ∃ z, z = s.heap := ⟨_, rfl⟩
  have hP : va_P D vwCl [(a, .inr (0, fs)), (b, .inr (3, gs)), (o, .inl (dA 2, 1, .inr (.inl g)))] H := by rw [hH]; exact hP
  have hS : va_S A s.heap H [] := by rw [hH]; exact hS
  rw [← hH]
  refine lv_aload_n hx hb d_SeriesVaultLaw_parcel_0 rfl (lv_at hl 3 rfl) ?_
  refine lv_iconst (v := 0) hx hb d_SeriesVaultLaw_parcel_1 (by decide) ?_
  refine lv_aload_n hx hb d_SeriesVaultLaw_parcel_2 rfl (lv_at hl 0 rfl) ?_
  refine lv_iload_n hx hb d_SeriesVaultLaw_parcel_3 rfl (lv_at hl 1 rfl) ?_
  refine lv_iload_n hx hb d_SeriesVaultLaw_parcel_4 rfl (lv_at hl 2 rfl) ?_
  have hPc := hP.sub (ws' := [(a, .inr (0, fs)), (b, .inr (3, gs))]) [0, 1] rfl
  have hDc := hD.sub (ws' := [(a, .inr (0, fs)), (b, .inr (3, gs))]) [0, 1] (by decide) rfl
  refine xnV (As := [.int n, .int i]) (rest := [.int 0, .ref o]) hx hb hml hown hE hK (hN _ _ hS) hPc hDc (c_V_parcel_x l htr D dA H.size a fs b gs k n i h0 h_fs_powered h_fs_now hl_fs h_gs_parcelCount hl_gs) (q0 := 0) rfl rfl w393 w392 w394 w395 w277 rfl rfl ⟨⟨by decide, by decide⟩, rfl⟩ ⟨(Nat.le_of_ble_eq_true rfl), (Nat.le_of_ble_eq_true rfl)⟩ rfl hl.1 rfl (Nat.le_of_ble_eq_true rfl) d_SeriesVaultLaw_parcel_5 ⟨(Nat.le_of_ble_eq_true rfl), (Nat.le_of_ble_eq_true rfl)⟩ hP hD hS hA [0, 1] [2] (wr := [(o, .inl (dA 2, 1, .inr (.inl g)))]) rfl rfl (by decide) (by decide) (fun x1 ce H locs hP hD hS hce hcv hcl => ?_)
  have hP : va_P D vwCl [(o, .inl (dA 2, 1, .inr (.inl g))), (b, .inr (3, gs)), (a, .inr (0, fs))] H := hP
  have hD : va_D A [(o, .inl (dA 2, 1, .inr (.inl g))), (b, .inr (3, gs)), (a, .inr (0, fs))] := hD
  refine xCatch (E := "java/lang/IndexOutOfBoundsException") hown hE [⟨0, 10, 13, 29⟩] ⟨0, 10, 17, 35⟩ [⟨0, 10, 21, 19⟩] htab (List.forall_mem_cons.mpr ⟨⟨by decide, "java/lang/IllegalStateException", w363, by decide⟩, fun _ h => absurd h List.not_mem_nil⟩) (by decide) (by decide) w354 w222 hce hcv hcl ?_
  refine lv_astore hx hb d_SeriesVaultLaw_parcel_17 hl (by decide) rfl (fun ls hl => ?_)
  have hl : lv_has ls 5 [(4, .ref x1), (0, .ref a), (1, .int n), (2, .int i), (3, .ref o)] := hl
  refine lv_iconst (v := 2) hx hb d_SeriesVaultLaw_parcel_19 (by decide) ?_
  exact rtI hx hb hr hlk hP hD hS () rfl [1, 2, 0] rfl rfl (by decide) (Nat.le_of_ble_eq_true rfl) (Nat.le_of_ble_eq_true rfl) d_SeriesVaultLaw_parcel_20
theorem d_SeriesVaultLaw_text_0 : decode method_17_code 0 = .ok (.aload 4, 2) := by decide +kernel
theorem d_SeriesVaultLaw_text_2 : decode method_17_code 2 = .ok (.iconst 0, 1) := by decide +kernel
theorem d_SeriesVaultLaw_text_3 : decode method_17_code 3 = .ok (.aload_n 0, 1) := by decide +kernel
theorem d_SeriesVaultLaw_text_4 : decode method_17_code 4 = .ok (.iload_n 1, 1) := by decide +kernel
theorem d_SeriesVaultLaw_text_5 : decode method_17_code 5 = .ok (.iload_n 2, 1) := by decide +kernel
theorem d_SeriesVaultLaw_text_6 : decode method_17_code 6 = .ok (.iload_n 3, 1) := by decide +kernel
theorem d_SeriesVaultLaw_text_7 : decode method_17_code 7 = .ok (.invokevirtual 69, 3) := by decide +kernel
theorem d_SeriesVaultLaw_text_15 : decode method_17_code 15 = .ok (.astore 5, 2) := by decide +kernel
theorem d_SeriesVaultLaw_text_17 : decode method_17_code 17 = .ok (.iconst 1, 1) := by decide +kernel
theorem d_SeriesVaultLaw_text_18 : decode method_17_code 18 = .ok (.ireturn, 1) := by decide +kernel
theorem w396 : Cond.methodLink "SeriesVaultLaw" 69 ⟨"SeriesVault", "text", "(III)I"⟩ ∈ aW := aw_of (tb_8 (List.mem_of_getElem? (i := 74) rfl)) rfl
theorem w397 : Cond.code ⟨"SeriesVault", "text", "(III)I"⟩ prog_1_method_47_code 5 (some FieldType.int) ∈ aW := aw_of (tb_8 (List.mem_of_getElem? (i := 77) rfl)) rfl
theorem w398 : Cond.instanceMethod ⟨"SeriesVault", "text", "(III)I"⟩ ∈ aW := aw_of (tb_8 (List.mem_of_getElem? (i := 75) rfl)) rfl
theorem w399 : Cond.selects "SeriesVault" ⟨"SeriesVault", "text", "(III)I"⟩ ⟨"SeriesVault", "text", "(III)I"⟩ ∈ aW := aw_of (tb_8 (List.mem_of_getElem? (i := 76) rfl)) rfl
set_option maxHeartbeats 4000000 in
set_option maxRecDepth 100000 in
theorem c_K_text_x (l : Launch) (htr : l.stackTraces = false) (D : va_G) (dA : Nat → ClassId) (sz : Nat) (a : Nat) (fs : List Value) (n : Int32) (i : Int32) (j : Int32) (o : Nat) (g : Nat → Int64) (h_fs_hasTable : fs[17]? = some (.int 0)) (hl_fs : fs.length = 18) : Met l ⟨"SeriesVaultLaw", "text", "(LSeriesVault;III[J)I"⟩ [Cond.codeWith ⟨"SeriesVaultLaw", "text", "(LSeriesVault;III[J)I"⟩ method_17_code 6 (some FieldType.int) [(0, 12, 15, 35)]] { frames := 8, cells := 1, slots := 6, locals := 126 } (pC D dA [.ref a, .int n, .int i, .int j, .ref o] [(a, .inr (0, fs)), (o, .inl (dA 2, 1, .inr (.inl g)))] sz) (va_Qi (fun (r : Int32) (_ : Unit) => r = 1) (fun (u9 : Unit) t9 => bW D (va_A [(a, .inr (0, fs)), (o, .inl (dA 2, 1, .inr (.inl g)))] sz) [(a, .inr (0, fs)), (o, .inl (dA 2, 1, .inr (.inl g)))] t9) (va_A [(a, .inr (0, fs)), (o, .inl (dA 2, 1, .inr (.inl g)))] sz)) 1 6 (va_A [(a, .inr (0, fs)), (o, .inl (dA 2, 1, .inr (.inl g)))] sz) := by
  refine mkW (Qc := fun A => va_Qi (fun (r : Int32) (_ : Unit) => r = 1) (fun (u9 : Unit) t9 => bW D A [(a, .inr (0, fs)), (o, .inl (dA 2, 1, .inr (.inl g)))] t9) A) (by decide) (Nat.le_of_ble_eq_true rfl) ?_
  intro A p e s m below meth c ls hsz htab hB
  obtain ⟨hx, hb, hr, hml, hown, hin, hlk, hE, hK, hP, hD, hS, hA, hN, hl⟩ := hB
  have hown : s.vm.findClass "SeriesVaultLaw" = some m.cls := hown
  have hin : meth.name = "text" := hin
  have hl : lv_has ls 6 [(0, .ref a), (1, .int n), (2, .int i), (3, .int j), (4, .ref o)] := hl
  obtain ⟨H, hH⟩ : ∃ z, z = s.heap := ⟨_, rfl⟩
  have hP : va_P D vwCl [(a, .inr (0, fs)), (o, .inl (dA 2, 1, .inr (.inl g)))] H := by rw [hH]; exact hP
  have hS : va_S A s.heap H [] := by rw [hH]; exact hS
  rw [← hH]
  refine lv_aload hx hb d_SeriesVaultLaw_text_0 (lv_at hl 4 rfl) ?_
  refine lv_iconst (v := 0) hx hb d_SeriesVaultLaw_text_2 (by decide) ?_
  refine lv_aload_n hx hb d_SeriesVaultLaw_text_3 rfl (lv_at hl 0 rfl) ?_
  refine lv_iload_n hx hb d_SeriesVaultLaw_text_4 rfl (lv_at hl 1 rfl) ?_
  refine lv_iload_n hx hb d_SeriesVaultLaw_text_5 rfl (lv_at hl 2 rfl) ?_
  refine lv_iload_n hx hb d_SeriesVaultLaw_text_6 rfl (lv_at hl 3 rfl) ?_
  have hPc := hP.sub (ws' := [(a, .inr (0, fs))]) [0] rfl
  have hDc := hD.sub (ws' := [(a, .inr (0, fs))]) [0] (by decide) rfl
  refine xnV (As := [.int n, .int i, .int j]) (rest := [.int 0, .ref o]) hx hb hml hown hE hK (hN _ _ hS) hPc hDc (c_V_text_x l htr D dA H.size a fs n i j h_fs_hasTable hl_fs) (q0 := 0) rfl rfl w397 w396 w398 w399 w277 rfl rfl ⟨⟨by decide, by decide⟩, rfl⟩ ⟨(Nat.le_of_ble_eq_true rfl), (Nat.le_of_ble_eq_true rfl)⟩ rfl hl.1 rfl (Nat.le_of_ble_eq_true rfl) d_SeriesVaultLaw_text_7 ⟨(Nat.le_of_ble_eq_true rfl), (Nat.le_of_ble_eq_true rfl)⟩ hP hD hS hA [0] [1] (wr := [(o, .inl (dA 2, 1, .inr (.inl g)))]) rfl rfl (by decide) (by decide) (fun x1 ce H locs hP hD hS hce hcv hcl => ?_)
  have hP : va_P D vwCl [(o, .inl (dA 2, 1, .inr (.inl g))), (a, .inr (0, fs))] H := hP
  have hD : va_D A [(o, .inl (dA 2, 1, .inr (.inl g))), (a, .inr (0, fs))] := hD
  refine xCatch (E := "java/lang/IndexOutOfBoundsException") hown hE [] ⟨0, 12, 15, 35⟩ [] htab (fun _ h => absurd h List.not_mem_nil) (by decide) (by decide) w354 w222 hce hcv hcl ?_
  refine lv_astore hx hb d_SeriesVaultLaw_text_15 hl (by decide) rfl (fun ls hl => ?_)
  have hl : lv_has ls 6 [(5, .ref x1), (0, .ref a), (1, .int n), (2, .int i), (3, .int j), (4, .ref o)] := hl
  refine lv_iconst (v := 1) hx hb d_SeriesVaultLaw_text_17 (by decide) ?_
  exact rtI hx hb hr hlk hP hD hS () rfl [1, 0] rfl rfl (by decide) (Nat.le_of_ble_eq_true rfl) (Nat.le_of_ble_eq_true rfl) d_SeriesVaultLaw_text_18
theorem d_SeriesVaultLaw_isThere_0 : decode method_18_code 0 = .ok (.aload_n 3, 1) := by decide +kernel
theorem d_SeriesVaultLaw_isThere_1 : decode method_18_code 1 = .ok (.iconst 0, 1) := by decide +kernel
theorem d_SeriesVaultLaw_isThere_2 : decode method_18_code 2 = .ok (.aload_n 0, 1) := by decide +kernel
theorem d_SeriesVaultLaw_isThere_3 : decode method_18_code 3 = .ok (.iload_n 1, 1) := by decide +kernel
theorem d_SeriesVaultLaw_isThere_4 : decode method_18_code 4 = .ok (.iload_n 2, 1) := by decide +kernel
theorem d_SeriesVaultLaw_isThere_5 : decode method_18_code 5 = .ok (.invokevirtual 73, 3) := by decide +kernel
theorem d_SeriesVaultLaw_isThere_20 : decode method_18_code 20 = .ok (.astore 4, 2) := by decide +kernel
theorem d_SeriesVaultLaw_isThere_22 : decode method_18_code 22 = .ok (.iconst 1, 1) := by decide +kernel
theorem d_SeriesVaultLaw_isThere_23 : decode method_18_code 23 = .ok (.ireturn, 1) := by decide +kernel
theorem w400 : Cond.methodLink "SeriesVaultLaw" 73 ⟨"SeriesVault", "isThere", "(II)Z"⟩ ∈ aW := aw_of (tb_8 (List.mem_of_getElem? (i := 89) rfl)) rfl
theorem w401 : Cond.code ⟨"SeriesVault", "isThere", "(II)Z"⟩ prog_1_method_48_code 3 (some FieldType.boolean) ∈ aW := aw_of (tb_8 (List.mem_of_getElem? (i := 92) rfl)) rfl
theorem w402 : Cond.instanceMethod ⟨"SeriesVault", "isThere", "(II)Z"⟩ ∈ aW := aw_of (tb_8 (List.mem_of_getElem? (i := 90) rfl)) rfl
theorem w403 : Cond.selects "SeriesVault" ⟨"SeriesVault", "isThere", "(II)Z"⟩ ⟨"SeriesVault", "isThere", "(II)Z"⟩ ∈ aW := aw_of (tb_8 (List.mem_of_getElem? (i := 91) rfl)) rfl
set_option maxHeartbeats 4000000 in
set_option maxRecDepth 100000 in
theorem c_K_isThere_x (l : Launch) (htr : l.stackTraces = false) (D : va_G) (dA : Nat → ClassId) (sz : Nat) (a : Nat) (fs : List Value) (n : Int32) (i : Int32) (o : Nat) (g : Nat → Int64) (h_fs_hasTable : fs[17]? = some (.int 0)) (hl_fs : fs.length = 18) : Met l ⟨"SeriesVaultLaw", "isThere", "(LSeriesVault;II[J)I"⟩ [Cond.codeWith ⟨"SeriesVaultLaw", "isThere", "(LSeriesVault;II[J)I"⟩ method_18_code 5 (some FieldType.int) [(0, 17, 20, 35)]] { frames := 9, cells := 1, slots := 6, locals := 146 } (pC D dA [.ref a, .int n, .int i, .ref o] [(a, .inr (0, fs)), (o, .inl (dA 2, 1, .inr (.inl g)))] sz) (va_Qi (fun (r : Int32) (_ : Unit) => r = 1) (fun (u9 : Unit) t9 => bW D (va_A [(a, .inr (0, fs)), (o, .inl (dA 2, 1, .inr (.inl g)))] sz) [(a, .inr (0, fs)), (o, .inl (dA 2, 1, .inr (.inl g)))] t9) (va_A [(a, .inr (0, fs)), (o, .inl (dA 2, 1, .inr (.inl g)))] sz)) 1 6 (va_A [(a, .inr (0, fs)), (o, .inl (dA 2, 1, .inr (.inl g)))] sz) := by
  refine mkW (Qc := fun A => va_Qi (fun (r : Int32) (_ : Unit) => r = 1) (fun (u9 : Unit) t9 => bW D A [(a, .inr (0, fs)), (o, .inl (dA 2, 1, .inr (.inl g)))] t9) A) (by decide) (Nat.le_of_ble_eq_true rfl) ?_
  intro A p e s m below meth c ls hsz htab hB
  obtain ⟨hx, hb, hr, hml, hown, hin, hlk, hE, hK, hP, hD, hS, hA, hN, hl⟩ := hB
  have hown : s.vm.findClass "SeriesVaultLaw" = some m.cls := hown
  have hin : meth.name = "isThere" := hin
  have hl : lv_has ls 5 [(0, .ref a), (1, .int n), (2, .int i), (3, .ref o)] := hl
  obtain ⟨H, hH⟩ : ∃ z, z = s.heap := ⟨_, rfl⟩
  have hP : va_P D vwCl [(a, .inr (0, fs)), (o, .inl (dA 2, 1, .inr (.inl g)))] H := by rw [hH]; exact hP
  have hS : va_S A s.heap H [] := by rw [hH]; exact hS
  rw [← hH]
  refine lv_aload_n hx hb d_SeriesVaultLaw_isThere_0 rfl (lv_at hl 3 rfl) ?_
  refine lv_iconst (v := 0) hx hb d_SeriesVaultLaw_isThere_1 (by decide) ?_
  refine lv_aload_n hx hb d_SeriesVaultLaw_isThere_2 rfl (lv_at hl 0 rfl) ?_
  refine lv_iload_n hx hb d_SeriesVaultLaw_isThere_3 rfl (lv_at hl 1 rfl) ?_
  refine lv_iload_n hx hb d_SeriesVaultLaw_isThere_4 rfl (lv_at hl 2 rfl) ?_
  have hPc := hP.sub (ws' := [(a, .inr (0, fs))]) [0] rfl
  have hDc := hD.sub (ws' := [(a, .inr (0, fs))]) [0] (by decide) rfl
  refine xnV (As := [.int n, .int i]) (rest := [.int 0, .ref o]) hx hb hml hown hE hK (hN _ _ hS) hPc hDc (c_V_isThere_x l htr D dA H.size a fs n i h_fs_hasTable hl_fs) (q0 := 0) rfl rfl w401 w400 w402 w403 w277 rfl rfl ⟨⟨by decide, by decide⟩, rfl⟩ ⟨(Nat.le_of_ble_eq_true rfl), (Nat.le_of_ble_eq_true rfl)⟩ rfl hl.1 rfl (Nat.le_of_ble_eq_true rfl) d_SeriesVaultLaw_isThere_5 ⟨(Nat.le_of_ble_eq_true rfl), (Nat.le_of_ble_eq_true rfl)⟩ hP hD hS hA [0] [1] (wr := [(o, .inl (dA 2, 1, .inr (.inl g)))]) rfl rfl (by decide) (by decide) (fun x1 ce H locs hP hD hS hce hcv hcl => ?_)
  have hP : va_P D vwCl [(o, .inl (dA 2, 1, .inr (.inl g))), (a, .inr (0, fs))] H := hP
  have hD : va_D A [(o, .inl (dA 2, 1, .inr (.inl g))), (a, .inr (0, fs))] := hD
  refine xCatch (E := "java/lang/IndexOutOfBoundsException") hown hE [] ⟨0, 17, 20, 35⟩ [] htab (fun _ h => absurd h List.not_mem_nil) (by decide) (by decide) w354 w222 hce hcv hcl ?_
  refine lv_astore hx hb d_SeriesVaultLaw_isThere_20 hl (by decide) rfl (fun ls hl => ?_)
  have hl : lv_has ls 5 [(4, .ref x1), (0, .ref a), (1, .int n), (2, .int i), (3, .ref o)] := hl
  refine lv_iconst (v := 1) hx hb d_SeriesVaultLaw_isThere_22 (by decide) ?_
  exact rtI hx hb hr hlk hP hD hS () rfl [1, 0] rfl rfl (by decide) (Nat.le_of_ble_eq_true rfl) (Nat.le_of_ble_eq_true rfl) d_SeriesVaultLaw_isThere_23
theorem d_SeriesVaultLaw_cell_0 : decode method_19_code 0 = .ok (.aload_n 3, 1) := by decide +kernel
theorem d_SeriesVaultLaw_cell_1 : decode method_19_code 1 = .ok (.iconst 0, 1) := by decide +kernel
theorem d_SeriesVaultLaw_cell_2 : decode method_19_code 2 = .ok (.aload_n 0, 1) := by decide +kernel
theorem d_SeriesVaultLaw_cell_3 : decode method_19_code 3 = .ok (.iload_n 1, 1) := by decide +kernel
theorem d_SeriesVaultLaw_cell_4 : decode method_19_code 4 = .ok (.iload_n 2, 1) := by decide +kernel
theorem d_SeriesVaultLaw_cell_5 : decode method_19_code 5 = .ok (.invokevirtual 77, 3) := by decide +kernel
theorem d_SeriesVaultLaw_cell_12 : decode method_19_code 12 = .ok (.astore 4, 2) := by decide +kernel
theorem d_SeriesVaultLaw_cell_14 : decode method_19_code 14 = .ok (.iconst 1, 1) := by decide +kernel
theorem d_SeriesVaultLaw_cell_15 : decode method_19_code 15 = .ok (.ireturn, 1) := by decide +kernel
theorem w404 : Cond.methodLink "SeriesVaultLaw" 77 ⟨"SeriesVault", "cell", "(II)J"⟩ ∈ aW := aw_of (tb_8 (List.mem_of_getElem? (i := 101) rfl)) rfl
theorem w405 : Cond.code ⟨"SeriesVault", "cell", "(II)J"⟩ prog_1_method_49_code 4 (some FieldType.long) ∈ aW := aw_of (tb_8 (List.mem_of_getElem? (i := 104) rfl)) rfl
theorem w406 : Cond.instanceMethod ⟨"SeriesVault", "cell", "(II)J"⟩ ∈ aW := aw_of (tb_8 (List.mem_of_getElem? (i := 102) rfl)) rfl
theorem w407 : Cond.selects "SeriesVault" ⟨"SeriesVault", "cell", "(II)J"⟩ ⟨"SeriesVault", "cell", "(II)J"⟩ ∈ aW := aw_of (tb_8 (List.mem_of_getElem? (i := 103) rfl)) rfl
set_option maxHeartbeats 4000000 in
set_option maxRecDepth 100000 in
theorem c_K_cell_x (l : Launch) (htr : l.stackTraces = false) (D : va_G) (dA : Nat → ClassId) (sz : Nat) (a : Nat) (fs : List Value) (n : Int32) (i : Int32) (o : Nat) (g : Nat → Int64) (h_fs_hasTable : fs[17]? = some (.int 0)) (hl_fs : fs.length = 18) : Met l ⟨"SeriesVaultLaw", "cell", "(LSeriesVault;II[J)I"⟩ [Cond.codeWith ⟨"SeriesVaultLaw", "cell", "(LSeriesVault;II[J)I"⟩ method_19_code 5 (some FieldType.int) [(0, 9, 12, 35)]] { frames := 9, cells := 1, slots := 6, locals := 147 } (pC D dA [.ref a, .int n, .int i, .ref o] [(a, .inr (0, fs)), (o, .inl (dA 2, 1, .inr (.inl g)))] sz) (va_Qi (fun (r : Int32) (_ : Unit) => r = 1) (fun (u9 : Unit) t9 => bW D (va_A [(a, .inr (0, fs)), (o, .inl (dA 2, 1, .inr (.inl g)))] sz) [(a, .inr (0, fs)), (o, .inl (dA 2, 1, .inr (.inl g)))] t9) (va_A [(a, .inr (0, fs)), (o, .inl (dA 2, 1, .inr (.inl g)))] sz)) 1 6 (va_A [(a, .inr (0, fs)), (o, .inl (dA 2, 1, .inr (.inl g)))] sz) := by
  refine mkW (Qc := fun A => va_Qi (fun (r : Int32) (_ : Unit) => r = 1) (fun (u9 : Unit) t9 => bW D A [(a, .inr (0, fs)), (o, .inl (dA 2, 1, .inr (.inl g)))] t9) A) (by decide) (Nat.le_of_ble_eq_true rfl) ?_
  intro A p e s m below meth c ls hsz htab hB
  obtain ⟨hx, hb, hr, hml, hown, hin, hlk, hE, hK, hP, hD, hS, hA, hN, hl⟩ := hB
  have hown : s.vm.findClass "SeriesVaultLaw" = some m.cls := hown
  have hin : meth.name = "cell" := hin
  have hl : lv_has ls 5 [(0, .ref a), (1, .int n), (2, .int i), (3, .ref o)] := hl
  obtain ⟨H, hH⟩ : ∃ z, z = s.heap := ⟨_, rfl⟩
  have hP : va_P D vwCl [(a, .inr (0, fs)), (o, .inl (dA 2, 1, .inr (.inl g)))] H := by rw [hH]; exact hP
  have hS : va_S A s.heap H [] := by rw [hH]; exact hS
  rw [← hH]
  refine lv_aload_n hx hb d_SeriesVaultLaw_cell_0 rfl (lv_at hl 3 rfl) ?_
  refine lv_iconst (v := 0) hx hb d_SeriesVaultLaw_cell_1 (by decide) ?_
  refine lv_aload_n hx hb d_SeriesVaultLaw_cell_2 rfl (lv_at hl 0 rfl) ?_
  refine lv_iload_n hx hb d_SeriesVaultLaw_cell_3 rfl (lv_at hl 1 rfl) ?_
  refine lv_iload_n hx hb d_SeriesVaultLaw_cell_4 rfl (lv_at hl 2 rfl) ?_
  have hPc := hP.sub (ws' := [(a, .inr (0, fs))]) [0] rfl
  have hDc := hD.sub (ws' := [(a, .inr (0, fs))]) [0] (by decide) rfl
  refine xnV (As := [.int n, .int i]) (rest := [.int 0, .ref o]) hx hb hml hown hE hK (hN _ _ hS) hPc hDc (c_V_cell_x l htr D dA H.size a fs n i h_fs_hasTable hl_fs) (q0 := 0) rfl rfl w405 w404 w406 w407 w277 rfl rfl ⟨⟨by decide, by decide⟩, rfl⟩ ⟨(Nat.le_of_ble_eq_true rfl), (Nat.le_of_ble_eq_true rfl)⟩ rfl hl.1 rfl (Nat.le_of_ble_eq_true rfl) d_SeriesVaultLaw_cell_5 ⟨(Nat.le_of_ble_eq_true rfl), (Nat.le_of_ble_eq_true rfl)⟩ hP hD hS hA [0] [1] (wr := [(o, .inl (dA 2, 1, .inr (.inl g)))]) rfl rfl (by decide) (by decide) (fun x1 ce H locs hP hD hS hce hcv hcl => ?_)
  have hP : va_P D vwCl [(o, .inl (dA 2, 1, .inr (.inl g))), (a, .inr (0, fs))] H := hP
  have hD : va_D A [(o, .inl (dA 2, 1, .inr (.inl g))), (a, .inr (0, fs))] := hD
  refine xCatch (E := "java/lang/IndexOutOfBoundsException") hown hE [] ⟨0, 9, 12, 35⟩ [] htab (fun _ h => absurd h List.not_mem_nil) (by decide) (by decide) w354 w222 hce hcv hcl ?_
  refine lv_astore hx hb d_SeriesVaultLaw_cell_12 hl (by decide) rfl (fun ls hl => ?_)
  have hl : lv_has ls 5 [(4, .ref x1), (0, .ref a), (1, .int n), (2, .int i), (3, .ref o)] := hl
  refine lv_iconst (v := 1) hx hb d_SeriesVaultLaw_cell_14 (by decide) ?_
  exact rtI hx hb hr hlk hP hD hS () rfl [1, 0] rfl rfl (by decide) (Nat.le_of_ble_eq_true rfl) (Nat.le_of_ble_eq_true rfl) d_SeriesVaultLaw_cell_15
theorem d_SeriesVaultLaw_sync_0 : decode method_12_code 0 = .ok (.aload_n 1, 1) := by decide +kernel
theorem d_SeriesVaultLaw_sync_1 : decode method_12_code 1 = .ok (.iconst 0, 1) := by decide +kernel
theorem d_SeriesVaultLaw_sync_2 : decode method_12_code 2 = .ok (.aload_n 0, 1) := by decide +kernel
theorem d_SeriesVaultLaw_sync_3 : decode method_12_code 3 = .ok (.invokevirtual 51, 3) := by decide +kernel
theorem d_SeriesVaultLaw_sync_6 : decode method_12_code 6 = .ok (.ifCond .eq 7, 3) := by decide +kernel
theorem d_SeriesVaultLaw_sync_13 : decode method_12_code 13 = .ok (.lconst 0, 1) := by decide +kernel
theorem d_SeriesVaultLaw_sync_14 : decode method_12_code 14 = .ok (.lastore, 1) := by decide +kernel
theorem d_SeriesVaultLaw_sync_15 : decode method_12_code 15 = .ok (.goto 6, 3) := by decide +kernel
theorem d_SeriesVaultLaw_sync_21 : decode method_12_code 21 = .ok (.iconst 0, 1) := by decide +kernel
theorem d_SeriesVaultLaw_sync_22 : decode method_12_code 22 = .ok (.ireturn, 1) := by decide +kernel
theorem w408 : Cond.methodLink "SeriesVaultLaw" 51 ⟨"SeriesVault", "sync", "()Z"⟩ ∈ aW := aw_of (tb_5 (List.mem_of_getElem? (i := 226) rfl)) rfl
theorem w409 : Cond.code ⟨"SeriesVault", "sync", "()Z"⟩ prog_1_method_22_code 1 (some FieldType.boolean) ∈ aW := aw_of (tb_5 (List.mem_of_getElem? (i := 229) rfl)) rfl
theorem w410 : Cond.instanceMethod ⟨"SeriesVault", "sync", "()Z"⟩ ∈ aW := aw_of (tb_5 (List.mem_of_getElem? (i := 227) rfl)) rfl
theorem w411 : Cond.selects "SeriesVault" ⟨"SeriesVault", "sync", "()Z"⟩ ⟨"SeriesVault", "sync", "()Z"⟩ ∈ aW := aw_of (tb_5 (List.mem_of_getElem? (i := 228) rfl)) rfl
set_option maxHeartbeats 4000000 in
set_option maxRecDepth 100000 in
theorem c_K_sync_0 (l : Launch) (htr : l.stackTraces = false) (D : va_G) (dA : Nat → ClassId) (sz : Nat) (a : Nat) (fs : List Value) (b : Nat) (gs : List Value) (o : Nat) (g : Nat → Int64) (h_fs_powered : fs[5]? = some (.int 1)) (h_fs_journal : fs[8]? = some (.ref b)) (hl_fs : fs.length = 18) (h_gs_changed : gs[12]? = some (.int 0)) (hl_gs : gs.length = 13) : Met l ⟨"SeriesVaultLaw", "sync", "(LSeriesVault;[J)I"⟩ [Cond.codeWith ⟨"SeriesVaultLaw", "sync", "(LSeriesVault;[J)I"⟩ method_12_code 3 (some FieldType.int) [(0, 15, 18, 29)]] { frames := 3, cells := 0, slots := 0, locals := 40 } (pC D dA [.ref a, .ref o] [(a, .inr (0, fs)), (b, .inr (1, gs)), (o, .inl (dA 2, 1, .inr (.inl g)))] sz) (va_Qi (fun (r : Int32) (_ : Unit) => r = 0) (fun (u9 : Unit) t9 => bW D (va_A [(a, .inr (0, fs)), (b, .inr (1, gs)), (o, .inl (dA 2, 1, .inr (.inl g)))] sz) [(a, .inr (0, fs)), (b, .inr (1, gs)), (o, .inl (dA 2, 1, .inr (.inl (vp_updL g 0 0))))] t9) (va_A [(a, .inr (0, fs)), (b, .inr (1, gs)), (o, .inl (dA 2, 1, .inr (.inl g)))] sz)) 0 0 (va_A [(a, .inr (0, fs)), (b, .inr (1, gs)), (o, .inl (dA 2, 1, .inr (.inl g)))] sz) := by
  refine mkW (Qc := fun A => va_Qi (fun (r : Int32) (_ : Unit) => r = 0) (fun (u9 : Unit) t9 => bW D A [(a, .inr (0, fs)), (b, .inr (1, gs)), (o, .inl (dA 2, 1, .inr (.inl (vp_updL g 0 0))))] t9) A) (by decide) (Nat.le_of_ble_eq_true rfl) ?_
  intro A p e s m below meth c ls hsz htab hB
  obtain ⟨hx, hb, hr, hml, hown, hin, hlk, hE, hK, hP, hD, hS, hA, hN, hl⟩ := hB
  have hown : s.vm.findClass "SeriesVaultLaw" = some m.cls := hown
  have hin : meth.name = "sync" := hin
  have hl : lv_has ls 3 [(0, .ref a), (1, .ref o)] := hl
  obtain ⟨H, hH⟩ : ∃ z, z = s.heap := ⟨_, rfl⟩
  have hP : va_P D vwCl [(a, .inr (0, fs)), (b, .inr (1, gs)), (o, .inl (dA 2, 1, .inr (.inl g)))] H := by rw [hH]; exact hP
  have hS : va_S A s.heap H [] := by rw [hH]; exact hS
  rw [← hH]
  refine lv_aload_n hx hb d_SeriesVaultLaw_sync_0 rfl (lv_at hl 1 rfl) ?_
  refine lv_iconst (v := 0) hx hb d_SeriesVaultLaw_sync_1 (by decide) ?_
  refine lv_aload_n hx hb d_SeriesVaultLaw_sync_2 rfl (lv_at hl 0 rfl) ?_
  have hPc := hP.sub (ws' := [(a, .inr (0, fs)), (b, .inr (1, gs))]) [0, 1] rfl
  have hDc := hD.sub (ws' := [(a, .inr (0, fs)), (b, .inr (1, gs))]) [0, 1] (by decide) rfl
  refine jnI (rnV (As := []) (rest := [.int 0, .ref o]) hx hb hml hown hE hK (hN _ _ hS) hPc hDc (c_V_sync_0 l D dA H.size a fs b gs h_fs_powered h_fs_journal hl_fs h_gs_changed hl_gs) (q0 := 0) rfl rfl w409 w408 w410 w411 w277 rfl rfl ⟨⟨by decide, by decide⟩, rfl⟩ ⟨(Nat.le_of_ble_eq_true rfl), (Nat.le_of_ble_eq_true rfl)⟩ rfl hl.1 rfl (Nat.le_of_ble_eq_true rfl) d_SeriesVaultLaw_sync_3 ⟨(Nat.le_of_ble_eq_true rfl), (Nat.le_of_ble_eq_true rfl)⟩) hP hD hS hA [0, 1] [2] (wr := [(o, .inl (dA 2, 1, .inr (.inl g)))]) rfl rfl (by decide) (by decide) (fun r1 u9 H locs hp9 hP hD hS => ?_)
  have hP : va_P D vwCl [(o, .inl (dA 2, 1, .inr (.inl g))), (a, .inr (0, fs)), (b, .inr (1, gs))] H := hP
  have hD : va_D A [(o, .inl (dA 2, 1, .inr (.inl g))), (a, .inr (0, fs)), (b, .inr (1, gs))] := hD
  have hp9 : 0 = r1 := Eq.symm hp9
  subst hp9
  refine lv_if_eq hx hb d_SeriesVaultLaw_sync_6 (tgt := 13) rfl (fun _ => ?_) (fun h9 => absurd (by decide) h9)
  refine lv_lconst (v := 0) hx hb d_SeriesVaultLaw_sync_13 (by decide) ?_
  refine va_last hx hb hK hP hD hS 0 2 rfl rfl (by unfold vp_in; decide) d_SeriesVaultLaw_sync_14 (fun H locs hP hD hS => ?_)
  have hP : va_P D vwCl [(o, .inl (dA 2, 1, .inr (.inl (vp_updL g 0 0)))), (a, .inr (0, fs)), (b, .inr (1, gs))] H := hP
  have hD : va_D A [(o, .inl (dA 2, 1, .inr (.inl (vp_updL g 0 0)))), (a, .inr (0, fs)), (b, .inr (1, gs))] := hD
  refine lv_goto hx hb d_SeriesVaultLaw_sync_15 (tgt := 21) rfl ?_
  refine lv_iconst (v := 0) hx hb d_SeriesVaultLaw_sync_21 (by decide) ?_
  exact rtI hx hb hr hlk hP hD hS () rfl [1, 2, 0] rfl rfl (by decide) (Nat.le_of_ble_eq_true rfl) (Nat.le_of_ble_eq_true rfl) d_SeriesVaultLaw_sync_22
theorem d_SeriesVaultLaw_flush_0 : decode method_13_code 0 = .ok (.aload_n 1, 1) := by decide +kernel
theorem d_SeriesVaultLaw_flush_1 : decode method_13_code 1 = .ok (.iconst 0, 1) := by decide +kernel
theorem d_SeriesVaultLaw_flush_2 : decode method_13_code 2 = .ok (.aload_n 0, 1) := by decide +kernel
theorem d_SeriesVaultLaw_flush_3 : decode method_13_code 3 = .ok (.invokevirtual 55, 3) := by decide +kernel
theorem d_SeriesVaultLaw_flush_6 : decode method_13_code 6 = .ok (.i2l, 1) := by decide +kernel
theorem d_SeriesVaultLaw_flush_7 : decode method_13_code 7 = .ok (.lastore, 1) := by decide +kernel
theorem d_SeriesVaultLaw_flush_8 : decode method_13_code 8 = .ok (.goto 9, 3) := by decide +kernel
theorem d_SeriesVaultLaw_flush_17 : decode method_13_code 17 = .ok (.iconst 0, 1) := by decide +kernel
theorem d_SeriesVaultLaw_flush_18 : decode method_13_code 18 = .ok (.ireturn, 1) := by decide +kernel
theorem w412 : Cond.methodLink "SeriesVaultLaw" 55 ⟨"SeriesVault", "flush", "()I"⟩ ∈ aW := aw_of (tb_5 (List.mem_of_getElem? (i := 233) rfl)) rfl
theorem w413 : Cond.code ⟨"SeriesVault", "flush", "()I"⟩ prog_1_method_36_code 4 (some FieldType.int) ∈ aW := aw_of (tb_5 (List.mem_of_getElem? (i := 236) rfl)) rfl
theorem w414 : Cond.instanceMethod ⟨"SeriesVault", "flush", "()I"⟩ ∈ aW := aw_of (tb_5 (List.mem_of_getElem? (i := 234) rfl)) rfl
theorem w415 : Cond.selects "SeriesVault" ⟨"SeriesVault", "flush", "()I"⟩ ⟨"SeriesVault", "flush", "()I"⟩ ∈ aW := aw_of (tb_5 (List.mem_of_getElem? (i := 235) rfl)) rfl
set_option maxHeartbeats 4000000 in
set_option maxRecDepth 100000 in
theorem c_K_flush_0 (l : Launch) (htr : l.stackTraces = false) (D : va_G) (dA : Nat → ClassId) (sz : Nat) (a : Nat) (fs : List Value) (b : Nat) (gs : List Value) (o : Nat) (g : Nat → Int64) (h_fs_powered : fs[5]? = some (.int 1)) (h_fs_journal : fs[8]? = some (.ref b)) (hl_fs : fs.length = 18) (h_gs_size : gs[6]? = some (.int 0)) (hl_gs : gs.length = 13) : Met l ⟨"SeriesVaultLaw", "flush", "(LSeriesVault;[J)I"⟩ [Cond.codeWith ⟨"SeriesVaultLaw", "flush", "(LSeriesVault;[J)I"⟩ method_13_code 3 (some FieldType.int) [(0, 8, 11, 29), (0, 8, 14, 13)]] { frames := 3, cells := 0, slots := 0, locals := 43 } (pC D dA [.ref a, .ref o] [(a, .inr (0, fs)), (b, .inr (1, gs)), (o, .inl (dA 2, 1, .inr (.inl g)))] sz) (va_Qi (fun (r : Int32) (_ : Unit) => r = 0) (fun (u9 : Unit) t9 => bW D (va_A [(a, .inr (0, fs)), (b, .inr (1, gs)), (o, .inl (dA 2, 1, .inr (.inl g)))] sz) [(a, .inr (0, fs)), (b, .inr (1, gs)), (o, .inl (dA 2, 1, .inr (.inl (vp_updL g 0 0))))] t9) (va_A [(a, .inr (0, fs)), (b, .inr (1, gs)), (o, .inl (dA 2, 1, .inr (.inl g)))] sz)) 0 0 (va_A [(a, .inr (0, fs)), (b, .inr (1, gs)), (o, .inl (dA 2, 1, .inr (.inl g)))] sz) := by
  refine mkW (Qc := fun A => va_Qi (fun (r : Int32) (_ : Unit) => r = 0) (fun (u9 : Unit) t9 => bW D A [(a, .inr (0, fs)), (b, .inr (1, gs)), (o, .inl (dA 2, 1, .inr (.inl (vp_updL g 0 0))))] t9) A) (by decide) (Nat.le_of_ble_eq_true rfl) ?_
  intro A p e s m below meth c ls hsz htab hB
  obtain ⟨hx, hb, hr, hml, hown, hin, hlk, hE, hK, hP, hD, hS, hA, hN, hl⟩ := hB
  have hown : s.vm.findClass "SeriesVaultLaw" = some m.cls := hown
  have hin : meth.name = "flush" := hin
  have hl : lv_has ls 3 [(0, .ref a), (1, .ref o)] := hl
  obtain ⟨H, hH⟩ : ∃ z, z = s.heap := ⟨_, rfl⟩
  have hP : va_P D vwCl [(a, .inr (0, fs)), (b, .inr (1, gs)), (o, .inl (dA 2, 1, .inr (.inl g)))] H := by rw [hH]; exact hP
  have hS : va_S A s.heap H [] := by rw [hH]; exact hS
  rw [← hH]
  refine lv_aload_n hx hb d_SeriesVaultLaw_flush_0 rfl (lv_at hl 1 rfl) ?_
  refine lv_iconst (v := 0) hx hb d_SeriesVaultLaw_flush_1 (by decide) ?_
  refine lv_aload_n hx hb d_SeriesVaultLaw_flush_2 rfl (lv_at hl 0 rfl) ?_
  have hPc := hP.sub (ws' := [(a, .inr (0, fs)), (b, .inr (1, gs))]) [0, 1] rfl
  have hDc := hD.sub (ws' := [(a, .inr (0, fs)), (b, .inr (1, gs))]) [0, 1] (by decide) rfl
  refine jnI (rnV (As := []) (rest := [.int 0, .ref o]) hx hb hml hown hE hK (hN _ _ hS) hPc hDc (c_V_flush_0 l D dA H.size a fs b gs h_fs_powered h_fs_journal hl_fs h_gs_size hl_gs) (q0 := 0) rfl rfl w413 w412 w414 w415 w277 rfl rfl ⟨⟨by decide, by decide⟩, rfl⟩ ⟨(Nat.le_of_ble_eq_true rfl), (Nat.le_of_ble_eq_true rfl)⟩ rfl hl.1 rfl (Nat.le_of_ble_eq_true rfl) d_SeriesVaultLaw_flush_3 ⟨(Nat.le_of_ble_eq_true rfl), (Nat.le_of_ble_eq_true rfl)⟩) hP hD hS hA [0, 1] [2] (wr := [(o, .inl (dA 2, 1, .inr (.inl g)))]) rfl rfl (by decide) (by decide) (fun r1 u9 H locs hp9 hP hD hS => ?_)
  have hP : va_P D vwCl [(o, .inl (dA 2, 1, .inr (.inl g))), (a, .inr (0, fs)), (b, .inr (1, gs))] H := hP
  have hD : va_D A [(o, .inl (dA 2, 1, .inr (.inl g))), (a, .inr (0, fs)), (b, .inr (1, gs))] := hD
  have hp9 : 0 = r1 := Eq.symm hp9
  subst hp9
  refine lv_i2l (v := 0) hx hb d_SeriesVaultLaw_flush_6 (by decide) ?_
  refine va_last hx hb hK hP hD hS 0 2 rfl rfl (by unfold vp_in; decide) d_SeriesVaultLaw_flush_7 (fun H locs hP hD hS => ?_)
  have hP : va_P D vwCl [(o, .inl (dA 2, 1, .inr (.inl (vp_updL g 0 0)))), (a, .inr (0, fs)), (b, .inr (1, gs))] H := hP
  have hD : va_D A [(o, .inl (dA 2, 1, .inr (.inl (vp_updL g 0 0)))), (a, .inr (0, fs)), (b, .inr (1, gs))] := hD
  refine lv_goto hx hb d_SeriesVaultLaw_flush_8 (tgt := 17) rfl ?_
  refine lv_iconst (v := 0) hx hb d_SeriesVaultLaw_flush_17 (by decide) ?_
  exact rtI hx hb hr hlk hP hD hS () rfl [1, 2, 0] rfl rfl (by decide) (Nat.le_of_ble_eq_true rfl) (Nat.le_of_ble_eq_true rfl) d_SeriesVaultLaw_flush_18
