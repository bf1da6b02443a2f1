theorem d_SeriesVaultLaw_count_0 : decode method_20_code 0 = .ok (.aload_n 2, 1) := by decide +kernel
theorem d_SeriesVaultLaw_count_1 : decode method_20_code 1 = .ok (.iconst 0, 1) := by decide +kernel
theorem d_SeriesVaultLaw_count_2 : decode method_20_code 2 = .ok (.aload_n 0, 1) := by decide +kernel
theorem d_SeriesVaultLaw_count_3 : decode method_20_code 3 = .ok (.iload_n 1, 1) := by decide +kernel
theorem d_SeriesVaultLaw_count_4 : decode method_20_code 4 = .ok (.invokevirtual 81, 3) := by decide +kernel
theorem d_SeriesVaultLaw_count_7 : decode method_20_code 7 = .ok (.i2l, 1) := by decide +kernel
theorem d_SeriesVaultLaw_count_8 : decode method_20_code 8 = .ok (.lastore, 1) := by decide +kernel
theorem d_SeriesVaultLaw_count_9 : decode method_20_code 9 = .ok (.goto 9, 3) := by decide +kernel
theorem d_SeriesVaultLaw_count_18 : decode method_20_code 18 = .ok (.iconst 0, 1) := by decide +kernel
theorem d_SeriesVaultLaw_count_19 : decode method_20_code 19 = .ok (.ireturn, 1) := by decide +kernel
theorem w702 : Cond.methodLink "SeriesVaultLaw" 81 ⟨"SeriesVault", "count", "(I)I"⟩ ∈ aW := aw_of (tb_8 (List.mem_of_getElem? (i := 109) rfl)) rfl
theorem w703 : Cond.code ⟨"SeriesVault", "count", "(I)I"⟩ prog_1_method_43_code 2 (some FieldType.int) ∈ aW := aw_of (tb_8 (List.mem_of_getElem? (i := 112) rfl)) rfl
theorem w704 : Cond.instanceMethod ⟨"SeriesVault", "count", "(I)I"⟩ ∈ aW := aw_of (tb_8 (List.mem_of_getElem? (i := 110) rfl)) rfl
theorem w705 : Cond.selects "SeriesVault" ⟨"SeriesVault", "count", "(I)I"⟩ ⟨"SeriesVault", "count", "(I)I"⟩ ∈ aW := aw_of (tb_8 (List.mem_of_getElem? (i := 111) rfl)) rfl
set_option maxHeartbeats 4000000 in
set_option maxRecDepth 100000 in
theorem c_K_count_0 (l : Launch) (htr : l.stackTraces = false) (D : va_G) (dA : Nat → ClassId) (sz : Nat) (a : Nat) (fs : List Value) (b2 : Nat) (is : List Value) (o : Nat) (og : Nat → Int64) (h_fs_powered : fs[5]? = some (.int 1)) (h_fs_now : fs[11]? = some (.ref b2)) (hl_fs : fs.length = 18) (h_is_seriesCount : is[8]? = some (.int 0)) (hl_is : is.length = 11) : Met l ⟨"SeriesVaultLaw", "count", "(LSeriesVault;I[J)I"⟩ [Cond.codeWith ⟨"SeriesVaultLaw", "count", "(LSeriesVault;I[J)I"⟩ method_20_code 4 (some FieldType.int) [(0, 9, 12, 29), (0, 9, 15, 19)]] { frames := 3, cells := 0, slots := 0, locals := 41 } (pC D dA [.ref a, .int 0, .ref o] [(a, .inr (0, fs)), (b2, .inr (3, is)), (o, .inl (dA 2, 1, .inr (.inl og)))] sz) (va_Qi (fun (r : Int32) (_ : Unit) => r = 0) (fun (u9 : Unit) t9 => bW D (va_A [(a, .inr (0, fs)), (b2, .inr (3, is)), (o, .inl (dA 2, 1, .inr (.inl og)))] sz) [(a, .inr (0, fs)), (b2, .inr (3, is)), (o, .inl (dA 2, 1, .inr (.inl (vp_updL og 0 0))))] t9) (va_A [(a, .inr (0, fs)), (b2, .inr (3, is)), (o, .inl (dA 2, 1, .inr (.inl og)))] sz)) 0 0 (va_A [(a, .inr (0, fs)), (b2, .inr (3, is)), (o, .inl (dA 2, 1, .inr (.inl og)))] sz) := by
  refine mkW (y := ⟨"SeriesVaultLaw", "count", "(LSeriesVault;I[J)I"⟩) (cc := method_20_code) (maxL := 4) (av := [.ref a, .int 0, .ref o]) (ws := [(a, .inr (0, fs)), (b2, .inr (3, is)), (o, .inl (dA 2, 1, .inr (.inl og)))]) (sz := sz) (Qc := fun A => va_Qi (fun (r : Int32) (_ : Unit) => r = 0) (fun (u9 : Unit) t9 => bW D A [(a, .inr (0, fs)), (b2, .inr (3, is)), (o, .inl (dA 2, 1, .inr (.inl (vp_updL og 0 0))))] t9) A) (by decide) (Nat.le_of_ble_eq_true rfl) ?_
  intro A p e s m below meth c ls hsz htab hB
  obtain ⟨hx, hb, hr, hml, hown, hin, hlk, hE, hK, hP, hD, hS, hA, hN, hl⟩ := hB
  have hown : s.vm.findClass "SeriesVaultLaw" = some m.cls := hown
  have hin : meth.name = "count" := hin
  have hl : lv_has ls 4 [(0, .ref a), (1, .int 0), (2, .ref o)] := hl
  obtain ⟨H, hH⟩ : ∃ z, z = s.heap := ⟨_, rfl⟩
  have hP : va_P D vwCl [(a, .inr (0, fs)), (b2, .inr (3, is)), (o, .inl (dA 2, 1, .inr (.inl og)))] H := by rw [hH]; exact hP
  have hS : va_S A s.heap H [] := by rw [hH]; exact hS
  rw [← hH]
  refine lv_aload_n hx hb d_SeriesVaultLaw_count_0 rfl (lv_at hl 2 rfl) ?_
  refine lv_iconst (v := 0) hx hb d_SeriesVaultLaw_count_1 (by decide) ?_
  refine lv_aload_n hx hb d_SeriesVaultLaw_count_2 rfl (lv_at hl 0 rfl) ?_
  refine lv_iload_n hx hb d_SeriesVaultLaw_count_3 rfl (lv_at hl 1 rfl) ?_
  have hPc := hP.sub (ws' := [(a, .inr (0, fs)), (b2, .inr (3, is))]) [0, 1] rfl
  have hDc := hD.sub (ws' := [(a, .inr (0, fs)), (b2, .inr (3, is))]) [0, 1] (by decide) rfl
  refine jnI (rnV (As := [.int 0]) (rest := [.int 0, .ref o]) hx hb hml hown hE hK (hN _ _ hS) hPc hDc (c_V_count_0 l D dA H.size a fs b2 is h_fs_powered h_fs_now hl_fs h_is_seriesCount hl_is) (q0 := 0) rfl rfl w703 w702 w704 w705 w277 rfl rfl ⟨⟨by decide, by decide⟩, rfl⟩ ⟨(Nat.le_of_ble_eq_true rfl), (Nat.le_of_ble_eq_true rfl)⟩ rfl hl.1 rfl (Nat.le_of_ble_eq_true rfl) d_SeriesVaultLaw_count_4 ⟨(Nat.le_of_ble_eq_true rfl), (Nat.le_of_ble_eq_true rfl)⟩) hP hD hS hA [0, 1] [2] (wr := [(o, .inl (dA 2, 1, .inr (.inl og)))]) rfl rfl (by decide) (by decide) (fun r1 u9 H locs hp9 hP hD hS => ?_)
  have hP : va_P D vwCl [(o, .inl (dA 2, 1, .inr (.inl og))), (a, .inr (0, fs)), (b2, .inr (3, is))] H := hP
  have hD : va_D A [(o, .inl (dA 2, 1, .inr (.inl og))), (a, .inr (0, fs)), (b2, .inr (3, is))] := hD
  have hp9 : 0 = r1 := Eq.symm hp9
  subst hp9
  refine lv_i2l (v := 0) hx hb d_SeriesVaultLaw_count_7 (by decide) ?_
  refine va_last hx hb hK hP hD hS 0 2 rfl rfl (by unfold vp_in; decide) d_SeriesVaultLaw_count_8 (fun H locs hP hD hS => ?_)
  have hP : va_P D vwCl [(o, .inl (dA 2, 1, .inr (.inl (vp_updL og 0 0)))), (a, .inr (0, fs)), (b2, .inr (3, is))] H := hP
  have hD : va_D A [(o, .inl (dA 2, 1, .inr (.inl (vp_updL og 0 0)))), (a, .inr (0, fs)), (b2, .inr (3, is))] := hD
  refine lv_goto hx hb d_SeriesVaultLaw_count_9 (tgt := 18) rfl ?_
  refine lv_iconst (v := 0) hx hb d_SeriesVaultLaw_count_18 (by decide) ?_
  exact rtI hx hb hr hlk hP hD hS () rfl [1, 2, 0] rfl rfl (by decide) (Nat.le_of_ble_eq_true rfl) (Nat.le_of_ble_eq_true rfl) d_SeriesVaultLaw_count_19
set_option maxHeartbeats 4000000 in
set_option maxRecDepth 100000 in
theorem c_K_count_1 (l : Launch) (htr : l.stackTraces = false) (D : va_G) (dA : Nat → ClassId) (sz : Nat) (a : Nat) (fs : List Value) (b1 : Nat) (hs : List Value) (o : Nat) (og : Nat → Int64) (h_fs_powered : fs[5]? = some (.int 1)) (h_fs_head : fs[9]? = some (.ref b1)) (hl_fs : fs.length = 18) (h_hs_size : hs[3]? = some (.int 0)) (hl_hs : hs.length = 4) : Met l ⟨"SeriesVaultLaw", "count", "(LSeriesVault;I[J)I"⟩ [Cond.codeWith ⟨"SeriesVaultLaw", "count", "(LSeriesVault;I[J)I"⟩ method_20_code 4 (some FieldType.int) [(0, 9, 12, 29), (0, 9, 15, 19)]] { frames := 3, cells := 0, slots := 0, locals := 41 } (pC D dA [.ref a, .int 1, .ref o] [(a, .inr (0, fs)), (b1, .inr (2, hs)), (o, .inl (dA 2, 1, .inr (.inl og)))] sz) (va_Qi (fun (r : Int32) (_ : Unit) => r = 0) (fun (u9 : Unit) t9 => bW D (va_A [(a, .inr (0, fs)), (b1, .inr (2, hs)), (o, .inl (dA 2, 1, .inr (.inl og)))] sz) [(a, .inr (0, fs)), (b1, .inr (2, hs)), (o, .inl (dA 2, 1, .inr (.inl (vp_updL og 0 0))))] t9) (va_A [(a, .inr (0, fs)), (b1, .inr (2, hs)), (o, .inl (dA 2, 1, .inr (.inl og)))] sz)) 0 0 (va_A [(a, .inr (0, fs)), (b1, .inr (2, hs)), (o, .inl (dA 2, 1, .inr (.inl og)))] sz) := by
  refine mkW (y := ⟨"SeriesVaultLaw", "count", "(LSeriesVault;I[J)I"⟩) (cc := method_20_code) (maxL := 4) (av := [.ref a, .int 1, .ref o]) (ws := [(a, .inr (0, fs)), (b1, .inr (2, hs)), (o, .inl (dA 2, 1, .inr (.inl og)))]) (sz := sz) (Qc := fun A => va_Qi (fun (r : Int32) (_ : Unit) => r = 0) (fun (u9 : Unit) t9 => bW D A [(a, .inr (0, fs)), (b1, .inr (2, hs)), (o, .inl (dA 2, 1, .inr (.inl (vp_updL og 0 0))))] t9) A) (by decide) (Nat.le_of_ble_eq_true rfl) ?_
  intro A p e s m below meth c ls hsz htab hB
  obtain ⟨hx, hb, hr, hml, hown, hin, hlk, hE, hK, hP, hD, hS, hA, hN, hl⟩ := hB
  have hown : s.vm.findClass "SeriesVaultLaw" = some m.cls := hown
  have hin : meth.name = "count" := hin
  have hl : lv_has ls 4 [(0, .ref a), (1, .int 1), (2, .ref o)] := hl
  obtain ⟨H, hH⟩ : ∃ z, z = s.heap := ⟨_, rfl⟩
  have hP : va_P D vwCl [(a, .inr (0, fs)), (b1, .inr (2, hs)), (o, .inl (dA 2, 1, .inr (.inl og)))] H := by rw [hH]; exact hP
  have hS : va_S A s.heap H [] := by rw [hH]; exact hS
  rw [← hH]
  refine lv_aload_n hx hb d_SeriesVaultLaw_count_0 rfl (lv_at hl 2 rfl) ?_
  refine lv_iconst (v := 0) hx hb d_SeriesVaultLaw_count_1 (by decide) ?_
  refine lv_aload_n hx hb d_SeriesVaultLaw_count_2 rfl (lv_at hl 0 rfl) ?_
  refine lv_iload_n hx hb d_SeriesVaultLaw_count_3 rfl (lv_at hl 1 rfl) ?_
  have hPc := hP.sub (ws' := [(a, .inr (0, fs)), (b1, .inr (2, hs))]) [0, 1] rfl
  have hDc := hD.sub (ws' := [(a, .inr (0, fs)), (b1, .inr (2, hs))]) [0, 1] (by decide) rfl
  refine jnI (rnV (As := [.int 1]) (rest := [.int 0, .ref o]) hx hb hml hown hE hK (hN _ _ hS) hPc hDc (c_V_count_1 l D dA H.size a fs b1 hs h_fs_powered h_fs_head hl_fs h_hs_size hl_hs) (q0 := 0) rfl rfl w703 w702 w704 w705 w277 rfl rfl ⟨⟨by decide, by decide⟩, rfl⟩ ⟨(Nat.le_of_ble_eq_true rfl), (Nat.le_of_ble_eq_true rfl)⟩ rfl hl.1 rfl (Nat.le_of_ble_eq_true rfl) d_SeriesVaultLaw_count_4 ⟨(Nat.le_of_ble_eq_true rfl), (Nat.le_of_ble_eq_true rfl)⟩) hP hD hS hA [0, 1] [2] (wr := [(o, .inl (dA 2, 1, .inr (.inl og)))]) rfl rfl (by decide) (by decide) (fun r1 u9 H locs hp9 hP hD hS => ?_)
  have hP : va_P D vwCl [(o, .inl (dA 2, 1, .inr (.inl og))), (a, .inr (0, fs)), (b1, .inr (2, hs))] H := hP
  have hD : va_D A [(o, .inl (dA 2, 1, .inr (.inl og))), (a, .inr (0, fs)), (b1, .inr (2, hs))] := hD
  have hp9 : 0 = r1 := Eq.symm hp9
  subst hp9
  refine lv_i2l (v := 0) hx hb d_SeriesVaultLaw_count_7 (by decide) ?_
  refine va_last hx hb hK hP hD hS 0 2 rfl rfl (by unfold vp_in; decide) d_SeriesVaultLaw_count_8 (fun H locs hP hD hS => ?_)
  have hP : va_P D vwCl [(o, .inl (dA 2, 1, .inr (.inl (vp_updL og 0 0)))), (a, .inr (0, fs)), (b1, .inr (2, hs))] H := hP
  have hD : va_D A [(o, .inl (dA 2, 1, .inr (.inl (vp_updL og 0 0)))), (a, .inr (0, fs)), (b1, .inr (2, hs))] := hD
  refine lv_goto hx hb d_SeriesVaultLaw_count_9 (tgt := 18) rfl ?_
  refine lv_iconst (v := 0) hx hb d_SeriesVaultLaw_count_18 (by decide) ?_
  exact rtI hx hb hr hlk hP hD hS () rfl [1, 2, 0] rfl rfl (by decide) (Nat.le_of_ble_eq_true rfl) (Nat.le_of_ble_eq_true rfl) d_SeriesVaultLaw_count_19
set_option maxHeartbeats 4000000 in
set_option maxRecDepth 100000 in
theorem c_K_count_2 (l : Launch) (htr : l.stackTraces = false) (D : va_G) (dA : Nat → ClassId) (sz : Nat) (a : Nat) (fs : List Value) (b2 : Nat) (is : List Value) (o : Nat) (og : Nat → Int64) (h_fs_powered : fs[5]? = some (.int 1)) (h_fs_now : fs[11]? = some (.ref b2)) (hl_fs : fs.length = 18) (h_is_parcelCount : is[1]? = some (.int 0)) (hl_is : is.length = 11) : Met l ⟨"SeriesVaultLaw", "count", "(LSeriesVault;I[J)I"⟩ [Cond.codeWith ⟨"SeriesVaultLaw", "count", "(LSeriesVault;I[J)I"⟩ method_20_code 4 (some FieldType.int) [(0, 9, 12, 29), (0, 9, 15, 19)]] { frames := 3, cells := 0, slots := 0, locals := 41 } (pC D dA [.ref a, .int 2, .ref o] [(a, .inr (0, fs)), (b2, .inr (3, is)), (o, .inl (dA 2, 1, .inr (.inl og)))] sz) (va_Qi (fun (r : Int32) (_ : Unit) => r = 0) (fun (u9 : Unit) t9 => bW D (va_A [(a, .inr (0, fs)), (b2, .inr (3, is)), (o, .inl (dA 2, 1, .inr (.inl og)))] sz) [(a, .inr (0, fs)), (b2, .inr (3, is)), (o, .inl (dA 2, 1, .inr (.inl (vp_updL og 0 0))))] t9) (va_A [(a, .inr (0, fs)), (b2, .inr (3, is)), (o, .inl (dA 2, 1, .inr (.inl og)))] sz)) 0 0 (va_A [(a, .inr (0, fs)), (b2, .inr (3, is)), (o, .inl (dA 2, 1, .inr (.inl og)))] sz) := by
  refine mkW (y := ⟨"SeriesVaultLaw", "count", "(LSeriesVault;I[J)I"⟩) (cc := method_20_code) (maxL := 4) (av := [.ref a, .int 2, .ref o]) (ws := [(a, .inr (0, fs)), (b2, .inr (3, is)), (o, .inl (dA 2, 1, .inr (.inl og)))]) (sz := sz) (Qc := fun A => va_Qi (fun (r : Int32) (_ : Unit) => r = 0) (fun (u9 : Unit) t9 => bW D A [(a, .inr (0, fs)), (b2, .inr (3, is)), (o, .inl (dA 2, 1, .inr (.inl (vp_updL og 0 0))))] t9) A) (by decide) (Nat.le_of_ble_eq_true rfl) ?_
  intro A p e s m below meth c ls hsz htab hB
  obtain ⟨hx, hb, hr, hml, hown, hin, hlk, hE, hK, hP, hD, hS, hA, hN, hl⟩ := hB
  have hown : s.vm.findClass "SeriesVaultLaw" = some m.cls := hown
  have hin : meth.name = "count" := hin
  have hl : lv_has ls 4 [(0, .ref a), (1, .int 2), (2, .ref o)] := hl
  obtain ⟨H, hH⟩ : ∃ z, z = s.heap := ⟨_, rfl⟩
  have hP : va_P D vwCl [(a, .inr (0, fs)), (b2, .inr (3, is)), (o, .inl (dA 2, 1, .inr (.inl og)))] H := by rw [hH]; exact hP
  have hS : va_S A s.heap H [] := by rw [hH]; exact hS
  rw [← hH]
  refine lv_aload_n hx hb d_SeriesVaultLaw_count_0 rfl (lv_at hl 2 rfl) ?_
  refine lv_iconst (v := 0) hx hb d_SeriesVaultLaw_count_1 (by decide) ?_
  refine lv_aload_n hx hb d_SeriesVaultLaw_count_2 rfl (lv_at hl 0 rfl) ?_
  refine lv_iload_n hx hb d_SeriesVaultLaw_count_3 rfl (lv_at hl 1 rfl) ?_
  have hPc := hP.sub (ws' := [(a, .inr (0, fs)), (b2, .inr (3, is))]) [0, 1] rfl
  have hDc := hD.sub (ws' := [(a, .inr (0, fs)), (b2, .inr (3, is))]) [0, 1] (by decide) rfl
  refine jnI (rnV (As := [.int 2]) (rest := [.int 0, .ref o]) hx hb hml hown hE hK (hN _ _ hS) hPc hDc (c_V_count_2 l D dA H.size a fs b2 is h_fs_powered h_fs_now hl_fs h_is_parcelCount hl_is) (q0 := 0) rfl rfl w703 w702 w704 w705 w277 rfl rfl ⟨⟨by decide, by decide⟩, rfl⟩ ⟨(Nat.le_of_ble_eq_true rfl), (Nat.le_of_ble_eq_true rfl)⟩ rfl hl.1 rfl (Nat.le_of_ble_eq_true rfl) d_SeriesVaultLaw_count_4 ⟨(Nat.le_of_ble_eq_true rfl), (Nat.le_of_ble_eq_true rfl)⟩) hP hD hS hA [0, 1] [2] (wr := [(o, .inl (dA 2, 1, .inr (.inl og)))]) rfl rfl (by decide) (by decide) (fun r1 u9 H locs hp9 hP hD hS => ?_)
  have hP : va_P D vwCl [(o, .inl (dA 2, 1, .inr (.inl og))), (a, .inr (0, fs)), (b2, .inr (3, is))] H := hP
  have hD : va_D A [(o, .inl (dA 2, 1, .inr (.inl og))), (a, .inr (0, fs)), (b2, .inr (3, is))] := hD
  have hp9 : 0 = r1 := Eq.symm hp9
  subst hp9
  refine lv_i2l (v := 0) hx hb d_SeriesVaultLaw_count_7 (by decide) ?_
  refine va_last hx hb hK hP hD hS 0 2 rfl rfl (by unfold vp_in; decide) d_SeriesVaultLaw_count_8 (fun H locs hP hD hS => ?_)
  have hP : va_P D vwCl [(o, .inl (dA 2, 1, .inr (.inl (vp_updL og 0 0)))), (a, .inr (0, fs)), (b2, .inr (3, is))] H := hP
  have hD : va_D A [(o, .inl (dA 2, 1, .inr (.inl (vp_updL og 0 0)))), (a, .inr (0, fs)), (b2, .inr (3, is))] := hD
  refine lv_goto hx hb d_SeriesVaultLaw_count_9 (tgt := 18) rfl ?_
  refine lv_iconst (v := 0) hx hb d_SeriesVaultLaw_count_18 (by decide) ?_
  exact rtI hx hb hr hlk hP hD hS () rfl [1, 2, 0] rfl rfl (by decide) (Nat.le_of_ble_eq_true rfl) (Nat.le_of_ble_eq_true rfl) d_SeriesVaultLaw_count_19
set_option maxHeartbeats 4000000 in
set_option maxRecDepth 100000 in
theorem c_K_count_3 (l : Launch) (htr : l.stackTraces = false) (D : va_G) (dA : Nat → ClassId) (sz : Nat) (a : Nat) (fs : List Value) (b2 : Nat) (is : List Value) (o : Nat) (og : Nat → Int64) (h_fs_powered : fs[5]? = some (.int 1)) (h_fs_now : fs[11]? = some (.ref b2)) (hl_fs : fs.length = 18) (h_is_scarCount : is[6]? = some (.int 0)) (hl_is : is.length = 11) : Met l ⟨"SeriesVaultLaw", "count", "(LSeriesVault;I[J)I"⟩ [Cond.codeWith ⟨"SeriesVaultLaw", "count", "(LSeriesVault;I[J)I"⟩ method_20_code 4 (some FieldType.int) [(0, 9, 12, 29), (0, 9, 15, 19)]] { frames := 3, cells := 0, slots := 0, locals := 41 } (pC D dA [.ref a, .int 3, .ref o] [(a, .inr (0, fs)), (b2, .inr (3, is)), (o, .inl (dA 2, 1, .inr (.inl og)))] sz) (va_Qi (fun (r : Int32) (_ : Unit) => r = 0) (fun (u9 : Unit) t9 => bW D (va_A [(a, .inr (0, fs)), (b2, .inr (3, is)), (o, .inl (dA 2, 1, .inr (.inl og)))] sz) [(a, .inr (0, fs)), (b2, .inr (3, is)), (o, .inl (dA 2, 1, .inr (.inl (vp_updL og 0 0))))] t9) (va_A [(a, .inr (0, fs)), (b2, .inr (3, is)), (o, .inl (dA 2, 1, .inr (.inl og)))] sz)) 0 0 (va_A [(a, .inr (0, fs)), (b2, .inr (3, is)), (o, .inl (dA 2, 1, .inr (.inl og)))] sz) := by
  refine mkW (y := ⟨"SeriesVaultLaw", "count", "(LSeriesVault;I[J)I"⟩) (cc := method_20_code) (maxL := 4) (av := [.ref a, .int 3, .ref o]) (ws := [(a, .inr (0, fs)), (b2, .inr (3, is)), (o, .inl (dA 2, 1, .inr (.inl og)))]) (sz := sz) (Qc := fun A => va_Qi (fun (r : Int32) (_ : Unit) => r = 0) (fun (u9 : Unit) t9 => bW D A [(a, .inr (0, fs)), (b2, .inr (3, is)), (o, .inl (dA 2, 1, .inr (.inl (vp_updL og 0 0))))] t9) A) (by decide) (Nat.le_of_ble_eq_true rfl) ?_
  intro A p e s m below meth c ls hsz htab hB
  obtain ⟨hx, hb, hr, hml, hown, hin, hlk, hE, hK, hP, hD, hS, hA, hN, hl⟩ := hB
  have hown : s.vm.findClass "SeriesVaultLaw" = some m.cls := hown
  have hin : meth.name = "count" := hin
  have hl : lv_has ls 4 [(0, .ref a), (1, .int 3), (2, .ref o)] := hl
  obtain ⟨H, hH⟩ : ∃ z, z = s.heap := ⟨_, rfl⟩
  have hP : va_P D vwCl [(a, .inr (0, fs)), (b2, .inr (3, is)), (o, .inl (dA 2, 1, .inr (.inl og)))] H := by rw [hH]; exact hP
  have hS : va_S A s.heap H [] := by rw [hH]; exact hS
  rw [← hH]
  refine lv_aload_n hx hb d_SeriesVaultLaw_count_0 rfl (lv_at hl 2 rfl) ?_
  refine lv_iconst (v := 0) hx hb d_SeriesVaultLaw_count_1 (by decide) ?_
  refine lv_aload_n hx hb d_SeriesVaultLaw_count_2 rfl (lv_at hl 0 rfl) ?_
  refine lv_iload_n hx hb d_SeriesVaultLaw_count_3 rfl (lv_at hl 1 rfl) ?_
  have hPc := hP.sub (ws' := [(a, .inr (0, fs)), (b2, .inr (3, is))]) [0, 1] rfl
  have hDc := hD.sub (ws' := [(a, .inr (0, fs)), (b2, .inr (3, is))]) [0, 1] (by decide) rfl
  refine jnI (rnV (As := [.int 3]) (rest := [.int 0, .ref o]) hx hb hml hown hE hK (hN _ _ hS) hPc hDc (c_V_count_3 l D dA H.size a fs b2 is h_fs_powered h_fs_now hl_fs h_is_scarCount hl_is) (q0 := 0) rfl rfl w703 w702 w704 w705 w277 rfl rfl ⟨⟨by decide, by decide⟩, rfl⟩ ⟨(Nat.le_of_ble_eq_true rfl), (Nat.le_of_ble_eq_true rfl)⟩ rfl hl.1 rfl (Nat.le_of_ble_eq_true rfl) d_SeriesVaultLaw_count_4 ⟨(Nat.le_of_ble_eq_true rfl), (Nat.le_of_ble_eq_true rfl)⟩) hP hD hS hA [0, 1] [2] (wr := [(o, .inl (dA 2, 1, .inr (.inl og)))]) rfl rfl (by decide) (by decide) (fun r1 u9 H locs hp9 hP hD hS => ?_)
  have hP : va_P D vwCl [(o, .inl (dA 2, 1, .inr (.inl og))), (a, .inr (0, fs)), (b2, .inr (3, is))] H := hP
  have hD : va_D A [(o, .inl (dA 2, 1, .inr (.inl og))), (a, .inr (0, fs)), (b2, .inr (3, is))] := hD
  have hp9 : 0 = r1 := Eq.symm hp9
  subst hp9
  refine lv_i2l (v := 0) hx hb d_SeriesVaultLaw_count_7 (by decide) ?_
  refine va_last hx hb hK hP hD hS 0 2 rfl rfl (by unfold vp_in; decide) d_SeriesVaultLaw_count_8 (fun H locs hP hD hS => ?_)
  have hP : va_P D vwCl [(o, .inl (dA 2, 1, .inr (.inl (vp_updL og 0 0)))), (a, .inr (0, fs)), (b2, .inr (3, is))] H := hP
  have hD : va_D A [(o, .inl (dA 2, 1, .inr (.inl (vp_updL og 0 0)))), (a, .inr (0, fs)), (b2, .inr (3, is))] := hD
  refine lv_goto hx hb d_SeriesVaultLaw_count_9 (tgt := 18) rfl ?_
  refine lv_iconst (v := 0) hx hb d_SeriesVaultLaw_count_18 (by decide) ?_
  exact rtI hx hb hr hlk hP hD hS () rfl [1, 2, 0] rfl rfl (by decide) (Nat.le_of_ble_eq_true rfl) (Nat.le_of_ble_eq_true rfl) d_SeriesVaultLaw_count_19
set_option maxHeartbeats 4000000 in
set_option maxRecDepth 100000 in
theorem c_K_count_4 (l : Launch) (htr : l.stackTraces = false) (D : va_G) (dA : Nat → ClassId) (sz : Nat) (a : Nat) (fs : List Value) (b : Nat) (gs : List Value) (b2 : Nat) (is : List Value) (o : Nat) (og : Nat → Int64) (h_fs_diskBlocks : fs[4]? = some (.int 64)) (h_fs_powered : fs[5]? = some (.int 1)) (h_fs_journal : fs[8]? = some (.ref b)) (h_fs_now : fs[11]? = some (.ref b2)) (hl_fs : fs.length = 18) (h_gs_blockLimit : gs[9]? = some (.int 8)) (hl_gs : gs.length = 13) (h_is_parcelCount : is[1]? = some (.int 0)) (h_is_catalogBlocks : is[10]? = some (.int 0)) (hl_is : is.length = 11) : Met l ⟨"SeriesVaultLaw", "count", "(LSeriesVault;I[J)I"⟩ [Cond.codeWith ⟨"SeriesVaultLaw", "count", "(LSeriesVault;I[J)I"⟩ method_20_code 4 (some FieldType.int) [(0, 9, 12, 29), (0, 9, 15, 19)]] { frames := 4, cells := 0, slots := 0, locals := 63 } (pC D dA [.ref a, .int 4, .ref o] [(a, .inr (0, fs)), (b, .inr (1, gs)), (b2, .inr (3, is)), (o, .inl (dA 2, 1, .inr (.inl og)))] sz) (va_Qi (fun (r : Int32) (_ : Unit) => r = 0) (fun (u9 : Unit) t9 => bW D (va_A [(a, .inr (0, fs)), (b, .inr (1, gs)), (b2, .inr (3, is)), (o, .inl (dA 2, 1, .inr (.inl og)))] sz) [(a, .inr (0, fs)), (b, .inr (1, gs)), (b2, .inr (3, is)), (o, .inl (dA 2, 1, .inr (.inl (vp_updL og 0 54))))] t9) (va_A [(a, .inr (0, fs)), (b, .inr (1, gs)), (b2, .inr (3, is)), (o, .inl (dA 2, 1, .inr (.inl og)))] sz)) 0 0 (va_A [(a, .inr (0, fs)), (b, .inr (1, gs)), (b2, .inr (3, is)), (o, .inl (dA 2, 1, .inr (.inl og)))] sz) := by
  refine mkW (y := ⟨"SeriesVaultLaw", "count", "(LSeriesVault;I[J)I"⟩) (cc := method_20_code) (maxL := 4) (av := [.ref a, .int 4, .ref o]) (ws := [(a, .inr (0, fs)), (b, .inr (1, gs)), (b2, .inr (3, is)), (o, .inl (dA 2, 1, .inr (.inl og)))]) (sz := sz) (Qc := fun A => va_Qi (fun (r : Int32) (_ : Unit) => r = 0) (fun (u9 : Unit) t9 => bW D A [(a, .inr (0, fs)), (b, .inr (1, gs)), (b2, .inr (3, is)), (o, .inl (dA 2, 1, .inr (.inl (vp_updL og 0 54))))] t9) A) (by decide) (Nat.le_of_ble_eq_true rfl) ?_
  intro A p e s m below meth c ls hsz htab hB
  obtain ⟨hx, hb, hr, hml, hown, hin, hlk, hE, hK, hP, hD, hS, hA, hN, hl⟩ := hB
  have hown : s.vm.findClass "SeriesVaultLaw" = some m.cls := hown
  have hin : meth.name = "count" := hin
  have hl : lv_has ls 4 [(0, .ref a), (1, .int 4), (2, .ref o)] := hl
  obtain ⟨H, hH⟩ : ∃ z, z = s.heap := ⟨_, rfl⟩
  have hP : va_P D vwCl [(a, .inr (0, fs)), (b, .inr (1, gs)), (b2, .inr (3, is)), (o, .inl (dA 2, 1, .inr (.inl og)))] H := by rw [hH]; exact hP
  have hS : va_S A s.heap H [] := by rw [hH]; exact hS
  rw [← hH]
  refine lv_aload_n hx hb d_SeriesVaultLaw_count_0 rfl (lv_at hl 2 rfl) ?_
  refine lv_iconst (v := 0) hx hb d_SeriesVaultLaw_count_1 (by decide) ?_
  refine lv_aload_n hx hb d_SeriesVaultLaw_count_2 rfl (lv_at hl 0 rfl) ?_
  refine lv_iload_n hx hb d_SeriesVaultLaw_count_3 rfl (lv_at hl 1 rfl) ?_
  have hPc := hP.sub (ws' := [(a, .inr (0, fs)), (b, .inr (1, gs)), (b2, .inr (3, is))]) [0, 1, 2] rfl
  have hDc := hD.sub (ws' := [(a, .inr (0, fs)), (b, .inr (1, gs)), (b2, .inr (3, is))]) [0, 1, 2] (by decide) rfl
  refine jnI (rnV (As := [.int 4]) (rest := [.int 0, .ref o]) hx hb hml hown hE hK (hN _ _ hS) hPc hDc (c_V_count_4 l D dA H.size a fs b gs b2 is h_fs_diskBlocks h_fs_powered h_fs_journal h_fs_now hl_fs h_gs_blockLimit hl_gs h_is_parcelCount h_is_catalogBlocks hl_is) (q0 := 0) rfl rfl w703 w702 w704 w705 w277 rfl rfl ⟨⟨by decide, by decide⟩, rfl⟩ ⟨(Nat.le_of_ble_eq_true rfl), (Nat.le_of_ble_eq_true rfl)⟩ rfl hl.1 rfl (Nat.le_of_ble_eq_true rfl) d_SeriesVaultLaw_count_4 ⟨(Nat.le_of_ble_eq_true rfl), (Nat.le_of_ble_eq_true rfl)⟩) hP hD hS hA [0, 1, 2] [3] (wr := [(o, .inl (dA 2, 1, .inr (.inl og)))]) rfl rfl (by decide) (by decide) (fun r1 u9 H locs hp9 hP hD hS => ?_)
  have hP : va_P D vwCl [(o, .inl (dA 2, 1, .inr (.inl og))), (a, .inr (0, fs)), (b, .inr (1, gs)), (b2, .inr (3, is))] H := hP
  have hD : va_D A [(o, .inl (dA 2, 1, .inr (.inl og))), (a, .inr (0, fs)), (b, .inr (1, gs)), (b2, .inr (3, is))] := hD
  have hp9 : 54 = r1 := Eq.symm hp9
  subst hp9
  refine lv_i2l (v := 54) hx hb d_SeriesVaultLaw_count_7 (by decide) ?_
  refine va_last hx hb hK hP hD hS 0 2 rfl rfl (by unfold vp_in; decide) d_SeriesVaultLaw_count_8 (fun H locs hP hD hS => ?_)
  have hP : va_P D vwCl [(o, .inl (dA 2, 1, .inr (.inl (vp_updL og 0 54)))), (a, .inr (0, fs)), (b, .inr (1, gs)), (b2, .inr (3, is))] H := hP
  have hD : va_D A [(o, .inl (dA 2, 1, .inr (.inl (vp_updL og 0 54)))), (a, .inr (0, fs)), (b, .inr (1, gs)), (b2, .inr (3, is))] := hD
  refine lv_goto hx hb d_SeriesVaultLaw_count_9 (tgt := 18) rfl ?_
  refine lv_iconst (v := 0) hx hb d_SeriesVaultLaw_count_18 (by decide) ?_
  exact rtI hx hb hr hlk hP hD hS () rfl [1, 2, 3, 0] rfl rfl (by decide) (Nat.le_of_ble_eq_true rfl) (Nat.le_of_ble_eq_true rfl) d_SeriesVaultLaw_count_19
set_option maxHeartbeats 4000000 in
set_option maxRecDepth 100000 in
theorem c_K_count_5 (l : Launch) (htr : l.stackTraces = false) (D : va_G) (dA : Nat → ClassId) (sz : Nat) (a : Nat) (fs : List Value) (b : Nat) (gs : List Value) (o : Nat) (og : Nat → Int64) (h_fs_powered : fs[5]? = some (.int 1)) (h_fs_journal : fs[8]? = some (.ref b)) (hl_fs : fs.length = 18) (h_gs_units : gs[8]? = some (.int 0)) (hl_gs : gs.length = 13) : Met l ⟨"SeriesVaultLaw", "count", "(LSeriesVault;I[J)I"⟩ [Cond.codeWith ⟨"SeriesVaultLaw", "count", "(LSeriesVault;I[J)I"⟩ method_20_code 4 (some FieldType.int) [(0, 9, 12, 29), (0, 9, 15, 19)]] { frames := 3, cells := 0, slots := 0, locals := 41 } (pC D dA [.ref a, .int 5, .ref o] [(a, .inr (0, fs)), (b, .inr (1, gs)), (o, .inl (dA 2, 1, .inr (.inl og)))] sz) (va_Qi (fun (r : Int32) (_ : Unit) => r = 0) (fun (u9 : Unit) t9 => bW D (va_A [(a, .inr (0, fs)), (b, .inr (1, gs)), (o, .inl (dA 2, 1, .inr (.inl og)))] sz) [(a, .inr (0, fs)), (b, .inr (1, gs)), (o, .inl (dA 2, 1, .inr (.inl (vp_updL og 0 0))))] t9) (va_A [(a, .inr (0, fs)), (b, .inr (1, gs)), (o, .inl (dA 2, 1, .inr (.inl og)))] sz)) 0 0 (va_A [(a, .inr (0, fs)), (b, .inr (1, gs)), (o, .inl (dA 2, 1, .inr (.inl og)))] sz) := by
  refine mkW (y := ⟨"SeriesVaultLaw", "count", "(LSeriesVault;I[J)I"⟩) (cc := method_20_code) (maxL := 4) (av := [.ref a, .int 5, .ref o]) (ws := [(a, .inr (0, fs)), (b, .inr (1, gs)), (o, .inl (dA 2, 1, .inr (.inl og)))]) (sz := sz) (Qc := fun A => va_Qi (fun (r : Int32) (_ : Unit) => r = 0) (fun (u9 : Unit) t9 => bW D A [(a, .inr (0, fs)), (b, .inr (1, gs)), (o, .inl (dA 2, 1, .inr (.inl (vp_updL og 0 0))))] t9) A) (by decide) (Nat.le_of_ble_eq_true rfl) ?_
  intro A p e s m below meth c ls hsz htab hB
  obtain ⟨hx, hb, hr, hml, hown, hin, hlk, hE, hK, hP, hD, hS, hA, hN, hl⟩ := hB
  have hown : s.vm.findClass "SeriesVaultLaw" = some m.cls := hown
  have hin : meth.name = "count" := hin
  have hl : lv_has ls 4 [(0, .ref a), (1, .int 5), (2, .ref o)] := hl
  obtain ⟨H, hH⟩ : ∃ z, z = s.heap := ⟨_, rfl⟩
  have hP : va_P D vwCl [(a, .inr (0, fs)), (b, .inr (1, gs)), (o, .inl (dA 2, 1, .inr (.inl og)))] H := by rw [hH]; exact hP
  have hS : va_S A s.heap H [] := by rw [hH]; exact hS
  rw [← hH]
  refine lv_aload_n hx hb d_SeriesVaultLaw_count_0 rfl (lv_at hl 2 rfl) ?_
  refine lv_iconst (v := 0) hx hb d_SeriesVaultLaw_count_1 (by decide) ?_
  refine lv_aload_n hx hb d_SeriesVaultLaw_count_2 rfl (lv_at hl 0 rfl) ?_
  refine lv_iload_n hx hb d_SeriesVaultLaw_count_3 rfl (lv_at hl 1 rfl) ?_
  have hPc := hP.sub (ws' := [(a, .inr (0, fs)), (b, .inr (1, gs))]) [0, 1] rfl
  have hDc := hD.sub (ws' := [(a, .inr (0, fs)), (b, .inr (1, gs))]) [0, 1] (by decide) rfl
  refine jnI (rnV (As := [.int 5]) (rest := [.int 0, .ref o]) hx hb hml hown hE hK (hN _ _ hS) hPc hDc (c_V_count_5 l D dA H.size a fs b gs h_fs_powered h_fs_journal hl_fs h_gs_units hl_gs) (q0 := 0) rfl rfl w703 w702 w704 w705 w277 rfl rfl ⟨⟨by decide, by decide⟩, rfl⟩ ⟨(Nat.le_of_ble_eq_true rfl), (Nat.le_of_ble_eq_true rfl)⟩ rfl hl.1 rfl (Nat.le_of_ble_eq_true rfl) d_SeriesVaultLaw_count_4 ⟨(Nat.le_of_ble_eq_true rfl), (Nat.le_of_ble_eq_true rfl)⟩) hP hD hS hA [0, 1] [2] (wr := [(o, .inl (dA 2, 1, .inr (.inl og)))]) rfl rfl (by decide) (by decide) (fun r1 u9 H locs hp9 hP hD hS => ?_)
  have hP : va_P D vwCl [(o, .inl (dA 2, 1, .inr (.inl og))), (a, .inr (0, fs)), (b, .inr (1, gs))] H := hP
  have hD : va_D A [(o, .inl (dA 2, 1, .inr (.inl og))), (a, .inr (0, fs)), (b, .inr (1, gs))] := hD
  have hp9 : 0 = r1 := Eq.symm hp9
  subst hp9
  refine lv_i2l (v := 0) hx hb d_SeriesVaultLaw_count_7 (by decide) ?_
  refine va_last hx hb hK hP hD hS 0 2 rfl rfl (by unfold vp_in; decide) d_SeriesVaultLaw_count_8 (fun H locs hP hD hS => ?_)
  have hP : va_P D vwCl [(o, .inl (dA 2, 1, .inr (.inl (vp_updL og 0 0)))), (a, .inr (0, fs)), (b, .inr (1, gs))] H := hP
  have hD : va_D A [(o, .inl (dA 2, 1, .inr (.inl (vp_updL og 0 0)))), (a, .inr (0, fs)), (b, .inr (1, gs))] := hD
  refine lv_goto hx hb d_SeriesVaultLaw_count_9 (tgt := 18) rfl ?_
  refine lv_iconst (v := 0) hx hb d_SeriesVaultLaw_count_18 (by decide) ?_
  exact rtI hx hb hr hlk hP hD hS () rfl [1, 2, 0] rfl rfl (by decide) (Nat.le_of_ble_eq_true rfl) (Nat.le_of_ble_eq_true rfl) d_SeriesVaultLaw_count_19
set_option maxHeartbeats 4000000 in
set_option maxRecDepth 100000 in
theorem c_K_count_6 (l : Launch) (htr : l.stackTraces = false) (D : va_G) (dA : Nat → ClassId) (sz : Nat) (a : Nat) (fs : List Value) (b : Nat) (gs : List Value) (o : Nat) (og : Nat → Int64) (h_fs_powered : fs[5]? = some (.int 1)) (h_fs_journal : fs[8]? = some (.ref b)) (hl_fs : fs.length = 18) (h_gs_size : gs[6]? = some (.int 0)) (hl_gs : gs.length = 13) : Met l ⟨"SeriesVaultLaw", "count", "(LSeriesVault;I[J)I"⟩ [Cond.codeWith ⟨"SeriesVaultLaw", "count", "(LSeriesVault;I[J)I"⟩ method_20_code 4 (some FieldType.int) [(0, 9, 12, 29), (0, 9, 15, 19)]] { frames := 3, cells := 0, slots := 0, locals := 41 } (pC D dA [.ref a, .int 6, .ref o] [(a, .inr (0, fs)), (b, .inr (1, gs)), (o, .inl (dA 2, 1, .inr (.inl og)))] sz) (va_Qi (fun (r : Int32) (_ : Unit) => r = 0) (fun (u9 : Unit) t9 => bW D (va_A [(a, .inr (0, fs)), (b, .inr (1, gs)), (o, .inl (dA 2, 1, .inr (.inl og)))] sz) [(a, .inr (0, fs)), (b, .inr (1, gs)), (o, .inl (dA 2, 1, .inr (.inl (vp_updL og 0 0))))] t9) (va_A [(a, .inr (0, fs)), (b, .inr (1, gs)), (o, .inl (dA 2, 1, .inr (.inl og)))] sz)) 0 0 (va_A [(a, .inr (0, fs)), (b, .inr (1, gs)), (o, .inl (dA 2, 1, .inr (.inl og)))] sz) := by
  refine mkW (y := ⟨"SeriesVaultLaw", "count", "(LSeriesVault;I[J)I"⟩) (cc := method_20_code) (maxL := 4) (av := [.ref a, .int 6, .ref o]) (ws := [(a, .inr (0, fs)), (b, .inr (1, gs)), (o, .inl (dA 2, 1, .inr (.inl og)))]) (sz := sz) (Qc := fun A => va_Qi (fun (r : Int32) (_ : Unit) => r = 0) (fun (u9 : Unit) t9 => bW D A [(a, .inr (0, fs)), (b, .inr (1, gs)), (o, .inl (dA 2, 1, .inr (.inl (vp_updL og 0 0))))] t9) A) (by decide) (Nat.le_of_ble_eq_true rfl) ?_
  intro A p e s m below meth c ls hsz htab hB
  obtain ⟨hx, hb, hr, hml, hown, hin, hlk, hE, hK, hP, hD, hS, hA, hN, hl⟩ := hB
  have hown : s.vm.findClass "SeriesVaultLaw" = some m.cls := hown
  have hin : meth.name = "count" := hin
  have hl : lv_has ls 4 [(0, .ref a), (1, .int 6), (2, .ref o)] := hl
  obtain ⟨H, hH⟩ : ∃ z, z = s.heap := ⟨_, rfl⟩
  have hP : va_P D vwCl [(a, .inr (0, fs)), (b, .inr (1, gs)), (o, .inl (dA 2, 1, .inr (.inl og)))] H := by rw [hH]; exact hP
  have hS : va_S A s.heap H [] := by rw [hH]; exact hS
  rw [← hH]
  refine lv_aload_n hx hb d_SeriesVaultLaw_count_0 rfl (lv_at hl 2 rfl) ?_
  refine lv_iconst (v := 0) hx hb d_SeriesVaultLaw_count_1 (by decide) ?_
  refine lv_aload_n hx hb d_SeriesVaultLaw_count_2 rfl (lv_at hl 0 rfl) ?_
  refine lv_iload_n hx hb d_SeriesVaultLaw_count_3 rfl (lv_at hl 1 rfl) ?_
  have hPc := hP.sub (ws' := [(a, .inr (0, fs)), (b, .inr (1, gs))]) [0, 1] rfl
  have hDc := hD.sub (ws' := [(a, .inr (0, fs)), (b, .inr (1, gs))]) [0, 1] (by decide) rfl
  refine jnI (rnV (As := [.int 6]) (rest := [.int 0, .ref o]) hx hb hml hown hE hK (hN _ _ hS) hPc hDc (c_V_count_6 l D dA H.size a fs b gs h_fs_powered h_fs_journal hl_fs h_gs_size hl_gs) (q0 := 0) rfl rfl w703 w702 w704 w705 w277 rfl rfl ⟨⟨by decide, by decide⟩, rfl⟩ ⟨(Nat.le_of_ble_eq_true rfl), (Nat.le_of_ble_eq_true rfl)⟩ rfl hl.1 rfl (Nat.le_of_ble_eq_true rfl) d_SeriesVaultLaw_count_4 ⟨(Nat.le_of_ble_eq_true rfl), (Nat.le_of_ble_eq_true rfl)⟩) hP hD hS hA [0, 1] [2] (wr := [(o, .inl (dA 2, 1, .inr (.inl og)))]) rfl rfl (by decide) (by decide) (fun r1 u9 H locs hp9 hP hD hS => ?_)
  have hP : va_P D vwCl [(o, .inl (dA 2, 1, .inr (.inl og))), (a, .inr (0, fs)), (b, .inr (1, gs))] H := hP
  have hD : va_D A [(o, .inl (dA 2, 1, .inr (.inl og))), (a, .inr (0, fs)), (b, .inr (1, gs))] := hD
  have hp9 : 0 = r1 := Eq.symm hp9
  subst hp9
  refine lv_i2l (v := 0) hx hb d_SeriesVaultLaw_count_7 (by decide) ?_
  refine va_last hx hb hK hP hD hS 0 2 rfl rfl (by unfold vp_in; decide) d_SeriesVaultLaw_count_8 (fun H locs hP hD hS => ?_)
  have hP : va_P D vwCl [(o, .inl (dA 2, 1, .inr (.inl (vp_updL og 0 0)))), (a, .inr (0, fs)), (b, .inr (1, gs))] H := hP
  have hD : va_D A [(o, .inl (dA 2, 1, .inr (.inl (vp_updL og 0 0)))), (a, .inr (0, fs)), (b, .inr (1, gs))] := hD
  refine lv_goto hx hb d_SeriesVaultLaw_count_9 (tgt := 18) rfl ?_
  refine lv_iconst (v := 0) hx hb d_SeriesVaultLaw_count_18 (by decide) ?_
  exact rtI hx hb hr hlk hP hD hS () rfl [1, 2, 0] rfl rfl (by decide) (Nat.le_of_ble_eq_true rfl) (Nat.le_of_ble_eq_true rfl) d_SeriesVaultLaw_count_19
set_option maxHeartbeats 4000000 in
set_option maxRecDepth 100000 in
theorem c_K_count_7 (l : Launch) (htr : l.stackTraces = false) (D : va_G) (dA : Nat → ClassId) (sz : Nat) (a : Nat) (fs : List Value) (b : Nat) (gs : List Value) (o : Nat) (og : Nat → Int64) (h_fs_powered : fs[5]? = some (.int 1)) (h_fs_journal : fs[8]? = some (.ref b)) (hl_fs : fs.length = 18) (h_gs_kept : gs[7]? = some (.int 0)) (hl_gs : gs.length = 13) : Met l ⟨"SeriesVaultLaw", "count", "(LSeriesVault;I[J)I"⟩ [Cond.codeWith ⟨"SeriesVaultLaw", "count", "(LSeriesVault;I[J)I"⟩ method_20_code 4 (some FieldType.int) [(0, 9, 12, 29), (0, 9, 15, 19)]] { frames := 3, cells := 0, slots := 0, locals := 41 } (pC D dA [.ref a, .int 7, .ref o] [(a, .inr (0, fs)), (b, .inr (1, gs)), (o, .inl (dA 2, 1, .inr (.inl og)))] sz) (va_Qi (fun (r : Int32) (_ : Unit) => r = 0) (fun (u9 : Unit) t9 => bW D (va_A [(a, .inr (0, fs)), (b, .inr (1, gs)), (o, .inl (dA 2, 1, .inr (.inl og)))] sz) [(a, .inr (0, fs)), (b, .inr (1, gs)), (o, .inl (dA 2, 1, .inr (.inl (vp_updL og 0 0))))] t9) (va_A [(a, .inr (0, fs)), (b, .inr (1, gs)), (o, .inl (dA 2, 1, .inr (.inl og)))] sz)) 0 0 (va_A [(a, .inr (0, fs)), (b, .inr (1, gs)), (o, .inl (dA 2, 1, .inr (.inl og)))] sz) := by
  refine mkW (y := ⟨"SeriesVaultLaw", "count", "(LSeriesVault;I[J)I"⟩) (cc := method_20_code) (maxL := 4) (av := [.ref a, .int 7, .ref o]) (ws := [(a, .inr (0, fs)), (b, .inr (1, gs)), (o, .inl (dA 2, 1, .inr (.inl og)))]) (sz := sz) (Qc := fun A => va_Qi (fun (r : Int32) (_ : Unit) => r = 0) (fun (u9 : Unit) t9 => bW D A [(a, .inr (0, fs)), (b, .inr (1, gs)), (o, .inl (dA 2, 1, .inr (.inl (vp_updL og 0 0))))] t9) A) (by decide) (Nat.le_of_ble_eq_true rfl) ?_
  intro A p e s m below meth c ls hsz htab hB
  obtain ⟨hx, hb, hr, hml, hown, hin, hlk, hE, hK, hP, hD, hS, hA, hN, hl⟩ := hB
  have hown : s.vm.findClass "SeriesVaultLaw" = some m.cls := hown
  have hin : meth.name = "count" := hin
  have hl : lv_has ls 4 [(0, .ref a), (1, .int 7), (2, .ref o)] := hl
  obtain ⟨H, hH⟩ : ∃ z, z = s.heap := ⟨_, rfl⟩
  have hP : va_P D vwCl [(a, .inr (0, fs)), (b, .inr (1, gs)), (o, .inl (dA 2, 1, .inr (.inl og)))] H := by rw [hH]; exact hP
  have hS : va_S A s.heap H [] := by rw [hH]; exact hS
  rw [← hH]
  refine lv_aload_n hx hb d_SeriesVaultLaw_count_0 rfl (lv_at hl 2 rfl) ?_
  refine lv_iconst (v := 0) hx hb d_SeriesVaultLaw_count_1 (by decide) ?_
  refine lv_aload_n hx hb d_SeriesVaultLaw_count_2 rfl (lv_at hl 0 rfl) ?_
  refine lv_iload_n hx hb d_SeriesVaultLaw_count_3 rfl (lv_at hl 1 rfl) ?_
  have hPc := hP.sub (ws' := [(a, .inr (0, fs)), (b, .inr (1, gs))]) [0, 1] rfl
  have hDc := hD.sub (ws' := [(a, .inr (0, fs)), (b, .inr (1, gs))]) [0, 1] (by decide) rfl
  refine jnI (rnV (As := [.int 7]) (rest := [.int 0, .ref o]) hx hb hml hown hE hK (hN _ _ hS) hPc hDc (c_V_count_7 l D dA H.size a fs b gs h_fs_powered h_fs_journal hl_fs h_gs_kept hl_gs) (q0 := 0) rfl rfl w703 w702 w704 w705 w277 rfl rfl ⟨⟨by decide, by decide⟩, rfl⟩ ⟨(Nat.le_of_ble_eq_true rfl), (Nat.le_of_ble_eq_true rfl)⟩ rfl hl.1 rfl (Nat.le_of_ble_eq_true rfl) d_SeriesVaultLaw_count_4 ⟨(Nat.le_of_ble_eq_true rfl), (Nat.le_of_ble_eq_true rfl)⟩) hP hD hS hA [0, 1] [2] (wr := [(o, .inl (dA 2, 1, .inr (.inl og)))]) rfl rfl (by decide) (by decide) (fun r1 u9 H locs hp9 hP hD hS => ?_)
  have hP : va_P D vwCl [(o, .inl (dA 2, 1, .inr (.inl og))), (a, .inr (0, fs)), (b, .inr (1, gs))] H := hP
  have hD : va_D A [(o, .inl (dA 2, 1, .inr (.inl og))), (a, .inr (0, fs)), (b, .inr (1, gs))] := hD
  have hp9 : 0 = r1 := Eq.symm hp9
  subst hp9
  refine lv_i2l (v := 0) hx hb d_SeriesVaultLaw_count_7 (by decide) ?_
  refine va_last hx hb hK hP hD hS 0 2 rfl rfl (by unfold vp_in; decide) d_SeriesVaultLaw_count_8 (fun H locs hP hD hS => ?_)
  have hP : va_P D vwCl [(o, .inl (dA 2, 1, .inr (.inl (vp_updL og 0 0)))), (a, .inr (0, fs)), (b, .inr (1, gs))] H := hP
  have hD : va_D A [(o, .inl (dA 2, 1, .inr (.inl (vp_updL og 0 0)))), (a, .inr (0, fs)), (b, .inr (1, gs))] := hD
  refine lv_goto hx hb d_SeriesVaultLaw_count_9 (tgt := 18) rfl ?_
  refine lv_iconst (v := 0) hx hb d_SeriesVaultLaw_count_18 (by decide) ?_
  exact rtI hx hb hr hlk hP hD hS () rfl [1, 2, 0] rfl rfl (by decide) (Nat.le_of_ble_eq_true rfl) (Nat.le_of_ble_eq_true rfl) d_SeriesVaultLaw_count_19
set_option maxHeartbeats 4000000 in
set_option maxRecDepth 100000 in
theorem c_K_count_8 (l : Launch) (htr : l.stackTraces = false) (D : va_G) (dA : Nat → ClassId) (sz : Nat) (a : Nat) (fs : List Value) (b1 : Nat) (hs : List Value) (b2 : Nat) (is : List Value) (o : Nat) (og : Nat → Int64) (h_fs_powered : fs[5]? = some (.int 1)) (h_fs_head : fs[9]? = some (.ref b1)) (h_fs_now : fs[11]? = some (.ref b2)) (hl_fs : fs.length = 18) (h_hs_size : hs[3]? = some (.int 0)) (hl_hs : hs.length = 4) (h_is_parcelCount : is[1]? = some (.int 0)) (hl_is : is.length = 11) : Met l ⟨"SeriesVaultLaw", "count", "(LSeriesVault;I[J)I"⟩ [Cond.codeWith ⟨"SeriesVaultLaw", "count", "(LSeriesVault;I[J)I"⟩ method_20_code 4 (some FieldType.int) [(0, 9, 12, 29), (0, 9, 15, 19)]] { frames := 4, cells := 0, slots := 0, locals := 65 } (pC D dA [.ref a, .int 8, .ref o] [(a, .inr (0, fs)), (b1, .inr (2, hs)), (b2, .inr (3, is)), (o, .inl (dA 2, 1, .inr (.inl og)))] sz) (va_Qi (fun (r : Int32) (_ : Unit) => r = 0) (fun (u9 : Unit) t9 => bW D (va_A [(a, .inr (0, fs)), (b1, .inr (2, hs)), (b2, .inr (3, is)), (o, .inl (dA 2, 1, .inr (.inl og)))] sz) [(a, .inr (0, fs)), (b1, .inr (2, hs)), (b2, .inr (3, is)), (o, .inl (dA 2, 1, .inr (.inl (vp_updL og 0 0))))] t9) (va_A [(a, .inr (0, fs)), (b1, .inr (2, hs)), (b2, .inr (3, is)), (o, .inl (dA 2, 1, .inr (.inl og)))] sz)) 0 0 (va_A [(a, .inr (0, fs)), (b1, .inr (2, hs)), (b2, .inr (3, is)), (o, .inl (dA 2, 1, .inr (.inl og)))] sz) := by
  refine mkW (y := ⟨"SeriesVaultLaw", "count", "(LSeriesVault;I[J)I"⟩) (cc := method_20_code) (maxL := 4) (av := [.ref a, .int 8, .ref o]) (ws := [(a, .inr (0, fs)), (b1, .inr (2, hs)), (b2, .inr (3, is)), (o, .inl (dA 2, 1, .inr (.inl og)))]) (sz := sz) (Qc := fun A => va_Qi (fun (r : Int32) (_ : Unit) => r = 0) (fun (u9 : Unit) t9 => bW D A [(a, .inr (0, fs)), (b1, .inr (2, hs)), (b2, .inr (3, is)), (o, .inl (dA 2, 1, .inr (.inl (vp_updL og 0 0))))] t9) A) (by decide) (Nat.le_of_ble_eq_true rfl) ?_
  intro A p e s m below meth c ls hsz htab hB
  obtain ⟨hx, hb, hr, hml, hown, hin, hlk, hE, hK, hP, hD, hS, hA, hN, hl⟩ := hB
  have hown : s.vm.findClass "SeriesVaultLaw" = some m.cls := hown
  have hin : meth.name = "count" := hin
  have hl : lv_has ls 4 [(0, .ref a), (1, .int 8), (2, .ref o)] := hl
  obtain ⟨H, hH⟩ : ∃ z, z = s.heap := ⟨_, rfl⟩
  have hP : va_P D vwCl [(a, .inr (0, fs)), (b1, .inr (2, hs)), (b2, .inr (3, is)), (o, .inl (dA 2, 1, .inr (.inl og)))] H := by rw [hH]; exact hP
  have hS : va_S A s.heap H [] := by rw [hH]; exact hS
  rw [← hH]
  refine lv_aload_n hx hb d_SeriesVaultLaw_count_0 rfl (lv_at hl 2 rfl) ?_
  refine lv_iconst (v := 0) hx hb d_SeriesVaultLaw_count_1 (by decide) ?_
  refine lv_aload_n hx hb d_SeriesVaultLaw_count_2 rfl (lv_at hl 0 rfl) ?_
  refine lv_iload_n hx hb d_SeriesVaultLaw_count_3 rfl (lv_at hl 1 rfl) ?_
  have hPc := hP.sub (ws' := [(a, .inr (0, fs)), (b1, .inr (2, hs)), (b2, .inr (3, is))]) [0, 1, 2] rfl
  have hDc := hD.sub (ws' := [(a, .inr (0, fs)), (b1, .inr (2, hs)), (b2, .inr (3, is))]) [0, 1, 2] (by decide) rfl
  refine jnI (rnV (As := [.int 8]) (rest := [.int 0, .ref o]) hx hb hml hown hE hK (hN _ _ hS) hPc hDc (c_V_count_8 l D dA H.size a fs b1 hs b2 is h_fs_powered h_fs_head h_fs_now hl_fs h_hs_size hl_hs h_is_parcelCount hl_is) (q0 := 0) rfl rfl w703 w702 w704 w705 w277 rfl rfl ⟨⟨by decide, by decide⟩, rfl⟩ ⟨(Nat.le_of_ble_eq_true rfl), (Nat.le_of_ble_eq_true rfl)⟩ rfl hl.1 rfl (Nat.le_of_ble_eq_true rfl) d_SeriesVaultLaw_count_4 ⟨(Nat.le_of_ble_eq_true rfl), (Nat.le_of_ble_eq_true rfl)⟩) hP hD hS hA [0, 1, 2] [3] (wr := [(o, .inl (dA 2, 1, .inr (.inl og)))]) rfl rfl (by decide) (by decide) (fun r1 u9 H locs hp9 hP hD hS => ?_)
  have hP : va_P D vwCl [(o, .inl (dA 2, 1, .inr (.inl og))), (a, .inr (0, fs)), (b1, .inr (2, hs)), (b2, .inr (3, is))] H := hP
  have hD : va_D A [(o, .inl (dA 2, 1, .inr (.inl og))), (a, .inr (0, fs)), (b1, .inr (2, hs)), (b2, .inr (3, is))] := hD
  have hp9 : 0 = r1 := Eq.symm hp9
  subst hp9
  refine lv_i2l (v := 0) hx hb d_SeriesVaultLaw_count_7 (by decide) ?_
  refine va_last hx hb hK hP hD hS 0 2 rfl rfl (by unfold vp_in; decide) d_SeriesVaultLaw_count_8 (fun H locs hP hD hS => ?_)
  have hP : va_P D vwCl [(o, .inl (dA 2, 1, .inr (.inl (vp_updL og 0 0)))), (a, .inr (0, fs)), (b1, .inr (2, hs)), (b2, .inr (3, is))] H := hP
  have hD : va_D A [(o, .inl (dA 2, 1, .inr (.inl (vp_updL og 0 0)))), (a, .inr (0, fs)), (b1, .inr (2, hs)), (b2, .inr (3, is))] := hD
  refine lv_goto hx hb d_SeriesVaultLaw_count_9 (tgt := 18) rfl ?_
  refine lv_iconst (v := 0) hx hb d_SeriesVaultLaw_count_18 (by decide) ?_
  exact rtI hx hb hr hlk hP hD hS () rfl [1, 2, 3, 0] rfl rfl (by decide) (Nat.le_of_ble_eq_true rfl) (Nat.le_of_ble_eq_true rfl) d_SeriesVaultLaw_count_19
theorem d_SeriesVaultLaw_count_15 : decode method_20_code 15 = .ok (.astore_n 3, 1) := by decide +kernel
theorem d_SeriesVaultLaw_count_16 : decode method_20_code 16 = .ok (.iconst 2, 1) := by decide +kernel
theorem d_SeriesVaultLaw_count_17 : decode method_20_code 17 = .ok (.ireturn, 1) := by decide +kernel
set_option maxHeartbeats 4000000 in
set_option maxRecDepth 100000 in
theorem c_K_count_x (l : Launch) (htr : l.stackTraces = false) (D : va_G) (dA : Nat → ClassId) (sz : Nat) (a : Nat) (fs : List Value) (n : Int32) (o : Nat) (og : Nat → Int64) (h0 : n < 0 ∨ 8 < n) (h_fs_powered : fs[5]? = some (.int 1)) (hl_fs : fs.length = 18) : Met l ⟨"SeriesVaultLaw", "count", "(LSeriesVault;I[J)I"⟩ [Cond.codeWith ⟨"SeriesVaultLaw", "count", "(LSeriesVault;I[J)I"⟩ method_20_code 4 (some FieldType.int) [(0, 9, 12, 29), (0, 9, 15, 19)]] { frames := 7, cells := 1, slots := 6, locals := 102 } (pC D dA [.ref a, .int n, .ref o] [(a, .inr (0, fs)), (o, .inl (dA 2, 1, .inr (.inl og)))] sz) (va_Qi (fun (r : Int32) (_ : Unit) => r = 2) (fun (u9 : Unit) t9 => bW D (va_A [(a, .inr (0, fs)), (o, .inl (dA 2, 1, .inr (.inl og)))] sz) [(a, .inr (0, fs)), (o, .inl (dA 2, 1, .inr (.inl og)))] t9) (va_A [(a, .inr (0, fs)), (o, .inl (dA 2, 1, .inr (.inl og)))] sz)) 1 6 (va_A [(a, .inr (0, fs)), (o, .inl (dA 2, 1, .inr (.inl og)))] sz) := by
  refine mkW (y := ⟨"SeriesVaultLaw", "count", "(LSeriesVault;I[J)I"⟩) (cc := method_20_code) (maxL := 4) (av := [.ref a, .int n, .ref o]) (ws := [(a, .inr (0, fs)), (o, .inl (dA 2, 1, .inr (.inl og)))]) (sz := sz) (Qc := fun A => va_Qi (fun (r : Int32) (_ : Unit) => r = 2) (fun (u9 : Unit) t9 => bW D A [(a, .inr (0, fs)), (o, .inl (dA 2, 1, .inr (.inl og)))] t9) A) (by decide) (Nat.le_of_ble_eq_true rfl) ?_
  intro A p e s m below meth c ls hsz htab hB
  obtain ⟨hx, hb, hr, hml, hown, hin, hlk, hE, hK, hP, hD, hS, hA, hN, hl⟩ := hB
  have hown : s.vm.findClass "SeriesVaultLaw" = some m.cls := hown
  have hin : meth.name = "count" := hin
  have hl : lv_has ls 4 [(0, .ref a), (1, .int n), (2, .ref o)] := hl
  obtain ⟨H, hH⟩ : ∃ z, z = s.heap := ⟨_, rfl⟩
  have hP : va_P D vwCl [(a, .inr (0, fs)), (o, .inl (dA 2, 1, .inr (.inl og)))] H := by rw [hH]; exact hP
  have hS : va_S A s.heap H [] := by rw [hH]; exact hS
  rw [← hH]
  refine lv_aload_n hx hb d_SeriesVaultLaw_count_0 rfl (lv_at hl 2 rfl) ?_
  refine lv_iconst (v := 0) hx hb d_SeriesVaultLaw_count_1 (by decide) ?_
  refine lv_aload_n hx hb d_SeriesVaultLaw_count_2 rfl (lv_at hl 0 rfl) ?_
  refine lv_iload_n hx hb d_SeriesVaultLaw_count_3 rfl (lv_at hl 1 rfl) ?_
  have hPc := hP.sub (ws' := [(a, .inr (0, fs))]) [0] rfl
  have hDc := hD.sub (ws' := [(a, .inr (0, fs))]) [0] (by decide) rfl
  refine xnV (As := [.int n]) (rest := [.int 0, .ref o]) hx hb hml hown hE hK (hN _ _ hS) hPc hDc (c_V_count_x l htr D dA H.size a fs n h0 h_fs_powered hl_fs) (q0 := 0) rfl rfl w703 w702 w704 w705 w277 rfl rfl ⟨⟨by decide, by decide⟩, rfl⟩ ⟨(Nat.le_of_ble_eq_true rfl), (Nat.le_of_ble_eq_true rfl)⟩ rfl hl.1 rfl (Nat.le_of_ble_eq_true rfl) d_SeriesVaultLaw_count_4 ⟨(Nat.le_of_ble_eq_true rfl), (Nat.le_of_ble_eq_true rfl)⟩ hP hD hS hA [0] [1] (wr := [(o, .inl (dA 2, 1, .inr (.inl og)))]) rfl rfl (by decide) (by decide) (fun x1 ce H locs hP hD hS hce hcv hcl => ?_)
  have hP : va_P D vwCl [(o, .inl (dA 2, 1, .inr (.inl og))), (a, .inr (0, fs))] H := hP
  have hD : va_D A [(o, .inl (dA 2, 1, .inr (.inl og))), (a, .inr (0, fs))] := hD
  refine xCatch (E := "java/lang/IllegalArgumentException") hown hE [⟨0, 9, 12, 29⟩] ⟨0, 9, 15, 19⟩ [] htab (List.forall_mem_cons.mpr ⟨⟨by decide, "java/lang/IllegalStateException", w363, by decide⟩, fun _ h => absurd h List.not_mem_nil⟩) (by decide) (by decide) w349 w267 hce hcv hcl ?_
  refine lv_astore_n hx hb d_SeriesVaultLaw_count_15 rfl hl (by decide) rfl (fun ls hl => ?_)
  have hl : lv_has ls 4 [(3, .ref x1), (0, .ref a), (1, .int n), (2, .ref o)] := hl
  refine lv_iconst (v := 2) hx hb d_SeriesVaultLaw_count_16 (by decide) ?_
  exact rtI hx hb hr hlk hP hD hS () rfl [1, 0] rfl rfl (by decide) (Nat.le_of_ble_eq_true rfl) (Nat.le_of_ble_eq_true rfl) d_SeriesVaultLaw_count_17
theorem d_SeriesVaultLaw_ask_0 : decode method_16_code 0 = .ok (.aload 6, 2) := by decide +kernel
theorem d_SeriesVaultLaw_ask_2 : decode method_16_code 2 = .ok (.iconst 0, 1) := by decide +kernel
theorem d_SeriesVaultLaw_ask_3 : decode method_16_code 3 = .ok (.aload_n 0, 1) := by decide +kernel
theorem d_SeriesVaultLaw_ask_4 : decode method_16_code 4 = .ok (.lload_n 1, 1) := by decide +kernel
theorem d_SeriesVaultLaw_ask_5 : decode method_16_code 5 = .ok (.lload_n 3, 1) := by decide +kernel
theorem d_SeriesVaultLaw_ask_6 : decode method_16_code 6 = .ok (.iload 5, 2) := by decide +kernel
theorem d_SeriesVaultLaw_ask_8 : decode method_16_code 8 = .ok (.invokevirtual 65, 3) := by decide +kernel
theorem d_SeriesVaultLaw_ask_11 : decode method_16_code 11 = .ok (.i2l, 1) := by decide +kernel
theorem d_SeriesVaultLaw_ask_12 : decode method_16_code 12 = .ok (.lastore, 1) := by decide +kernel
theorem d_SeriesVaultLaw_ask_13 : decode method_16_code 13 = .ok (.goto 11, 3) := by decide +kernel
theorem d_SeriesVaultLaw_ask_24 : decode method_16_code 24 = .ok (.iconst 0, 1) := by decide +kernel
theorem d_SeriesVaultLaw_ask_25 : decode method_16_code 25 = .ok (.ireturn, 1) := by decide +kernel
theorem w706 : Cond.methodLink "SeriesVaultLaw" 65 ⟨"SeriesVault", "ask", "(JJI)I"⟩ ∈ aW := aw_of (tb_6 (List.mem_of_getElem? (i := 177) rfl)) rfl
theorem w707 : Cond.code ⟨"SeriesVault", "ask", "(JJI)I"⟩ prog_1_method_45_code 8 (some FieldType.int) ∈ aW := aw_of (tb_6 (List.mem_of_getElem? (i := 180) rfl)) rfl
theorem w708 : Cond.instanceMethod ⟨"SeriesVault", "ask", "(JJI)I"⟩ ∈ aW := aw_of (tb_6 (List.mem_of_getElem? (i := 178) rfl)) rfl
theorem w709 : Cond.selects "SeriesVault" ⟨"SeriesVault", "ask", "(JJI)I"⟩ ⟨"SeriesVault", "ask", "(JJI)I"⟩ ∈ aW := aw_of (tb_6 (List.mem_of_getElem? (i := 179) rfl)) rfl
set_option maxHeartbeats 4000000 in
set_option maxRecDepth 100000 in
theorem c_K_ask (l : Launch) (htr : l.stackTraces = false) (D : va_G) (dA : Nat → ClassId) (sz : Nat) (a : Nat) (fs : List Value) (b : Nat) (b3 : Nat) (hs : List Value) (b1 : Nat) (gs : List Value) (k : Int32) (b2 : Nat) (t : Int64) (w : Int64) (n : Int32) (o : Nat) (og : Nat → Int64) (h1 : ¬ t < 0) (h2 : t ≤ 1099511627775) (h3 : ¬ w < 1) (h4 : w ≤ 1099511627775) (h5 : ¬ n < 1) (h6 : n ≤ 64) (h_fs_tape : fs[0]? = some (.ref b)) (h_fs_tapeLength : fs[1]? = some (.int 0)) (h_fs_powered : fs[5]? = some (.int 1)) (h_fs_question : fs[15]? = some (.ref b3)) (hl_fs : fs.length = 18) (h_hs_steps : hs[8]? = some (.ref b1)) (hl_hs : hs.length = 9) (h_gs_elementData : gs[0]? = some (.ref b2)) (h_gs_size : gs[1]? = some (.int 0)) (h_gs_modCount : gs[2]? = some (.int k)) (hl_gs : gs.length = 3) : Met l ⟨"SeriesVaultLaw", "ask", "(LSeriesVault;JJI[J)I"⟩ [Cond.codeWith ⟨"SeriesVaultLaw", "ask", "(LSeriesVault;JJI[J)I"⟩ method_16_code 8 (some FieldType.int) [(0, 13, 16, 29), (0, 13, 20, 19)]] { frames := 7, cells := 0, slots := 0, locals := 140 } (pC D dA [.ref a, .long t, .long w, .int n, .ref o] [(a, .inr (0, fs)), (b3, .inr (5, hs)), (b1, .inr (6, gs)), (o, .inl (dA 2, 1, .inr (.inl og)))] sz) (va_Qi (fun (r : Int32) (_ : Unit) => r = 0) (fun (u9 : Unit) t9 => bW D (va_A [(a, .inr (0, fs)), (b3, .inr (5, hs)), (b1, .inr (6, gs)), (o, .inl (dA 2, 1, .inr (.inl og)))] sz) [(a, .inr (0, ((((fs.set 1 (.int 0)).set 17 (.int 0)).set 2 (.int 2)).set 3 (.int 0)))), (b3, .inr (5, ((((((((((hs.set 0 (.ref b)).set 1 (.int 0)).set 6 (.int 0)).set 7 (.int 0)).set 4 (.int 0)).set 3 (.int 0)).set 4 (.int 0)).set 2 (.int 256)).set 6 (.int 2)).set 7 (.int 0)))), (b1, .inr (6, ((gs.set 2 (.int (k + 1))).set 1 (.int 0)))), (o, .inl (dA 2, 1, .inr (.inl (vp_updL og 0 (-1)))))] t9) (va_A [(a, .inr (0, fs)), (b3, .inr (5, hs)), (b1, .inr (6, gs)), (o, .inl (dA 2, 1, .inr (.inl og)))] sz)) 0 0 (va_A [(a, .inr (0, fs)), (b3, .inr (5, hs)), (b1, .inr (6, gs)), (o, .inl (dA 2, 1, .inr (.inl og)))] sz) := by
  refine mkW (y := ⟨"SeriesVaultLaw", "ask", "(LSeriesVault;JJI[J)I"⟩) (cc := method_16_code) (maxL := 8) (av := [.ref a, .long t, .long w, .int n, .ref o]) (ws := [(a, .inr (0, fs)), (b3, .inr (5, hs)), (b1, .inr (6, gs)), (o, .inl (dA 2, 1, .inr (.inl og)))]) (sz := sz) (Qc := fun A => va_Qi (fun (r : Int32) (_ : Unit) => r = 0) (fun (u9 : Unit) t9 => bW D A [(a, .inr (0, ((((fs.set 1 (.int 0)).set 17 (.int 0)).set 2 (.int 2)).set 3 (.int 0)))), (b3, .inr (5, ((((((((((hs.set 0 (.ref b)).set 1 (.int 0)).set 6 (.int 0)).set 7 (.int 0)).set 4 (.int 0)).set 3 (.int 0)).set 4 (.int 0)).set 2 (.int 256)).set 6 (.int 2)).set 7 (.int 0)))), (b1, .inr (6, ((gs.set 2 (.int (k + 1))).set 1 (.int 0)))), (o, .inl (dA 2, 1, .inr (.inl (vp_updL og 0 (-1)))))] t9) A) (by decide) (Nat.le_of_ble_eq_true rfl) ?_
  intro A p e s m below meth c ls hsz htab hB
  obtain ⟨hx, hb, hr, hml, hown, hin, hlk, hE, hK, hP, hD, hS, hA, hN, hl⟩ := hB
  have hown : s.vm.findClass "SeriesVaultLaw" = some m.cls := hown
  have hin : meth.name = "ask" := hin
  have hl : lv_has ls 8 [(0, .ref a), (1, .long t), (3, .long w), (5, .int n), (6, .ref o)] := hl
  obtain ⟨H, hH⟩ : ∃ z, z = s.heap := ⟨_, rfl⟩
  have hP : va_P D vwCl [(a, .inr (0, fs)), (b3, .inr (5, hs)), (b1, .inr (6, gs)), (o, .inl (dA 2, 1, .inr (.inl og)))] H := by rw [hH]; exact hP
  have hS : va_S A s.heap H [] := by rw [hH]; exact hS
  rw [← hH]
  refine lv_aload hx hb d_SeriesVaultLaw_ask_0 (lv_at hl 4 rfl) ?_
  refine lv_iconst (v := 0) hx hb d_SeriesVaultLaw_ask_2 (by decide) ?_
  refine lv_aload_n hx hb d_SeriesVaultLaw_ask_3 rfl (lv_at hl 0 rfl) ?_
  refine lv_lload_n hx hb d_SeriesVaultLaw_ask_4 rfl (lv_at hl 1 rfl) ?_
  refine lv_lload_n hx hb d_SeriesVaultLaw_ask_5 rfl (lv_at hl 2 rfl) ?_
  refine lv_iload hx hb d_SeriesVaultLaw_ask_6 (lv_at hl 3 rfl) ?_
  have hPc := hP.sub (ws' := [(a, .inr (0, fs)), (b3, .inr (5, hs)), (b1, .inr (6, gs))]) [0, 1, 2] rfl
  have hDc := hD.sub (ws' := [(a, .inr (0, fs)), (b3, .inr (5, hs)), (b1, .inr (6, gs))]) [0, 1, 2] (by decide) rfl
  refine jnI (rnV (As := [.long t, .long w, .int n]) (rest := [.int 0, .ref o]) hx hb hml hown hE hK (hN _ _ hS) hPc hDc (c_V_ask l D dA H.size a fs b b3 hs b1 gs k b2 t w n h1 h2 h3 h4 h5 h6 h_fs_tape h_fs_tapeLength h_fs_powered h_fs_question hl_fs h_hs_steps hl_hs h_gs_elementData h_gs_size h_gs_modCount hl_gs) (q0 := 0) rfl rfl w707 w706 w708 w709 w277 rfl rfl ⟨⟨by decide, by decide⟩, rfl⟩ ⟨(Nat.le_of_ble_eq_true rfl), (Nat.le_of_ble_eq_true rfl)⟩ rfl hl.1 rfl (Nat.le_of_ble_eq_true rfl) d_SeriesVaultLaw_ask_8 ⟨(Nat.le_of_ble_eq_true rfl), (Nat.le_of_ble_eq_true rfl)⟩) hP hD hS hA [0, 1, 2] [3] (wr := [(o, .inl (dA 2, 1, .inr (.inl og)))]) rfl rfl (by decide) (by decide) (fun r1 u9 H locs hp9 hP hD hS => ?_)
  have hP : va_P D vwCl [(o, .inl (dA 2, 1, .inr (.inl og))), (a, .inr (0, ((((fs.set 1 (.int 0)).set 17 (.int 0)).set 2 (.int 2)).set 3 (.int 0)))), (b3, .inr (5, ((((((((((hs.set 0 (.ref b)).set 1 (.int 0)).set 6 (.int 0)).set 7 (.int 0)).set 4 (.int 0)).set 3 (.int 0)).set 4 (.int 0)).set 2 (.int 256)).set 6 (.int 2)).set 7 (.int 0)))), (b1, .inr (6, ((gs.set 2 (.int (k + 1))).set 1 (.int 0))))] H := hP
  have hD : va_D A [(o, .inl (dA 2, 1, .inr (.inl og))), (a, .inr (0, ((((fs.set 1 (.int 0)).set 17 (.int 0)).set 2 (.int 2)).set 3 (.int 0)))), (b3, .inr (5, ((((((((((hs.set 0 (.ref b)).set 1 (.int 0)).set 6 (.int 0)).set 7 (.int 0)).set 4 (.int 0)).set 3 (.int 0)).set 4 (.int 0)).set 2 (.int 256)).set 6 (.int 2)).set 7 (.int 0)))), (b1, .inr (6, ((gs.set 2 (.int (k + 1))).set 1 (.int 0))))] := hD
  have hp9 : (-1) = r1 := Eq.symm hp9
  subst hp9
  refine lv_i2l (v := (-1)) hx hb d_SeriesVaultLaw_ask_11 (by decide) ?_
  refine va_last hx hb hK hP hD hS 0 2 rfl rfl (by unfold vp_in; decide) d_SeriesVaultLaw_ask_12 (fun H locs hP hD hS => ?_)
  have hP : va_P D vwCl [(o, .inl (dA 2, 1, .inr (.inl (vp_updL og 0 (-1))))), (a, .inr (0, ((((fs.set 1 (.int 0)).set 17 (.int 0)).set 2 (.int 2)).set 3 (.int 0)))), (b3, .inr (5, ((((((((((hs.set 0 (.ref b)).set 1 (.int 0)).set 6 (.int 0)).set 7 (.int 0)).set 4 (.int 0)).set 3 (.int 0)).set 4 (.int 0)).set 2 (.int 256)).set 6 (.int 2)).set 7 (.int 0)))), (b1, .inr (6, ((gs.set 2 (.int (k + 1))).set 1 (.int 0))))] H := hP
  have hD : va_D A [(o, .inl (dA 2, 1, .inr (.inl (vp_updL og 0 (-1))))), (a, .inr (0, ((((fs.set 1 (.int 0)).set 17 (.int 0)).set 2 (.int 2)).set 3 (.int 0)))), (b3, .inr (5, ((((((((((hs.set 0 (.ref b)).set 1 (.int 0)).set 6 (.int 0)).set 7 (.int 0)).set 4 (.int 0)).set 3 (.int 0)).set 4 (.int 0)).set 2 (.int 256)).set 6 (.int 2)).set 7 (.int 0)))), (b1, .inr (6, ((gs.set 2 (.int (k + 1))).set 1 (.int 0))))] := hD
  refine lv_goto hx hb d_SeriesVaultLaw_ask_13 (tgt := 24) rfl ?_
  refine lv_iconst (v := 0) hx hb d_SeriesVaultLaw_ask_24 (by decide) ?_
  exact rtI hx hb hr hlk hP hD hS () rfl [1, 2, 3, 0] rfl rfl (by decide) (Nat.le_of_ble_eq_true rfl) (Nat.le_of_ble_eq_true rfl) d_SeriesVaultLaw_ask_25
theorem d_SeriesVaultLaw_ask_20 : decode method_16_code 20 = .ok (.astore 7, 2) := by decide +kernel
theorem d_SeriesVaultLaw_ask_22 : decode method_16_code 22 = .ok (.iconst 2, 1) := by decide +kernel
theorem d_SeriesVaultLaw_ask_23 : decode method_16_code 23 = .ok (.ireturn, 1) := by decide +kernel
set_option maxHeartbeats 4000000 in
set_option maxRecDepth 100000 in
theorem c_K_ask_xt (l : Launch) (htr : l.stackTraces = false) (D : va_G) (dA : Nat → ClassId) (sz : Nat) (a : Nat) (fs : List Value) (t : Int64) (w : Int64) (n : Int32) (o : Nat) (og : Nat → Int64) (h0 : t < 0 ∨ 1099511627775 < t) (h_fs_powered : fs[5]? = some (.int 1)) (hl_fs : fs.length = 18) : Met l ⟨"SeriesVaultLaw", "ask", "(LSeriesVault;JJI[J)I"⟩ [Cond.codeWith ⟨"SeriesVaultLaw", "ask", "(LSeriesVault;JJI[J)I"⟩ method_16_code 8 (some FieldType.int) [(0, 13, 16, 29), (0, 13, 20, 19)]] { frames := 7, cells := 1, slots := 6, locals := 108 } (pC D dA [.ref a, .long t, .long w, .int n, .ref o] [(a, .inr (0, fs)), (o, .inl (dA 2, 1, .inr (.inl og)))] sz) (va_Qi (fun (r : Int32) (_ : Unit) => r = 2) (fun (u9 : Unit) t9 => bW D (va_A [(a, .inr (0, fs)), (o, .inl (dA 2, 1, .inr (.inl og)))] sz) [(a, .inr (0, fs)), (o, .inl (dA 2, 1, .inr (.inl og)))] t9) (va_A [(a, .inr (0, fs)), (o, .inl (dA 2, 1, .inr (.inl og)))] sz)) 1 6 (va_A [(a, .inr (0, fs)), (o, .inl (dA 2, 1, .inr (.inl og)))] sz) := by
  refine mkW (y := ⟨"SeriesVaultLaw", "ask", "(LSeriesVault;JJI[J)I"⟩) (cc := method_16_code) (maxL := 8) (av := [.ref a, .long t, .long w, .int n, .ref o]) (ws := [(a, .inr (0, fs)), (o, .inl (dA 2, 1, .inr (.inl og)))]) (sz := sz) (Qc := fun A => va_Qi (fun (r : Int32) (_ : Unit) => r = 2) (fun (u9 : Unit) t9 => bW D A [(a, .inr (0, fs)), (o, .inl (dA 2, 1, .inr (.inl og)))] t9) A) (by decide) (Nat.le_of_ble_eq_true rfl) ?_
  intro A p e s m below meth c ls hsz htab hB
  obtain ⟨hx, hb, hr, hml, hown, hin, hlk, hE, hK, hP, hD, hS, hA, hN, hl⟩ := hB
  have hown : s.vm.findClass "SeriesVaultLaw" = some m.cls := hown
  have hin : meth.name = "ask" := hin
  have hl : lv_has ls 8 [(0, .ref a), (1, .long t), (3, .long w), (5, .int n), (6, .ref o)] := hl
  obtain ⟨H, hH⟩ : ∃ z, z = s.heap := ⟨_, rfl⟩
  have hP : va_P D vwCl [(a, .inr (0, fs)), (o, .inl (dA 2, 1, .inr (.inl og)))] H := by rw [hH]; exact hP
  have hS : va_S A s.heap H [] := by rw [hH]; exact hS
  rw [← hH]
  refine lv_aload hx hb d_SeriesVaultLaw_ask_0 (lv_at hl 4 rfl) ?_
  refine lv_iconst (v := 0) hx hb d_SeriesVaultLaw_ask_2 (by decide) ?_
  refine lv_aload_n hx hb d_SeriesVaultLaw_ask_3 rfl (lv_at hl 0 rfl) ?_
  refine lv_lload_n hx hb d_SeriesVaultLaw_ask_4 rfl (lv_at hl 1 rfl) ?_
  refine lv_lload_n hx hb d_SeriesVaultLaw_ask_5 rfl (lv_at hl 2 rfl) ?_
  refine lv_iload hx hb d_SeriesVaultLaw_ask_6 (lv_at hl 3 rfl) ?_
  have hPc := hP.sub (ws' := [(a, .inr (0, fs))]) [0] rfl
  have hDc := hD.sub (ws' := [(a, .inr (0, fs))]) [0] (by decide) rfl
  refine xnV (As := [.long t, .long w, .int n]) (rest := [.int 0, .ref o]) hx hb hml hown hE hK (hN _ _ hS) hPc hDc (c_V_ask_xt l htr D dA H.size a fs t w n h0 h_fs_powered hl_fs) (q0 := 0) rfl rfl w707 w706 w708 w709 w277 rfl rfl ⟨⟨by decide, by decide⟩, rfl⟩ ⟨(Nat.le_of_ble_eq_true rfl), (Nat.le_of_ble_eq_true rfl)⟩ rfl hl.1 rfl (Nat.le_of_ble_eq_true rfl) d_SeriesVaultLaw_ask_8 ⟨(Nat.le_of_ble_eq_true rfl), (Nat.le_of_ble_eq_true rfl)⟩ hP hD hS hA [0] [1] (wr := [(o, .inl (dA 2, 1, .inr (.inl og)))]) rfl rfl (by decide) (by decide) (fun x1 ce H locs hP hD hS hce hcv hcl => ?_)
  have hP : va_P D vwCl [(o, .inl (dA 2, 1, .inr (.inl og))), (a, .inr (0, fs))] H := hP
  have hD : va_D A [(o, .inl (dA 2, 1, .inr (.inl og))), (a, .inr (0, fs))] := hD
  refine xCatch (E := "java/lang/IllegalArgumentException") hown hE [⟨0, 13, 16, 29⟩] ⟨0, 13, 20, 19⟩ [] htab (List.forall_mem_cons.mpr ⟨⟨by decide, "java/lang/IllegalStateException", w363, by decide⟩, fun _ h => absurd h List.not_mem_nil⟩) (by decide) (by decide) w349 w267 hce hcv hcl ?_
  refine lv_astore hx hb d_SeriesVaultLaw_ask_20 hl (by decide) rfl (fun ls hl => ?_)
  have hl : lv_has ls 8 [(7, .ref x1), (0, .ref a), (1, .long t), (3, .long w), (5, .int n), (6, .ref o)] := hl
  refine lv_iconst (v := 2) hx hb d_SeriesVaultLaw_ask_22 (by decide) ?_
  exact rtI hx hb hr hlk hP hD hS () rfl [1, 0] rfl rfl (by decide) (Nat.le_of_ble_eq_true rfl) (Nat.le_of_ble_eq_true rfl) d_SeriesVaultLaw_ask_23
set_option maxHeartbeats 4000000 in
set_option maxRecDepth 100000 in
theorem c_K_ask_xw (l : Launch) (htr : l.stackTraces = false) (D : va_G) (dA : Nat → ClassId) (sz : Nat) (a : Nat) (fs : List Value) (t : Int64) (w : Int64) (n : Int32) (o : Nat) (og : Nat → Int64) (h1 : ¬ t < 0) (h2 : t ≤ 1099511627775) (h0 : w < 1 ∨ 1099511627775 < w ∨ n < 1 ∨ 64 < n) (h_fs_powered : fs[5]? = some (.int 1)) (hl_fs : fs.length = 18) : Met l ⟨"SeriesVaultLaw", "ask", "(LSeriesVault;JJI[J)I"⟩ [Cond.codeWith ⟨"SeriesVaultLaw", "ask", "(LSeriesVault;JJI[J)I"⟩ method_16_code 8 (some FieldType.int) [(0, 13, 16, 29), (0, 13, 20, 19)]] { frames := 7, cells := 1, slots := 6, locals := 108 } (pC D dA [.ref a, .long t, .long w, .int n, .ref o] [(a, .inr (0, fs)), (o, .inl (dA 2, 1, .inr (.inl og)))] sz) (va_Qi (fun (r : Int32) (_ : Unit) => r = 2) (fun (u9 : Unit) t9 => bW D (va_A [(a, .inr (0, fs)), (o, .inl (dA 2, 1, .inr (.inl og)))] sz) [(a, .inr (0, fs)), (o, .inl (dA 2, 1, .inr (.inl og)))] t9) (va_A [(a, .inr (0, fs)), (o, .inl (dA 2, 1, .inr (.inl og)))] sz)) 1 6 (va_A [(a, .inr (0, fs)), (o, .inl (dA 2, 1, .inr (.inl og)))] sz) := by
  refine mkW (y := ⟨"SeriesVaultLaw", "ask", "(LSeriesVault;JJI[J)I"⟩) (cc := method_16_code) (maxL := 8) (av := [.ref a, .long t, .long w, .int n, .ref o]) (ws := [(a, .inr (0, fs)), (o, .inl (dA 2, 1, .inr (.inl og)))]) (sz := sz) (Qc := fun A => va_Qi (fun (r : Int32) (_ : Unit) => r = 2) (fun (u9 : Unit) t9 => bW D A [(a, .inr (0, fs)), (o, .inl (dA 2, 1, .inr (.inl og)))] t9) A) (by decide) (Nat.le_of_ble_eq_true rfl) ?_
  intro A p e s m below meth c ls hsz htab hB
  obtain ⟨hx, hb, hr, hml, hown, hin, hlk, hE, hK, hP, hD, hS, hA, hN, hl⟩ := hB
  have hown : s.vm.findClass "SeriesVaultLaw" = some m.cls := hown
  have hin : meth.name = "ask" := hin
  have hl : lv_has ls 8 [(0, .ref a), (1, .long t), (3, .long w), (5, .int n), (6, .ref o)] := hl
  obtain ⟨H, hH⟩ : ∃ z, z = s.heap := ⟨_, rfl⟩
  have hP : va_P D vwCl [(a, .inr (0, fs)), (o, .inl (dA 2, 1, .inr (.inl og)))] H := by rw [hH]; exact hP
  have hS : va_S A s.heap H [] := by rw [hH]; exact hS
  rw [← hH]
  refine lv_aload hx hb d_SeriesVaultLaw_ask_0 (lv_at hl 4 rfl) ?_
  refine lv_iconst (v := 0) hx hb d_SeriesVaultLaw_ask_2 (by decide) ?_
  refine lv_aload_n hx hb d_SeriesVaultLaw_ask_3 rfl (lv_at hl 0 rfl) ?_
  refine lv_lload_n hx hb d_SeriesVaultLaw_ask_4 rfl (lv_at hl 1 rfl) ?_
  refine lv_lload_n hx hb d_SeriesVaultLaw_ask_5 rfl (lv_at hl 2 rfl) ?_
  refine lv_iload hx hb d_SeriesVaultLaw_ask_6 (lv_at hl 3 rfl) ?_
  have hPc := hP.sub (ws' := [(a, .inr (0, fs))]) [0] rfl
  have hDc := hD.sub (ws' := [(a, .inr (0, fs))]) [0] (by decide) rfl
  refine xnV (As := [.long t, .long w, .int n]) (rest := [.int 0, .ref o]) hx hb hml hown hE hK (hN _ _ hS) hPc hDc (c_V_ask_xw l htr D dA H.size a fs t w n h1 h2 h0 h_fs_powered hl_fs) (q0 := 0) rfl rfl w707 w706 w708 w709 w277 rfl rfl ⟨⟨by decide, by decide⟩, rfl⟩ ⟨(Nat.le_of_ble_eq_true rfl), (Nat.le_of_ble_eq_true rfl)⟩ rfl hl.1 rfl (Nat.le_of_ble_eq_true rfl) d_SeriesVaultLaw_ask_8 ⟨(Nat.le_of_ble_eq_true rfl), (Nat.le_of_ble_eq_true rfl)⟩ hP hD hS hA [0] [1] (wr := [(o, .inl (dA 2, 1, .inr (.inl og)))]) rfl rfl (by decide) (by decide) (fun x1 ce H locs hP hD hS hce hcv hcl => ?_)
  have hP : va_P D vwCl [(o, .inl (dA 2, 1, .inr (.inl og))), (a, .inr (0, fs))] H := hP
  have hD : va_D A [(o, .inl (dA 2, 1, .inr (.inl og))), (a, .inr (0, fs))] := hD
  refine xCatch (E := "java/lang/IllegalArgumentException") hown hE [⟨0, 13, 16, 29⟩] ⟨0, 13, 20, 19⟩ [] htab (List.forall_mem_cons.mpr ⟨⟨by decide, "java/lang/IllegalStateException", w363, by decide⟩, fun _ h => absurd h List.not_mem_nil⟩) (by decide) (by decide) w349 w267 hce hcv hcl ?_
  refine lv_astore hx hb d_SeriesVaultLaw_ask_20 hl (by decide) rfl (fun ls hl => ?_)
  have hl : lv_has ls 8 [(7, .ref x1), (0, .ref a), (1, .long t), (3, .long w), (5, .int n), (6, .ref o)] := hl
  refine lv_iconst (v := 2) hx hb d_SeriesVaultLaw_ask_22 (by decide) ?_
  exact rtI hx hb hr hlk hP hD hS () rfl [1, 0] rfl rfl (by decide) (Nat.le_of_ble_eq_true rfl) (Nat.le_of_ble_eq_true rfl) d_SeriesVaultLaw_ask_23
