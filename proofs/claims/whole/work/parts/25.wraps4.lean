theorem d_SeriesVaultLaw_retain_0 : decode method_15_code 0 = .ok (.aload_n 3, 1) := by decide +kernel
theorem d_SeriesVaultLaw_retain_1 : decode method_15_code 1 = .ok (.iconst 0, 1) := by decide +kernel
theorem d_SeriesVaultLaw_retain_2 : decode method_15_code 2 = .ok (.aload_n 0, 1) := by decide +kernel
theorem d_SeriesVaultLaw_retain_3 : decode method_15_code 3 = .ok (.lload_n 1, 1) := by decide +kernel
theorem d_SeriesVaultLaw_retain_4 : decode method_15_code 4 = .ok (.invokevirtual 61, 3) := by decide +kernel
theorem d_SeriesVaultLaw_retain_16 : decode method_15_code 16 = .ok (.astore 4, 2) := by decide +kernel
theorem d_SeriesVaultLaw_retain_18 : decode method_15_code 18 = .ok (.iconst 2, 1) := by decide +kernel
theorem d_SeriesVaultLaw_retain_19 : decode method_15_code 19 = .ok (.ireturn, 1) := by decide +kernel
theorem w715 : Cond.methodLink "SeriesVaultLaw" 61 ⟨"SeriesVault", "retain", "(J)I"⟩ ∈ aW := aw_of (tb_6 (List.mem_of_getElem? (i := 150) rfl)) rfl
theorem w716 : Cond.code ⟨"SeriesVault", "retain", "(J)I"⟩ prog_1_method_41_code 4 (some FieldType.int) ∈ aW := aw_of (tb_6 (List.mem_of_getElem? (i := 153) rfl)) rfl
theorem w717 : Cond.instanceMethod ⟨"SeriesVault", "retain", "(J)I"⟩ ∈ aW := aw_of (tb_6 (List.mem_of_getElem? (i := 151) rfl)) rfl
theorem w718 : Cond.selects "SeriesVault" ⟨"SeriesVault", "retain", "(J)I"⟩ ⟨"SeriesVault", "retain", "(J)I"⟩ ∈ aW := aw_of (tb_6 (List.mem_of_getElem? (i := 152) rfl)) rfl
set_option maxHeartbeats 4000000 in
set_option maxRecDepth 100000 in
theorem c_K_retain_x (l : Launch) (htr : l.stackTraces = false) (D : va_G) (dA : Nat → ClassId) (sz : Nat) (a : Nat) (fs : List Value) (t : Int64) (o : Nat) (og : Nat → Int64) (h0 : t < 0 ∨ 1099511627775 < t) (h_fs_powered : fs[5]? = some (.int 1)) (hl_fs : fs.length = 18) : Met l ⟨"SeriesVaultLaw", "retain", "(LSeriesVault;J[J)I"⟩ [Cond.codeWith ⟨"SeriesVaultLaw", "retain", "(LSeriesVault;J[J)I"⟩ method_15_code 5 (some FieldType.int) [(0, 9, 12, 29), (0, 9, 16, 19)]] { frames := 7, cells := 1, slots := 6, locals := 104 } (pC D dA [.ref a, .long t, .ref o] [(a, .inr (0, fs)), (o, .inl (dA 2, 1, .inr (.inl og)))] sz) (va_Qi (fun (r : Int32) (_ : Unit) => r = 2) (fun (u9 : Unit) t9 => bW D (va_A [(a, .inr (0, fs)), (o, .inl (dA 2, 1, .inr (.inl og)))] sz) [(a, .inr (0, fs)), (o, .inl (dA 2, 1, .inr (.inl og)))] t9) (va_A [(a, .inr (0, fs)), (o, .inl (dA 2, 1, .inr (.inl og)))] sz)) 1 6 (va_A [(a, .inr (0, fs)), (o, .inl (dA 2, 1, .inr (.inl og)))] sz) := by
  refine mkW (y := ⟨"SeriesVaultLaw", "retain", "(LSeriesVault;J[J)I"⟩) (cc := method_15_code) (maxL := 5) (av := [.ref a, .long t, .ref o]) (ws := [(a, .inr (0, fs)), (o, .inl (dA 2, 1, .inr (.inl og)))]) (sz := sz) (Qc := fun A => va_Qi (fun (r : Int32) (_ : Unit) => r = 2) (fun (u9 : Unit) t9 => bW D A [(a, .inr (0, fs)), (o, .inl (dA 2, 1, .inr (.inl og)))] t9) A) (by decide) (Nat.le_of_ble_eq_true rfl) ?_
  intro A p e s m below meth c ls hsz htab hB
  obtain ⟨hx, hb, hr, hml, hown, hin, hlk, hE, hK, hP, hD, hS, hA, hN, hl⟩ := hB
  have hown : s.vm.findClass "SeriesVaultLaw" = some m.cls := hown
  have hin : meth.name = "retain" := hin
  have hl : lv_has ls 5 [(0, .ref a), (1, .long t), (3, .ref o)] := hl
  obtain ⟨H, hH⟩ : ∃ z, z = s.heap := ⟨_, rfl⟩
  have hP : va_P D vwCl [(a, .inr (0, fs)), (o, .inl (dA 2, 1, .inr (.inl og)))] H := by rw [hH]; exact hP
  have hS : va_S A s.heap H [] := by rw [hH]; exact hS
  rw [← hH]
  refine lv_aload_n hx hb d_SeriesVaultLaw_retain_0 rfl (lv_at hl 2 rfl) ?_
  refine lv_iconst (v := 0) hx hb d_SeriesVaultLaw_retain_1 (by decide) ?_
  refine lv_aload_n hx hb d_SeriesVaultLaw_retain_2 rfl (lv_at hl 0 rfl) ?_
  refine lv_lload_n hx hb d_SeriesVaultLaw_retain_3 rfl (lv_at hl 1 rfl) ?_
  have hPc := hP.sub (ws' := [(a, .inr (0, fs))]) [0] rfl
  have hDc := hD.sub (ws' := [(a, .inr (0, fs))]) [0] (by decide) rfl
  refine xnV (As := [.long t]) (rest := [.int 0, .ref o]) hx hb hml hown hE hK (hN _ _ hS) hPc hDc (c_V_retain_x l htr D dA H.size a fs t h0 h_fs_powered hl_fs) (q0 := 0) rfl rfl w716 w715 w717 w718 w277 rfl rfl ⟨⟨by decide, by decide⟩, rfl⟩ ⟨(Nat.le_of_ble_eq_true rfl), (Nat.le_of_ble_eq_true rfl)⟩ rfl hl.1 rfl (Nat.le_of_ble_eq_true rfl) d_SeriesVaultLaw_retain_4 ⟨(Nat.le_of_ble_eq_true rfl), (Nat.le_of_ble_eq_true rfl)⟩ hP hD hS hA [0] [1] (wr := [(o, .inl (dA 2, 1, .inr (.inl og)))]) rfl rfl (by decide) (by decide) (fun x1 ce H locs hP hD hS hce hcv hcl => ?_)
  have hP : va_P D vwCl [(o, .inl (dA 2, 1, .inr (.inl og))), (a, .inr (0, fs))] H := hP
  have hD : va_D A [(o, .inl (dA 2, 1, .inr (.inl og))), (a, .inr (0, fs))] := hD
  refine xCatch (E := "java/lang/IllegalArgumentException") hown hE [⟨0, 9, 12, 29⟩] ⟨0, 9, 16, 19⟩ [] htab (List.forall_mem_cons.mpr ⟨⟨by decide, "java/lang/IllegalStateException", w363, by decide⟩, fun _ h => absurd h List.not_mem_nil⟩) (by decide) (by decide) w349 w267 hce hcv hcl ?_
  refine lv_astore hx hb d_SeriesVaultLaw_retain_16 hl (by decide) rfl (fun ls hl => ?_)
  have hl : lv_has ls 5 [(4, .ref x1), (0, .ref a), (1, .long t), (3, .ref o)] := hl
  refine lv_iconst (v := 2) hx hb d_SeriesVaultLaw_retain_18 (by decide) ?_
  exact rtI hx hb hr hlk hP hD hS () rfl [1, 0] rfl rfl (by decide) (Nat.le_of_ble_eq_true rfl) (Nat.le_of_ble_eq_true rfl) d_SeriesVaultLaw_retain_19
theorem d_SeriesVaultLaw_retain_7 : decode method_15_code 7 = .ok (.i2l, 1) := by decide +kernel
theorem d_SeriesVaultLaw_retain_8 : decode method_15_code 8 = .ok (.lastore, 1) := by decide +kernel
theorem d_SeriesVaultLaw_retain_9 : decode method_15_code 9 = .ok (.goto 11, 3) := by decide +kernel
theorem d_SeriesVaultLaw_retain_20 : decode method_15_code 20 = .ok (.iconst 0, 1) := by decide +kernel
theorem d_SeriesVaultLaw_retain_21 : decode method_15_code 21 = .ok (.ireturn, 1) := by decide +kernel
set_option maxHeartbeats 4000000 in
set_option maxRecDepth 100000 in
theorem c_K_retain_0 (l : Launch) (htr : l.stackTraces = false) (D : va_G) (dA : Nat → ClassId) (sz : Nat) (a : Nat) (fs : List Value) (b : Nat) (gs : List Value) (o : Nat) (og : Nat → Int64) (h_fs_powered : fs[5]? = some (.int 1)) (h_fs_now : fs[11]? = some (.ref b)) (hl_fs : fs.length = 18) (h_gs_horizon : gs[7]? = some (.long 0)) (hl_gs : gs.length = 11) : Met l ⟨"SeriesVaultLaw", "retain", "(LSeriesVault;J[J)I"⟩ [Cond.codeWith ⟨"SeriesVaultLaw", "retain", "(LSeriesVault;J[J)I"⟩ method_15_code 5 (some FieldType.int) [(0, 9, 12, 29), (0, 9, 16, 19)]] { frames := 3, cells := 0, slots := 0, locals := 44 } (pC D dA [.ref a, .long 0, .ref o] [(a, .inr (0, fs)), (b, .inr (3, gs)), (o, .inl (dA 2, 1, .inr (.inl og)))] sz) (va_Qi (fun (r : Int32) (_ : Unit) => r = 0) (fun (u9 : Unit) t9 => bW D (va_A [(a, .inr (0, fs)), (b, .inr (3, gs)), (o, .inl (dA 2, 1, .inr (.inl og)))] sz) [(a, .inr (0, fs)), (b, .inr (3, gs)), (o, .inl (dA 2, 1, .inr (.inl (vp_updL og 0 0))))] t9) (va_A [(a, .inr (0, fs)), (b, .inr (3, gs)), (o, .inl (dA 2, 1, .inr (.inl og)))] sz)) 0 0 (va_A [(a, .inr (0, fs)), (b, .inr (3, gs)), (o, .inl (dA 2, 1, .inr (.inl og)))] sz) := by
  refine mkW (y := ⟨"SeriesVaultLaw", "retain", "(LSeriesVault;J[J)I"⟩) (cc := method_15_code) (maxL := 5) (av := [.ref a, .long 0, .ref o]) (ws := [(a, .inr (0, fs)), (b, .inr (3, gs)), (o, .inl (dA 2, 1, .inr (.inl og)))]) (sz := sz) (Qc := fun A => va_Qi (fun (r : Int32) (_ : Unit) => r = 0) (fun (u9 : Unit) t9 => bW D A [(a, .inr (0, fs)), (b, .inr (3, gs)), (o, .inl (dA 2, 1, .inr (.inl (vp_updL og 0 0))))] t9) A) (by decide) (Nat.le_of_ble_eq_true rfl) ?_
  intro A p e s m below meth c ls hsz htab hB
  obtain ⟨hx, hb, hr, hml, hown, hin, hlk, hE, hK, hP, hD, hS, hA, hN, hl⟩ := hB
  have hown : s.vm.findClass "SeriesVaultLaw" = some m.cls := hown
  have hin : meth.name = "retain" := hin
  have hl : lv_has ls 5 [(0, .ref a), (1, .long 0), (3, .ref o)] := hl
  obtain ⟨H, hH⟩ : ∃ z, z = s.heap := ⟨_, rfl⟩
  have hP : va_P D vwCl [(a, .inr (0, fs)), (b, .inr (3, gs)), (o, .inl (dA 2, 1, .inr (.inl og)))] H := by rw [hH]; exact hP
  have hS : va_S A s.heap H [] := by rw [hH]; exact hS
  rw [← hH]
  refine lv_aload_n hx hb d_SeriesVaultLaw_retain_0 rfl (lv_at hl 2 rfl) ?_
  refine lv_iconst (v := 0) hx hb d_SeriesVaultLaw_retain_1 (by decide) ?_
  refine lv_aload_n hx hb d_SeriesVaultLaw_retain_2 rfl (lv_at hl 0 rfl) ?_
  refine lv_lload_n hx hb d_SeriesVaultLaw_retain_3 rfl (lv_at hl 1 rfl) ?_
  have hPc := hP.sub (ws' := [(a, .inr (0, fs)), (b, .inr (3, gs))]) [0, 1] rfl
  have hDc := hD.sub (ws' := [(a, .inr (0, fs)), (b, .inr (3, gs))]) [0, 1] (by decide) rfl
  refine jnI (rnV (As := [.long 0]) (rest := [.int 0, .ref o]) hx hb hml hown hE hK (hN _ _ hS) hPc hDc (c_V_retain_0 l D dA H.size a fs b gs h_fs_powered h_fs_now hl_fs h_gs_horizon hl_gs) (q0 := 0) rfl rfl w716 w715 w717 w718 w277 rfl rfl ⟨⟨by decide, by decide⟩, rfl⟩ ⟨(Nat.le_of_ble_eq_true rfl), (Nat.le_of_ble_eq_true rfl)⟩ rfl hl.1 rfl (Nat.le_of_ble_eq_true rfl) d_SeriesVaultLaw_retain_4 ⟨(Nat.le_of_ble_eq_true rfl), (Nat.le_of_ble_eq_true rfl)⟩) hP hD hS hA [0, 1] [2] (wr := [(o, .inl (dA 2, 1, .inr (.inl og)))]) rfl rfl (by decide) (by decide) (fun r1 u9 H locs hp9 hP hD hS => ?_)
  have hP : va_P D vwCl [(o, .inl (dA 2, 1, .inr (.inl og))), (a, .inr (0, fs)), (b, .inr (3, gs))] H := hP
  have hD : va_D A [(o, .inl (dA 2, 1, .inr (.inl og))), (a, .inr (0, fs)), (b, .inr (3, gs))] := hD
  have hp9 : 0 = r1 := Eq.symm hp9
  subst hp9
  refine lv_i2l (v := 0) hx hb d_SeriesVaultLaw_retain_7 (by decide) ?_
  refine va_last hx hb hK hP hD hS 0 2 rfl rfl (by unfold vp_in; decide) d_SeriesVaultLaw_retain_8 (fun H locs hP hD hS => ?_)
  have hP : va_P D vwCl [(o, .inl (dA 2, 1, .inr (.inl (vp_updL og 0 0)))), (a, .inr (0, fs)), (b, .inr (3, gs))] H := hP
  have hD : va_D A [(o, .inl (dA 2, 1, .inr (.inl (vp_updL og 0 0)))), (a, .inr (0, fs)), (b, .inr (3, gs))] := hD
  refine lv_goto hx hb d_SeriesVaultLaw_retain_9 (tgt := 20) rfl ?_
  refine lv_iconst (v := 0) hx hb d_SeriesVaultLaw_retain_20 (by decide) ?_
  exact rtI hx hb hr hlk hP hD hS () rfl [1, 2, 0] rfl rfl (by decide) (Nat.le_of_ble_eq_true rfl) (Nat.le_of_ble_eq_true rfl) d_SeriesVaultLaw_retain_21
