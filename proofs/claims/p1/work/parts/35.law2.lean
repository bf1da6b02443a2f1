theorem i32_pn (n : Int32) : n < 0 ∨ 0 ≤ n := by
  by_cases h : n < 0
  · exact Or.inl h
  · exact Or.inr (Int32.not_lt.mp h)
theorem i32_cm (n : Int32) : n < 0 ∨ 0 - 1 ≤ n := by
  by_cases h : n < 0
  · exact Or.inl h
  · refine Or.inr (Int32.le_trans (b := 0) (by decide) (Int32.not_lt.mp h))
theorem i32_nn {n : Int32} (h0 : ¬ n = 0) (h1 : ¬ n = 1) : n < 0 ∨ 1 < n := by
  by_cases h : n < 0
  · exact Or.inl h
  · refine Or.inr ?_
    rw [Int32.lt_iff_toInt_lt] at h ⊢
    have a0 : n.toInt ≠ (0 : Int32).toInt := fun z => h0 (Int32.toInt_inj.mp z)
    have a1 : n.toInt ≠ (1 : Int32).toInt := fun z => h1 (Int32.toInt_inj.mp z)
    have e0 : (0 : Int32).toInt = 0 := by decide
    have e1 : (1 : Int32).toInt = 1 := by decide
    omega
theorem d_SeriesVaultLaw_law_388 : decode code 388 = .ok (.aload_n 1, 1) := by decide +kernel
theorem d_SeriesVaultLaw_law_389 : decode code 389 = .ok (.aload_n 0, 1) := by decide +kernel
theorem d_SeriesVaultLaw_law_390 : decode code 390 = .ok (.iload 4, 2) := by decide +kernel
theorem d_SeriesVaultLaw_law_392 : decode code 392 = .ok (.iconst 1, 1) := by decide +kernel
theorem d_SeriesVaultLaw_law_393 : decode code 393 = .ok (.iadd, 1) := by decide +kernel
theorem d_SeriesVaultLaw_law_394 : decode code 394 = .ok (.iaload, 1) := by decide +kernel
theorem d_SeriesVaultLaw_law_395 : decode code 395 = .ok (.aload_n 3, 1) := by decide +kernel
theorem d_SeriesVaultLaw_law_396 : decode code 396 = .ok (.invokestatic 125, 3) := by decide +kernel
theorem d_SeriesVaultLaw_law_399 : decode code 399 = .ok (.istore 5, 2) := by decide +kernel
theorem d_SeriesVaultLaw_law_401 : decode code 401 = .ok (.aload_n 2, 1) := by decide +kernel
theorem d_SeriesVaultLaw_law_402 : decode code 402 = .ok (.aload_n 0, 1) := by decide +kernel
theorem d_SeriesVaultLaw_law_403 : decode code 403 = .ok (.iload 4, 2) := by decide +kernel
theorem d_SeriesVaultLaw_law_405 : decode code 405 = .ok (.iconst 1, 1) := by decide +kernel
theorem d_SeriesVaultLaw_law_406 : decode code 406 = .ok (.iadd, 1) := by decide +kernel
theorem d_SeriesVaultLaw_law_407 : decode code 407 = .ok (.iaload, 1) := by decide +kernel
theorem d_SeriesVaultLaw_law_408 : decode code 408 = .ok (.invokevirtual 128, 3) := by decide +kernel
theorem d_SeriesVaultLaw_law_411 : decode code 411 = .ok (.istore 6, 2) := by decide +kernel
theorem d_SeriesVaultLaw_law_413 : decode code 413 = .ok (.aload_n 2, 1) := by decide +kernel
theorem d_SeriesVaultLaw_law_414 : decode code 414 = .ok (.invokevirtual 110, 3) := by decide +kernel
theorem d_SeriesVaultLaw_law_417 : decode code 417 = .ok (.iload 5, 2) := by decide +kernel
theorem d_SeriesVaultLaw_law_419 : decode code 419 = .ok (.if_icmp .eq 5, 3) := by decide +kernel
theorem d_SeriesVaultLaw_law_424 : decode code 424 = .ok (.iload 5, 2) := by decide +kernel
theorem d_SeriesVaultLaw_law_426 : decode code 426 = .ok (.ifCond .ne 15, 3) := by decide +kernel
theorem d_SeriesVaultLaw_law_429 : decode code 429 = .ok (.aload_n 3, 1) := by decide +kernel
theorem d_SeriesVaultLaw_law_430 : decode code 430 = .ok (.iconst 0, 1) := by decide +kernel
theorem d_SeriesVaultLaw_law_431 : decode code 431 = .ok (.laload, 1) := by decide +kernel
theorem d_SeriesVaultLaw_law_432 : decode code 432 = .ok (.iload 6, 2) := by decide +kernel
theorem d_SeriesVaultLaw_law_434 : decode code 434 = .ok (.i2l, 1) := by decide +kernel
theorem d_SeriesVaultLaw_law_435 : decode code 435 = .ok (.lcmp, 1) := by decide +kernel
theorem d_SeriesVaultLaw_law_436 : decode code 436 = .ok (.ifCond .eq 5, 3) := by decide +kernel
theorem d_SeriesVaultLaw_law_441 : decode code 441 = .ok (.goto 1329, 3) := by decide +kernel
theorem w893 : Cond.methodLink "SeriesVaultLaw" 125 ⟨"SeriesVaultLaw", "fault", "(LSeriesVault;I[J)I"⟩ ∈ aW := aw_of (tb_5 (List.mem_of_getElem? (i := 92) rfl)) rfl
theorem w894 : Cond.codeWith ⟨"SeriesVaultLaw", "fault", "(LSeriesVault;I[J)I"⟩ method_7_code 4 (some FieldType.int) [(0, 9, 12, 35)] ∈ aW := aw_of (tb_5 (List.mem_of_getElem? (i := 94) rfl)) rfl
theorem w895 : Cond.static ⟨"SeriesVaultLaw", "fault", "(LSeriesVault;I[J)I"⟩ ∈ aW := aw_of (tb_5 (List.mem_of_getElem? (i := 93) rfl)) rfl
theorem w896 : Cond.methodLink "SeriesVaultLaw" 128 ⟨"SeriesVaultModel", "fault", "(I)I"⟩ ∈ aW := aw_of (tb_9 (List.mem_of_getElem? (i := 184) rfl)) rfl
theorem w897 : Cond.code ⟨"SeriesVaultModel", "fault", "(I)I"⟩ prog_14_method_5_code 2 (some FieldType.int) ∈ aW := aw_of (tb_9 (List.mem_of_getElem? (i := 187) rfl)) rfl
theorem w898 : Cond.instanceMethod ⟨"SeriesVaultModel", "fault", "(I)I"⟩ ∈ aW := aw_of (tb_9 (List.mem_of_getElem? (i := 185) rfl)) rfl
theorem w899 : Cond.selects "SeriesVaultModel" ⟨"SeriesVaultModel", "fault", "(I)I"⟩ ⟨"SeriesVaultModel", "fault", "(I)I"⟩ ∈ aW := aw_of (tb_9 (List.mem_of_getElem? (i := 186) rfl)) rfl
set_option maxHeartbeats 4000000 in
set_option maxRecDepth 100000 in
theorem law_4_0 {p : Program} {e : Env} {s : State} {m : MethodId} {below : List Frame} {meth : Method} {c : Code} (l : Launch) {b : Nat} {xs : Nat → Int32} {D : va_G} {dA : Nat → ClassId} {e0 : Nat} {A : Nat → Prop} {H : Heap} {locs : List Loc} {ls : Array Slot} (hC : lS p l s m meth c b 6 xs D dA e0 A) (h : Nat) (v0 : Nat) (v1 : Nat) (v2 : Nat) (v4 : Nat) (v5 : Nat) (v7 : Nat) (v8 : Nat) (v19 : Nat) (v20 : Nat) (v21 : Nat) (v22 : Nat) (v23 : Nat) (v25 : Nat) (v26 : Nat) (v27 : Nat) (v28 : Nat) (v35 : Nat) (mm : Nat) (mv0 : Nat) (o : Nat) (fs : List Value) (js : List Value) (hs : List Value) (ns : List Value) (ss : List Value) (rs : List Value) (qs : List Value) (als : List Value) (ms : List Value) (h0 : xs 1 = 0) (h_fs_faultCode : fs[2]? = some (.int 0)) (hl_fs : fs.length = 18) (hl_js : js.length = 13) (hl_hs : hs.length = 4) (hl_ns : ns.length = 11) (hl_ss : ss.length = 11) (hl_rs : rs.length = 6) (hl_qs : qs.length = 9) (hl_als : als.length = 3) (h_ms_faultCode : ms[3]? = some (.int 0)) (hl_ms : ms.length = 79) (hP : va_P D vwCl [(h, .inr (0, fs)), (v0, .inl (dA 0, 256, .inl (fun _ => 0))), (v1, .inr (1, js)), (v2, .inr (2, hs)), (v4, .inr (3, ns)), (v5, .inr (3, ss)), (v7, .inr (4, rs)), (v8, .inr (5, qs)), (v35, .inr (6, als)), (v19, .inl (dA 4, 32, .inr (.inr (.inr (.inr (fun _ => none)))))), (v20, .inl (dA 1, 64, .inl (fun _ => 0))), (v21, .inl (dA 2, 64, .inr (.inl (fun _ => 0)))), (v22, .inl (dA 2, 64, .inr (.inl (fun _ => 0)))), (v23, .inl (dA 1, 64, .inl (fun _ => 0))), (v25, .inl (dA 4, 32, .inr (.inr (.inr (.inr (fun _ => none)))))), (v26, .inl (dA 1, 64, .inl (fun _ => 0))), (v27, .inl (dA 2, 64, .inr (.inl (fun _ => 0)))), (v28, .inl (dA 2, 64, .inr (.inl (fun _ => 0)))), (mm, .inr (9, ms)), (mv0, .inl (dA 0, 65536, .inl (fun _ => 0))), (o, .inl (dA 2, 1, .inr (.inl (fun _ => 0))))] H) (hD : va_D A [(h, .inr (0, fs)), (v0, .inl (dA 0, 256, .inl (fun _ => 0))), (v1, .inr (1, js)), (v2, .inr (2, hs)), (v4, .inr (3, ns)), (v5, .inr (3, ss)), (v7, .inr (4, rs)), (v8, .inr (5, qs)), (v35, .inr (6, als)), (v19, .inl (dA 4, 32, .inr (.inr (.inr (.inr (fun _ => none)))))), (v20, .inl (dA 1, 64, .inl (fun _ => 0))), (v21, .inl (dA 2, 64, .inr (.inl (fun _ => 0)))), (v22, .inl (dA 2, 64, .inr (.inl (fun _ => 0)))), (v23, .inl (dA 1, 64, .inl (fun _ => 0))), (v25, .inl (dA 4, 32, .inr (.inr (.inr (.inr (fun _ => none)))))), (v26, .inl (dA 1, 64, .inl (fun _ => 0))), (v27, .inl (dA 2, 64, .inr (.inl (fun _ => 0)))), (v28, .inl (dA 2, 64, .inr (.inl (fun _ => 0)))), (mm, .inr (9, ms)), (mv0, .inl (dA 0, 65536, .inl (fun _ => 0))), (o, .inl (dA 2, 1, .inr (.inl (fun _ => 0))))]) (hS : va_S A s.heap H locs) (hl : lv_has ls 8 [(4, .int 0), (3, .ref o), (2, .ref mm), (1, .ref h), (0, .ref b)]) : W p l e room_1 s m #[Value.ref b] below meth c H locs 92 1177737 (lw_Z below #[Value.ref b] s) (F0 m 388 ls []) := by
  have hC0 := hC
  obtain ⟨hx, hb, hr, hml, hown, hlk, hE, hK, hA, hN, hZ, hT, hX, hbl, hbA, hnew, htr⟩ := hC
  refine lv_aload_n hx hb d_SeriesVaultLaw_law_388 rfl (lv_at hl 3 rfl) ?_
  refine lv_aload_n hx hb d_SeriesVaultLaw_law_389 rfl (lv_at hl 4 rfl) ?_
  refine lv_iload hx hb d_SeriesVaultLaw_law_390 (lv_at hl 0 rfl) ?_
  refine lv_iconst (v := 1) hx hb d_SeriesVaultLaw_law_392 (by decide) ?_
  refine lv_iadd hx hb d_SeriesVaultLaw_law_393 (tpi (y := 1) (by decide) ?_)
  refine va_sld hx hb hX hbl hbA hS (by unfold vp_in; decide) d_SeriesVaultLaw_law_394 ?_
  refine tpi (y := 0) h0 ?_
  refine lv_aload_n hx hb d_SeriesVaultLaw_law_395 rfl (lv_at hl 1 rfl) ?_
  have hPc := hP.sub (ws' := [(h, .inr (0, fs)), (o, .inl (dA 2, 1, .inr (.inl (fun _ => 0))))]) [0, 20] rfl
  have hDc := hD.sub (ws' := [(h, .inr (0, fs)), (o, .inl (dA 2, 1, .inr (.inl (fun _ => 0))))]) [0, 20] (by decide) rfl
  refine jnI (rnW (As := [.ref h, .int 0, .ref o]) (rest := []) hx hb hml hown hE hK (hN _ _ hS) hPc hDc (c_K_fault_0 l htr D dA H.size h fs 0 o (fun _ => 0) h_fs_faultCode hl_fs) w894 w893 w895 w861 rfl rfl ⟨⟨by decide, by decide⟩, rfl⟩ ⟨(Nat.le_of_ble_eq_true rfl), (Nat.le_of_ble_eq_true rfl)⟩ rfl hl.1 rfl (Nat.le_of_ble_eq_true rfl) d_SeriesVaultLaw_law_396 ⟨(Nat.le_of_ble_eq_true rfl), (Nat.le_of_ble_eq_true rfl)⟩) hP hD hS hA [0, 20] [1, 2, 3, 4, 5, 6, 7, 8, 9, 10, 11, 12, 13, 14, 15, 16, 17, 18, 19] (wr := [(v0, .inl (dA 0, 256, .inl (fun _ => 0))), (v1, .inr (1, js)), (v2, .inr (2, hs)), (v4, .inr (3, ns)), (v5, .inr (3, ss)), (v7, .inr (4, rs)), (v8, .inr (5, qs)), (v35, .inr (6, als)), (v19, .inl (dA 4, 32, .inr (.inr (.inr (.inr (fun _ => none)))))), (v20, .inl (dA 1, 64, .inl (fun _ => 0))), (v21, .inl (dA 2, 64, .inr (.inl (fun _ => 0)))), (v22, .inl (dA 2, 64, .inr (.inl (fun _ => 0)))), (v23, .inl (dA 1, 64, .inl (fun _ => 0))), (v25, .inl (dA 4, 32, .inr (.inr (.inr (.inr (fun _ => none)))))), (v26, .inl (dA 1, 64, .inl (fun _ => 0))), (v27, .inl (dA 2, 64, .inr (.inl (fun _ => 0)))), (v28, .inl (dA 2, 64, .inr (.inl (fun _ => 0)))), (mm, .inr (9, ms)), (mv0, .inl (dA 0, 65536, .inl (fun _ => 0)))]) rfl rfl (by decide) (by decide) (fun r1 u9 H locs hp9 hP hD hS => ?_)
  have hP : va_P D vwCl [(v0, .inl (dA 0, 256, .inl (fun _ => 0))), (v1, .inr (1, js)), (v2, .inr (2, hs)), (v4, .inr (3, ns)), (v5, .inr (3, ss)), (v7, .inr (4, rs)), (v8, .inr (5, qs)), (v35, .inr (6, als)), (v19, .inl (dA 4, 32, .inr (.inr (.inr (.inr (fun _ => none)))))), (v20, .inl (dA 1, 64, .inl (fun _ => 0))), (v21, .inl (dA 2, 64, .inr (.inl (fun _ => 0)))), (v22, .inl (dA 2, 64, .inr (.inl (fun _ => 0)))), (v23, .inl (dA 1, 64, .inl (fun _ => 0))), (v25, .inl (dA 4, 32, .inr (.inr (.inr (.inr (fun _ => none)))))), (v26, .inl (dA 1, 64, .inl (fun _ => 0))), (v27, .inl (dA 2, 64, .inr (.inl (fun _ => 0)))), (v28, .inl (dA 2, 64, .inr (.inl (fun _ => 0)))), (mm, .inr (9, ms)), (mv0, .inl (dA 0, 65536, .inl (fun _ => 0))), (h, .inr (0, fs)), (o, .inl (dA 2, 1, .inr (.inl (vp_updL (fun _ => 0) 0 (0 : Int32).toInt64))))] H := hP
  have hD : va_D A [(v0, .inl (dA 0, 256, .inl (fun _ => 0))), (v1, .inr (1, js)), (v2, .inr (2, hs)), (v4, .inr (3, ns)), (v5, .inr (3, ss)), (v7, .inr (4, rs)), (v8, .inr (5, qs)), (v35, .inr (6, als)), (v19, .inl (dA 4, 32, .inr (.inr (.inr (.inr (fun _ => none)))))), (v20, .inl (dA 1, 64, .inl (fun _ => 0))), (v21, .inl (dA 2, 64, .inr (.inl (fun _ => 0)))), (v22, .inl (dA 2, 64, .inr (.inl (fun _ => 0)))), (v23, .inl (dA 1, 64, .inl (fun _ => 0))), (v25, .inl (dA 4, 32, .inr (.inr (.inr (.inr (fun _ => none)))))), (v26, .inl (dA 1, 64, .inl (fun _ => 0))), (v27, .inl (dA 2, 64, .inr (.inl (fun _ => 0)))), (v28, .inl (dA 2, 64, .inr (.inl (fun _ => 0)))), (mm, .inr (9, ms)), (mv0, .inl (dA 0, 65536, .inl (fun _ => 0))), (h, .inr (0, fs)), (o, .inl (dA 2, 1, .inr (.inl (vp_updL (fun _ => 0) 0 (0 : Int32).toInt64))))] := hD
  have hp9 : 0 = r1 := Eq.symm hp9
  subst hp9
  refine lv_istore hx hb d_SeriesVaultLaw_law_399 hl (by decide) rfl (fun ls hl => ?_)
  have hl : lv_has ls 8 [(5, .int 0), (4, .int 0), (3, .ref o), (2, .ref mm), (1, .ref h), (0, .ref b)] := hl
  refine lv_aload_n hx hb d_SeriesVaultLaw_law_401 rfl (lv_at hl 3 rfl) ?_
  refine lv_aload_n hx hb d_SeriesVaultLaw_law_402 rfl (lv_at hl 5 rfl) ?_
  refine lv_iload hx hb d_SeriesVaultLaw_law_403 (lv_at hl 1 rfl) ?_
  refine lv_iconst (v := 1) hx hb d_SeriesVaultLaw_law_405 (by decide) ?_
  refine lv_iadd hx hb d_SeriesVaultLaw_law_406 (tpi (y := 1) (by decide) ?_)
  refine va_sld hx hb hX hbl hbA hS (by unfold vp_in; decide) d_SeriesVaultLaw_law_407 ?_
  refine tpi (y := 0) h0 ?_
  have hPc := hP.sub (ws' := [(mm, .inr (9, ms))]) [17] rfl
  have hDc := hD.sub (ws' := [(mm, .inr (9, ms))]) [17] (by decide) rfl
  refine jnI (rnV (As := [.int 0]) (rest := []) hx hb hml hown hE hK (hN _ _ hS) hPc hDc (c_M_fault_0 l D dA H.size mm ms 0 h_ms_faultCode hl_ms) (q0 := 0) rfl rfl w897 w896 w898 w899 w328 rfl rfl ⟨⟨by decide, by decide⟩, rfl⟩ ⟨(Nat.le_of_ble_eq_true rfl), (Nat.le_of_ble_eq_true rfl)⟩ rfl hl.1 rfl (Nat.le_of_ble_eq_true rfl) d_SeriesVaultLaw_law_408 ⟨(Nat.le_of_ble_eq_true rfl), (Nat.le_of_ble_eq_true rfl)⟩) hP hD hS hA [17] [0, 1, 2, 3, 4, 5, 6, 7, 8, 9, 10, 11, 12, 13, 14, 15, 16, 18, 19, 20] (wr := [(v0, .inl (dA 0, 256, .inl (fun _ => 0))), (v1, .inr (1, js)), (v2, .inr (2, hs)), (v4, .inr (3, ns)), (v5, .inr (3, ss)), (v7, .inr (4, rs)), (v8, .inr (5, qs)), (v35, .inr (6, als)), (v19, .inl (dA 4, 32, .inr (.inr (.inr (.inr (fun _ => none)))))), (v20, .inl (dA 1, 64, .inl (fun _ => 0))), (v21, .inl (dA 2, 64, .inr (.inl (fun _ => 0)))), (v22, .inl (dA 2, 64, .inr (.inl (fun _ => 0)))), (v23, .inl (dA 1, 64, .inl (fun _ => 0))), (v25, .inl (dA 4, 32, .inr (.inr (.inr (.inr (fun _ => none)))))), (v26, .inl (dA 1, 64, .inl (fun _ => 0))), (v27, .inl (dA 2, 64, .inr (.inl (fun _ => 0)))), (v28, .inl (dA 2, 64, .inr (.inl (fun _ => 0)))), (mv0, .inl (dA 0, 65536, .inl (fun _ => 0))), (h, .inr (0, fs)), (o, .inl (dA 2, 1, .inr (.inl (vp_updL (fun _ => 0) 0 (0 : Int32).toInt64))))]) rfl rfl (by decide) (by decide) (fun r2 u9 H locs hp9 hP hD hS => ?_)
  have hP : va_P D vwCl [(v0, .inl (dA 0, 256, .inl (fun _ => 0))), (v1, .inr (1, js)), (v2, .inr (2, hs)), (v4, .inr (3, ns)), (v5, .inr (3, ss)), (v7, .inr (4, rs)), (v8, .inr (5, qs)), (v35, .inr (6, als)), (v19, .inl (dA 4, 32, .inr (.inr (.inr (.inr (fun _ => none)))))), (v20, .inl (dA 1, 64, .inl (fun _ => 0))), (v21, .inl (dA 2, 64, .inr (.inl (fun _ => 0)))), (v22, .inl (dA 2, 64, .inr (.inl (fun _ => 0)))), (v23, .inl (dA 1, 64, .inl (fun _ => 0))), (v25, .inl (dA 4, 32, .inr (.inr (.inr (.inr (fun _ => none)))))), (v26, .inl (dA 1, 64, .inl (fun _ => 0))), (v27, .inl (dA 2, 64, .inr (.inl (fun _ => 0)))), (v28, .inl (dA 2, 64, .inr (.inl (fun _ => 0)))), (mv0, .inl (dA 0, 65536, .inl (fun _ => 0))), (h, .inr (0, fs)), (o, .inl (dA 2, 1, .inr (.inl (vp_updL (fun _ => 0) 0 (0 : Int32).toInt64)))), (mm, .inr (9, (ms.set 0 (.int 0))))] H := hP
  have hD : va_D A [(v0, .inl (dA 0, 256, .inl (fun _ => 0))), (v1, .inr (1, js)), (v2, .inr (2, hs)), (v4, .inr (3, ns)), (v5, .inr (3, ss)), (v7, .inr (4, rs)), (v8, .inr (5, qs)), (v35, .inr (6, als)), (v19, .inl (dA 4, 32, .inr (.inr (.inr (.inr (fun _ => none)))))), (v20, .inl (dA 1, 64, .inl (fun _ => 0))), (v21, .inl (dA 2, 64, .inr (.inl (fun _ => 0)))), (v22, .inl (dA 2, 64, .inr (.inl (fun _ => 0)))), (v23, .inl (dA 1, 64, .inl (fun _ => 0))), (v25, .inl (dA 4, 32, .inr (.inr (.inr (.inr (fun _ => none)))))), (v26, .inl (dA 1, 64, .inl (fun _ => 0))), (v27, .inl (dA 2, 64, .inr (.inl (fun _ => 0)))), (v28, .inl (dA 2, 64, .inr (.inl (fun _ => 0)))), (mv0, .inl (dA 0, 65536, .inl (fun _ => 0))), (h, .inr (0, fs)), (o, .inl (dA 2, 1, .inr (.inl (vp_updL (fun _ => 0) 0 (0 : Int32).toInt64)))), (mm, .inr (9, (ms.set 0 (.int 0))))] := hD
  have hp9 : 0 = r2 := Eq.symm hp9
  subst hp9
  refine lv_istore hx hb d_SeriesVaultLaw_law_411 hl (by decide) rfl (fun ls hl => ?_)
  have hl : lv_has ls 8 [(6, .int 0), (5, .int 0), (4, .int 0), (3, .ref o), (2, .ref mm), (1, .ref h), (0, .ref b)] := hl
  refine lv_aload_n hx hb d_SeriesVaultLaw_law_413 rfl (lv_at hl 4 rfl) ?_
  have hPc := hP.sub (ws' := [(mm, .inr (9, (ms.set 0 (.int 0))))]) [20] rfl
  have hDc := hD.sub (ws' := [(mm, .inr (9, (ms.set 0 (.int 0))))]) [20] (by decide) rfl
  refine jnI (rnV (As := []) (rest := []) hx hb hml hown hE hK (hN _ _ hS) hPc hDc (c_M_thrown l D dA H.size mm (ms.set 0 (.int 0)) 0 (by simp [hl_ms]) (by simp [hl_ms])) (q0 := 0) rfl rfl w869 w868 w870 w871 w328 rfl rfl ⟨⟨by decide, by decide⟩, rfl⟩ ⟨(Nat.le_of_ble_eq_true rfl), (Nat.le_of_ble_eq_true rfl)⟩ rfl hl.1 rfl (Nat.le_of_ble_eq_true rfl) d_SeriesVaultLaw_law_414 ⟨(Nat.le_of_ble_eq_true rfl), (Nat.le_of_ble_eq_true rfl)⟩) hP hD hS hA [20] [0, 1, 2, 3, 4, 5, 6, 7, 8, 9, 10, 11, 12, 13, 14, 15, 16, 17, 18, 19] (wr := [(v0, .inl (dA 0, 256, .inl (fun _ => 0))), (v1, .inr (1, js)), (v2, .inr (2, hs)), (v4, .inr (3, ns)), (v5, .inr (3, ss)), (v7, .inr (4, rs)), (v8, .inr (5, qs)), (v35, .inr (6, als)), (v19, .inl (dA 4, 32, .inr (.inr (.inr (.inr (fun _ => none)))))), (v20, .inl (dA 1, 64, .inl (fun _ => 0))), (v21, .inl (dA 2, 64, .inr (.inl (fun _ => 0)))), (v22, .inl (dA 2, 64, .inr (.inl (fun _ => 0)))), (v23, .inl (dA 1, 64, .inl (fun _ => 0))), (v25, .inl (dA 4, 32, .inr (.inr (.inr (.inr (fun _ => none)))))), (v26, .inl (dA 1, 64, .inl (fun _ => 0))), (v27, .inl (dA 2, 64, .inr (.inl (fun _ => 0)))), (v28, .inl (dA 2, 64, .inr (.inl (fun _ => 0)))), (mv0, .inl (dA 0, 65536, .inl (fun _ => 0))), (h, .inr (0, fs)), (o, .inl (dA 2, 1, .inr (.inl (vp_updL (fun _ => 0) 0 (0 : Int32).toInt64))))]) rfl rfl (by decide) (by decide) (fun r3 u9 H locs hp9 hP hD hS => ?_)
  have hP : va_P D vwCl [(v0, .inl (dA 0, 256, .inl (fun _ => 0))), (v1, .inr (1, js)), (v2, .inr (2, hs)), (v4, .inr (3, ns)), (v5, .inr (3, ss)), (v7, .inr (4, rs)), (v8, .inr (5, qs)), (v35, .inr (6, als)), (v19, .inl (dA 4, 32, .inr (.inr (.inr (.inr (fun _ => none)))))), (v20, .inl (dA 1, 64, .inl (fun _ => 0))), (v21, .inl (dA 2, 64, .inr (.inl (fun _ => 0)))), (v22, .inl (dA 2, 64, .inr (.inl (fun _ => 0)))), (v23, .inl (dA 1, 64, .inl (fun _ => 0))), (v25, .inl (dA 4, 32, .inr (.inr (.inr (.inr (fun _ => none)))))), (v26, .inl (dA 1, 64, .inl (fun _ => 0))), (v27, .inl (dA 2, 64, .inr (.inl (fun _ => 0)))), (v28, .inl (dA 2, 64, .inr (.inl (fun _ => 0)))), (mv0, .inl (dA 0, 65536, .inl (fun _ => 0))), (h, .inr (0, fs)), (o, .inl (dA 2, 1, .inr (.inl (vp_updL (fun _ => 0) 0 (0 : Int32).toInt64)))), (mm, .inr (9, (ms.set 0 (.int 0))))] H := hP
  have hD : va_D A [(v0, .inl (dA 0, 256, .inl (fun _ => 0))), (v1, .inr (1, js)), (v2, .inr (2, hs)), (v4, .inr (3, ns)), (v5, .inr (3, ss)), (v7, .inr (4, rs)), (v8, .inr (5, qs)), (v35, .inr (6, als)), (v19, .inl (dA 4, 32, .inr (.inr (.inr (.inr (fun _ => none)))))), (v20, .inl (dA 1, 64, .inl (fun _ => 0))), (v21, .inl (dA 2, 64, .inr (.inl (fun _ => 0)))), (v22, .inl (dA 2, 64, .inr (.inl (fun _ => 0)))), (v23, .inl (dA 1, 64, .inl (fun _ => 0))), (v25, .inl (dA 4, 32, .inr (.inr (.inr (.inr (fun _ => none)))))), (v26, .inl (dA 1, 64, .inl (fun _ => 0))), (v27, .inl (dA 2, 64, .inr (.inl (fun _ => 0)))), (v28, .inl (dA 2, 64, .inr (.inl (fun _ => 0)))), (mv0, .inl (dA 0, 65536, .inl (fun _ => 0))), (h, .inr (0, fs)), (o, .inl (dA 2, 1, .inr (.inl (vp_updL (fun _ => 0) 0 (0 : Int32).toInt64)))), (mm, .inr (9, (ms.set 0 (.int 0))))] := hD
  have hp9 : 0 = r3 := Eq.symm hp9
  subst hp9
  refine lv_iload hx hb d_SeriesVaultLaw_law_417 (lv_at hl 1 rfl) ?_
  refine lv_icmp_eq hx hb d_SeriesVaultLaw_law_419 (tgt := 424) rfl (fun _ => ?_) (fun h9 => absurd (by decide) h9)
  refine lv_iload hx hb d_SeriesVaultLaw_law_424 (lv_at hl 1 rfl) ?_
  refine lv_if_ne hx hb d_SeriesVaultLaw_law_426 (tgt := 441) rfl (fun h9 => absurd (by decide) h9) (fun _ => ?_)
  refine lv_aload_n hx hb d_SeriesVaultLaw_law_429 rfl (lv_at hl 3 rfl) ?_
  refine lv_iconst (v := 0) hx hb d_SeriesVaultLaw_law_430 (by decide) ?_
  refine va_lald hx hb hK hP 19 2 rfl rfl (by unfold vp_in; decide) d_SeriesVaultLaw_law_431 ?_
  refine tpl (y := 0) (by decide) ?_
  refine lv_iload hx hb d_SeriesVaultLaw_law_432 (lv_at hl 0 rfl) ?_
  refine lv_i2l (v := 0) hx hb d_SeriesVaultLaw_law_434 (by decide) ?_
  refine W.lcmp hx hb d_SeriesVaultLaw_law_435 (tpi (y := 0) (by decide) ?_)
  refine lv_if_eq hx hb d_SeriesVaultLaw_law_436 (tgt := 441) rfl (fun _ => ?_) (fun h9 => absurd (by decide) h9)
  refine lv_goto hx hb d_SeriesVaultLaw_law_441 (tgt := 1770) rfl ?_
  refine lv_iinc (k := 2) (v := 6) hx hb d_SeriesVaultLaw_law_1770 hl rfl (by decide) (by decide) rfl (fun ls hl => ?_)
  have hl : lv_has ls 8 [(4, .int 6), (6, .int 0), (5, .int 0), (3, .ref o), (2, .ref mm), (1, .ref h), (0, .ref b)] := hl
  refine lv_goto hx hb d_SeriesVaultLaw_law_1773 (tgt := 23) rfl ?_
  refine lv_iload hx hb d_SeriesVaultLaw_law_23 (lv_at hl 0 rfl) ?_
  refine lv_aload_n hx hb d_SeriesVaultLaw_law_25 rfl (lv_at hl 6 rfl) ?_
  refine va_slen hx hb hX hbl hbA hS d_SeriesVaultLaw_law_26 ?_
  refine tpi (y := 6) (by decide) ?_
  refine lv_bipush (v := 6) hx hb d_SeriesVaultLaw_law_27 (by decide) ?_
  refine lv_isub hx hb d_SeriesVaultLaw_law_29 (tpi (y := 0) (by decide) ?_)
  refine lv_icmp_gt hx hb d_SeriesVaultLaw_law_30 (tgt := 1776) rfl (fun _ => ?_) (fun h9 => absurd (by decide) h9)
  refine lv_iconst (v := 1) hx hb d_SeriesVaultLaw_law_1776 (by decide) ?_
  exact lw_fin hC0 hS (Nat.le_of_ble_eq_true rfl) (Nat.le_of_ble_eq_true rfl) d_SeriesVaultLaw_law_1777
set_option maxHeartbeats 4000000 in
set_option maxRecDepth 100000 in
theorem law_4_1 {p : Program} {e : Env} {s : State} {m : MethodId} {below : List Frame} {meth : Method} {c : Code} (l : Launch) {b : Nat} {xs : Nat → Int32} {D : va_G} {dA : Nat → ClassId} {e0 : Nat} {A : Nat → Prop} {H : Heap} {locs : List Loc} {ls : Array Slot} (hC : lS p l s m meth c b 6 xs D dA e0 A) (h : Nat) (v0 : Nat) (v1 : Nat) (v2 : Nat) (v4 : Nat) (v5 : Nat) (v7 : Nat) (v8 : Nat) (v19 : Nat) (v20 : Nat) (v21 : Nat) (v22 : Nat) (v23 : Nat) (v25 : Nat) (v26 : Nat) (v27 : Nat) (v28 : Nat) (v35 : Nat) (mm : Nat) (mv0 : Nat) (o : Nat) (fs : List Value) (js : List Value) (hs : List Value) (ns : List Value) (ss : List Value) (rs : List Value) (qs : List Value) (als : List Value) (ms : List Value) (h0 : xs 1 = 1) (h_fs_faultPlace : fs[3]? = some (.int 0)) (hl_fs : fs.length = 18) (hl_js : js.length = 13) (hl_hs : hs.length = 4) (hl_ns : ns.length = 11) (hl_ss : ss.length = 11) (hl_rs : rs.length = 6) (hl_qs : qs.length = 9) (hl_als : als.length = 3) (h_ms_faultPlace : ms[4]? = some (.int 0)) (hl_ms : ms.length = 79) (hP : va_P D vwCl [(h, .inr (0, fs)), (v0, .inl (dA 0, 256, .inl (fun _ => 0))), (v1, .inr (1, js)), (v2, .inr (2, hs)), (v4, .inr (3, ns)), (v5, .inr (3, ss)), (v7, .inr (4, rs)), (v8, .inr (5, qs)), (v35, .inr (6, als)), (v19, .inl (dA 4, 32, .inr (.inr (.inr (.inr (fun _ => none)))))), (v20, .inl (dA 1, 64, .inl (fun _ => 0))), (v21, .inl (dA 2, 64, .inr (.inl (fun _ => 0)))), (v22, .inl (dA 2, 64, .inr (.inl (fun _ => 0)))), (v23, .inl (dA 1, 64, .inl (fun _ => 0))), (v25, .inl (dA 4, 32, .inr (.inr (.inr (.inr (fun _ => none)))))), (v26, .inl (dA 1, 64, .inl (fun _ => 0))), (v27, .inl (dA 2, 64, .inr (.inl (fun _ => 0)))), (v28, .inl (dA 2, 64, .inr (.inl (fun _ => 0)))), (mm, .inr (9, ms)), (mv0, .inl (dA 0, 65536, .inl (fun _ => 0))), (o, .inl (dA 2, 1, .inr (.inl (fun _ => 0))))] H) (hD : va_D A [(h, .inr (0, fs)), (v0, .inl (dA 0, 256, .inl (fun _ => 0))), (v1, .inr (1, js)), (v2, .inr (2, hs)), (v4, .inr (3, ns)), (v5, .inr (3, ss)), (v7, .inr (4, rs)), (v8, .inr (5, qs)), (v35, .inr (6, als)), (v19, .inl (dA 4, 32, .inr (.inr (.inr (.inr (fun _ => none)))))), (v20, .inl (dA 1, 64, .inl (fun _ => 0))), (v21, .inl (dA 2, 64, .inr (.inl (fun _ => 0)))), (v22, .inl (dA 2, 64, .inr (.inl (fun _ => 0)))), (v23, .inl (dA 1, 64, .inl (fun _ => 0))), (v25, .inl (dA 4, 32, .inr (.inr (.inr (.inr (fun _ => none)))))), (v26, .inl (dA 1, 64, .inl (fun _ => 0))), (v27, .inl (dA 2, 64, .inr (.inl (fun _ => 0)))), (v28, .inl (dA 2, 64, .inr (.inl (fun _ => 0)))), (mm, .inr (9, ms)), (mv0, .inl (dA 0, 65536, .inl (fun _ => 0))), (o, .inl (dA 2, 1, .inr (.inl (fun _ => 0))))]) (hS : va_S A s.heap H locs) (hl : lv_has ls 8 [(4, .int 0), (3, .ref o), (2, .ref mm), (1, .ref h), (0, .ref b)]) : W p l e room_1 s m #[Value.ref b] below meth c H locs 92 1177737 (lw_Z below #[Value.ref b] s) (F0 m 388 ls []) := by
  have hC0 := hC
  obtain ⟨hx, hb, hr, hml, hown, hlk, hE, hK, hA, hN, hZ, hT, hX, hbl, hbA, hnew, htr⟩ := hC
  refine lv_aload_n hx hb d_SeriesVaultLaw_law_388 rfl (lv_at hl 3 rfl) ?_
  refine lv_aload_n hx hb d_SeriesVaultLaw_law_389 rfl (lv_at hl 4 rfl) ?_
  refine lv_iload hx hb d_SeriesVaultLaw_law_390 (lv_at hl 0 rfl) ?_
  refine lv_iconst (v := 1) hx hb d_SeriesVaultLaw_law_392 (by decide) ?_
  refine lv_iadd hx hb d_SeriesVaultLaw_law_393 (tpi (y := 1) (by decide) ?_)
  refine va_sld hx hb hX hbl hbA hS (by unfold vp_in; decide) d_SeriesVaultLaw_law_394 ?_
  refine tpi (y := 1) h0 ?_
  refine lv_aload_n hx hb d_SeriesVaultLaw_law_395 rfl (lv_at hl 1 rfl) ?_
  have hPc := hP.sub (ws' := [(h, .inr (0, fs)), (o, .inl (dA 2, 1, .inr (.inl (fun _ => 0))))]) [0, 20] rfl
  have hDc := hD.sub (ws' := [(h, .inr (0, fs)), (o, .inl (dA 2, 1, .inr (.inl (fun _ => 0))))]) [0, 20] (by decide) rfl
  refine jnI (rnW (As := [.ref h, .int 1, .ref o]) (rest := []) hx hb hml hown hE hK (hN _ _ hS) hPc hDc (c_K_fault_1 l htr D dA H.size h fs 0 o (fun _ => 0) h_fs_faultPlace hl_fs) w894 w893 w895 w861 rfl rfl ⟨⟨by decide, by decide⟩, rfl⟩ ⟨(Nat.le_of_ble_eq_true rfl), (Nat.le_of_ble_eq_true rfl)⟩ rfl hl.1 rfl (Nat.le_of_ble_eq_true rfl) d_SeriesVaultLaw_law_396 ⟨(Nat.le_of_ble_eq_true rfl), (Nat.le_of_ble_eq_true rfl)⟩) hP hD hS hA [0, 20] [1, 2, 3, 4, 5, 6, 7, 8, 9, 10, 11, 12, 13, 14, 15, 16, 17, 18, 19] (wr := [(v0, .inl (dA 0, 256, .inl (fun _ => 0))), (v1, .inr (1, js)), (v2, .inr (2, hs)), (v4, .inr (3, ns)), (v5, .inr (3, ss)), (v7, .inr (4, rs)), (v8, .inr (5, qs)), (v35, .inr (6, als)), (v19, .inl (dA 4, 32, .inr (.inr (.inr (.inr (fun _ => none)))))), (v20, .inl (dA 1, 64, .inl (fun _ => 0))), (v21, .inl (dA 2, 64, .inr (.inl (fun _ => 0)))), (v22, .inl (dA 2, 64, .inr (.inl (fun _ => 0)))), (v23, .inl (dA 1, 64, .inl (fun _ => 0))), (v25, .inl (dA 4, 32, .inr (.inr (.inr (.inr (fun _ => none)))))), (v26, .inl (dA 1, 64, .inl (fun _ => 0))), (v27, .inl (dA 2, 64, .inr (.inl (fun _ => 0)))), (v28, .inl (dA 2, 64, .inr (.inl (fun _ => 0)))), (mm, .inr (9, ms)), (mv0, .inl (dA 0, 65536, .inl (fun _ => 0)))]) rfl rfl (by decide) (by decide) (fun r1 u9 H locs hp9 hP hD hS => ?_)
  have hP : va_P D vwCl [(v0, .inl (dA 0, 256, .inl (fun _ => 0))), (v1, .inr (1, js)), (v2, .inr (2, hs)), (v4, .inr (3, ns)), (v5, .inr (3, ss)), (v7, .inr (4, rs)), (v8, .inr (5, qs)), (v35, .inr (6, als)), (v19, .inl (dA 4, 32, .inr (.inr (.inr (.inr (fun _ => none)))))), (v20, .inl (dA 1, 64, .inl (fun _ => 0))), (v21, .inl (dA 2, 64, .inr (.inl (fun _ => 0)))), (v22, .inl (dA 2, 64, .inr (.inl (fun _ => 0)))), (v23, .inl (dA 1, 64, .inl (fun _ => 0))), (v25, .inl (dA 4, 32, .inr (.inr (.inr (.inr (fun _ => none)))))), (v26, .inl (dA 1, 64, .inl (fun _ => 0))), (v27, .inl (dA 2, 64, .inr (.inl (fun _ => 0)))), (v28, .inl (dA 2, 64, .inr (.inl (fun _ => 0)))), (mm, .inr (9, ms)), (mv0, .inl (dA 0, 65536, .inl (fun _ => 0))), (h, .inr (0, fs)), (o, .inl (dA 2, 1, .inr (.inl (vp_updL (fun _ => 0) 0 (0 : Int32).toInt64))))] H := hP
  have hD : va_D A [(v0, .inl (dA 0, 256, .inl (fun _ => 0))), (v1, .inr (1, js)), (v2, .inr (2, hs)), (v4, .inr (3, ns)), (v5, .inr (3, ss)), (v7, .inr (4, rs)), (v8, .inr (5, qs)), (v35, .inr (6, als)), (v19, .inl (dA 4, 32, .inr (.inr (.inr (.inr (fun _ => none)))))), (v20, .inl (dA 1, 64, .inl (fun _ => 0))), (v21, .inl (dA 2, 64, .inr (.inl (fun _ => 0)))), (v22, .inl (dA 2, 64, .inr (.inl (fun _ => 0)))), (v23, .inl (dA 1, 64, .inl (fun _ => 0))), (v25, .inl (dA 4, 32, .inr (.inr (.inr (.inr (fun _ => none)))))), (v26, .inl (dA 1, 64, .inl (fun _ => 0))), (v27, .inl (dA 2, 64, .inr (.inl (fun _ => 0)))), (v28, .inl (dA 2, 64, .inr (.inl (fun _ => 0)))), (mm, .inr (9, ms)), (mv0, .inl (dA 0, 65536, .inl (fun _ => 0))), (h, .inr (0, fs)), (o, .inl (dA 2, 1, .inr (.inl (vp_updL (fun _ => 0) 0 (0 : Int32).toInt64))))] := hD
  have hp9 : 0 = r1 := Eq.symm hp9
  subst hp9
  refine lv_istore hx hb d_SeriesVaultLaw_law_399 hl (by decide) rfl (fun ls hl => ?_)
  have hl : lv_has ls 8 [(5, .int 0), (4, .int 0), (3, .ref o), (2, .ref mm), (1, .ref h), (0, .ref b)] := hl
  refine lv_aload_n hx hb d_SeriesVaultLaw_law_401 rfl (lv_at hl 3 rfl) ?_
  refine lv_aload_n hx hb d_SeriesVaultLaw_law_402 rfl (lv_at hl 5 rfl) ?_
  refine lv_iload hx hb d_SeriesVaultLaw_law_403 (lv_at hl 1 rfl) ?_
  refine lv_iconst (v := 1) hx hb d_SeriesVaultLaw_law_405 (by decide) ?_
  refine lv_iadd hx hb d_SeriesVaultLaw_law_406 (tpi (y := 1) (by decide) ?_)
  refine va_sld hx hb hX hbl hbA hS (by unfold vp_in; decide) d_SeriesVaultLaw_law_407 ?_
  refine tpi (y := 1) h0 ?_
  have hPc := hP.sub (ws' := [(mm, .inr (9, ms))]) [17] rfl
  have hDc := hD.sub (ws' := [(mm, .inr (9, ms))]) [17] (by decide) rfl
  refine jnI (rnV (As := [.int 1]) (rest := []) hx hb hml hown hE hK (hN _ _ hS) hPc hDc (c_M_fault_1 l D dA H.size mm ms 0 h_ms_faultPlace hl_ms) (q0 := 0) rfl rfl w897 w896 w898 w899 w328 rfl rfl ⟨⟨by decide, by decide⟩, rfl⟩ ⟨(Nat.le_of_ble_eq_true rfl), (Nat.le_of_ble_eq_true rfl)⟩ rfl hl.1 rfl (Nat.le_of_ble_eq_true rfl) d_SeriesVaultLaw_law_408 ⟨(Nat.le_of_ble_eq_true rfl), (Nat.le_of_ble_eq_true rfl)⟩) hP hD hS hA [17] [0, 1, 2, 3, 4, 5, 6, 7, 8, 9, 10, 11, 12, 13, 14, 15, 16, 18, 19, 20] (wr := [(v0, .inl (dA 0, 256, .inl (fun _ => 0))), (v1, .inr (1, js)), (v2, .inr (2, hs)), (v4, .inr (3, ns)), (v5, .inr (3, ss)), (v7, .inr (4, rs)), (v8, .inr (5, qs)), (v35, .inr (6, als)), (v19, .inl (dA 4, 32, .inr (.inr (.inr (.inr (fun _ => none)))))), (v20, .inl (dA 1, 64, .inl (fun _ => 0))), (v21, .inl (dA 2, 64, .inr (.inl (fun _ => 0)))), (v22, .inl (dA 2, 64, .inr (.inl (fun _ => 0)))), (v23, .inl (dA 1, 64, .inl (fun _ => 0))), (v25, .inl (dA 4, 32, .inr (.inr (.inr (.inr (fun _ => none)))))), (v26, .inl (dA 1, 64, .inl (fun _ => 0))), (v27, .inl (dA 2, 64, .inr (.inl (fun _ => 0)))), (v28, .inl (dA 2, 64, .inr (.inl (fun _ => 0)))), (mv0, .inl (dA 0, 65536, .inl (fun _ => 0))), (h, .inr (0, fs)), (o, .inl (dA 2, 1, .inr (.inl (vp_updL (fun _ => 0) 0 (0 : Int32).toInt64))))]) rfl rfl (by decide) (by decide) (fun r2 u9 H locs hp9 hP hD hS => ?_)
  have hP : va_P D vwCl [(v0, .inl (dA 0, 256, .inl (fun _ => 0))), (v1, .inr (1, js)), (v2, .inr (2, hs)), (v4, .inr (3, ns)), (v5, .inr (3, ss)), (v7, .inr (4, rs)), (v8, .inr (5, qs)), (v35, .inr (6, als)), (v19, .inl (dA 4, 32, .inr (.inr (.inr (.inr (fun _ => none)))))), (v20, .inl (dA 1, 64, .inl (fun _ => 0))), (v21, .inl (dA 2, 64, .inr (.inl (fun _ => 0)))), (v22, .inl (dA 2, 64, .inr (.inl (fun _ => 0)))), (v23, .inl (dA 1, 64, .inl (fun _ => 0))), (v25, .inl (dA 4, 32, .inr (.inr (.inr (.inr (fun _ => none)))))), (v26, .inl (dA 1, 64, .inl (fun _ => 0))), (v27, .inl (dA 2, 64, .inr (.inl (fun _ => 0)))), (v28, .inl (dA 2, 64, .inr (.inl (fun _ => 0)))), (mv0, .inl (dA 0, 65536, .inl (fun _ => 0))), (h, .inr (0, fs)), (o, .inl (dA 2, 1, .inr (.inl (vp_updL (fun _ => 0) 0 (0 : Int32).toInt64)))), (mm, .inr (9, (ms.set 0 (.int 0))))] H := hP
  have hD : va_D A [(v0, .inl (dA 0, 256, .inl (fun _ => 0))), (v1, .inr (1, js)), (v2, .inr (2, hs)), (v4, .inr (3, ns)), (v5, .inr (3, ss)), (v7, .inr (4, rs)), (v8, .inr (5, qs)), (v35, .inr (6, als)), (v19, .inl (dA 4, 32, .inr (.inr (.inr (.inr (fun _ => none)))))), (v20, .inl (dA 1, 64, .inl (fun _ => 0))), (v21, .inl (dA 2, 64, .inr (.inl (fun _ => 0)))), (v22, .inl (dA 2, 64, .inr (.inl (fun _ => 0)))), (v23, .inl (dA 1, 64, .inl (fun _ => 0))), (v25, .inl (dA 4, 32, .inr (.inr (.inr (.inr (fun _ => none)))))), (v26, .inl (dA 1, 64, .inl (fun _ => 0))), (v27, .inl (dA 2, 64, .inr (.inl (fun _ => 0)))), (v28, .inl (dA 2, 64, .inr (.inl (fun _ => 0)))), (mv0, .inl (dA 0, 65536, .inl (fun _ => 0))), (h, .inr (0, fs)), (o, .inl (dA 2, 1, .inr (.inl (vp_updL (fun _ => 0) 0 (0 : Int32).toInt64)))), (mm, .inr (9, (ms.set 0 (.int 0))))] := hD
  have hp9 : 0 = r2 := Eq.symm hp9
  subst hp9
  refine lv_istore hx hb d_SeriesVaultLaw_law_411 hl (by decide) rfl (fun ls hl => ?_)
  have hl : lv_has ls 8 [(6, .int 0), (5, .int 0), (4, .int 0), (3, .ref o), (2, .ref mm), (1, .ref h), (0, .ref b)] := hl
  refine lv_aload_n hx hb d_SeriesVaultLaw_law_413 rfl (lv_at hl 4 rfl) ?_
  have hPc := hP.sub (ws' := [(mm, .inr (9, (ms.set 0 (.int 0))))]) [20] rfl
  have hDc := hD.sub (ws' := [(mm, .inr (9, (ms.set 0 (.int 0))))]) [20] (by decide) rfl
  refine jnI (rnV (As := []) (rest := []) hx hb hml hown hE hK (hN _ _ hS) hPc hDc (c_M_thrown l D dA H.size mm (ms.set 0 (.int 0)) 0 (by simp [hl_ms]) (by simp [hl_ms])) (q0 := 0) rfl rfl w869 w868 w870 w871 w328 rfl rfl ⟨⟨by decide, by decide⟩, rfl⟩ ⟨(Nat.le_of_ble_eq_true rfl), (Nat.le_of_ble_eq_true rfl)⟩ rfl hl.1 rfl (Nat.le_of_ble_eq_true rfl) d_SeriesVaultLaw_law_414 ⟨(Nat.le_of_ble_eq_true rfl), (Nat.le_of_ble_eq_true rfl)⟩) hP hD hS hA [20] [0, 1, 2, 3, 4, 5, 6, 7, 8, 9, 10, 11, 12, 13, 14, 15, 16, 17, 18, 19] (wr := [(v0, .inl (dA 0, 256, .inl (fun _ => 0))), (v1, .inr (1, js)), (v2, .inr (2, hs)), (v4, .inr (3, ns)), (v5, .inr (3, ss)), (v7, .inr (4, rs)), (v8, .inr (5, qs)), (v35, .inr (6, als)), (v19, .inl (dA 4, 32, .inr (.inr (.inr (.inr (fun _ => none)))))), (v20, .inl (dA 1, 64, .inl (fun _ => 0))), (v21, .inl (dA 2, 64, .inr (.inl (fun _ => 0)))), (v22, .inl (dA 2, 64, .inr (.inl (fun _ => 0)))), (v23, .inl (dA 1, 64, .inl (fun _ => 0))), (v25, .inl (dA 4, 32, .inr (.inr (.inr (.inr (fun _ => none)))))), (v26, .inl (dA 1, 64, .inl (fun _ => 0))), (v27, .inl (dA 2, 64, .inr (.inl (fun _ => 0)))), (v28, .inl (dA 2, 64, .inr (.inl (fun _ => 0)))), (mv0, .inl (dA 0, 65536, .inl (fun _ => 0))), (h, .inr (0, fs)), (o, .inl (dA 2, 1, .inr (.inl (vp_updL (fun _ => 0) 0 (0 : Int32).toInt64))))]) rfl rfl (by decide) (by decide) (fun r3 u9 H locs hp9 hP hD hS => ?_)
  have hP : va_P D vwCl [(v0, .inl (dA 0, 256, .inl (fun _ => 0))), (v1, .inr (1, js)), (v2, .inr (2, hs)), (v4, .inr (3, ns)), (v5, .inr (3, ss)), (v7, .inr (4, rs)), (v8, .inr (5, qs)), (v35, .inr (6, als)), (v19, .inl (dA 4, 32, .inr (.inr (.inr (.inr (fun _ => none)))))), (v20, .inl (dA 1, 64, .inl (fun _ => 0))), (v21, .inl (dA 2, 64, .inr (.inl (fun _ => 0)))), (v22, .inl (dA 2, 64, .inr (.inl (fun _ => 0)))), (v23, .inl (dA 1, 64, .inl (fun _ => 0))), (v25, .inl (dA 4, 32, .inr (.inr (.inr (.inr (fun _ => none)))))), (v26, .inl (dA 1, 64, .inl (fun _ => 0))), (v27, .inl (dA 2, 64, .inr (.inl (fun _ => 0)))), (v28, .inl (dA 2, 64, .inr (.inl (fun _ => 0)))), (mv0, .inl (dA 0, 65536, .inl (fun _ => 0))), (h, .inr (0, fs)), (o, .inl (dA 2, 1, .inr (.inl (vp_updL (fun _ => 0) 0 (0 : Int32).toInt64)))), (mm, .inr (9, (ms.set 0 (.int 0))))] H := hP
  have hD : va_D A [(v0, .inl (dA 0, 256, .inl (fun _ => 0))), (v1, .inr (1, js)), (v2, .inr (2, hs)), (v4, .inr (3, ns)), (v5, .inr (3, ss)), (v7, .inr (4, rs)), (v8, .inr (5, qs)), (v35, .inr (6, als)), (v19, .inl (dA 4, 32, .inr (.inr (.inr (.inr (fun _ => none)))))), (v20, .inl (dA 1, 64, .inl (fun _ => 0))), (v21, .inl (dA 2, 64, .inr (.inl (fun _ => 0)))), (v22, .inl (dA 2, 64, .inr (.inl (fun _ => 0)))), (v23, .inl (dA 1, 64, .inl (fun _ => 0))), (v25, .inl (dA 4, 32, .inr (.inr (.inr (.inr (fun _ => none)))))), (v26, .inl (dA 1, 64, .inl (fun _ => 0))), (v27, .inl (dA 2, 64, .inr (.inl (fun _ => 0)))), (v28, .inl (dA 2, 64, .inr (.inl (fun _ => 0)))), (mv0, .inl (dA 0, 65536, .inl (fun _ => 0))), (h, .inr (0, fs)), (o, .inl (dA 2, 1, .inr (.inl (vp_updL (fun _ => 0) 0 (0 : Int32).toInt64)))), (mm, .inr (9, (ms.set 0 (.int 0))))] := hD
  have hp9 : 0 = r3 := Eq.symm hp9
  subst hp9
  refine lv_iload hx hb d_SeriesVaultLaw_law_417 (lv_at hl 1 rfl) ?_
  refine lv_icmp_eq hx hb d_SeriesVaultLaw_law_419 (tgt := 424) rfl (fun _ => ?_) (fun h9 => absurd (by decide) h9)
  refine lv_iload hx hb d_SeriesVaultLaw_law_424 (lv_at hl 1 rfl) ?_
  refine lv_if_ne hx hb d_SeriesVaultLaw_law_426 (tgt := 441) rfl (fun h9 => absurd (by decide) h9) (fun _ => ?_)
  refine lv_aload_n hx hb d_SeriesVaultLaw_law_429 rfl (lv_at hl 3 rfl) ?_
  refine lv_iconst (v := 0) hx hb d_SeriesVaultLaw_law_430 (by decide) ?_
  refine va_lald hx hb hK hP 19 2 rfl rfl (by unfold vp_in; decide) d_SeriesVaultLaw_law_431 ?_
  refine tpl (y := 0) (by decide) ?_
  refine lv_iload hx hb d_SeriesVaultLaw_law_432 (lv_at hl 0 rfl) ?_
  refine lv_i2l (v := 0) hx hb d_SeriesVaultLaw_law_434 (by decide) ?_
  refine W.lcmp hx hb d_SeriesVaultLaw_law_435 (tpi (y := 0) (by decide) ?_)
  refine lv_if_eq hx hb d_SeriesVaultLaw_law_436 (tgt := 441) rfl (fun _ => ?_) (fun h9 => absurd (by decide) h9)
  refine lv_goto hx hb d_SeriesVaultLaw_law_441 (tgt := 1770) rfl ?_
  refine lv_iinc (k := 2) (v := 6) hx hb d_SeriesVaultLaw_law_1770 hl rfl (by decide) (by decide) rfl (fun ls hl => ?_)
  have hl : lv_has ls 8 [(4, .int 6), (6, .int 0), (5, .int 0), (3, .ref o), (2, .ref mm), (1, .ref h), (0, .ref b)] := hl
  refine lv_goto hx hb d_SeriesVaultLaw_law_1773 (tgt := 23) rfl ?_
  refine lv_iload hx hb d_SeriesVaultLaw_law_23 (lv_at hl 0 rfl) ?_
  refine lv_aload_n hx hb d_SeriesVaultLaw_law_25 rfl (lv_at hl 6 rfl) ?_
  refine va_slen hx hb hX hbl hbA hS d_SeriesVaultLaw_law_26 ?_
  refine tpi (y := 6) (by decide) ?_
  refine lv_bipush (v := 6) hx hb d_SeriesVaultLaw_law_27 (by decide) ?_
  refine lv_isub hx hb d_SeriesVaultLaw_law_29 (tpi (y := 0) (by decide) ?_)
  refine lv_icmp_gt hx hb d_SeriesVaultLaw_law_30 (tgt := 1776) rfl (fun _ => ?_) (fun h9 => absurd (by decide) h9)
  refine lv_iconst (v := 1) hx hb d_SeriesVaultLaw_law_1776 (by decide) ?_
  exact lw_fin hC0 hS (Nat.le_of_ble_eq_true rfl) (Nat.le_of_ble_eq_true rfl) d_SeriesVaultLaw_law_1777
set_option maxHeartbeats 4000000 in
set_option maxRecDepth 100000 in
theorem law_4x {p : Program} {e : Env} {s : State} {m : MethodId} {below : List Frame} {meth : Method} {c : Code} (l : Launch) {b : Nat} {xs : Nat → Int32} {D : va_G} {dA : Nat → ClassId} {e0 : Nat} {A : Nat → Prop} {H : Heap} {locs : List Loc} {ls : Array Slot} (hC : lS p l s m meth c b 6 xs D dA e0 A) (h : Nat) (v0 : Nat) (v1 : Nat) (v2 : Nat) (v4 : Nat) (v5 : Nat) (v7 : Nat) (v8 : Nat) (v19 : Nat) (v20 : Nat) (v21 : Nat) (v22 : Nat) (v23 : Nat) (v25 : Nat) (v26 : Nat) (v27 : Nat) (v28 : Nat) (v35 : Nat) (mm : Nat) (mv0 : Nat) (o : Nat) (fs : List Value) (js : List Value) (hs : List Value) (ns : List Value) (ss : List Value) (rs : List Value) (qs : List Value) (als : List Value) (ms : List Value) (h0 : ¬ xs 1 = 0) (h1 : ¬ xs 1 = 1) (hl_fs : fs.length = 18) (hl_js : js.length = 13) (hl_hs : hs.length = 4) (hl_ns : ns.length = 11) (hl_ss : ss.length = 11) (hl_rs : rs.length = 6) (hl_qs : qs.length = 9) (hl_als : als.length = 3) (hl_ms : ms.length = 79) (hP : va_P D vwCl [(h, .inr (0, fs)), (v0, .inl (dA 0, 256, .inl (fun _ => 0))), (v1, .inr (1, js)), (v2, .inr (2, hs)), (v4, .inr (3, ns)), (v5, .inr (3, ss)), (v7, .inr (4, rs)), (v8, .inr (5, qs)), (v35, .inr (6, als)), (v19, .inl (dA 4, 32, .inr (.inr (.inr (.inr (fun _ => none)))))), (v20, .inl (dA 1, 64, .inl (fun _ => 0))), (v21, .inl (dA 2, 64, .inr (.inl (fun _ => 0)))), (v22, .inl (dA 2, 64, .inr (.inl (fun _ => 0)))), (v23, .inl (dA 1, 64, .inl (fun _ => 0))), (v25, .inl (dA 4, 32, .inr (.inr (.inr (.inr (fun _ => none)))))), (v26, .inl (dA 1, 64, .inl (fun _ => 0))), (v27, .inl (dA 2, 64, .inr (.inl (fun _ => 0)))), (v28, .inl (dA 2, 64, .inr (.inl (fun _ => 0)))), (mm, .inr (9, ms)), (mv0, .inl (dA 0, 65536, .inl (fun _ => 0))), (o, .inl (dA 2, 1, .inr (.inl (fun _ => 0))))] H) (hD : va_D A [(h, .inr (0, fs)), (v0, .inl (dA 0, 256, .inl (fun _ => 0))), (v1, .inr (1, js)), (v2, .inr (2, hs)), (v4, .inr (3, ns)), (v5, .inr (3, ss)), (v7, .inr (4, rs)), (v8, .inr (5, qs)), (v35, .inr (6, als)), (v19, .inl (dA 4, 32, .inr (.inr (.inr (.inr (fun _ => none)))))), (v20, .inl (dA 1, 64, .inl (fun _ => 0))), (v21, .inl (dA 2, 64, .inr (.inl (fun _ => 0)))), (v22, .inl (dA 2, 64, .inr (.inl (fun _ => 0)))), (v23, .inl (dA 1, 64, .inl (fun _ => 0))), (v25, .inl (dA 4, 32, .inr (.inr (.inr (.inr (fun _ => none)))))), (v26, .inl (dA 1, 64, .inl (fun _ => 0))), (v27, .inl (dA 2, 64, .inr (.inl (fun _ => 0)))), (v28, .inl (dA 2, 64, .inr (.inl (fun _ => 0)))), (mm, .inr (9, ms)), (mv0, .inl (dA 0, 65536, .inl (fun _ => 0))), (o, .inl (dA 2, 1, .inr (.inl (fun _ => 0))))]) (hS : va_S A s.heap H locs) (hl : lv_has ls 8 [(4, .int 0), (3, .ref o), (2, .ref mm), (1, .ref h), (0, .ref b)]) : W p l e room_1 s m #[Value.ref b] below meth c H locs 92 1177737 (lw_Z below #[Value.ref b] s) (F0 m 388 ls []) := by
  have hC0 := hC
  obtain ⟨hx, hb, hr, hml, hown, hlk, hE, hK, hA, hN, hZ, hT, hX, hbl, hbA, hnew, htr⟩ := hC
  refine lv_aload_n hx hb d_SeriesVaultLaw_law_388 rfl (lv_at hl 3 rfl) ?_
  refine lv_aload_n hx hb d_SeriesVaultLaw_law_389 rfl (lv_at hl 4 rfl) ?_
  refine lv_iload hx hb d_SeriesVaultLaw_law_390 (lv_at hl 0 rfl) ?_
  refine lv_iconst (v := 1) hx hb d_SeriesVaultLaw_law_392 (by decide) ?_
  refine lv_iadd hx hb d_SeriesVaultLaw_law_393 (tpi (y := 1) (by decide) ?_)
  refine va_sld hx hb hX hbl hbA hS (by unfold vp_in; decide) d_SeriesVaultLaw_law_394 ?_
  refine tpi (y := xs 1) rfl ?_
  refine lv_aload_n hx hb d_SeriesVaultLaw_law_395 rfl (lv_at hl 1 rfl) ?_
  have hPc := hP.sub (ws' := [(h, .inr (0, fs)), (o, .inl (dA 2, 1, .inr (.inl (fun _ => 0))))]) [0, 20] rfl
  have hDc := hD.sub (ws' := [(h, .inr (0, fs)), (o, .inl (dA 2, 1, .inr (.inl (fun _ => 0))))]) [0, 20] (by decide) rfl
  refine jnI (rnW (As := [.ref h, .int (xs 1), .ref o]) (rest := []) hx hb hml hown hE hK (hN _ _ hS) hPc hDc (c_K_fault_x l htr D dA H.size h fs (xs 1) o (fun _ => 0) (i32_nn h0 h1) hl_fs) w894 w893 w895 w861 rfl rfl ⟨⟨by decide, by decide⟩, rfl⟩ ⟨(Nat.le_of_ble_eq_true rfl), (Nat.le_of_ble_eq_true rfl)⟩ rfl hl.1 rfl (Nat.le_of_ble_eq_true rfl) d_SeriesVaultLaw_law_396 ⟨(Nat.le_of_ble_eq_true rfl), (Nat.le_of_ble_eq_true rfl)⟩) hP hD hS hA [0, 20] [1, 2, 3, 4, 5, 6, 7, 8, 9, 10, 11, 12, 13, 14, 15, 16, 17, 18, 19] (wr := [(v0, .inl (dA 0, 256, .inl (fun _ => 0))), (v1, .inr (1, js)), (v2, .inr (2, hs)), (v4, .inr (3, ns)), (v5, .inr (3, ss)), (v7, .inr (4, rs)), (v8, .inr (5, qs)), (v35, .inr (6, als)), (v19, .inl (dA 4, 32, .inr (.inr (.inr (.inr (fun _ => none)))))), (v20, .inl (dA 1, 64, .inl (fun _ => 0))), (v21, .inl (dA 2, 64, .inr (.inl (fun _ => 0)))), (v22, .inl (dA 2, 64, .inr (.inl (fun _ => 0)))), (v23, .inl (dA 1, 64, .inl (fun _ => 0))), (v25, .inl (dA 4, 32, .inr (.inr (.inr (.inr (fun _ => none)))))), (v26, .inl (dA 1, 64, .inl (fun _ => 0))), (v27, .inl (dA 2, 64, .inr (.inl (fun _ => 0)))), (v28, .inl (dA 2, 64, .inr (.inl (fun _ => 0)))), (mm, .inr (9, ms)), (mv0, .inl (dA 0, 65536, .inl (fun _ => 0)))]) rfl rfl (by decide) (by decide) (fun r1 u9 H locs hp9 hP hD hS => ?_)
  have hP : va_P D vwCl [(v0, .inl (dA 0, 256, .inl (fun _ => 0))), (v1, .inr (1, js)), (v2, .inr (2, hs)), (v4, .inr (3, ns)), (v5, .inr (3, ss)), (v7, .inr (4, rs)), (v8, .inr (5, qs)), (v35, .inr (6, als)), (v19, .inl (dA 4, 32, .inr (.inr (.inr (.inr (fun _ => none)))))), (v20, .inl (dA 1, 64, .inl (fun _ => 0))), (v21, .inl (dA 2, 64, .inr (.inl (fun _ => 0)))), (v22, .inl (dA 2, 64, .inr (.inl (fun _ => 0)))), (v23, .inl (dA 1, 64, .inl (fun _ => 0))), (v25, .inl (dA 4, 32, .inr (.inr (.inr (.inr (fun _ => none)))))), (v26, .inl (dA 1, 64, .inl (fun _ => 0))), (v27, .inl (dA 2, 64, .inr (.inl (fun _ => 0)))), (v28, .inl (dA 2, 64, .inr (.inl (fun _ => 0)))), (mm, .inr (9, ms)), (mv0, .inl (dA 0, 65536, .inl (fun _ => 0))), (h, .inr (0, fs)), (o, .inl (dA 2, 1, .inr (.inl (fun _ => 0))))] H := hP
  have hD : va_D A [(v0, .inl (dA 0, 256, .inl (fun _ => 0))), (v1, .inr (1, js)), (v2, .inr (2, hs)), (v4, .inr (3, ns)), (v5, .inr (3, ss)), (v7, .inr (4, rs)), (v8, .inr (5, qs)), (v35, .inr (6, als)), (v19, .inl (dA 4, 32, .inr (.inr (.inr (.inr (fun _ => none)))))), (v20, .inl (dA 1, 64, .inl (fun _ => 0))), (v21, .inl (dA 2, 64, .inr (.inl (fun _ => 0)))), (v22, .inl (dA 2, 64, .inr (.inl (fun _ => 0)))), (v23, .inl (dA 1, 64, .inl (fun _ => 0))), (v25, .inl (dA 4, 32, .inr (.inr (.inr (.inr (fun _ => none)))))), (v26, .inl (dA 1, 64, .inl (fun _ => 0))), (v27, .inl (dA 2, 64, .inr (.inl (fun _ => 0)))), (v28, .inl (dA 2, 64, .inr (.inl (fun _ => 0)))), (mm, .inr (9, ms)), (mv0, .inl (dA 0, 65536, .inl (fun _ => 0))), (h, .inr (0, fs)), (o, .inl (dA 2, 1, .inr (.inl (fun _ => 0))))] := hD
  have hp9 : 1 = r1 := Eq.symm hp9
  subst hp9
  refine lv_istore hx hb d_SeriesVaultLaw_law_399 hl (by decide) rfl (fun ls hl => ?_)
  have hl : lv_has ls 8 [(5, .int 1), (4, .int 0), (3, .ref o), (2, .ref mm), (1, .ref h), (0, .ref b)] := hl
  refine lv_aload_n hx hb d_SeriesVaultLaw_law_401 rfl (lv_at hl 3 rfl) ?_
  refine lv_aload_n hx hb d_SeriesVaultLaw_law_402 rfl (lv_at hl 5 rfl) ?_
  refine lv_iload hx hb d_SeriesVaultLaw_law_403 (lv_at hl 1 rfl) ?_
  refine lv_iconst (v := 1) hx hb d_SeriesVaultLaw_law_405 (by decide) ?_
  refine lv_iadd hx hb d_SeriesVaultLaw_law_406 (tpi (y := 1) (by decide) ?_)
  refine va_sld hx hb hX hbl hbA hS (by unfold vp_in; decide) d_SeriesVaultLaw_law_407 ?_
  refine tpi (y := xs 1) rfl ?_
  have hPc := hP.sub (ws' := [(mm, .inr (9, ms))]) [17] rfl
  have hDc := hD.sub (ws' := [(mm, .inr (9, ms))]) [17] (by decide) rfl
  refine jnI (rnV (As := [.int (xs 1)]) (rest := []) hx hb hml hown hE hK (hN _ _ hS) hPc hDc (c_M_fault_x l D dA H.size mm ms (xs 1) h0 h1 hl_ms) (q0 := 0) rfl rfl w897 w896 w898 w899 w328 rfl rfl ⟨⟨by decide, by decide⟩, rfl⟩ ⟨(Nat.le_of_ble_eq_true rfl), (Nat.le_of_ble_eq_true rfl)⟩ rfl hl.1 rfl (Nat.le_of_ble_eq_true rfl) d_SeriesVaultLaw_law_408 ⟨(Nat.le_of_ble_eq_true rfl), (Nat.le_of_ble_eq_true rfl)⟩) hP hD hS hA [17] [0, 1, 2, 3, 4, 5, 6, 7, 8, 9, 10, 11, 12, 13, 14, 15, 16, 18, 19, 20] (wr := [(v0, .inl (dA 0, 256, .inl (fun _ => 0))), (v1, .inr (1, js)), (v2, .inr (2, hs)), (v4, .inr (3, ns)), (v5, .inr (3, ss)), (v7, .inr (4, rs)), (v8, .inr (5, qs)), (v35, .inr (6, als)), (v19, .inl (dA 4, 32, .inr (.inr (.inr (.inr (fun _ => none)))))), (v20, .inl (dA 1, 64, .inl (fun _ => 0))), (v21, .inl (dA 2, 64, .inr (.inl (fun _ => 0)))), (v22, .inl (dA 2, 64, .inr (.inl (fun _ => 0)))), (v23, .inl (dA 1, 64, .inl (fun _ => 0))), (v25, .inl (dA 4, 32, .inr (.inr (.inr (.inr (fun _ => none)))))), (v26, .inl (dA 1, 64, .inl (fun _ => 0))), (v27, .inl (dA 2, 64, .inr (.inl (fun _ => 0)))), (v28, .inl (dA 2, 64, .inr (.inl (fun _ => 0)))), (mv0, .inl (dA 0, 65536, .inl (fun _ => 0))), (h, .inr (0, fs)), (o, .inl (dA 2, 1, .inr (.inl (fun _ => 0))))]) rfl rfl (by decide) (by decide) (fun r2 u9 H locs hp9 hP hD hS => ?_)
  have hP : va_P D vwCl [(v0, .inl (dA 0, 256, .inl (fun _ => 0))), (v1, .inr (1, js)), (v2, .inr (2, hs)), (v4, .inr (3, ns)), (v5, .inr (3, ss)), (v7, .inr (4, rs)), (v8, .inr (5, qs)), (v35, .inr (6, als)), (v19, .inl (dA 4, 32, .inr (.inr (.inr (.inr (fun _ => none)))))), (v20, .inl (dA 1, 64, .inl (fun _ => 0))), (v21, .inl (dA 2, 64, .inr (.inl (fun _ => 0)))), (v22, .inl (dA 2, 64, .inr (.inl (fun _ => 0)))), (v23, .inl (dA 1, 64, .inl (fun _ => 0))), (v25, .inl (dA 4, 32, .inr (.inr (.inr (.inr (fun _ => none)))))), (v26, .inl (dA 1, 64, .inl (fun _ => 0))), (v27, .inl (dA 2, 64, .inr (.inl (fun _ => 0)))), (v28, .inl (dA 2, 64, .inr (.inl (fun _ => 0)))), (mv0, .inl (dA 0, 65536, .inl (fun _ => 0))), (h, .inr (0, fs)), (o, .inl (dA 2, 1, .inr (.inl (fun _ => 0)))), (mm, .inr (9, (ms.set 0 (.int 1))))] H := hP
  have hD : va_D A [(v0, .inl (dA 0, 256, .inl (fun _ => 0))), (v1, .inr (1, js)), (v2, .inr (2, hs)), (v4, .inr (3, ns)), (v5, .inr (3, ss)), (v7, .inr (4, rs)), (v8, .inr (5, qs)), (v35, .inr (6, als)), (v19, .inl (dA 4, 32, .inr (.inr (.inr (.inr (fun _ => none)))))), (v20, .inl (dA 1, 64, .inl (fun _ => 0))), (v21, .inl (dA 2, 64, .inr (.inl (fun _ => 0)))), (v22, .inl (dA 2, 64, .inr (.inl (fun _ => 0)))), (v23, .inl (dA 1, 64, .inl (fun _ => 0))), (v25, .inl (dA 4, 32, .inr (.inr (.inr (.inr (fun _ => none)))))), (v26, .inl (dA 1, 64, .inl (fun _ => 0))), (v27, .inl (dA 2, 64, .inr (.inl (fun _ => 0)))), (v28, .inl (dA 2, 64, .inr (.inl (fun _ => 0)))), (mv0, .inl (dA 0, 65536, .inl (fun _ => 0))), (h, .inr (0, fs)), (o, .inl (dA 2, 1, .inr (.inl (fun _ => 0)))), (mm, .inr (9, (ms.set 0 (.int 1))))] := hD
  have hp9 : 0 = r2 := Eq.symm hp9
  subst hp9
  refine lv_istore hx hb d_SeriesVaultLaw_law_411 hl (by decide) rfl (fun ls hl => ?_)
  have hl : lv_has ls 8 [(6, .int 0), (5, .int 1), (4, .int 0), (3, .ref o), (2, .ref mm), (1, .ref h), (0, .ref b)] := hl
  refine lv_aload_n hx hb d_SeriesVaultLaw_law_413 rfl (lv_at hl 4 rfl) ?_
  have hPc := hP.sub (ws' := [(mm, .inr (9, (ms.set 0 (.int 1))))]) [20] rfl
  have hDc := hD.sub (ws' := [(mm, .inr (9, (ms.set 0 (.int 1))))]) [20] (by decide) rfl
  refine jnI (rnV (As := []) (rest := []) hx hb hml hown hE hK (hN _ _ hS) hPc hDc (c_M_thrown l D dA H.size mm (ms.set 0 (.int 1)) 1 (by simp [hl_ms]) (by simp [hl_ms])) (q0 := 0) rfl rfl w869 w868 w870 w871 w328 rfl rfl ⟨⟨by decide, by decide⟩, rfl⟩ ⟨(Nat.le_of_ble_eq_true rfl), (Nat.le_of_ble_eq_true rfl)⟩ rfl hl.1 rfl (Nat.le_of_ble_eq_true rfl) d_SeriesVaultLaw_law_414 ⟨(Nat.le_of_ble_eq_true rfl), (Nat.le_of_ble_eq_true rfl)⟩) hP hD hS hA [20] [0, 1, 2, 3, 4, 5, 6, 7, 8, 9, 10, 11, 12, 13, 14, 15, 16, 17, 18, 19] (wr := [(v0, .inl (dA 0, 256, .inl (fun _ => 0))), (v1, .inr (1, js)), (v2, .inr (2, hs)), (v4, .inr (3, ns)), (v5, .inr (3, ss)), (v7, .inr (4, rs)), (v8, .inr (5, qs)), (v35, .inr (6, als)), (v19, .inl (dA 4, 32, .inr (.inr (.inr (.inr (fun _ => none)))))), (v20, .inl (dA 1, 64, .inl (fun _ => 0))), (v21, .inl (dA 2, 64, .inr (.inl (fun _ => 0)))), (v22, .inl (dA 2, 64, .inr (.inl (fun _ => 0)))), (v23, .inl (dA 1, 64, .inl (fun _ => 0))), (v25, .inl (dA 4, 32, .inr (.inr (.inr (.inr (fun _ => none)))))), (v26, .inl (dA 1, 64, .inl (fun _ => 0))), (v27, .inl (dA 2, 64, .inr (.inl (fun _ => 0)))), (v28, .inl (dA 2, 64, .inr (.inl (fun _ => 0)))), (mv0, .inl (dA 0, 65536, .inl (fun _ => 0))), (h, .inr (0, fs)), (o, .inl (dA 2, 1, .inr (.inl (fun _ => 0))))]) rfl rfl (by decide) (by decide) (fun r3 u9 H locs hp9 hP hD hS => ?_)
  have hP : va_P D vwCl [(v0, .inl (dA 0, 256, .inl (fun _ => 0))), (v1, .inr (1, js)), (v2, .inr (2, hs)), (v4, .inr (3, ns)), (v5, .inr (3, ss)), (v7, .inr (4, rs)), (v8, .inr (5, qs)), (v35, .inr (6, als)), (v19, .inl (dA 4, 32, .inr (.inr (.inr (.inr (fun _ => none)))))), (v20, .inl (dA 1, 64, .inl (fun _ => 0))), (v21, .inl (dA 2, 64, .inr (.inl (fun _ => 0)))), (v22, .inl (dA 2, 64, .inr (.inl (fun _ => 0)))), (v23, .inl (dA 1, 64, .inl (fun _ => 0))), (v25, .inl (dA 4, 32, .inr (.inr (.inr (.inr (fun _ => none)))))), (v26, .inl (dA 1, 64, .inl (fun _ => 0))), (v27, .inl (dA 2, 64, .inr (.inl (fun _ => 0)))), (v28, .inl (dA 2, 64, .inr (.inl (fun _ => 0)))), (mv0, .inl (dA 0, 65536, .inl (fun _ => 0))), (h, .inr (0, fs)), (o, .inl (dA 2, 1, .inr (.inl (fun _ => 0)))), (mm, .inr (9, (ms.set 0 (.int 1))))] H := hP
  have hD : va_D A [(v0, .inl (dA 0, 256, .inl (fun _ => 0))), (v1, .inr (1, js)), (v2, .inr (2, hs)), (v4, .inr (3, ns)), (v5, .inr (3, ss)), (v7, .inr (4, rs)), (v8, .inr (5, qs)), (v35, .inr (6, als)), (v19, .inl (dA 4, 32, .inr (.inr (.inr (.inr (fun _ => none)))))), (v20, .inl (dA 1, 64, .inl (fun _ => 0))), (v21, .inl (dA 2, 64, .inr (.inl (fun _ => 0)))), (v22, .inl (dA 2, 64, .inr (.inl (fun _ => 0)))), (v23, .inl (dA 1, 64, .inl (fun _ => 0))), (v25, .inl (dA 4, 32, .inr (.inr (.inr (.inr (fun _ => none)))))), (v26, .inl (dA 1, 64, .inl (fun _ => 0))), (v27, .inl (dA 2, 64, .inr (.inl (fun _ => 0)))), (v28, .inl (dA 2, 64, .inr (.inl (fun _ => 0)))), (mv0, .inl (dA 0, 65536, .inl (fun _ => 0))), (h, .inr (0, fs)), (o, .inl (dA 2, 1, .inr (.inl (fun _ => 0)))), (mm, .inr (9, (ms.set 0 (.int 1))))] := hD
  have hp9 : 1 = r3 := Eq.symm hp9
  subst hp9
  refine lv_iload hx hb d_SeriesVaultLaw_law_417 (lv_at hl 1 rfl) ?_
  refine lv_icmp_eq hx hb d_SeriesVaultLaw_law_419 (tgt := 424) rfl (fun _ => ?_) (fun h9 => absurd (by decide) h9)
  refine lv_iload hx hb d_SeriesVaultLaw_law_424 (lv_at hl 1 rfl) ?_
  refine lv_if_ne hx hb d_SeriesVaultLaw_law_426 (tgt := 441) rfl (fun _ => ?_) (fun h9 => absurd h9 (by decide))
  refine lv_goto hx hb d_SeriesVaultLaw_law_441 (tgt := 1770) rfl ?_
  refine lv_iinc (k := 2) (v := 6) hx hb d_SeriesVaultLaw_law_1770 hl rfl (by decide) (by decide) rfl (fun ls hl => ?_)
  have hl : lv_has ls 8 [(4, .int 6), (6, .int 0), (5, .int 1), (3, .ref o), (2, .ref mm), (1, .ref h), (0, .ref b)] := hl
  refine lv_goto hx hb d_SeriesVaultLaw_law_1773 (tgt := 23) rfl ?_
  refine lv_iload hx hb d_SeriesVaultLaw_law_23 (lv_at hl 0 rfl) ?_
  refine lv_aload_n hx hb d_SeriesVaultLaw_law_25 rfl (lv_at hl 6 rfl) ?_
  refine va_slen hx hb hX hbl hbA hS d_SeriesVaultLaw_law_26 ?_
  refine tpi (y := 6) (by decide) ?_
  refine lv_bipush (v := 6) hx hb d_SeriesVaultLaw_law_27 (by decide) ?_
  refine lv_isub hx hb d_SeriesVaultLaw_law_29 (tpi (y := 0) (by decide) ?_)
  refine lv_icmp_gt hx hb d_SeriesVaultLaw_law_30 (tgt := 1776) rfl (fun _ => ?_) (fun h9 => absurd (by decide) h9)
  refine lv_iconst (v := 1) hx hb d_SeriesVaultLaw_law_1776 (by decide) ?_
  exact lw_fin hC0 hS (Nat.le_of_ble_eq_true rfl) (Nat.le_of_ble_eq_true rfl) d_SeriesVaultLaw_law_1777
theorem d_SeriesVaultLaw_law_444 : decode code 444 = .ok (.aload_n 1, 1) := by decide +kernel
theorem d_SeriesVaultLaw_law_445 : decode code 445 = .ok (.aload_n 0, 1) := by decide +kernel
theorem d_SeriesVaultLaw_law_446 : decode code 446 = .ok (.iload 4, 2) := by decide +kernel
theorem d_SeriesVaultLaw_law_448 : decode code 448 = .ok (.iconst 1, 1) := by decide +kernel
theorem d_SeriesVaultLaw_law_449 : decode code 449 = .ok (.iadd, 1) := by decide +kernel
theorem d_SeriesVaultLaw_law_450 : decode code 450 = .ok (.iaload, 1) := by decide +kernel
theorem d_SeriesVaultLaw_law_451 : decode code 451 = .ok (.aload_n 0, 1) := by decide +kernel
theorem d_SeriesVaultLaw_law_452 : decode code 452 = .ok (.iload 4, 2) := by decide +kernel
theorem d_SeriesVaultLaw_law_454 : decode code 454 = .ok (.iconst 2, 1) := by decide +kernel
theorem d_SeriesVaultLaw_law_455 : decode code 455 = .ok (.iadd, 1) := by decide +kernel
theorem d_SeriesVaultLaw_law_456 : decode code 456 = .ok (.iaload, 1) := by decide +kernel
theorem d_SeriesVaultLaw_law_457 : decode code 457 = .ok (.aload_n 3, 1) := by decide +kernel
theorem d_SeriesVaultLaw_law_458 : decode code 458 = .ok (.invokestatic 129, 3) := by decide +kernel
theorem d_SeriesVaultLaw_law_461 : decode code 461 = .ok (.istore 5, 2) := by decide +kernel
theorem d_SeriesVaultLaw_law_463 : decode code 463 = .ok (.aload_n 2, 1) := by decide +kernel
theorem d_SeriesVaultLaw_law_464 : decode code 464 = .ok (.aload_n 0, 1) := by decide +kernel
theorem d_SeriesVaultLaw_law_465 : decode code 465 = .ok (.iload 4, 2) := by decide +kernel
theorem d_SeriesVaultLaw_law_467 : decode code 467 = .ok (.iconst 1, 1) := by decide +kernel
theorem d_SeriesVaultLaw_law_468 : decode code 468 = .ok (.iadd, 1) := by decide +kernel
theorem d_SeriesVaultLaw_law_469 : decode code 469 = .ok (.iaload, 1) := by decide +kernel
theorem d_SeriesVaultLaw_law_470 : decode code 470 = .ok (.aload_n 0, 1) := by decide +kernel
theorem d_SeriesVaultLaw_law_471 : decode code 471 = .ok (.iload 4, 2) := by decide +kernel
theorem d_SeriesVaultLaw_law_473 : decode code 473 = .ok (.iconst 2, 1) := by decide +kernel
theorem d_SeriesVaultLaw_law_474 : decode code 474 = .ok (.iadd, 1) := by decide +kernel
theorem d_SeriesVaultLaw_law_475 : decode code 475 = .ok (.iaload, 1) := by decide +kernel
theorem d_SeriesVaultLaw_law_476 : decode code 476 = .ok (.invokevirtual 132, 3) := by decide +kernel
theorem d_SeriesVaultLaw_law_479 : decode code 479 = .ok (.istore 6, 2) := by decide +kernel
theorem d_SeriesVaultLaw_law_481 : decode code 481 = .ok (.aload_n 2, 1) := by decide +kernel
theorem d_SeriesVaultLaw_law_482 : decode code 482 = .ok (.invokevirtual 110, 3) := by decide +kernel
theorem d_SeriesVaultLaw_law_485 : decode code 485 = .ok (.iload 5, 2) := by decide +kernel
theorem d_SeriesVaultLaw_law_487 : decode code 487 = .ok (.if_icmp .eq 5, 3) := by decide +kernel
theorem d_SeriesVaultLaw_law_492 : decode code 492 = .ok (.iload 5, 2) := by decide +kernel
theorem d_SeriesVaultLaw_law_494 : decode code 494 = .ok (.ifCond .ne 15, 3) := by decide +kernel
theorem d_SeriesVaultLaw_law_509 : decode code 509 = .ok (.goto 1261, 3) := by decide +kernel
theorem w900 : Cond.methodLink "SeriesVaultLaw" 129 ⟨"SeriesVaultLaw", "letter", "(LSeriesVault;II[J)I"⟩ ∈ aW := aw_of (tb_5 (List.mem_of_getElem? (i := 115) rfl)) rfl
theorem w901 : Cond.codeWith ⟨"SeriesVaultLaw", "letter", "(LSeriesVault;II[J)I"⟩ method_8_code 5 (some FieldType.int) [(0, 10, 13, 29), (0, 10, 17, 35)] ∈ aW := aw_of (tb_5 (List.mem_of_getElem? (i := 117) rfl)) rfl
theorem w902 : Cond.static ⟨"SeriesVaultLaw", "letter", "(LSeriesVault;II[J)I"⟩ ∈ aW := aw_of (tb_5 (List.mem_of_getElem? (i := 116) rfl)) rfl
theorem w903 : Cond.methodLink "SeriesVaultLaw" 132 ⟨"SeriesVaultModel", "letter", "(II)I"⟩ ∈ aW := aw_of (tb_10 (List.mem_of_getElem? (i := 7) rfl)) rfl
theorem w904 : Cond.code ⟨"SeriesVaultModel", "letter", "(II)I"⟩ prog_14_method_31_code 3 (some FieldType.int) ∈ aW := aw_of (tb_10 (List.mem_of_getElem? (i := 10) rfl)) rfl
theorem w905 : Cond.instanceMethod ⟨"SeriesVaultModel", "letter", "(II)I"⟩ ∈ aW := aw_of (tb_10 (List.mem_of_getElem? (i := 8) rfl)) rfl
theorem w906 : Cond.selects "SeriesVaultModel" ⟨"SeriesVaultModel", "letter", "(II)I"⟩ ⟨"SeriesVaultModel", "letter", "(II)I"⟩ ∈ aW := aw_of (tb_10 (List.mem_of_getElem? (i := 9) rfl)) rfl
set_option maxHeartbeats 4000000 in
set_option maxRecDepth 100000 in
theorem law_5 {p : Program} {e : Env} {s : State} {m : MethodId} {below : List Frame} {meth : Method} {c : Code} (l : Launch) {b : Nat} {xs : Nat → Int32} {D : va_G} {dA : Nat → ClassId} {e0 : Nat} {A : Nat → Prop} {H : Heap} {locs : List Loc} {ls : Array Slot} (hC : lS p l s m meth c b 6 xs D dA e0 A) (h : Nat) (v0 : Nat) (v1 : Nat) (v2 : Nat) (v4 : Nat) (v5 : Nat) (v7 : Nat) (v8 : Nat) (v19 : Nat) (v20 : Nat) (v21 : Nat) (v22 : Nat) (v23 : Nat) (v25 : Nat) (v26 : Nat) (v27 : Nat) (v28 : Nat) (v35 : Nat) (mm : Nat) (mv0 : Nat) (o : Nat) (fs : List Value) (js : List Value) (hs : List Value) (ns : List Value) (ss : List Value) (rs : List Value) (qs : List Value) (als : List Value) (ms : List Value) (h_fs_powered : fs[5]? = some (.int 1)) (h_fs_now : fs[11]? = some (.ref v4)) (hl_fs : fs.length = 18) (hl_js : js.length = 13) (hl_hs : hs.length = 4) (h_ns_seriesCount : ns[8]? = some (.int 0)) (hl_ns : ns.length = 11) (hl_ss : ss.length = 11) (hl_rs : rs.length = 6) (hl_qs : qs.length = 9) (hl_als : als.length = 3) (h_ms_on : ms[7]? = some (.int 1)) (h_ms_seriesCount : ms[12]? = some (.int 0)) (hl_ms : ms.length = 79) (hP : va_P D vwCl [(h, .inr (0, fs)), (v0, .inl (dA 0, 256, .inl (fun _ => 0))), (v1, .inr (1, js)), (v2, .inr (2, hs)), (v4, .inr (3, ns)), (v5, .inr (3, ss)), (v7, .inr (4, rs)), (v8, .inr (5, qs)), (v35, .inr (6, als)), (v19, .inl (dA 4, 32, .inr (.inr (.inr (.inr (fun _ => none)))))), (v20, .inl (dA 1, 64, .inl (fun _ => 0))), (v21, .inl (dA 2, 64, .inr (.inl (fun _ => 0)))), (v22, .inl (dA 2, 64, .inr (.inl (fun _ => 0)))), (v23, .inl (dA 1, 64, .inl (fun _ => 0))), (v25, .inl (dA 4, 32, .inr (.inr (.inr (.inr (fun _ => none)))))), (v26, .inl (dA 1, 64, .inl (fun _ => 0))), (v27, .inl (dA 2, 64, .inr (.inl (fun _ => 0)))), (v28, .inl (dA 2, 64, .inr (.inl (fun _ => 0)))), (mm, .inr (9, ms)), (mv0, .inl (dA 0, 65536, .inl (fun _ => 0))), (o, .inl (dA 2, 1, .inr (.inl (fun _ => 0))))] H) (hD : va_D A [(h, .inr (0, fs)), (v0, .inl (dA 0, 256, .inl (fun _ => 0))), (v1, .inr (1, js)), (v2, .inr (2, hs)), (v4, .inr (3, ns)), (v5, .inr (3, ss)), (v7, .inr (4, rs)), (v8, .inr (5, qs)), (v35, .inr (6, als)), (v19, .inl (dA 4, 32, .inr (.inr (.inr (.inr (fun _ => none)))))), (v20, .inl (dA 1, 64, .inl (fun _ => 0))), (v21, .inl (dA 2, 64, .inr (.inl (fun _ => 0)))), (v22, .inl (dA 2, 64, .inr (.inl (fun _ => 0)))), (v23, .inl (dA 1, 64, .inl (fun _ => 0))), (v25, .inl (dA 4, 32, .inr (.inr (.inr (.inr (fun _ => none)))))), (v26, .inl (dA 1, 64, .inl (fun _ => 0))), (v27, .inl (dA 2, 64, .inr (.inl (fun _ => 0)))), (v28, .inl (dA 2, 64, .inr (.inl (fun _ => 0)))), (mm, .inr (9, ms)), (mv0, .inl (dA 0, 65536, .inl (fun _ => 0))), (o, .inl (dA 2, 1, .inr (.inl (fun _ => 0))))]) (hS : va_S A s.heap H locs) (hl : lv_has ls 8 [(4, .int 0), (3, .ref o), (2, .ref mm), (1, .ref h), (0, .ref b)]) : W p l e room_1 s m #[Value.ref b] below meth c H locs 92 1177737 (lw_Z below #[Value.ref b] s) (F0 m 444 ls []) := by
  have hC0 := hC
  obtain ⟨hx, hb, hr, hml, hown, hlk, hE, hK, hA, hN, hZ, hT, hX, hbl, hbA, hnew, htr⟩ := hC
  refine lv_aload_n hx hb d_SeriesVaultLaw_law_444 rfl (lv_at hl 3 rfl) ?_
  refine lv_aload_n hx hb d_SeriesVaultLaw_law_445 rfl (lv_at hl 4 rfl) ?_
  refine lv_iload hx hb d_SeriesVaultLaw_law_446 (lv_at hl 0 rfl) ?_
  refine lv_iconst (v := 1) hx hb d_SeriesVaultLaw_law_448 (by decide) ?_
  refine lv_iadd hx hb d_SeriesVaultLaw_law_449 (tpi (y := 1) (by decide) ?_)
  refine va_sld hx hb hX hbl hbA hS (by unfold vp_in; decide) d_SeriesVaultLaw_law_450 ?_
  refine tpi (y := xs 1) rfl ?_
  refine lv_aload_n hx hb d_SeriesVaultLaw_law_451 rfl (lv_at hl 4 rfl) ?_
  refine lv_iload hx hb d_SeriesVaultLaw_law_452 (lv_at hl 0 rfl) ?_
  refine lv_iconst (v := 2) hx hb d_SeriesVaultLaw_law_454 (by decide) ?_
  refine lv_iadd hx hb d_SeriesVaultLaw_law_455 (tpi (y := 2) (by decide) ?_)
  refine va_sld hx hb hX hbl hbA hS (by unfold vp_in; decide) d_SeriesVaultLaw_law_456 ?_
  refine tpi (y := xs 2) rfl ?_
  refine lv_aload_n hx hb d_SeriesVaultLaw_law_457 rfl (lv_at hl 1 rfl) ?_
  have hPc := hP.sub (ws' := [(h, .inr (0, fs)), (v4, .inr (3, ns)), (o, .inl (dA 2, 1, .inr (.inl (fun _ => 0))))]) [0, 4, 20] rfl
  have hDc := hD.sub (ws' := [(h, .inr (0, fs)), (v4, .inr (3, ns)), (o, .inl (dA 2, 1, .inr (.inl (fun _ => 0))))]) [0, 4, 20] (by decide) rfl
  refine jnI (rnW (As := [.ref h, .int (xs 1), .int (xs 2), .ref o]) (rest := []) hx hb hml hown hE hK (hN _ _ hS) hPc hDc (c_K_letter_x l htr D dA H.size h fs v4 ns 0 (xs 1) (xs 2) o (fun _ => 0) (i32_pn _) h_fs_powered h_fs_now hl_fs h_ns_seriesCount hl_ns) w901 w900 w902 w861 rfl rfl ⟨⟨by decide, by decide⟩, rfl⟩ ⟨(Nat.le_of_ble_eq_true rfl), (Nat.le_of_ble_eq_true rfl)⟩ rfl hl.1 rfl (Nat.le_of_ble_eq_true rfl) d_SeriesVaultLaw_law_458 ⟨(Nat.le_of_ble_eq_true rfl), (Nat.le_of_ble_eq_true rfl)⟩) hP hD hS hA [0, 4, 20] [1, 2, 3, 5, 6, 7, 8, 9, 10, 11, 12, 13, 14, 15, 16, 17, 18, 19] (wr := [(v0, .inl (dA 0, 256, .inl (fun _ => 0))), (v1, .inr (1, js)), (v2, .inr (2, hs)), (v5, .inr (3, ss)), (v7, .inr (4, rs)), (v8, .inr (5, qs)), (v35, .inr (6, als)), (v19, .inl (dA 4, 32, .inr (.inr (.inr (.inr (fun _ => none)))))), (v20, .inl (dA 1, 64, .inl (fun _ => 0))), (v21, .inl (dA 2, 64, .inr (.inl (fun _ => 0)))), (v22, .inl (dA 2, 64, .inr (.inl (fun _ => 0)))), (v23, .inl (dA 1, 64, .inl (fun _ => 0))), (v25, .inl (dA 4, 32, .inr (.inr (.inr (.inr (fun _ => none)))))), (v26, .inl (dA 1, 64, .inl (fun _ => 0))), (v27, .inl (dA 2, 64, .inr (.inl (fun _ => 0)))), (v28, .inl (dA 2, 64, .inr (.inl (fun _ => 0)))), (mm, .inr (9, ms)), (mv0, .inl (dA 0, 65536, .inl (fun _ => 0)))]) rfl rfl (by decide) (by decide) (fun r1 u9 H locs hp9 hP hD hS => ?_)
  have hP : va_P D vwCl [(v0, .inl (dA 0, 256, .inl (fun _ => 0))), (v1, .inr (1, js)), (v2, .inr (2, hs)), (v5, .inr (3, ss)), (v7, .inr (4, rs)), (v8, .inr (5, qs)), (v35, .inr (6, als)), (v19, .inl (dA 4, 32, .inr (.inr (.inr (.inr (fun _ => none)))))), (v20, .inl (dA 1, 64, .inl (fun _ => 0))), (v21, .inl (dA 2, 64, .inr (.inl (fun _ => 0)))), (v22, .inl (dA 2, 64, .inr (.inl (fun _ => 0)))), (v23, .inl (dA 1, 64, .inl (fun _ => 0))), (v25, .inl (dA 4, 32, .inr (.inr (.inr (.inr (fun _ => none)))))), (v26, .inl (dA 1, 64, .inl (fun _ => 0))), (v27, .inl (dA 2, 64, .inr (.inl (fun _ => 0)))), (v28, .inl (dA 2, 64, .inr (.inl (fun _ => 0)))), (mm, .inr (9, ms)), (mv0, .inl (dA 0, 65536, .inl (fun _ => 0))), (h, .inr (0, fs)), (v4, .inr (3, ns)), (o, .inl (dA 2, 1, .inr (.inl (fun _ => 0))))] H := hP
  have hD : va_D A [(v0, .inl (dA 0, 256, .inl (fun _ => 0))), (v1, .inr (1, js)), (v2, .inr (2, hs)), (v5, .inr (3, ss)), (v7, .inr (4, rs)), (v8, .inr (5, qs)), (v35, .inr (6, als)), (v19, .inl (dA 4, 32, .inr (.inr (.inr (.inr (fun _ => none)))))), (v20, .inl (dA 1, 64, .inl (fun _ => 0))), (v21, .inl (dA 2, 64, .inr (.inl (fun _ => 0)))), (v22, .inl (dA 2, 64, .inr (.inl (fun _ => 0)))), (v23, .inl (dA 1, 64, .inl (fun _ => 0))), (v25, .inl (dA 4, 32, .inr (.inr (.inr (.inr (fun _ => none)))))), (v26, .inl (dA 1, 64, .inl (fun _ => 0))), (v27, .inl (dA 2, 64, .inr (.inl (fun _ => 0)))), (v28, .inl (dA 2, 64, .inr (.inl (fun _ => 0)))), (mm, .inr (9, ms)), (mv0, .inl (dA 0, 65536, .inl (fun _ => 0))), (h, .inr (0, fs)), (v4, .inr (3, ns)), (o, .inl (dA 2, 1, .inr (.inl (fun _ => 0))))] := hD
  have hp9 : 2 = r1 := Eq.symm hp9
  subst hp9
  refine lv_istore hx hb d_SeriesVaultLaw_law_461 hl (by decide) rfl (fun ls hl => ?_)
  have hl : lv_has ls 8 [(5, .int 2), (4, .int 0), (3, .ref o), (2, .ref mm), (1, .ref h), (0, .ref b)] := hl
  refine lv_aload_n hx hb d_SeriesVaultLaw_law_463 rfl (lv_at hl 3 rfl) ?_
  refine lv_aload_n hx hb d_SeriesVaultLaw_law_464 rfl (lv_at hl 5 rfl) ?_
  refine lv_iload hx hb d_SeriesVaultLaw_law_465 (lv_at hl 1 rfl) ?_
  refine lv_iconst (v := 1) hx hb d_SeriesVaultLaw_law_467 (by decide) ?_
  refine lv_iadd hx hb d_SeriesVaultLaw_law_468 (tpi (y := 1) (by decide) ?_)
  refine va_sld hx hb hX hbl hbA hS (by unfold vp_in; decide) d_SeriesVaultLaw_law_469 ?_
  refine tpi (y := xs 1) rfl ?_
  refine lv_aload_n hx hb d_SeriesVaultLaw_law_470 rfl (lv_at hl 5 rfl) ?_
  refine lv_iload hx hb d_SeriesVaultLaw_law_471 (lv_at hl 1 rfl) ?_
  refine lv_iconst (v := 2) hx hb d_SeriesVaultLaw_law_473 (by decide) ?_
  refine lv_iadd hx hb d_SeriesVaultLaw_law_474 (tpi (y := 2) (by decide) ?_)
  refine va_sld hx hb hX hbl hbA hS (by unfold vp_in; decide) d_SeriesVaultLaw_law_475 ?_
  refine tpi (y := xs 2) rfl ?_
  have hPc := hP.sub (ws' := [(mm, .inr (9, ms))]) [16] rfl
  have hDc := hD.sub (ws' := [(mm, .inr (9, ms))]) [16] (by decide) rfl
  refine jnI (rnV (As := [.int (xs 1), .int (xs 2)]) (rest := []) hx hb hml hown hE hK (hN _ _ hS) hPc hDc (c_M_letter_x l D dA H.size mm ms (xs 1) (xs 2) h_ms_on h_ms_seriesCount hl_ms) (q0 := 0) rfl rfl w904 w903 w905 w906 w328 rfl rfl ⟨⟨by decide, by decide⟩, rfl⟩ ⟨(Nat.le_of_ble_eq_true rfl), (Nat.le_of_ble_eq_true rfl)⟩ rfl hl.1 rfl (Nat.le_of_ble_eq_true rfl) d_SeriesVaultLaw_law_476 ⟨(Nat.le_of_ble_eq_true rfl), (Nat.le_of_ble_eq_true rfl)⟩) hP hD hS hA [16] [0, 1, 2, 3, 4, 5, 6, 7, 8, 9, 10, 11, 12, 13, 14, 15, 17, 18, 19, 20] (wr := [(v0, .inl (dA 0, 256, .inl (fun _ => 0))), (v1, .inr (1, js)), (v2, .inr (2, hs)), (v5, .inr (3, ss)), (v7, .inr (4, rs)), (v8, .inr (5, qs)), (v35, .inr (6, als)), (v19, .inl (dA 4, 32, .inr (.inr (.inr (.inr (fun _ => none)))))), (v20, .inl (dA 1, 64, .inl (fun _ => 0))), (v21, .inl (dA 2, 64, .inr (.inl (fun _ => 0)))), (v22, .inl (dA 2, 64, .inr (.inl (fun _ => 0)))), (v23, .inl (dA 1, 64, .inl (fun _ => 0))), (v25, .inl (dA 4, 32, .inr (.inr (.inr (.inr (fun _ => none)))))), (v26, .inl (dA 1, 64, .inl (fun _ => 0))), (v27, .inl (dA 2, 64, .inr (.inl (fun _ => 0)))), (v28, .inl (dA 2, 64, .inr (.inl (fun _ => 0)))), (mv0, .inl (dA 0, 65536, .inl (fun _ => 0))), (h, .inr (0, fs)), (v4, .inr (3, ns)), (o, .inl (dA 2, 1, .inr (.inl (fun _ => 0))))]) rfl rfl (by decide) (by decide) (fun r2 u9 H locs hp9 hP hD hS => ?_)
  have hP : va_P D vwCl [(v0, .inl (dA 0, 256, .inl (fun _ => 0))), (v1, .inr (1, js)), (v2, .inr (2, hs)), (v5, .inr (3, ss)), (v7, .inr (4, rs)), (v8, .inr (5, qs)), (v35, .inr (6, als)), (v19, .inl (dA 4, 32, .inr (.inr (.inr (.inr (fun _ => none)))))), (v20, .inl (dA 1, 64, .inl (fun _ => 0))), (v21, .inl (dA 2, 64, .inr (.inl (fun _ => 0)))), (v22, .inl (dA 2, 64, .inr (.inl (fun _ => 0)))), (v23, .inl (dA 1, 64, .inl (fun _ => 0))), (v25, .inl (dA 4, 32, .inr (.inr (.inr (.inr (fun _ => none)))))), (v26, .inl (dA 1, 64, .inl (fun _ => 0))), (v27, .inl (dA 2, 64, .inr (.inl (fun _ => 0)))), (v28, .inl (dA 2, 64, .inr (.inl (fun _ => 0)))), (mv0, .inl (dA 0, 65536, .inl (fun _ => 0))), (h, .inr (0, fs)), (v4, .inr (3, ns)), (o, .inl (dA 2, 1, .inr (.inl (fun _ => 0)))), (mm, .inr (9, (ms.set 0 (.int 2))))] H := hP
  have hD : va_D A [(v0, .inl (dA 0, 256, .inl (fun _ => 0))), (v1, .inr (1, js)), (v2, .inr (2, hs)), (v5, .inr (3, ss)), (v7, .inr (4, rs)), (v8, .inr (5, qs)), (v35, .inr (6, als)), (v19, .inl (dA 4, 32, .inr (.inr (.inr (.inr (fun _ => none)))))), (v20, .inl (dA 1, 64, .inl (fun _ => 0))), (v21, .inl (dA 2, 64, .inr (.inl (fun _ => 0)))), (v22, .inl (dA 2, 64, .inr (.inl (fun _ => 0)))), (v23, .inl (dA 1, 64, .inl (fun _ => 0))), (v25, .inl (dA 4, 32, .inr (.inr (.inr (.inr (fun _ => none)))))), (v26, .inl (dA 1, 64, .inl (fun _ => 0))), (v27, .inl (dA 2, 64, .inr (.inl (fun _ => 0)))), (v28, .inl (dA 2, 64, .inr (.inl (fun _ => 0)))), (mv0, .inl (dA 0, 65536, .inl (fun _ => 0))), (h, .inr (0, fs)), (v4, .inr (3, ns)), (o, .inl (dA 2, 1, .inr (.inl (fun _ => 0)))), (mm, .inr (9, (ms.set 0 (.int 2))))] := hD
  have hp9 : 0 = r2 := Eq.symm hp9
  subst hp9
  refine lv_istore hx hb d_SeriesVaultLaw_law_479 hl (by decide) rfl (fun ls hl => ?_)
  have hl : lv_has ls 8 [(6, .int 0), (5, .int 2), (4, .int 0), (3, .ref o), (2, .ref mm), (1, .ref h), (0, .ref b)] := hl
  refine lv_aload_n hx hb d_SeriesVaultLaw_law_481 rfl (lv_at hl 4 rfl) ?_
  have hPc := hP.sub (ws' := [(mm, .inr (9, (ms.set 0 (.int 2))))]) [20] rfl
  have hDc := hD.sub (ws' := [(mm, .inr (9, (ms.set 0 (.int 2))))]) [20] (by decide) rfl
  refine jnI (rnV (As := []) (rest := []) hx hb hml hown hE hK (hN _ _ hS) hPc hDc (c_M_thrown l D dA H.size mm (ms.set 0 (.int 2)) 2 (by simp [hl_ms]) (by simp [hl_ms])) (q0 := 0) rfl rfl w869 w868 w870 w871 w328 rfl rfl ⟨⟨by decide, by decide⟩, rfl⟩ ⟨(Nat.le_of_ble_eq_true rfl), (Nat.le_of_ble_eq_true rfl)⟩ rfl hl.1 rfl (Nat.le_of_ble_eq_true rfl) d_SeriesVaultLaw_law_482 ⟨(Nat.le_of_ble_eq_true rfl), (Nat.le_of_ble_eq_true rfl)⟩) hP hD hS hA [20] [0, 1, 2, 3, 4, 5, 6, 7, 8, 9, 10, 11, 12, 13, 14, 15, 16, 17, 18, 19] (wr := [(v0, .inl (dA 0, 256, .inl (fun _ => 0))), (v1, .inr (1, js)), (v2, .inr (2, hs)), (v5, .inr (3, ss)), (v7, .inr (4, rs)), (v8, .inr (5, qs)), (v35, .inr (6, als)), (v19, .inl (dA 4, 32, .inr (.inr (.inr (.inr (fun _ => none)))))), (v20, .inl (dA 1, 64, .inl (fun _ => 0))), (v21, .inl (dA 2, 64, .inr (.inl (fun _ => 0)))), (v22, .inl (dA 2, 64, .inr (.inl (fun _ => 0)))), (v23, .inl (dA 1, 64, .inl (fun _ => 0))), (v25, .inl (dA 4, 32, .inr (.inr (.inr (.inr (fun _ => none)))))), (v26, .inl (dA 1, 64, .inl (fun _ => 0))), (v27, .inl (dA 2, 64, .inr (.inl (fun _ => 0)))), (v28, .inl (dA 2, 64, .inr (.inl (fun _ => 0)))), (mv0, .inl (dA 0, 65536, .inl (fun _ => 0))), (h, .inr (0, fs)), (v4, .inr (3, ns)), (o, .inl (dA 2, 1, .inr (.inl (fun _ => 0))))]) rfl rfl (by decide) (by decide) (fun r3 u9 H locs hp9 hP hD hS => ?_)
  have hP : va_P D vwCl [(v0, .inl (dA 0, 256, .inl (fun _ => 0))), (v1, .inr (1, js)), (v2, .inr (2, hs)), (v5, .inr (3, ss)), (v7, .inr (4, rs)), (v8, .inr (5, qs)), (v35, .inr (6, als)), (v19, .inl (dA 4, 32, .inr (.inr (.inr (.inr (fun _ => none)))))), (v20, .inl (dA 1, 64, .inl (fun _ => 0))), (v21, .inl (dA 2, 64, .inr (.inl (fun _ => 0)))), (v22, .inl (dA 2, 64, .inr (.inl (fun _ => 0)))), (v23, .inl (dA 1, 64, .inl (fun _ => 0))), (v25, .inl (dA 4, 32, .inr (.inr (.inr (.inr (fun _ => none)))))), (v26, .inl (dA 1, 64, .inl (fun _ => 0))), (v27, .inl (dA 2, 64, .inr (.inl (fun _ => 0)))), (v28, .inl (dA 2, 64, .inr (.inl (fun _ => 0)))), (mv0, .inl (dA 0, 65536, .inl (fun _ => 0))), (h, .inr (0, fs)), (v4, .inr (3, ns)), (o, .inl (dA 2, 1, .inr (.inl (fun _ => 0)))), (mm, .inr (9, (ms.set 0 (.int 2))))] H := hP
  have hD : va_D A [(v0, .inl (dA 0, 256, .inl (fun _ => 0))), (v1, .inr (1, js)), (v2, .inr (2, hs)), (v5, .inr (3, ss)), (v7, .inr (4, rs)), (v8, .inr (5, qs)), (v35, .inr (6, als)), (v19, .inl (dA 4, 32, .inr (.inr (.inr (.inr (fun _ => none)))))), (v20, .inl (dA 1, 64, .inl (fun _ => 0))), (v21, .inl (dA 2, 64, .inr (.inl (fun _ => 0)))), (v22, .inl (dA 2, 64, .inr (.inl (fun _ => 0)))), (v23, .inl (dA 1, 64, .inl (fun _ => 0))), (v25, .inl (dA 4, 32, .inr (.inr (.inr (.inr (fun _ => none)))))), (v26, .inl (dA 1, 64, .inl (fun _ => 0))), (v27, .inl (dA 2, 64, .inr (.inl (fun _ => 0)))), (v28, .inl (dA 2, 64, .inr (.inl (fun _ => 0)))), (mv0, .inl (dA 0, 65536, .inl (fun _ => 0))), (h, .inr (0, fs)), (v4, .inr (3, ns)), (o, .inl (dA 2, 1, .inr (.inl (fun _ => 0)))), (mm, .inr (9, (ms.set 0 (.int 2))))] := hD
  have hp9 : 2 = r3 := Eq.symm hp9
  subst hp9
  refine lv_iload hx hb d_SeriesVaultLaw_law_485 (lv_at hl 1 rfl) ?_
  refine lv_icmp_eq hx hb d_SeriesVaultLaw_law_487 (tgt := 492) rfl (fun _ => ?_) (fun h9 => absurd (by decide) h9)
  refine lv_iload hx hb d_SeriesVaultLaw_law_492 (lv_at hl 1 rfl) ?_
  refine lv_if_ne hx hb d_SeriesVaultLaw_law_494 (tgt := 509) rfl (fun _ => ?_) (fun h9 => absurd h9 (by decide))
  refine lv_goto hx hb d_SeriesVaultLaw_law_509 (tgt := 1770) rfl ?_
  refine lv_iinc (k := 2) (v := 6) hx hb d_SeriesVaultLaw_law_1770 hl rfl (by decide) (by decide) rfl (fun ls hl => ?_)
  have hl : lv_has ls 8 [(4, .int 6), (6, .int 0), (5, .int 2), (3, .ref o), (2, .ref mm), (1, .ref h), (0, .ref b)] := hl
  refine lv_goto hx hb d_SeriesVaultLaw_law_1773 (tgt := 23) rfl ?_
  refine lv_iload hx hb d_SeriesVaultLaw_law_23 (lv_at hl 0 rfl) ?_
  refine lv_aload_n hx hb d_SeriesVaultLaw_law_25 rfl (lv_at hl 6 rfl) ?_
  refine va_slen hx hb hX hbl hbA hS d_SeriesVaultLaw_law_26 ?_
  refine tpi (y := 6) (by decide) ?_
  refine lv_bipush (v := 6) hx hb d_SeriesVaultLaw_law_27 (by decide) ?_
  refine lv_isub hx hb d_SeriesVaultLaw_law_29 (tpi (y := 0) (by decide) ?_)
  refine lv_icmp_gt hx hb d_SeriesVaultLaw_law_30 (tgt := 1776) rfl (fun _ => ?_) (fun h9 => absurd (by decide) h9)
  refine lv_iconst (v := 1) hx hb d_SeriesVaultLaw_law_1776 (by decide) ?_
  exact lw_fin hC0 hS (Nat.le_of_ble_eq_true rfl) (Nat.le_of_ble_eq_true rfl) d_SeriesVaultLaw_law_1777
theorem d_SeriesVaultLaw_law_656 : decode code 656 = .ok (.aload_n 1, 1) := by decide +kernel
theorem d_SeriesVaultLaw_law_657 : decode code 657 = .ok (.aload_n 0, 1) := by decide +kernel
theorem d_SeriesVaultLaw_law_658 : decode code 658 = .ok (.iload 4, 2) := by decide +kernel
theorem d_SeriesVaultLaw_law_660 : decode code 660 = .ok (.iconst 1, 1) := by decide +kernel
theorem d_SeriesVaultLaw_law_661 : decode code 661 = .ok (.iadd, 1) := by decide +kernel
theorem d_SeriesVaultLaw_law_662 : decode code 662 = .ok (.iaload, 1) := by decide +kernel
theorem d_SeriesVaultLaw_law_663 : decode code 663 = .ok (.aload_n 3, 1) := by decide +kernel
theorem d_SeriesVaultLaw_law_664 : decode code 664 = .ok (.invokestatic 139, 3) := by decide +kernel
theorem d_SeriesVaultLaw_law_667 : decode code 667 = .ok (.istore 5, 2) := by decide +kernel
theorem d_SeriesVaultLaw_law_669 : decode code 669 = .ok (.aload_n 2, 1) := by decide +kernel
theorem d_SeriesVaultLaw_law_670 : decode code 670 = .ok (.aload_n 0, 1) := by decide +kernel
theorem d_SeriesVaultLaw_law_671 : decode code 671 = .ok (.iload 4, 2) := by decide +kernel
theorem d_SeriesVaultLaw_law_673 : decode code 673 = .ok (.iconst 1, 1) := by decide +kernel
theorem d_SeriesVaultLaw_law_674 : decode code 674 = .ok (.iadd, 1) := by decide +kernel
theorem d_SeriesVaultLaw_law_675 : decode code 675 = .ok (.iaload, 1) := by decide +kernel
theorem d_SeriesVaultLaw_law_676 : decode code 676 = .ok (.invokevirtual 141, 3) := by decide +kernel
theorem d_SeriesVaultLaw_law_679 : decode code 679 = .ok (.istore 6, 2) := by decide +kernel
theorem d_SeriesVaultLaw_law_681 : decode code 681 = .ok (.aload_n 2, 1) := by decide +kernel
theorem d_SeriesVaultLaw_law_682 : decode code 682 = .ok (.invokevirtual 110, 3) := by decide +kernel
theorem d_SeriesVaultLaw_law_685 : decode code 685 = .ok (.iload 5, 2) := by decide +kernel
theorem d_SeriesVaultLaw_law_687 : decode code 687 = .ok (.if_icmp .eq 5, 3) := by decide +kernel
theorem d_SeriesVaultLaw_law_692 : decode code 692 = .ok (.iload 5, 2) := by decide +kernel
theorem d_SeriesVaultLaw_law_694 : decode code 694 = .ok (.ifCond .ne 15, 3) := by decide +kernel
theorem d_SeriesVaultLaw_law_709 : decode code 709 = .ok (.goto 1061, 3) := by decide +kernel
theorem w907 : Cond.methodLink "SeriesVaultLaw" 139 ⟨"SeriesVaultLaw", "bulk", "(LSeriesVault;I[J)I"⟩ ∈ aW := aw_of (tb_5 (List.mem_of_getElem? (i := 163) rfl)) rfl
theorem w908 : Cond.codeWith ⟨"SeriesVaultLaw", "bulk", "(LSeriesVault;I[J)I"⟩ method_10_code 4 (some FieldType.int) [(0, 9, 12, 29), (0, 9, 15, 35)] ∈ aW := aw_of (tb_5 (List.mem_of_getElem? (i := 165) rfl)) rfl
theorem w909 : Cond.static ⟨"SeriesVaultLaw", "bulk", "(LSeriesVault;I[J)I"⟩ ∈ aW := aw_of (tb_5 (List.mem_of_getElem? (i := 164) rfl)) rfl
theorem w910 : Cond.methodLink "SeriesVaultLaw" 141 ⟨"SeriesVaultModel", "bulk", "(I)I"⟩ ∈ aW := aw_of (tb_10 (List.mem_of_getElem? (i := 40) rfl)) rfl
theorem w911 : Cond.code ⟨"SeriesVaultModel", "bulk", "(I)I"⟩ prog_14_method_36_code 7 (some FieldType.int) ∈ aW := aw_of (tb_10 (List.mem_of_getElem? (i := 43) rfl)) rfl
theorem w912 : Cond.instanceMethod ⟨"SeriesVaultModel", "bulk", "(I)I"⟩ ∈ aW := aw_of (tb_10 (List.mem_of_getElem? (i := 41) rfl)) rfl
theorem w913 : Cond.selects "SeriesVaultModel" ⟨"SeriesVaultModel", "bulk", "(I)I"⟩ ⟨"SeriesVaultModel", "bulk", "(I)I"⟩ ∈ aW := aw_of (tb_10 (List.mem_of_getElem? (i := 42) rfl)) rfl
set_option maxHeartbeats 4000000 in
set_option maxRecDepth 100000 in
theorem law_7 {p : Program} {e : Env} {s : State} {m : MethodId} {below : List Frame} {meth : Method} {c : Code} (l : Launch) {b : Nat} {xs : Nat → Int32} {D : va_G} {dA : Nat → ClassId} {e0 : Nat} {A : Nat → Prop} {H : Heap} {locs : List Loc} {ls : Array Slot} (hC : lS p l s m meth c b 6 xs D dA e0 A) (h : Nat) (v0 : Nat) (v1 : Nat) (v2 : Nat) (v4 : Nat) (v5 : Nat) (v7 : Nat) (v8 : Nat) (v19 : Nat) (v20 : Nat) (v21 : Nat) (v22 : Nat) (v23 : Nat) (v25 : Nat) (v26 : Nat) (v27 : Nat) (v28 : Nat) (v35 : Nat) (mm : Nat) (mv0 : Nat) (o : Nat) (fs : List Value) (js : List Value) (hs : List Value) (ns : List Value) (ss : List Value) (rs : List Value) (qs : List Value) (als : List Value) (ms : List Value) (h_fs_powered : fs[5]? = some (.int 1)) (h_fs_now : fs[11]? = some (.ref v4)) (hl_fs : fs.length = 18) (hl_js : js.length = 13) (hl_hs : hs.length = 4) (h_ns_seriesCount : ns[8]? = some (.int 0)) (hl_ns : ns.length = 11) (hl_ss : ss.length = 11) (hl_rs : rs.length = 6) (hl_qs : qs.length = 9) (hl_als : als.length = 3) (h_ms_on : ms[7]? = some (.int 1)) (h_ms_seriesCount : ms[12]? = some (.int 0)) (hl_ms : ms.length = 79) (hP : va_P D vwCl [(h, .inr (0, fs)), (v0, .inl (dA 0, 256, .inl (fun _ => 0))), (v1, .inr (1, js)), (v2, .inr (2, hs)), (v4, .inr (3, ns)), (v5, .inr (3, ss)), (v7, .inr (4, rs)), (v8, .inr (5, qs)), (v35, .inr (6, als)), (v19, .inl (dA 4, 32, .inr (.inr (.inr (.inr (fun _ => none)))))), (v20, .inl (dA 1, 64, .inl (fun _ => 0))), (v21, .inl (dA 2, 64, .inr (.inl (fun _ => 0)))), (v22, .inl (dA 2, 64, .inr (.inl (fun _ => 0)))), (v23, .inl (dA 1, 64, .inl (fun _ => 0))), (v25, .inl (dA 4, 32, .inr (.inr (.inr (.inr (fun _ => none)))))), (v26, .inl (dA 1, 64, .inl (fun _ => 0))), (v27, .inl (dA 2, 64, .inr (.inl (fun _ => 0)))), (v28, .inl (dA 2, 64, .inr (.inl (fun _ => 0)))), (mm, .inr (9, ms)), (mv0, .inl (dA 0, 65536, .inl (fun _ => 0))), (o, .inl (dA 2, 1, .inr (.inl (fun _ => 0))))] H) (hD : va_D A [(h, .inr (0, fs)), (v0, .inl (dA 0, 256, .inl (fun _ => 0))), (v1, .inr (1, js)), (v2, .inr (2, hs)), (v4, .inr (3, ns)), (v5, .inr (3, ss)), (v7, .inr (4, rs)), (v8, .inr (5, qs)), (v35, .inr (6, als)), (v19, .inl (dA 4, 32, .inr (.inr (.inr (.inr (fun _ => none)))))), (v20, .inl (dA 1, 64, .inl (fun _ => 0))), (v21, .inl (dA 2, 64, .inr (.inl (fun _ => 0)))), (v22, .inl (dA 2, 64, .inr (.inl (fun _ => 0)))), (v23, .inl (dA 1, 64, .inl (fun _ => 0))), (v25, .inl (dA 4, 32, .inr (.inr (.inr (.inr (fun _ => none)))))), (v26, .inl (dA 1, 64, .inl (fun _ => 0))), (v27, .inl (dA 2, 64, .inr (.inl (fun _ => 0)))), (v28, .inl (dA 2, 64, .inr (.inl (fun _ => 0)))), (mm, .inr (9, ms)), (mv0, .inl (dA 0, 65536, .inl (fun _ => 0))), (o, .inl (dA 2, 1, .inr (.inl (fun _ => 0))))]) (hS : va_S A s.heap H locs) (hl : lv_has ls 8 [(4, .int 0), (3, .ref o), (2, .ref mm), (1, .ref h), (0, .ref b)]) : W p l e room_1 s m #[Value.ref b] below meth c H locs 92 1177737 (lw_Z below #[Value.ref b] s) (F0 m 656 ls []) := by
  have hC0 := hC
  obtain ⟨hx, hb, hr, hml, hown, hlk, hE, hK, hA, hN, hZ, hT, hX, hbl, hbA, hnew, htr⟩ := hC
  refine lv_aload_n hx hb d_SeriesVaultLaw_law_656 rfl (lv_at hl 3 rfl) ?_
  refine lv_aload_n hx hb d_SeriesVaultLaw_law_657 rfl (lv_at hl 4 rfl) ?_
  refine lv_iload hx hb d_SeriesVaultLaw_law_658 (lv_at hl 0 rfl) ?_
  refine lv_iconst (v := 1) hx hb d_SeriesVaultLaw_law_660 (by decide) ?_
  refine lv_iadd hx hb d_SeriesVaultLaw_law_661 (tpi (y := 1) (by decide) ?_)
  refine va_sld hx hb hX hbl hbA hS (by unfold vp_in; decide) d_SeriesVaultLaw_law_662 ?_
  refine tpi (y := xs 1) rfl ?_
  refine lv_aload_n hx hb d_SeriesVaultLaw_law_663 rfl (lv_at hl 1 rfl) ?_
  have hPc := hP.sub (ws' := [(h, .inr (0, fs)), (v4, .inr (3, ns)), (o, .inl (dA 2, 1, .inr (.inl (fun _ => 0))))]) [0, 4, 20] rfl
  have hDc := hD.sub (ws' := [(h, .inr (0, fs)), (v4, .inr (3, ns)), (o, .inl (dA 2, 1, .inr (.inl (fun _ => 0))))]) [0, 4, 20] (by decide) rfl
  refine jnI (rnW (As := [.ref h, .int (xs 1), .ref o]) (rest := []) hx hb hml hown hE hK (hN _ _ hS) hPc hDc (c_K_bulk_x l htr D dA H.size h fs v4 ns 0 (xs 1) o (fun _ => 0) (i32_pn _) h_fs_powered h_fs_now hl_fs h_ns_seriesCount hl_ns) w908 w907 w909 w861 rfl rfl ⟨⟨by decide, by decide⟩, rfl⟩ ⟨(Nat.le_of_ble_eq_true rfl), (Nat.le_of_ble_eq_true rfl)⟩ rfl hl.1 rfl (Nat.le_of_ble_eq_true rfl) d_SeriesVaultLaw_law_664 ⟨(Nat.le_of_ble_eq_true rfl), (Nat.le_of_ble_eq_true rfl)⟩) hP hD hS hA [0, 4, 20] [1, 2, 3, 5, 6, 7, 8, 9, 10, 11, 12, 13, 14, 15, 16, 17, 18, 19] (wr := [(v0, .inl (dA 0, 256, .inl (fun _ => 0))), (v1, .inr (1, js)), (v2, .inr (2, hs)), (v5, .inr (3, ss)), (v7, .inr (4, rs)), (v8, .inr (5, qs)), (v35, .inr (6, als)), (v19, .inl (dA 4, 32, .inr (.inr (.inr (.inr (fun _ => none)))))), (v20, .inl (dA 1, 64, .inl (fun _ => 0))), (v21, .inl (dA 2, 64, .inr (.inl (fun _ => 0)))), (v22, .inl (dA 2, 64, .inr (.inl (fun _ => 0)))), (v23, .inl (dA 1, 64, .inl (fun _ => 0))), (v25, .inl (dA 4, 32, .inr (.inr (.inr (.inr (fun _ => none)))))), (v26, .inl (dA 1, 64, .inl (fun _ => 0))), (v27, .inl (dA 2, 64, .inr (.inl (fun _ => 0)))), (v28, .inl (dA 2, 64, .inr (.inl (fun _ => 0)))), (mm, .inr (9, ms)), (mv0, .inl (dA 0, 65536, .inl (fun _ => 0)))]) rfl rfl (by decide) (by decide) (fun r1 u9 H locs hp9 hP hD hS => ?_)
  have hP : va_P D vwCl [(v0, .inl (dA 0, 256, .inl (fun _ => 0))), (v1, .inr (1, js)), (v2, .inr (2, hs)), (v5, .inr (3, ss)), (v7, .inr (4, rs)), (v8, .inr (5, qs)), (v35, .inr (6, als)), (v19, .inl (dA 4, 32, .inr (.inr (.inr (.inr (fun _ => none)))))), (v20, .inl (dA 1, 64, .inl (fun _ => 0))), (v21, .inl (dA 2, 64, .inr (.inl (fun _ => 0)))), (v22, .inl (dA 2, 64, .inr (.inl (fun _ => 0)))), (v23, .inl (dA 1, 64, .inl (fun _ => 0))), (v25, .inl (dA 4, 32, .inr (.inr (.inr (.inr (fun _ => none)))))), (v26, .inl (dA 1, 64, .inl (fun _ => 0))), (v27, .inl (dA 2, 64, .inr (.inl (fun _ => 0)))), (v28, .inl (dA 2, 64, .inr (.inl (fun _ => 0)))), (mm, .inr (9, ms)), (mv0, .inl (dA 0, 65536, .inl (fun _ => 0))), (h, .inr (0, fs)), (v4, .inr (3, ns)), (o, .inl (dA 2, 1, .inr (.inl (fun _ => 0))))] H := hP
  have hD : va_D A [(v0, .inl (dA 0, 256, .inl (fun _ => 0))), (v1, .inr (1, js)), (v2, .inr (2, hs)), (v5, .inr (3, ss)), (v7, .inr (4, rs)), (v8, .inr (5, qs)), (v35, .inr (6, als)), (v19, .inl (dA 4, 32, .inr (.inr (.inr (.inr (fun _ => none)))))), (v20, .inl (dA 1, 64, .inl (fun _ => 0))), (v21, .inl (dA 2, 64, .inr (.inl (fun _ => 0)))), (v22, .inl (dA 2, 64, .inr (.inl (fun _ => 0)))), (v23, .inl (dA 1, 64, .inl (fun _ => 0))), (v25, .inl (dA 4, 32, .inr (.inr (.inr (.inr (fun _ => none)))))), (v26, .inl (dA 1, 64, .inl (fun _ => 0))), (v27, .inl (dA 2, 64, .inr (.inl (fun _ => 0)))), (v28, .inl (dA 2, 64, .inr (.inl (fun _ => 0)))), (mm, .inr (9, ms)), (mv0, .inl (dA 0, 65536, .inl (fun _ => 0))), (h, .inr (0, fs)), (v4, .inr (3, ns)), (o, .inl (dA 2, 1, .inr (.inl (fun _ => 0))))] := hD
  have hp9 : 2 = r1 := Eq.symm hp9
  subst hp9
  refine lv_istore hx hb d_SeriesVaultLaw_law_667 hl (by decide) rfl (fun ls hl => ?_)
  have hl : lv_has ls 8 [(5, .int 2), (4, .int 0), (3, .ref o), (2, .ref mm), (1, .ref h), (0, .ref b)] := hl
  refine lv_aload_n hx hb d_SeriesVaultLaw_law_669 rfl (lv_at hl 3 rfl) ?_
  refine lv_aload_n hx hb d_SeriesVaultLaw_law_670 rfl (lv_at hl 5 rfl) ?_
  refine lv_iload hx hb d_SeriesVaultLaw_law_671 (lv_at hl 1 rfl) ?_
  refine lv_iconst (v := 1) hx hb d_SeriesVaultLaw_law_673 (by decide) ?_
  refine lv_iadd hx hb d_SeriesVaultLaw_law_674 (tpi (y := 1) (by decide) ?_)
  refine va_sld hx hb hX hbl hbA hS (by unfold vp_in; decide) d_SeriesVaultLaw_law_675 ?_
  refine tpi (y := xs 1) rfl ?_
  have hPc := hP.sub (ws' := [(mm, .inr (9, ms))]) [16] rfl
  have hDc := hD.sub (ws' := [(mm, .inr (9, ms))]) [16] (by decide) rfl
  refine jnI (rnV (As := [.int (xs 1)]) (rest := []) hx hb hml hown hE hK (hN _ _ hS) hPc hDc (c_M_bulk_x l D dA H.size mm ms (xs 1) h_ms_on h_ms_seriesCount hl_ms) (q0 := 0) rfl rfl w911 w910 w912 w913 w328 rfl rfl ⟨⟨by decide, by decide⟩, rfl⟩ ⟨(Nat.le_of_ble_eq_true rfl), (Nat.le_of_ble_eq_true rfl)⟩ rfl hl.1 rfl (Nat.le_of_ble_eq_true rfl) d_SeriesVaultLaw_law_676 ⟨(Nat.le_of_ble_eq_true rfl), (Nat.le_of_ble_eq_true rfl)⟩) hP hD hS hA [16] [0, 1, 2, 3, 4, 5, 6, 7, 8, 9, 10, 11, 12, 13, 14, 15, 17, 18, 19, 20] (wr := [(v0, .inl (dA 0, 256, .inl (fun _ => 0))), (v1, .inr (1, js)), (v2, .inr (2, hs)), (v5, .inr (3, ss)), (v7, .inr (4, rs)), (v8, .inr (5, qs)), (v35, .inr (6, als)), (v19, .inl (dA 4, 32, .inr (.inr (.inr (.inr (fun _ => none)))))), (v20, .inl (dA 1, 64, .inl (fun _ => 0))), (v21, .inl (dA 2, 64, .inr (.inl (fun _ => 0)))), (v22, .inl (dA 2, 64, .inr (.inl (fun _ => 0)))), (v23, .inl (dA 1, 64, .inl (fun _ => 0))), (v25, .inl (dA 4, 32, .inr (.inr (.inr (.inr (fun _ => none)))))), (v26, .inl (dA 1, 64, .inl (fun _ => 0))), (v27, .inl (dA 2, 64, .inr (.inl (fun _ => 0)))), (v28, .inl (dA 2, 64, .inr (.inl (fun _ => 0)))), (mv0, .inl (dA 0, 65536, .inl (fun _ => 0))), (h, .inr (0, fs)), (v4, .inr (3, ns)), (o, .inl (dA 2, 1, .inr (.inl (fun _ => 0))))]) rfl rfl (by decide) (by decide) (fun r2 u9 H locs hp9 hP hD hS => ?_)
  have hP : va_P D vwCl [(v0, .inl (dA 0, 256, .inl (fun _ => 0))), (v1, .inr (1, js)), (v2, .inr (2, hs)), (v5, .inr (3, ss)), (v7, .inr (4, rs)), (v8, .inr (5, qs)), (v35, .inr (6, als)), (v19, .inl (dA 4, 32, .inr (.inr (.inr (.inr (fun _ => none)))))), (v20, .inl (dA 1, 64, .inl (fun _ => 0))), (v21, .inl (dA 2, 64, .inr (.inl (fun _ => 0)))), (v22, .inl (dA 2, 64, .inr (.inl (fun _ => 0)))), (v23, .inl (dA 1, 64, .inl (fun _ => 0))), (v25, .inl (dA 4, 32, .inr (.inr (.inr (.inr (fun _ => none)))))), (v26, .inl (dA 1, 64, .inl (fun _ => 0))), (v27, .inl (dA 2, 64, .inr (.inl (fun _ => 0)))), (v28, .inl (dA 2, 64, .inr (.inl (fun _ => 0)))), (mv0, .inl (dA 0, 65536, .inl (fun _ => 0))), (h, .inr (0, fs)), (v4, .inr (3, ns)), (o, .inl (dA 2, 1, .inr (.inl (fun _ => 0)))), (mm, .inr (9, (ms.set 0 (.int 2))))] H := hP
  have hD : va_D A [(v0, .inl (dA 0, 256, .inl (fun _ => 0))), (v1, .inr (1, js)), (v2, .inr (2, hs)), (v5, .inr (3, ss)), (v7, .inr (4, rs)), (v8, .inr (5, qs)), (v35, .inr (6, als)), (v19, .inl (dA 4, 32, .inr (.inr (.inr (.inr (fun _ => none)))))), (v20, .inl (dA 1, 64, .inl (fun _ => 0))), (v21, .inl (dA 2, 64, .inr (.inl (fun _ => 0)))), (v22, .inl (dA 2, 64, .inr (.inl (fun _ => 0)))), (v23, .inl (dA 1, 64, .inl (fun _ => 0))), (v25, .inl (dA 4, 32, .inr (.inr (.inr (.inr (fun _ => none)))))), (v26, .inl (dA 1, 64, .inl (fun _ => 0))), (v27, .inl (dA 2, 64, .inr (.inl (fun _ => 0)))), (v28, .inl (dA 2, 64, .inr (.inl (fun _ => 0)))), (mv0, .inl (dA 0, 65536, .inl (fun _ => 0))), (h, .inr (0, fs)), (v4, .inr (3, ns)), (o, .inl (dA 2, 1, .inr (.inl (fun _ => 0)))), (mm, .inr (9, (ms.set 0 (.int 2))))] := hD
  have hp9 : 0 = r2 := Eq.symm hp9
  subst hp9
  refine lv_istore hx hb d_SeriesVaultLaw_law_679 hl (by decide) rfl (fun ls hl => ?_)
  have hl : lv_has ls 8 [(6, .int 0), (5, .int 2), (4, .int 0), (3, .ref o), (2, .ref mm), (1, .ref h), (0, .ref b)] := hl
  refine lv_aload_n hx hb d_SeriesVaultLaw_law_681 rfl (lv_at hl 4 rfl) ?_
  have hPc := hP.sub (ws' := [(mm, .inr (9, (ms.set 0 (.int 2))))]) [20] rfl
  have hDc := hD.sub (ws' := [(mm, .inr (9, (ms.set 0 (.int 2))))]) [20] (by decide) rfl
  refine jnI (rnV (As := []) (rest := []) hx hb hml hown hE hK (hN _ _ hS) hPc hDc (c_M_thrown l D dA H.size mm (ms.set 0 (.int 2)) 2 (by simp [hl_ms]) (by simp [hl_ms])) (q0 := 0) rfl rfl w869 w868 w870 w871 w328 rfl rfl ⟨⟨by decide, by decide⟩, rfl⟩ ⟨(Nat.le_of_ble_eq_true rfl), (Nat.le_of_ble_eq_true rfl)⟩ rfl hl.1 rfl (Nat.le_of_ble_eq_true rfl) d_SeriesVaultLaw_law_682 ⟨(Nat.le_of_ble_eq_true rfl), (Nat.le_of_ble_eq_true rfl)⟩) hP hD hS hA [20] [0, 1, 2, 3, 4, 5, 6, 7, 8, 9, 10, 11, 12, 13, 14, 15, 16, 17, 18, 19] (wr := [(v0, .inl (dA 0, 256, .inl (fun _ => 0))), (v1, .inr (1, js)), (v2, .inr (2, hs)), (v5, .inr (3, ss)), (v7, .inr (4, rs)), (v8, .inr (5, qs)), (v35, .inr (6, als)), (v19, .inl (dA 4, 32, .inr (.inr (.inr (.inr (fun _ => none)))))), (v20, .inl (dA 1, 64, .inl (fun _ => 0))), (v21, .inl (dA 2, 64, .inr (.inl (fun _ => 0)))), (v22, .inl (dA 2, 64, .inr (.inl (fun _ => 0)))), (v23, .inl (dA 1, 64, .inl (fun _ => 0))), (v25, .inl (dA 4, 32, .inr (.inr (.inr (.inr (fun _ => none)))))), (v26, .inl (dA 1, 64, .inl (fun _ => 0))), (v27, .inl (dA 2, 64, .inr (.inl (fun _ => 0)))), (v28, .inl (dA 2, 64, .inr (.inl (fun _ => 0)))), (mv0, .inl (dA 0, 65536, .inl (fun _ => 0))), (h, .inr (0, fs)), (v4, .inr (3, ns)), (o, .inl (dA 2, 1, .inr (.inl (fun _ => 0))))]) rfl rfl (by decide) (by decide) (fun r3 u9 H locs hp9 hP hD hS => ?_)
  have hP : va_P D vwCl [(v0, .inl (dA 0, 256, .inl (fun _ => 0))), (v1, .inr (1, js)), (v2, .inr (2, hs)), (v5, .inr (3, ss)), (v7, .inr (4, rs)), (v8, .inr (5, qs)), (v35, .inr (6, als)), (v19, .inl (dA 4, 32, .inr (.inr (.inr (.inr (fun _ => none)))))), (v20, .inl (dA 1, 64, .inl (fun _ => 0))), (v21, .inl (dA 2, 64, .inr (.inl (fun _ => 0)))), (v22, .inl (dA 2, 64, .inr (.inl (fun _ => 0)))), (v23, .inl (dA 1, 64, .inl (fun _ => 0))), (v25, .inl (dA 4, 32, .inr (.inr (.inr (.inr (fun _ => none)))))), (v26, .inl (dA 1, 64, .inl (fun _ => 0))), (v27, .inl (dA 2, 64, .inr (.inl (fun _ => 0)))), (v28, .inl (dA 2, 64, .inr (.inl (fun _ => 0)))), (mv0, .inl (dA 0, 65536, .inl (fun _ => 0))), (h, .inr (0, fs)), (v4, .inr (3, ns)), (o, .inl (dA 2, 1, .inr (.inl (fun _ => 0)))), (mm, .inr (9, (ms.set 0 (.int 2))))] H := hP
  have hD : va_D A [(v0, .inl (dA 0, 256, .inl (fun _ => 0))), (v1, .inr (1, js)), (v2, .inr (2, hs)), (v5, .inr (3, ss)), (v7, .inr (4, rs)), (v8, .inr (5, qs)), (v35, .inr (6, als)), (v19, .inl (dA 4, 32, .inr (.inr (.inr (.inr (fun _ => none)))))), (v20, .inl (dA 1, 64, .inl (fun _ => 0))), (v21, .inl (dA 2, 64, .inr (.inl (fun _ => 0)))), (v22, .inl (dA 2, 64, .inr (.inl (fun _ => 0)))), (v23, .inl (dA 1, 64, .inl (fun _ => 0))), (v25, .inl (dA 4, 32, .inr (.inr (.inr (.inr (fun _ => none)))))), (v26, .inl (dA 1, 64, .inl (fun _ => 0))), (v27, .inl (dA 2, 64, .inr (.inl (fun _ => 0)))), (v28, .inl (dA 2, 64, .inr (.inl (fun _ => 0)))), (mv0, .inl (dA 0, 65536, .inl (fun _ => 0))), (h, .inr (0, fs)), (v4, .inr (3, ns)), (o, .inl (dA 2, 1, .inr (.inl (fun _ => 0)))), (mm, .inr (9, (ms.set 0 (.int 2))))] := hD
  have hp9 : 2 = r3 := Eq.symm hp9
  subst hp9
  refine lv_iload hx hb d_SeriesVaultLaw_law_685 (lv_at hl 1 rfl) ?_
  refine lv_icmp_eq hx hb d_SeriesVaultLaw_law_687 (tgt := 692) rfl (fun _ => ?_) (fun h9 => absurd (by decide) h9)
  refine lv_iload hx hb d_SeriesVaultLaw_law_692 (lv_at hl 1 rfl) ?_
  refine lv_if_ne hx hb d_SeriesVaultLaw_law_694 (tgt := 709) rfl (fun _ => ?_) (fun h9 => absurd h9 (by decide))
  refine lv_goto hx hb d_SeriesVaultLaw_law_709 (tgt := 1770) rfl ?_
  refine lv_iinc (k := 2) (v := 6) hx hb d_SeriesVaultLaw_law_1770 hl rfl (by decide) (by decide) rfl (fun ls hl => ?_)
  have hl : lv_has ls 8 [(4, .int 6), (6, .int 0), (5, .int 2), (3, .ref o), (2, .ref mm), (1, .ref h), (0, .ref b)] := hl
  refine lv_goto hx hb d_SeriesVaultLaw_law_1773 (tgt := 23) rfl ?_
  refine lv_iload hx hb d_SeriesVaultLaw_law_23 (lv_at hl 0 rfl) ?_
  refine lv_aload_n hx hb d_SeriesVaultLaw_law_25 rfl (lv_at hl 6 rfl) ?_
  refine va_slen hx hb hX hbl hbA hS d_SeriesVaultLaw_law_26 ?_
  refine tpi (y := 6) (by decide) ?_
  refine lv_bipush (v := 6) hx hb d_SeriesVaultLaw_law_27 (by decide) ?_
  refine lv_isub hx hb d_SeriesVaultLaw_law_29 (tpi (y := 0) (by decide) ?_)
  refine lv_icmp_gt hx hb d_SeriesVaultLaw_law_30 (tgt := 1776) rfl (fun _ => ?_) (fun h9 => absurd (by decide) h9)
  refine lv_iconst (v := 1) hx hb d_SeriesVaultLaw_law_1776 (by decide) ?_
  exact lw_fin hC0 hS (Nat.le_of_ble_eq_true rfl) (Nat.le_of_ble_eq_true rfl) d_SeriesVaultLaw_law_1777
theorem d_SeriesVaultLaw_law_512 : decode code 512 = .ok (.aload_n 1, 1) := by decide +kernel
theorem d_SeriesVaultLaw_law_513 : decode code 513 = .ok (.aload_n 0, 1) := by decide +kernel
theorem d_SeriesVaultLaw_law_514 : decode code 514 = .ok (.iload 4, 2) := by decide +kernel
theorem d_SeriesVaultLaw_law_516 : decode code 516 = .ok (.iconst 1, 1) := by decide +kernel
theorem d_SeriesVaultLaw_law_517 : decode code 517 = .ok (.iadd, 1) := by decide +kernel
theorem d_SeriesVaultLaw_law_518 : decode code 518 = .ok (.iaload, 1) := by decide +kernel
theorem d_SeriesVaultLaw_law_519 : decode code 519 = .ok (.aload_n 0, 1) := by decide +kernel
theorem d_SeriesVaultLaw_law_520 : decode code 520 = .ok (.iload 4, 2) := by decide +kernel
theorem d_SeriesVaultLaw_law_522 : decode code 522 = .ok (.iconst 2, 1) := by decide +kernel
theorem d_SeriesVaultLaw_law_523 : decode code 523 = .ok (.iadd, 1) := by decide +kernel
theorem d_SeriesVaultLaw_law_524 : decode code 524 = .ok (.iaload, 1) := by decide +kernel
theorem d_SeriesVaultLaw_law_525 : decode code 525 = .ok (.i2l, 1) := by decide +kernel
theorem d_SeriesVaultLaw_law_526 : decode code 526 = .ok (.bipush 32, 2) := by decide +kernel
theorem d_SeriesVaultLaw_law_528 : decode code 528 = .ok (.lshl, 1) := by decide +kernel
theorem d_SeriesVaultLaw_law_529 : decode code 529 = .ok (.aload_n 0, 1) := by decide +kernel
theorem d_SeriesVaultLaw_law_530 : decode code 530 = .ok (.iload 4, 2) := by decide +kernel
theorem d_SeriesVaultLaw_law_532 : decode code 532 = .ok (.iconst 3, 1) := by decide +kernel
theorem d_SeriesVaultLaw_law_533 : decode code 533 = .ok (.iadd, 1) := by decide +kernel
theorem d_SeriesVaultLaw_law_534 : decode code 534 = .ok (.iaload, 1) := by decide +kernel
theorem d_SeriesVaultLaw_law_535 : decode code 535 = .ok (.i2l, 1) := by decide +kernel
theorem d_SeriesVaultLaw_law_536 : decode code 536 = .ok (.ldc2_w 133, 3) := by decide +kernel
theorem d_SeriesVaultLaw_law_539 : decode code 539 = .ok (.land, 1) := by decide +kernel
theorem d_SeriesVaultLaw_law_540 : decode code 540 = .ok (.lor, 1) := by decide +kernel
theorem d_SeriesVaultLaw_law_541 : decode code 541 = .ok (.aload_n 0, 1) := by decide +kernel
theorem d_SeriesVaultLaw_law_542 : decode code 542 = .ok (.iload 4, 2) := by decide +kernel
theorem d_SeriesVaultLaw_law_544 : decode code 544 = .ok (.iconst 4, 1) := by decide +kernel
theorem d_SeriesVaultLaw_law_545 : decode code 545 = .ok (.iadd, 1) := by decide +kernel
theorem d_SeriesVaultLaw_law_546 : decode code 546 = .ok (.iaload, 1) := by decide +kernel
theorem d_SeriesVaultLaw_law_547 : decode code 547 = .ok (.i2l, 1) := by decide +kernel
theorem d_SeriesVaultLaw_law_548 : decode code 548 = .ok (.bipush 32, 2) := by decide +kernel
theorem d_SeriesVaultLaw_law_550 : decode code 550 = .ok (.lshl, 1) := by decide +kernel
theorem d_SeriesVaultLaw_law_551 : decode code 551 = .ok (.aload_n 0, 1) := by decide +kernel
theorem d_SeriesVaultLaw_law_552 : decode code 552 = .ok (.iload 4, 2) := by decide +kernel
theorem d_SeriesVaultLaw_law_554 : decode code 554 = .ok (.iconst 5, 1) := by decide +kernel
theorem d_SeriesVaultLaw_law_555 : decode code 555 = .ok (.iadd, 1) := by decide +kernel
theorem d_SeriesVaultLaw_law_556 : decode code 556 = .ok (.iaload, 1) := by decide +kernel
theorem d_SeriesVaultLaw_law_557 : decode code 557 = .ok (.i2l, 1) := by decide +kernel
theorem d_SeriesVaultLaw_law_558 : decode code 558 = .ok (.ldc2_w 133, 3) := by decide +kernel
theorem d_SeriesVaultLaw_law_561 : decode code 561 = .ok (.land, 1) := by decide +kernel
theorem d_SeriesVaultLaw_law_562 : decode code 562 = .ok (.lor, 1) := by decide +kernel
theorem d_SeriesVaultLaw_law_563 : decode code 563 = .ok (.aload_n 3, 1) := by decide +kernel
theorem d_SeriesVaultLaw_law_564 : decode code 564 = .ok (.invokestatic 135, 3) := by decide +kernel
theorem d_SeriesVaultLaw_law_567 : decode code 567 = .ok (.istore 5, 2) := by decide +kernel
theorem d_SeriesVaultLaw_law_569 : decode code 569 = .ok (.aload_n 2, 1) := by decide +kernel
theorem d_SeriesVaultLaw_law_570 : decode code 570 = .ok (.aload_n 0, 1) := by decide +kernel
theorem d_SeriesVaultLaw_law_571 : decode code 571 = .ok (.iload 4, 2) := by decide +kernel
theorem d_SeriesVaultLaw_law_573 : decode code 573 = .ok (.iconst 1, 1) := by decide +kernel
theorem d_SeriesVaultLaw_law_574 : decode code 574 = .ok (.iadd, 1) := by decide +kernel
theorem d_SeriesVaultLaw_law_575 : decode code 575 = .ok (.iaload, 1) := by decide +kernel
theorem d_SeriesVaultLaw_law_576 : decode code 576 = .ok (.aload_n 0, 1) := by decide +kernel
theorem d_SeriesVaultLaw_law_577 : decode code 577 = .ok (.iload 4, 2) := by decide +kernel
theorem d_SeriesVaultLaw_law_579 : decode code 579 = .ok (.iconst 2, 1) := by decide +kernel
theorem d_SeriesVaultLaw_law_580 : decode code 580 = .ok (.iadd, 1) := by decide +kernel
theorem d_SeriesVaultLaw_law_581 : decode code 581 = .ok (.iaload, 1) := by decide +kernel
theorem d_SeriesVaultLaw_law_582 : decode code 582 = .ok (.i2l, 1) := by decide +kernel
theorem d_SeriesVaultLaw_law_583 : decode code 583 = .ok (.bipush 32, 2) := by decide +kernel
theorem d_SeriesVaultLaw_law_585 : decode code 585 = .ok (.lshl, 1) := by decide +kernel
theorem d_SeriesVaultLaw_law_586 : decode code 586 = .ok (.aload_n 0, 1) := by decide +kernel
theorem d_SeriesVaultLaw_law_587 : decode code 587 = .ok (.iload 4, 2) := by decide +kernel
theorem d_SeriesVaultLaw_law_589 : decode code 589 = .ok (.iconst 3, 1) := by decide +kernel
theorem d_SeriesVaultLaw_law_590 : decode code 590 = .ok (.iadd, 1) := by decide +kernel
theorem d_SeriesVaultLaw_law_591 : decode code 591 = .ok (.iaload, 1) := by decide +kernel
theorem d_SeriesVaultLaw_law_592 : decode code 592 = .ok (.i2l, 1) := by decide +kernel
theorem d_SeriesVaultLaw_law_593 : decode code 593 = .ok (.ldc2_w 133, 3) := by decide +kernel
theorem d_SeriesVaultLaw_law_596 : decode code 596 = .ok (.land, 1) := by decide +kernel
theorem d_SeriesVaultLaw_law_597 : decode code 597 = .ok (.lor, 1) := by decide +kernel
theorem d_SeriesVaultLaw_law_598 : decode code 598 = .ok (.aload_n 0, 1) := by decide +kernel
theorem d_SeriesVaultLaw_law_599 : decode code 599 = .ok (.iload 4, 2) := by decide +kernel
theorem d_SeriesVaultLaw_law_601 : decode code 601 = .ok (.iconst 4, 1) := by decide +kernel
theorem d_SeriesVaultLaw_law_602 : decode code 602 = .ok (.iadd, 1) := by decide +kernel
theorem d_SeriesVaultLaw_law_603 : decode code 603 = .ok (.iaload, 1) := by decide +kernel
theorem d_SeriesVaultLaw_law_604 : decode code 604 = .ok (.i2l, 1) := by decide +kernel
theorem d_SeriesVaultLaw_law_605 : decode code 605 = .ok (.bipush 32, 2) := by decide +kernel
theorem d_SeriesVaultLaw_law_607 : decode code 607 = .ok (.lshl, 1) := by decide +kernel
theorem d_SeriesVaultLaw_law_608 : decode code 608 = .ok (.aload_n 0, 1) := by decide +kernel
theorem d_SeriesVaultLaw_law_609 : decode code 609 = .ok (.iload 4, 2) := by decide +kernel
theorem d_SeriesVaultLaw_law_611 : decode code 611 = .ok (.iconst 5, 1) := by decide +kernel
theorem d_SeriesVaultLaw_law_612 : decode code 612 = .ok (.iadd, 1) := by decide +kernel
theorem d_SeriesVaultLaw_law_613 : decode code 613 = .ok (.iaload, 1) := by decide +kernel
theorem d_SeriesVaultLaw_law_614 : decode code 614 = .ok (.i2l, 1) := by decide +kernel
theorem d_SeriesVaultLaw_law_615 : decode code 615 = .ok (.ldc2_w 133, 3) := by decide +kernel
theorem d_SeriesVaultLaw_law_618 : decode code 618 = .ok (.land, 1) := by decide +kernel
theorem d_SeriesVaultLaw_law_619 : decode code 619 = .ok (.lor, 1) := by decide +kernel
theorem d_SeriesVaultLaw_law_620 : decode code 620 = .ok (.invokevirtual 138, 3) := by decide +kernel
theorem d_SeriesVaultLaw_law_623 : decode code 623 = .ok (.istore 6, 2) := by decide +kernel
theorem d_SeriesVaultLaw_law_625 : decode code 625 = .ok (.aload_n 2, 1) := by decide +kernel
theorem d_SeriesVaultLaw_law_626 : decode code 626 = .ok (.invokevirtual 110, 3) := by decide +kernel
theorem d_SeriesVaultLaw_law_629 : decode code 629 = .ok (.iload 5, 2) := by decide +kernel
theorem d_SeriesVaultLaw_law_631 : decode code 631 = .ok (.if_icmp .eq 5, 3) := by decide +kernel
theorem d_SeriesVaultLaw_law_636 : decode code 636 = .ok (.iload 5, 2) := by decide +kernel
theorem d_SeriesVaultLaw_law_638 : decode code 638 = .ok (.ifCond .ne 15, 3) := by decide +kernel
theorem d_SeriesVaultLaw_law_653 : decode code 653 = .ok (.goto 1117, 3) := by decide +kernel
theorem w914 : Cond.constantLong "SeriesVaultLaw" 133 4294967295 ∈ aW := aw_of (tb_11 (List.mem_of_getElem? (i := 79) rfl)) rfl
theorem w915 : Cond.methodLink "SeriesVaultLaw" 135 ⟨"SeriesVaultLaw", "append", "(LSeriesVault;IJJ[J)I"⟩ ∈ aW := aw_of (tb_5 (List.mem_of_getElem? (i := 130) rfl)) rfl
theorem w916 : Cond.codeWith ⟨"SeriesVaultLaw", "append", "(LSeriesVault;IJJ[J)I"⟩ method_9_code 8 (some FieldType.int) [(0, 13, 16, 29), (0, 13, 20, 35), (0, 13, 24, 19), (0, 13, 28, 13)] ∈ aW := aw_of (tb_5 (List.mem_of_getElem? (i := 132) rfl)) rfl
theorem w917 : Cond.static ⟨"SeriesVaultLaw", "append", "(LSeriesVault;IJJ[J)I"⟩ ∈ aW := aw_of (tb_5 (List.mem_of_getElem? (i := 131) rfl)) rfl
theorem w918 : Cond.methodLink "SeriesVaultLaw" 138 ⟨"SeriesVaultModel", "append", "(IJJ)I"⟩ ∈ aW := aw_of (tb_10 (List.mem_of_getElem? (i := 19) rfl)) rfl
theorem w919 : Cond.code ⟨"SeriesVaultModel", "append", "(IJJ)I"⟩ prog_14_method_34_code 6 (some FieldType.int) ∈ aW := aw_of (tb_10 (List.mem_of_getElem? (i := 22) rfl)) rfl
theorem w920 : Cond.instanceMethod ⟨"SeriesVaultModel", "append", "(IJJ)I"⟩ ∈ aW := aw_of (tb_10 (List.mem_of_getElem? (i := 20) rfl)) rfl
theorem w921 : Cond.selects "SeriesVaultModel" ⟨"SeriesVaultModel", "append", "(IJJ)I"⟩ ⟨"SeriesVaultModel", "append", "(IJJ)I"⟩ ∈ aW := aw_of (tb_10 (List.mem_of_getElem? (i := 21) rfl)) rfl
set_option maxHeartbeats 4000000 in
set_option maxRecDepth 100000 in
theorem law_6 {p : Program} {e : Env} {s : State} {m : MethodId} {below : List Frame} {meth : Method} {c : Code} (l : Launch) {b : Nat} {xs : Nat → Int32} {D : va_G} {dA : Nat → ClassId} {e0 : Nat} {A : Nat → Prop} {H : Heap} {locs : List Loc} {ls : Array Slot} (hC : lS p l s m meth c b 6 xs D dA e0 A) (h : Nat) (v0 : Nat) (v1 : Nat) (v2 : Nat) (v4 : Nat) (v5 : Nat) (v7 : Nat) (v8 : Nat) (v19 : Nat) (v20 : Nat) (v21 : Nat) (v22 : Nat) (v23 : Nat) (v25 : Nat) (v26 : Nat) (v27 : Nat) (v28 : Nat) (v35 : Nat) (mm : Nat) (mv0 : Nat) (o : Nat) (fs : List Value) (js : List Value) (hs : List Value) (ns : List Value) (ss : List Value) (rs : List Value) (qs : List Value) (als : List Value) (ms : List Value) (h_fs_powered : fs[5]? = some (.int 1)) (h_fs_now : fs[11]? = some (.ref v4)) (hl_fs : fs.length = 18) (hl_js : js.length = 13) (hl_hs : hs.length = 4) (h_ns_seriesCount : ns[8]? = some (.int 0)) (hl_ns : ns.length = 11) (hl_ss : ss.length = 11) (hl_rs : rs.length = 6) (hl_qs : qs.length = 9) (hl_als : als.length = 3) (h_ms_on : ms[7]? = some (.int 1)) (h_ms_seriesCount : ms[12]? = some (.int 0)) (hl_ms : ms.length = 79) (hP : va_P D vwCl [(h, .inr (0, fs)), (v0, .inl (dA 0, 256, .inl (fun _ => 0))), (v1, .inr (1, js)), (v2, .inr (2, hs)), (v4, .inr (3, ns)), (v5, .inr (3, ss)), (v7, .inr (4, rs)), (v8, .inr (5, qs)), (v35, .inr (6, als)), (v19, .inl (dA 4, 32, .inr (.inr (.inr (.inr (fun _ => none)))))), (v20, .inl (dA 1, 64, .inl (fun _ => 0))), (v21, .inl (dA 2, 64, .inr (.inl (fun _ => 0)))), (v22, .inl (dA 2, 64, .inr (.inl (fun _ => 0)))), (v23, .inl (dA 1, 64, .inl (fun _ => 0))), (v25, .inl (dA 4, 32, .inr (.inr (.inr (.inr (fun _ => none)))))), (v26, .inl (dA 1, 64, .inl (fun _ => 0))), (v27, .inl (dA 2, 64, .inr (.inl (fun _ => 0)))), (v28, .inl (dA 2, 64, .inr (.inl (fun _ => 0)))), (mm, .inr (9, ms)), (mv0, .inl (dA 0, 65536, .inl (fun _ => 0))), (o, .inl (dA 2, 1, .inr (.inl (fun _ => 0))))] H) (hD : va_D A [(h, .inr (0, fs)), (v0, .inl (dA 0, 256, .inl (fun _ => 0))), (v1, .inr (1, js)), (v2, .inr (2, hs)), (v4, .inr (3, ns)), (v5, .inr (3, ss)), (v7, .inr (4, rs)), (v8, .inr (5, qs)), (v35, .inr (6, als)), (v19, .inl (dA 4, 32, .inr (.inr (.inr (.inr (fun _ => none)))))), (v20, .inl (dA 1, 64, .inl (fun _ => 0))), (v21, .inl (dA 2, 64, .inr (.inl (fun _ => 0)))), (v22, .inl (dA 2, 64, .inr (.inl (fun _ => 0)))), (v23, .inl (dA 1, 64, .inl (fun _ => 0))), (v25, .inl (dA 4, 32, .inr (.inr (.inr (.inr (fun _ => none)))))), (v26, .inl (dA 1, 64, .inl (fun _ => 0))), (v27, .inl (dA 2, 64, .inr (.inl (fun _ => 0)))), (v28, .inl (dA 2, 64, .inr (.inl (fun _ => 0)))), (mm, .inr (9, ms)), (mv0, .inl (dA 0, 65536, .inl (fun _ => 0))), (o, .inl (dA 2, 1, .inr (.inl (fun _ => 0))))]) (hS : va_S A s.heap H locs) (hl : lv_has ls 8 [(4, .int 0), (3, .ref o), (2, .ref mm), (1, .ref h), (0, .ref b)]) : W p l e room_1 s m #[Value.ref b] below meth c H locs 92 1177737 (lw_Z below #[Value.ref b] s) (F0 m 512 ls []) := by
  have hC0 := hC
  obtain ⟨hx, hb, hr, hml, hown, hlk, hE, hK, hA, hN, hZ, hT, hX, hbl, hbA, hnew, htr⟩ := hC
  refine lv_aload_n hx hb d_SeriesVaultLaw_law_512 rfl (lv_at hl 3 rfl) ?_
  refine lv_aload_n hx hb d_SeriesVaultLaw_law_513 rfl (lv_at hl 4 rfl) ?_
  refine lv_iload hx hb d_SeriesVaultLaw_law_514 (lv_at hl 0 rfl) ?_
  refine lv_iconst (v := 1) hx hb d_SeriesVaultLaw_law_516 (by decide) ?_
  refine lv_iadd hx hb d_SeriesVaultLaw_law_517 (tpi (y := 1) (by decide) ?_)
  refine va_sld hx hb hX hbl hbA hS (by unfold vp_in; decide) d_SeriesVaultLaw_law_518 ?_
  refine tpi (y := xs 1) rfl ?_
  refine lv_aload_n hx hb d_SeriesVaultLaw_law_519 rfl (lv_at hl 4 rfl) ?_
  refine lv_iload hx hb d_SeriesVaultLaw_law_520 (lv_at hl 0 rfl) ?_
  refine lv_iconst (v := 2) hx hb d_SeriesVaultLaw_law_522 (by decide) ?_
  refine lv_iadd hx hb d_SeriesVaultLaw_law_523 (tpi (y := 2) (by decide) ?_)
  refine va_sld hx hb hX hbl hbA hS (by unfold vp_in; decide) d_SeriesVaultLaw_law_524 ?_
  refine tpi (y := xs 2) rfl ?_
  refine lv_i2l hx hb d_SeriesVaultLaw_law_525 rfl ?_
  refine lv_bipush (v := 32) hx hb d_SeriesVaultLaw_law_526 (by decide) ?_
  refine lv_lshl hx hb d_SeriesVaultLaw_law_528 rfl ?_
  refine lv_aload_n hx hb d_SeriesVaultLaw_law_529 rfl (lv_at hl 4 rfl) ?_
  refine lv_iload hx hb d_SeriesVaultLaw_law_530 (lv_at hl 0 rfl) ?_
  refine lv_iconst (v := 3) hx hb d_SeriesVaultLaw_law_532 (by decide) ?_
  refine lv_iadd hx hb d_SeriesVaultLaw_law_533 (tpi (y := 3) (by decide) ?_)
  refine va_sld hx hb hX hbl hbA hS (by unfold vp_in; decide) d_SeriesVaultLaw_law_534 ?_
  refine tpi (y := xs 3) rfl ?_
  refine lv_i2l hx hb d_SeriesVaultLaw_law_535 rfl ?_
  refine lv_ldc2 (v := 4294967295) hx hb hown (hE.t w914 rfl) d_SeriesVaultLaw_law_536 ?_
  refine lv_land hx hb d_SeriesVaultLaw_law_539 ?_
  refine lv_lor hx hb d_SeriesVaultLaw_law_540 ?_
  refine lv_aload_n hx hb d_SeriesVaultLaw_law_541 rfl (lv_at hl 4 rfl) ?_
  refine lv_iload hx hb d_SeriesVaultLaw_law_542 (lv_at hl 0 rfl) ?_
  refine lv_iconst (v := 4) hx hb d_SeriesVaultLaw_law_544 (by decide) ?_
  refine lv_iadd hx hb d_SeriesVaultLaw_law_545 (tpi (y := 4) (by decide) ?_)
  refine va_sld hx hb hX hbl hbA hS (by unfold vp_in; decide) d_SeriesVaultLaw_law_546 ?_
  refine tpi (y := xs 4) rfl ?_
  refine lv_i2l hx hb d_SeriesVaultLaw_law_547 rfl ?_
  refine lv_bipush (v := 32) hx hb d_SeriesVaultLaw_law_548 (by decide) ?_
  refine lv_lshl hx hb d_SeriesVaultLaw_law_550 rfl ?_
  refine lv_aload_n hx hb d_SeriesVaultLaw_law_551 rfl (lv_at hl 4 rfl) ?_
  refine lv_iload hx hb d_SeriesVaultLaw_law_552 (lv_at hl 0 rfl) ?_
  refine lv_iconst (v := 5) hx hb d_SeriesVaultLaw_law_554 (by decide) ?_
  refine lv_iadd hx hb d_SeriesVaultLaw_law_555 (tpi (y := 5) (by decide) ?_)
  refine va_sld hx hb hX hbl hbA hS (by unfold vp_in; decide) d_SeriesVaultLaw_law_556 ?_
  refine tpi (y := xs 5) rfl ?_
  refine lv_i2l hx hb d_SeriesVaultLaw_law_557 rfl ?_
  refine lv_ldc2 (v := 4294967295) hx hb hown (hE.t w914 rfl) d_SeriesVaultLaw_law_558 ?_
  refine lv_land hx hb d_SeriesVaultLaw_law_561 ?_
  refine lv_lor hx hb d_SeriesVaultLaw_law_562 ?_
  refine lv_aload_n hx hb d_SeriesVaultLaw_law_563 rfl (lv_at hl 1 rfl) ?_
  have hPc := hP.sub (ws' := [(h, .inr (0, fs)), (v4, .inr (3, ns)), (o, .inl (dA 2, 1, .inr (.inl (fun _ => 0))))]) [0, 4, 20] rfl
  have hDc := hD.sub (ws' := [(h, .inr (0, fs)), (v4, .inr (3, ns)), (o, .inl (dA 2, 1, .inr (.inl (fun _ => 0))))]) [0, 4, 20] (by decide) rfl
  refine jnI (rnW (As := [.ref h, .int (xs 1), .long ((((xs 2).toInt64) <<< ((32 : Int32).toInt64 &&& 63)) ||| (((xs 3).toInt64) &&& 4294967295)), .long ((((xs 4).toInt64) <<< ((32 : Int32).toInt64 &&& 63)) ||| (((xs 5).toInt64) &&& 4294967295)), .ref o]) (rest := []) hx hb hml hown hE hK (hN _ _ hS) hPc hDc (c_K_append_x l htr D dA H.size h fs v4 ns 0 (xs 1) ((((xs 2).toInt64) <<< ((32 : Int32).toInt64 &&& 63)) ||| (((xs 3).toInt64) &&& 4294967295)) ((((xs 4).toInt64) <<< ((32 : Int32).toInt64 &&& 63)) ||| (((xs 5).toInt64) &&& 4294967295)) o (fun _ => 0) (i32_pn _) h_fs_powered h_fs_now hl_fs h_ns_seriesCount hl_ns) w916 w915 w917 w861 rfl rfl ⟨⟨by decide, by decide⟩, rfl⟩ ⟨(Nat.le_of_ble_eq_true rfl), (Nat.le_of_ble_eq_true rfl)⟩ rfl hl.1 rfl (Nat.le_of_ble_eq_true rfl) d_SeriesVaultLaw_law_564 ⟨(Nat.le_of_ble_eq_true rfl), (Nat.le_of_ble_eq_true rfl)⟩) hP hD hS hA [0, 4, 20] [1, 2, 3, 5, 6, 7, 8, 9, 10, 11, 12, 13, 14, 15, 16, 17, 18, 19] (wr := [(v0, .inl (dA 0, 256, .inl (fun _ => 0))), (v1, .inr (1, js)), (v2, .inr (2, hs)), (v5, .inr (3, ss)), (v7, .inr (4, rs)), (v8, .inr (5, qs)), (v35, .inr (6, als)), (v19, .inl (dA 4, 32, .inr (.inr (.inr (.inr (fun _ => none)))))), (v20, .inl (dA 1, 64, .inl (fun _ => 0))), (v21, .inl (dA 2, 64, .inr (.inl (fun _ => 0)))), (v22, .inl (dA 2, 64, .inr (.inl (fun _ => 0)))), (v23, .inl (dA 1, 64, .inl (fun _ => 0))), (v25, .inl (dA 4, 32, .inr (.inr (.inr (.inr (fun _ => none)))))), (v26, .inl (dA 1, 64, .inl (fun _ => 0))), (v27, .inl (dA 2, 64, .inr (.inl (fun _ => 0)))), (v28, .inl (dA 2, 64, .inr (.inl (fun _ => 0)))), (mm, .inr (9, ms)), (mv0, .inl (dA 0, 65536, .inl (fun _ => 0)))]) rfl rfl (by decide) (by decide) (fun r1 u9 H locs hp9 hP hD hS => ?_)
  have hP : va_P D vwCl [(v0, .inl (dA 0, 256, .inl (fun _ => 0))), (v1, .inr (1, js)), (v2, .inr (2, hs)), (v5, .inr (3, ss)), (v7, .inr (4, rs)), (v8, .inr (5, qs)), (v35, .inr (6, als)), (v19, .inl (dA 4, 32, .inr (.inr (.inr (.inr (fun _ => none)))))), (v20, .inl (dA 1, 64, .inl (fun _ => 0))), (v21, .inl (dA 2, 64, .inr (.inl (fun _ => 0)))), (v22, .inl (dA 2, 64, .inr (.inl (fun _ => 0)))), (v23, .inl (dA 1, 64, .inl (fun _ => 0))), (v25, .inl (dA 4, 32, .inr (.inr (.inr (.inr (fun _ => none)))))), (v26, .inl (dA 1, 64, .inl (fun _ => 0))), (v27, .inl (dA 2, 64, .inr (.inl (fun _ => 0)))), (v28, .inl (dA 2, 64, .inr (.inl (fun _ => 0)))), (mm, .inr (9, ms)), (mv0, .inl (dA 0, 65536, .inl (fun _ => 0))), (h, .inr (0, fs)), (v4, .inr (3, ns)), (o, .inl (dA 2, 1, .inr (.inl (fun _ => 0))))] H := hP
  have hD : va_D A [(v0, .inl (dA 0, 256, .inl (fun _ => 0))), (v1, .inr (1, js)), (v2, .inr (2, hs)), (v5, .inr (3, ss)), (v7, .inr (4, rs)), (v8, .inr (5, qs)), (v35, .inr (6, als)), (v19, .inl (dA 4, 32, .inr (.inr (.inr (.inr (fun _ => none)))))), (v20, .inl (dA 1, 64, .inl (fun _ => 0))), (v21, .inl (dA 2, 64, .inr (.inl (fun _ => 0)))), (v22, .inl (dA 2, 64, .inr (.inl (fun _ => 0)))), (v23, .inl (dA 1, 64, .inl (fun _ => 0))), (v25, .inl (dA 4, 32, .inr (.inr (.inr (.inr (fun _ => none)))))), (v26, .inl (dA 1, 64, .inl (fun _ => 0))), (v27, .inl (dA 2, 64, .inr (.inl (fun _ => 0)))), (v28, .inl (dA 2, 64, .inr (.inl (fun _ => 0)))), (mm, .inr (9, ms)), (mv0, .inl (dA 0, 65536, .inl (fun _ => 0))), (h, .inr (0, fs)), (v4, .inr (3, ns)), (o, .inl (dA 2, 1, .inr (.inl (fun _ => 0))))] := hD
  have hp9 : 2 = r1 := Eq.symm hp9
  subst hp9
  refine lv_istore hx hb d_SeriesVaultLaw_law_567 hl (by decide) rfl (fun ls hl => ?_)
  have hl : lv_has ls 8 [(5, .int 2), (4, .int 0), (3, .ref o), (2, .ref mm), (1, .ref h), (0, .ref b)] := hl
  refine lv_aload_n hx hb d_SeriesVaultLaw_law_569 rfl (lv_at hl 3 rfl) ?_
  refine lv_aload_n hx hb d_SeriesVaultLaw_law_570 rfl (lv_at hl 5 rfl) ?_
  refine lv_iload hx hb d_SeriesVaultLaw_law_571 (lv_at hl 1 rfl) ?_
  refine lv_iconst (v := 1) hx hb d_SeriesVaultLaw_law_573 (by decide) ?_
  refine lv_iadd hx hb d_SeriesVaultLaw_law_574 (tpi (y := 1) (by decide) ?_)
  refine va_sld hx hb hX hbl hbA hS (by unfold vp_in; decide) d_SeriesVaultLaw_law_575 ?_
  refine tpi (y := xs 1) rfl ?_
  refine lv_aload_n hx hb d_SeriesVaultLaw_law_576 rfl (lv_at hl 5 rfl) ?_
  refine lv_iload hx hb d_SeriesVaultLaw_law_577 (lv_at hl 1 rfl) ?_
  refine lv_iconst (v := 2) hx hb d_SeriesVaultLaw_law_579 (by decide) ?_
  refine lv_iadd hx hb d_SeriesVaultLaw_law_580 (tpi (y := 2) (by decide) ?_)
  refine va_sld hx hb hX hbl hbA hS (by unfold vp_in; decide) d_SeriesVaultLaw_law_581 ?_
  refine tpi (y := xs 2) rfl ?_
  refine lv_i2l hx hb d_SeriesVaultLaw_law_582 rfl ?_
  refine lv_bipush (v := 32) hx hb d_SeriesVaultLaw_law_583 (by decide) ?_
  refine lv_lshl hx hb d_SeriesVaultLaw_law_585 rfl ?_
  refine lv_aload_n hx hb d_SeriesVaultLaw_law_586 rfl (lv_at hl 5 rfl) ?_
  refine lv_iload hx hb d_SeriesVaultLaw_law_587 (lv_at hl 1 rfl) ?_
  refine lv_iconst (v := 3) hx hb d_SeriesVaultLaw_law_589 (by decide) ?_
  refine lv_iadd hx hb d_SeriesVaultLaw_law_590 (tpi (y := 3) (by decide) ?_)
  refine va_sld hx hb hX hbl hbA hS (by unfold vp_in; decide) d_SeriesVaultLaw_law_591 ?_
  refine tpi (y := xs 3) rfl ?_
  refine lv_i2l hx hb d_SeriesVaultLaw_law_592 rfl ?_
  refine lv_ldc2 (v := 4294967295) hx hb hown (hE.t w914 rfl) d_SeriesVaultLaw_law_593 ?_
  refine lv_land hx hb d_SeriesVaultLaw_law_596 ?_
  refine lv_lor hx hb d_SeriesVaultLaw_law_597 ?_
  refine lv_aload_n hx hb d_SeriesVaultLaw_law_598 rfl (lv_at hl 5 rfl) ?_
  refine lv_iload hx hb d_SeriesVaultLaw_law_599 (lv_at hl 1 rfl) ?_
  refine lv_iconst (v := 4) hx hb d_SeriesVaultLaw_law_601 (by decide) ?_
  refine lv_iadd hx hb d_SeriesVaultLaw_law_602 (tpi (y := 4) (by decide) ?_)
  refine va_sld hx hb hX hbl hbA hS (by unfold vp_in; decide) d_SeriesVaultLaw_law_603 ?_
  refine tpi (y := xs 4) rfl ?_
  refine lv_i2l hx hb d_SeriesVaultLaw_law_604 rfl ?_
  refine lv_bipush (v := 32) hx hb d_SeriesVaultLaw_law_605 (by decide) ?_
  refine lv_lshl hx hb d_SeriesVaultLaw_law_607 rfl ?_
  refine lv_aload_n hx hb d_SeriesVaultLaw_law_608 rfl (lv_at hl 5 rfl) ?_
  refine lv_iload hx hb d_SeriesVaultLaw_law_609 (lv_at hl 1 rfl) ?_
  refine lv_iconst (v := 5) hx hb d_SeriesVaultLaw_law_611 (by decide) ?_
  refine lv_iadd hx hb d_SeriesVaultLaw_law_612 (tpi (y := 5) (by decide) ?_)
  refine va_sld hx hb hX hbl hbA hS (by unfold vp_in; decide) d_SeriesVaultLaw_law_613 ?_
  refine tpi (y := xs 5) rfl ?_
  refine lv_i2l hx hb d_SeriesVaultLaw_law_614 rfl ?_
  refine lv_ldc2 (v := 4294967295) hx hb hown (hE.t w914 rfl) d_SeriesVaultLaw_law_615 ?_
  refine lv_land hx hb d_SeriesVaultLaw_law_618 ?_
  refine lv_lor hx hb d_SeriesVaultLaw_law_619 ?_
  have hPc := hP.sub (ws' := [(mm, .inr (9, ms))]) [16] rfl
  have hDc := hD.sub (ws' := [(mm, .inr (9, ms))]) [16] (by decide) rfl
  refine jnI (rnV (As := [.int (xs 1), .long ((((xs 2).toInt64) <<< ((32 : Int32).toInt64 &&& 63)) ||| (((xs 3).toInt64) &&& 4294967295)), .long ((((xs 4).toInt64) <<< ((32 : Int32).toInt64 &&& 63)) ||| (((xs 5).toInt64) &&& 4294967295))]) (rest := []) hx hb hml hown hE hK (hN _ _ hS) hPc hDc (c_M_append_x l D dA H.size mm ms (xs 1) ((((xs 2).toInt64) <<< ((32 : Int32).toInt64 &&& 63)) ||| (((xs 3).toInt64) &&& 4294967295)) ((((xs 4).toInt64) <<< ((32 : Int32).toInt64 &&& 63)) ||| (((xs 5).toInt64) &&& 4294967295)) h_ms_on h_ms_seriesCount hl_ms) (q0 := 0) rfl rfl w919 w918 w920 w921 w328 rfl rfl ⟨⟨by decide, by decide⟩, rfl⟩ ⟨(Nat.le_of_ble_eq_true rfl), (Nat.le_of_ble_eq_true rfl)⟩ rfl hl.1 rfl (Nat.le_of_ble_eq_true rfl) d_SeriesVaultLaw_law_620 ⟨(Nat.le_of_ble_eq_true rfl), (Nat.le_of_ble_eq_true rfl)⟩) hP hD hS hA [16] [0, 1, 2, 3, 4, 5, 6, 7, 8, 9, 10, 11, 12, 13, 14, 15, 17, 18, 19, 20] (wr := [(v0, .inl (dA 0, 256, .inl (fun _ => 0))), (v1, .inr (1, js)), (v2, .inr (2, hs)), (v5, .inr (3, ss)), (v7, .inr (4, rs)), (v8, .inr (5, qs)), (v35, .inr (6, als)), (v19, .inl (dA 4, 32, .inr (.inr (.inr (.inr (fun _ => none)))))), (v20, .inl (dA 1, 64, .inl (fun _ => 0))), (v21, .inl (dA 2, 64, .inr (.inl (fun _ => 0)))), (v22, .inl (dA 2, 64, .inr (.inl (fun _ => 0)))), (v23, .inl (dA 1, 64, .inl (fun _ => 0))), (v25, .inl (dA 4, 32, .inr (.inr (.inr (.inr (fun _ => none)))))), (v26, .inl (dA 1, 64, .inl (fun _ => 0))), (v27, .inl (dA 2, 64, .inr (.inl (fun _ => 0)))), (v28, .inl (dA 2, 64, .inr (.inl (fun _ => 0)))), (mv0, .inl (dA 0, 65536, .inl (fun _ => 0))), (h, .inr (0, fs)), (v4, .inr (3, ns)), (o, .inl (dA 2, 1, .inr (.inl (fun _ => 0))))]) rfl rfl (by decide) (by decide) (fun r2 u9 H locs hp9 hP hD hS => ?_)
  have hP : va_P D vwCl [(v0, .inl (dA 0, 256, .inl (fun _ => 0))), (v1, .inr (1, js)), (v2, .inr (2, hs)), (v5, .inr (3, ss)), (v7, .inr (4, rs)), (v8, .inr (5, qs)), (v35, .inr (6, als)), (v19, .inl (dA 4, 32, .inr (.inr (.inr (.inr (fun _ => none)))))), (v20, .inl (dA 1, 64, .inl (fun _ => 0))), (v21, .inl (dA 2, 64, .inr (.inl (fun _ => 0)))), (v22, .inl (dA 2, 64, .inr (.inl (fun _ => 0)))), (v23, .inl (dA 1, 64, .inl (fun _ => 0))), (v25, .inl (dA 4, 32, .inr (.inr (.inr (.inr (fun _ => none)))))), (v26, .inl (dA 1, 64, .inl (fun _ => 0))), (v27, .inl (dA 2, 64, .inr (.inl (fun _ => 0)))), (v28, .inl (dA 2, 64, .inr (.inl (fun _ => 0)))), (mv0, .inl (dA 0, 65536, .inl (fun _ => 0))), (h, .inr (0, fs)), (v4, .inr (3, ns)), (o, .inl (dA 2, 1, .inr (.inl (fun _ => 0)))), (mm, .inr (9, ((ms.set 0 (.int 2)).set 0 (.int 2))))] H := hP
  have hD : va_D A [(v0, .inl (dA 0, 256, .inl (fun _ => 0))), (v1, .inr (1, js)), (v2, .inr (2, hs)), (v5, .inr (3, ss)), (v7, .inr (4, rs)), (v8, .inr (5, qs)), (v35, .inr (6, als)), (v19, .inl (dA 4, 32, .inr (.inr (.inr (.inr (fun _ => none)))))), (v20, .inl (dA 1, 64, .inl (fun _ => 0))), (v21, .inl (dA 2, 64, .inr (.inl (fun _ => 0)))), (v22, .inl (dA 2, 64, .inr (.inl (fun _ => 0)))), (v23, .inl (dA 1, 64, .inl (fun _ => 0))), (v25, .inl (dA 4, 32, .inr (.inr (.inr (.inr (fun _ => none)))))), (v26, .inl (dA 1, 64, .inl (fun _ => 0))), (v27, .inl (dA 2, 64, .inr (.inl (fun _ => 0)))), (v28, .inl (dA 2, 64, .inr (.inl (fun _ => 0)))), (mv0, .inl (dA 0, 65536, .inl (fun _ => 0))), (h, .inr (0, fs)), (v4, .inr (3, ns)), (o, .inl (dA 2, 1, .inr (.inl (fun _ => 0)))), (mm, .inr (9, ((ms.set 0 (.int 2)).set 0 (.int 2))))] := hD
  have hp9 : 0 = r2 := Eq.symm hp9
  subst hp9
  refine lv_istore hx hb d_SeriesVaultLaw_law_623 hl (by decide) rfl (fun ls hl => ?_)
  have hl : lv_has ls 8 [(6, .int 0), (5, .int 2), (4, .int 0), (3, .ref o), (2, .ref mm), (1, .ref h), (0, .ref b)] := hl
  refine lv_aload_n hx hb d_SeriesVaultLaw_law_625 rfl (lv_at hl 4 rfl) ?_
  have hPc := hP.sub (ws' := [(mm, .inr (9, ((ms.set 0 (.int 2)).set 0 (.int 2))))]) [20] rfl
  have hDc := hD.sub (ws' := [(mm, .inr (9, ((ms.set 0 (.int 2)).set 0 (.int 2))))]) [20] (by decide) rfl
  refine jnI (rnV (As := []) (rest := []) hx hb hml hown hE hK (hN _ _ hS) hPc hDc (c_M_thrown l D dA H.size mm ((ms.set 0 (.int 2)).set 0 (.int 2)) 2 (by simp [hl_ms]) (by simp [hl_ms])) (q0 := 0) rfl rfl w869 w868 w870 w871 w328 rfl rfl ⟨⟨by decide, by decide⟩, rfl⟩ ⟨(Nat.le_of_ble_eq_true rfl), (Nat.le_of_ble_eq_true rfl)⟩ rfl hl.1 rfl (Nat.le_of_ble_eq_true rfl) d_SeriesVaultLaw_law_626 ⟨(Nat.le_of_ble_eq_true rfl), (Nat.le_of_ble_eq_true rfl)⟩) hP hD hS hA [20] [0, 1, 2, 3, 4, 5, 6, 7, 8, 9, 10, 11, 12, 13, 14, 15, 16, 17, 18, 19] (wr := [(v0, .inl (dA 0, 256, .inl (fun _ => 0))), (v1, .inr (1, js)), (v2, .inr (2, hs)), (v5, .inr (3, ss)), (v7, .inr (4, rs)), (v8, .inr (5, qs)), (v35, .inr (6, als)), (v19, .inl (dA 4, 32, .inr (.inr (.inr (.inr (fun _ => none)))))), (v20, .inl (dA 1, 64, .inl (fun _ => 0))), (v21, .inl (dA 2, 64, .inr (.inl (fun _ => 0)))), (v22, .inl (dA 2, 64, .inr (.inl (fun _ => 0)))), (v23, .inl (dA 1, 64, .inl (fun _ => 0))), (v25, .inl (dA 4, 32, .inr (.inr (.inr (.inr (fun _ => none)))))), (v26, .inl (dA 1, 64, .inl (fun _ => 0))), (v27, .inl (dA 2, 64, .inr (.inl (fun _ => 0)))), (v28, .inl (dA 2, 64, .inr (.inl (fun _ => 0)))), (mv0, .inl (dA 0, 65536, .inl (fun _ => 0))), (h, .inr (0, fs)), (v4, .inr (3, ns)), (o, .inl (dA 2, 1, .inr (.inl (fun _ => 0))))]) rfl rfl (by decide) (by decide) (fun r3 u9 H locs hp9 hP hD hS => ?_)
  have hP : va_P D vwCl [(v0, .inl (dA 0, 256, .inl (fun _ => 0))), (v1, .inr (1, js)), (v2, .inr (2, hs)), (v5, .inr (3, ss)), (v7, .inr (4, rs)), (v8, .inr (5, qs)), (v35, .inr (6, als)), (v19, .inl (dA 4, 32, .inr (.inr (.inr (.inr (fun _ => none)))))), (v20, .inl (dA 1, 64, .inl (fun _ => 0))), (v21, .inl (dA 2, 64, .inr (.inl (fun _ => 0)))), (v22, .inl (dA 2, 64, .inr (.inl (fun _ => 0)))), (v23, .inl (dA 1, 64, .inl (fun _ => 0))), (v25, .inl (dA 4, 32, .inr (.inr (.inr (.inr (fun _ => none)))))), (v26, .inl (dA 1, 64, .inl (fun _ => 0))), (v27, .inl (dA 2, 64, .inr (.inl (fun _ => 0)))), (v28, .inl (dA 2, 64, .inr (.inl (fun _ => 0)))), (mv0, .inl (dA 0, 65536, .inl (fun _ => 0))), (h, .inr (0, fs)), (v4, .inr (3, ns)), (o, .inl (dA 2, 1, .inr (.inl (fun _ => 0)))), (mm, .inr (9, ((ms.set 0 (.int 2)).set 0 (.int 2))))] H := hP
  have hD : va_D A [(v0, .inl (dA 0, 256, .inl (fun _ => 0))), (v1, .inr (1, js)), (v2, .inr (2, hs)), (v5, .inr (3, ss)), (v7, .inr (4, rs)), (v8, .inr (5, qs)), (v35, .inr (6, als)), (v19, .inl (dA 4, 32, .inr (.inr (.inr (.inr (fun _ => none)))))), (v20, .inl (dA 1, 64, .inl (fun _ => 0))), (v21, .inl (dA 2, 64, .inr (.inl (fun _ => 0)))), (v22, .inl (dA 2, 64, .inr (.inl (fun _ => 0)))), (v23, .inl (dA 1, 64, .inl (fun _ => 0))), (v25, .inl (dA 4, 32, .inr (.inr (.inr (.inr (fun _ => none)))))), (v26, .inl (dA 1, 64, .inl (fun _ => 0))), (v27, .inl (dA 2, 64, .inr (.inl (fun _ => 0)))), (v28, .inl (dA 2, 64, .inr (.inl (fun _ => 0)))), (mv0, .inl (dA 0, 65536, .inl (fun _ => 0))), (h, .inr (0, fs)), (v4, .inr (3, ns)), (o, .inl (dA 2, 1, .inr (.inl (fun _ => 0)))), (mm, .inr (9, ((ms.set 0 (.int 2)).set 0 (.int 2))))] := hD
  have hp9 : 2 = r3 := Eq.symm hp9
  subst hp9
  refine lv_iload hx hb d_SeriesVaultLaw_law_629 (lv_at hl 1 rfl) ?_
  refine lv_icmp_eq hx hb d_SeriesVaultLaw_law_631 (tgt := 636) rfl (fun _ => ?_) (fun h9 => absurd (by decide) h9)
  refine lv_iload hx hb d_SeriesVaultLaw_law_636 (lv_at hl 1 rfl) ?_
  refine lv_if_ne hx hb d_SeriesVaultLaw_law_638 (tgt := 653) rfl (fun _ => ?_) (fun h9 => absurd h9 (by decide))
  refine lv_goto hx hb d_SeriesVaultLaw_law_653 (tgt := 1770) rfl ?_
  refine lv_iinc (k := 2) (v := 6) hx hb d_SeriesVaultLaw_law_1770 hl rfl (by decide) (by decide) rfl (fun ls hl => ?_)
  have hl : lv_has ls 8 [(4, .int 6), (6, .int 0), (5, .int 2), (3, .ref o), (2, .ref mm), (1, .ref h), (0, .ref b)] := hl
  refine lv_goto hx hb d_SeriesVaultLaw_law_1773 (tgt := 23) rfl ?_
  refine lv_iload hx hb d_SeriesVaultLaw_law_23 (lv_at hl 0 rfl) ?_
  refine lv_aload_n hx hb d_SeriesVaultLaw_law_25 rfl (lv_at hl 6 rfl) ?_
  refine va_slen hx hb hX hbl hbA hS d_SeriesVaultLaw_law_26 ?_
  refine tpi (y := 6) (by decide) ?_
  refine lv_bipush (v := 6) hx hb d_SeriesVaultLaw_law_27 (by decide) ?_
  refine lv_isub hx hb d_SeriesVaultLaw_law_29 (tpi (y := 0) (by decide) ?_)
  refine lv_icmp_gt hx hb d_SeriesVaultLaw_law_30 (tgt := 1776) rfl (fun _ => ?_) (fun h9 => absurd (by decide) h9)
  refine lv_iconst (v := 1) hx hb d_SeriesVaultLaw_law_1776 (by decide) ?_
  exact lw_fin hC0 hS (Nat.le_of_ble_eq_true rfl) (Nat.le_of_ble_eq_true rfl) d_SeriesVaultLaw_law_1777
theorem d_SeriesVaultLaw_law_712 : decode code 712 = .ok (.aload_n 1, 1) := by decide +kernel
theorem d_SeriesVaultLaw_law_713 : decode code 713 = .ok (.aload_n 0, 1) := by decide +kernel
theorem d_SeriesVaultLaw_law_714 : decode code 714 = .ok (.iload 4, 2) := by decide +kernel
theorem d_SeriesVaultLaw_law_716 : decode code 716 = .ok (.iconst 1, 1) := by decide +kernel
theorem d_SeriesVaultLaw_law_717 : decode code 717 = .ok (.iadd, 1) := by decide +kernel
theorem d_SeriesVaultLaw_law_718 : decode code 718 = .ok (.iaload, 1) := by decide +kernel
theorem d_SeriesVaultLaw_law_719 : decode code 719 = .ok (.aload_n 0, 1) := by decide +kernel
theorem d_SeriesVaultLaw_law_720 : decode code 720 = .ok (.iload 4, 2) := by decide +kernel
theorem d_SeriesVaultLaw_law_722 : decode code 722 = .ok (.iconst 2, 1) := by decide +kernel
theorem d_SeriesVaultLaw_law_723 : decode code 723 = .ok (.iadd, 1) := by decide +kernel
theorem d_SeriesVaultLaw_law_724 : decode code 724 = .ok (.iaload, 1) := by decide +kernel
theorem d_SeriesVaultLaw_law_725 : decode code 725 = .ok (.i2l, 1) := by decide +kernel
theorem d_SeriesVaultLaw_law_726 : decode code 726 = .ok (.bipush 32, 2) := by decide +kernel
theorem d_SeriesVaultLaw_law_728 : decode code 728 = .ok (.lshl, 1) := by decide +kernel
theorem d_SeriesVaultLaw_law_729 : decode code 729 = .ok (.aload_n 0, 1) := by decide +kernel
theorem d_SeriesVaultLaw_law_730 : decode code 730 = .ok (.iload 4, 2) := by decide +kernel
theorem d_SeriesVaultLaw_law_732 : decode code 732 = .ok (.iconst 3, 1) := by decide +kernel
theorem d_SeriesVaultLaw_law_733 : decode code 733 = .ok (.iadd, 1) := by decide +kernel
theorem d_SeriesVaultLaw_law_734 : decode code 734 = .ok (.iaload, 1) := by decide +kernel
theorem d_SeriesVaultLaw_law_735 : decode code 735 = .ok (.i2l, 1) := by decide +kernel
theorem d_SeriesVaultLaw_law_736 : decode code 736 = .ok (.ldc2_w 133, 3) := by decide +kernel
theorem d_SeriesVaultLaw_law_739 : decode code 739 = .ok (.land, 1) := by decide +kernel
theorem d_SeriesVaultLaw_law_740 : decode code 740 = .ok (.lor, 1) := by decide +kernel
theorem d_SeriesVaultLaw_law_741 : decode code 741 = .ok (.aload_n 0, 1) := by decide +kernel
theorem d_SeriesVaultLaw_law_742 : decode code 742 = .ok (.iload 4, 2) := by decide +kernel
theorem d_SeriesVaultLaw_law_744 : decode code 744 = .ok (.iconst 4, 1) := by decide +kernel
theorem d_SeriesVaultLaw_law_745 : decode code 745 = .ok (.iadd, 1) := by decide +kernel
theorem d_SeriesVaultLaw_law_746 : decode code 746 = .ok (.iaload, 1) := by decide +kernel
theorem d_SeriesVaultLaw_law_747 : decode code 747 = .ok (.i2l, 1) := by decide +kernel
theorem d_SeriesVaultLaw_law_748 : decode code 748 = .ok (.bipush 32, 2) := by decide +kernel
theorem d_SeriesVaultLaw_law_750 : decode code 750 = .ok (.lshl, 1) := by decide +kernel
theorem d_SeriesVaultLaw_law_751 : decode code 751 = .ok (.aload_n 0, 1) := by decide +kernel
theorem d_SeriesVaultLaw_law_752 : decode code 752 = .ok (.iload 4, 2) := by decide +kernel
theorem d_SeriesVaultLaw_law_754 : decode code 754 = .ok (.iconst 5, 1) := by decide +kernel
theorem d_SeriesVaultLaw_law_755 : decode code 755 = .ok (.iadd, 1) := by decide +kernel
theorem d_SeriesVaultLaw_law_756 : decode code 756 = .ok (.iaload, 1) := by decide +kernel
theorem d_SeriesVaultLaw_law_757 : decode code 757 = .ok (.i2l, 1) := by decide +kernel
theorem d_SeriesVaultLaw_law_758 : decode code 758 = .ok (.ldc2_w 133, 3) := by decide +kernel
theorem d_SeriesVaultLaw_law_761 : decode code 761 = .ok (.land, 1) := by decide +kernel
theorem d_SeriesVaultLaw_law_762 : decode code 762 = .ok (.lor, 1) := by decide +kernel
theorem d_SeriesVaultLaw_law_763 : decode code 763 = .ok (.aload_n 3, 1) := by decide +kernel
theorem d_SeriesVaultLaw_law_764 : decode code 764 = .ok (.invokestatic 142, 3) := by decide +kernel
theorem d_SeriesVaultLaw_law_767 : decode code 767 = .ok (.istore 5, 2) := by decide +kernel
theorem d_SeriesVaultLaw_law_769 : decode code 769 = .ok (.aload_n 2, 1) := by decide +kernel
theorem d_SeriesVaultLaw_law_770 : decode code 770 = .ok (.aload_n 0, 1) := by decide +kernel
theorem d_SeriesVaultLaw_law_771 : decode code 771 = .ok (.iload 4, 2) := by decide +kernel
theorem d_SeriesVaultLaw_law_773 : decode code 773 = .ok (.iconst 1, 1) := by decide +kernel
theorem d_SeriesVaultLaw_law_774 : decode code 774 = .ok (.iadd, 1) := by decide +kernel
theorem d_SeriesVaultLaw_law_775 : decode code 775 = .ok (.iaload, 1) := by decide +kernel
theorem d_SeriesVaultLaw_law_776 : decode code 776 = .ok (.aload_n 0, 1) := by decide +kernel
theorem d_SeriesVaultLaw_law_777 : decode code 777 = .ok (.iload 4, 2) := by decide +kernel
theorem d_SeriesVaultLaw_law_779 : decode code 779 = .ok (.iconst 2, 1) := by decide +kernel
theorem d_SeriesVaultLaw_law_780 : decode code 780 = .ok (.iadd, 1) := by decide +kernel
theorem d_SeriesVaultLaw_law_781 : decode code 781 = .ok (.iaload, 1) := by decide +kernel
theorem d_SeriesVaultLaw_law_782 : decode code 782 = .ok (.i2l, 1) := by decide +kernel
theorem d_SeriesVaultLaw_law_783 : decode code 783 = .ok (.bipush 32, 2) := by decide +kernel
theorem d_SeriesVaultLaw_law_785 : decode code 785 = .ok (.lshl, 1) := by decide +kernel
theorem d_SeriesVaultLaw_law_786 : decode code 786 = .ok (.aload_n 0, 1) := by decide +kernel
theorem d_SeriesVaultLaw_law_787 : decode code 787 = .ok (.iload 4, 2) := by decide +kernel
theorem d_SeriesVaultLaw_law_789 : decode code 789 = .ok (.iconst 3, 1) := by decide +kernel
theorem d_SeriesVaultLaw_law_790 : decode code 790 = .ok (.iadd, 1) := by decide +kernel
theorem d_SeriesVaultLaw_law_791 : decode code 791 = .ok (.iaload, 1) := by decide +kernel
theorem d_SeriesVaultLaw_law_792 : decode code 792 = .ok (.i2l, 1) := by decide +kernel
theorem d_SeriesVaultLaw_law_793 : decode code 793 = .ok (.ldc2_w 133, 3) := by decide +kernel
theorem d_SeriesVaultLaw_law_796 : decode code 796 = .ok (.land, 1) := by decide +kernel
theorem d_SeriesVaultLaw_law_797 : decode code 797 = .ok (.lor, 1) := by decide +kernel
theorem d_SeriesVaultLaw_law_798 : decode code 798 = .ok (.aload_n 0, 1) := by decide +kernel
theorem d_SeriesVaultLaw_law_799 : decode code 799 = .ok (.iload 4, 2) := by decide +kernel
theorem d_SeriesVaultLaw_law_801 : decode code 801 = .ok (.iconst 4, 1) := by decide +kernel
theorem d_SeriesVaultLaw_law_802 : decode code 802 = .ok (.iadd, 1) := by decide +kernel
theorem d_SeriesVaultLaw_law_803 : decode code 803 = .ok (.iaload, 1) := by decide +kernel
theorem d_SeriesVaultLaw_law_804 : decode code 804 = .ok (.i2l, 1) := by decide +kernel
theorem d_SeriesVaultLaw_law_805 : decode code 805 = .ok (.bipush 32, 2) := by decide +kernel
theorem d_SeriesVaultLaw_law_807 : decode code 807 = .ok (.lshl, 1) := by decide +kernel
theorem d_SeriesVaultLaw_law_808 : decode code 808 = .ok (.aload_n 0, 1) := by decide +kernel
theorem d_SeriesVaultLaw_law_809 : decode code 809 = .ok (.iload 4, 2) := by decide +kernel
theorem d_SeriesVaultLaw_law_811 : decode code 811 = .ok (.iconst 5, 1) := by decide +kernel
theorem d_SeriesVaultLaw_law_812 : decode code 812 = .ok (.iadd, 1) := by decide +kernel
theorem d_SeriesVaultLaw_law_813 : decode code 813 = .ok (.iaload, 1) := by decide +kernel
theorem d_SeriesVaultLaw_law_814 : decode code 814 = .ok (.i2l, 1) := by decide +kernel
theorem d_SeriesVaultLaw_law_815 : decode code 815 = .ok (.ldc2_w 133, 3) := by decide +kernel
theorem d_SeriesVaultLaw_law_818 : decode code 818 = .ok (.land, 1) := by decide +kernel
theorem d_SeriesVaultLaw_law_819 : decode code 819 = .ok (.lor, 1) := by decide +kernel
theorem d_SeriesVaultLaw_law_820 : decode code 820 = .ok (.invokevirtual 144, 3) := by decide +kernel
theorem d_SeriesVaultLaw_law_823 : decode code 823 = .ok (.istore 6, 2) := by decide +kernel
theorem d_SeriesVaultLaw_law_825 : decode code 825 = .ok (.aload_n 2, 1) := by decide +kernel
theorem d_SeriesVaultLaw_law_826 : decode code 826 = .ok (.invokevirtual 110, 3) := by decide +kernel
theorem d_SeriesVaultLaw_law_829 : decode code 829 = .ok (.iload 5, 2) := by decide +kernel
theorem d_SeriesVaultLaw_law_831 : decode code 831 = .ok (.if_icmp .eq 5, 3) := by decide +kernel
theorem d_SeriesVaultLaw_law_836 : decode code 836 = .ok (.iload 5, 2) := by decide +kernel
theorem d_SeriesVaultLaw_law_838 : decode code 838 = .ok (.ifCond .ne 15, 3) := by decide +kernel
theorem d_SeriesVaultLaw_law_853 : decode code 853 = .ok (.goto 917, 3) := by decide +kernel
theorem w922 : Cond.methodLink "SeriesVaultLaw" 142 ⟨"SeriesVaultLaw", "delete", "(LSeriesVault;IJJ[J)I"⟩ ∈ aW := aw_of (tb_5 (List.mem_of_getElem? (i := 174) rfl)) rfl
theorem w923 : Cond.codeWith ⟨"SeriesVaultLaw", "delete", "(LSeriesVault;IJJ[J)I"⟩ method_11_code 8 (some FieldType.int) [(0, 13, 16, 29), (0, 13, 20, 35), (0, 13, 24, 19), (0, 13, 28, 13)] ∈ aW := aw_of (tb_5 (List.mem_of_getElem? (i := 176) rfl)) rfl
theorem w924 : Cond.static ⟨"SeriesVaultLaw", "delete", "(LSeriesVault;IJJ[J)I"⟩ ∈ aW := aw_of (tb_5 (List.mem_of_getElem? (i := 175) rfl)) rfl
theorem w925 : Cond.methodLink "SeriesVaultLaw" 144 ⟨"SeriesVaultModel", "delete", "(IJJ)I"⟩ ∈ aW := aw_of (tb_10 (List.mem_of_getElem? (i := 48) rfl)) rfl
theorem w926 : Cond.code ⟨"SeriesVaultModel", "delete", "(IJJ)I"⟩ prog_14_method_37_code 7 (some FieldType.int) ∈ aW := aw_of (tb_10 (List.mem_of_getElem? (i := 51) rfl)) rfl
theorem w927 : Cond.instanceMethod ⟨"SeriesVaultModel", "delete", "(IJJ)I"⟩ ∈ aW := aw_of (tb_10 (List.mem_of_getElem? (i := 49) rfl)) rfl
theorem w928 : Cond.selects "SeriesVaultModel" ⟨"SeriesVaultModel", "delete", "(IJJ)I"⟩ ⟨"SeriesVaultModel", "delete", "(IJJ)I"⟩ ∈ aW := aw_of (tb_10 (List.mem_of_getElem? (i := 50) rfl)) rfl
set_option maxHeartbeats 4000000 in
set_option maxRecDepth 100000 in
theorem law_8 {p : Program} {e : Env} {s : State} {m : MethodId} {below : List Frame} {meth : Method} {c : Code} (l : Launch) {b : Nat} {xs : Nat → Int32} {D : va_G} {dA : Nat → ClassId} {e0 : Nat} {A : Nat → Prop} {H : Heap} {locs : List Loc} {ls : Array Slot} (hC : lS p l s m meth c b 6 xs D dA e0 A) (h : Nat) (v0 : Nat) (v1 : Nat) (v2 : Nat) (v4 : Nat) (v5 : Nat) (v7 : Nat) (v8 : Nat) (v19 : Nat) (v20 : Nat) (v21 : Nat) (v22 : Nat) (v23 : Nat) (v25 : Nat) (v26 : Nat) (v27 : Nat) (v28 : Nat) (v35 : Nat) (mm : Nat) (mv0 : Nat) (o : Nat) (fs : List Value) (js : List Value) (hs : List Value) (ns : List Value) (ss : List Value) (rs : List Value) (qs : List Value) (als : List Value) (ms : List Value) (h_fs_powered : fs[5]? = some (.int 1)) (h_fs_now : fs[11]? = some (.ref v4)) (hl_fs : fs.length = 18) (hl_js : js.length = 13) (hl_hs : hs.length = 4) (h_ns_seriesCount : ns[8]? = some (.int 0)) (hl_ns : ns.length = 11) (hl_ss : ss.length = 11) (hl_rs : rs.length = 6) (hl_qs : qs.length = 9) (hl_als : als.length = 3) (h_ms_on : ms[7]? = some (.int 1)) (h_ms_seriesCount : ms[12]? = some (.int 0)) (hl_ms : ms.length = 79) (hP : va_P D vwCl [(h, .inr (0, fs)), (v0, .inl (dA 0, 256, .inl (fun _ => 0))), (v1, .inr (1, js)), (v2, .inr (2, hs)), (v4, .inr (3, ns)), (v5, .inr (3, ss)), (v7, .inr (4, rs)), (v8, .inr (5, qs)), (v35, .inr (6, als)), (v19, .inl (dA 4, 32, .inr (.inr (.inr (.inr (fun _ => none)))))), (v20, .inl (dA 1, 64, .inl (fun _ => 0))), (v21, .inl (dA 2, 64, .inr (.inl (fun _ => 0)))), (v22, .inl (dA 2, 64, .inr (.inl (fun _ => 0)))), (v23, .inl (dA 1, 64, .inl (fun _ => 0))), (v25, .inl (dA 4, 32, .inr (.inr (.inr (.inr (fun _ => none)))))), (v26, .inl (dA 1, 64, .inl (fun _ => 0))), (v27, .inl (dA 2, 64, .inr (.inl (fun _ => 0)))), (v28, .inl (dA 2, 64, .inr (.inl (fun _ => 0)))), (mm, .inr (9, ms)), (mv0, .inl (dA 0, 65536, .inl (fun _ => 0))), (o, .inl (dA 2, 1, .inr (.inl (fun _ => 0))))] H) (hD : va_D A [(h, .inr (0, fs)), (v0, .inl (dA 0, 256, .inl (fun _ => 0))), (v1, .inr (1, js)), (v2, .inr (2, hs)), (v4, .inr (3, ns)), (v5, .inr (3, ss)), (v7, .inr (4, rs)), (v8, .inr (5, qs)), (v35, .inr (6, als)), (v19, .inl (dA 4, 32, .inr (.inr (.inr (.inr (fun _ => none)))))), (v20, .inl (dA 1, 64, .inl (fun _ => 0))), (v21, .inl (dA 2, 64, .inr (.inl (fun _ => 0)))), (v22, .inl (dA 2, 64, .inr (.inl (fun _ => 0)))), (v23, .inl (dA 1, 64, .inl (fun _ => 0))), (v25, .inl (dA 4, 32, .inr (.inr (.inr (.inr (fun _ => none)))))), (v26, .inl (dA 1, 64, .inl (fun _ => 0))), (v27, .inl (dA 2, 64, .inr (.inl (fun _ => 0)))), (v28, .inl (dA 2, 64, .inr (.inl (fun _ => 0)))), (mm, .inr (9, ms)), (mv0, .inl (dA 0, 65536, .inl (fun _ => 0))), (o, .inl (dA 2, 1, .inr (.inl (fun _ => 0))))]) (hS : va_S A s.heap H locs) (hl : lv_has ls 8 [(4, .int 0), (3, .ref o), (2, .ref mm), (1, .ref h), (0, .ref b)]) : W p l e room_1 s m #[Value.ref b] below meth c H locs 92 1177737 (lw_Z below #[Value.ref b] s) (F0 m 712 ls []) := by
  have hC0 := hC
  obtain ⟨hx, hb, hr, hml, hown, hlk, hE, hK, hA, hN, hZ, hT, hX, hbl, hbA, hnew, htr⟩ := hC
  refine lv_aload_n hx hb d_SeriesVaultLaw_law_712 rfl (lv_at hl 3 rfl) ?_
  refine lv_aload_n hx hb d_SeriesVaultLaw_law_713 rfl (lv_at hl 4 rfl) ?_
  refine lv_iload hx hb d_SeriesVaultLaw_law_714 (lv_at hl 0 rfl) ?_
  refine lv_iconst (v := 1) hx hb d_SeriesVaultLaw_law_716 (by decide) ?_
  refine lv_iadd hx hb d_SeriesVaultLaw_law_717 (tpi (y := 1) (by decide) ?_)
  refine va_sld hx hb hX hbl hbA hS (by unfold vp_in; decide) d_SeriesVaultLaw_law_718 ?_
  refine tpi (y := xs 1) rfl ?_
  refine lv_aload_n hx hb d_SeriesVaultLaw_law_719 rfl (lv_at hl 4 rfl) ?_
  refine lv_iload hx hb d_SeriesVaultLaw_law_720 (lv_at hl 0 rfl) ?_
  refine lv_iconst (v := 2) hx hb d_SeriesVaultLaw_law_722 (by decide) ?_
  refine lv_iadd hx hb d_SeriesVaultLaw_law_723 (tpi (y := 2) (by decide) ?_)
  refine va_sld hx hb hX hbl hbA hS (by unfold vp_in; decide) d_SeriesVaultLaw_law_724 ?_
  refine tpi (y := xs 2) rfl ?_
  refine lv_i2l hx hb d_SeriesVaultLaw_law_725 rfl ?_
  refine lv_bipush (v := 32) hx hb d_SeriesVaultLaw_law_726 (by decide) ?_
  refine lv_lshl hx hb d_SeriesVaultLaw_law_728 rfl ?_
  refine lv_aload_n hx hb d_SeriesVaultLaw_law_729 rfl (lv_at hl 4 rfl) ?_
  refine lv_iload hx hb d_SeriesVaultLaw_law_730 (lv_at hl 0 rfl) ?_
  refine lv_iconst (v := 3) hx hb d_SeriesVaultLaw_law_732 (by decide) ?_
  refine lv_iadd hx hb d_SeriesVaultLaw_law_733 (tpi (y := 3) (by decide) ?_)
  refine va_sld hx hb hX hbl hbA hS (by unfold vp_in; decide) d_SeriesVaultLaw_law_734 ?_
  refine tpi (y := xs 3) rfl ?_
  refine lv_i2l hx hb d_SeriesVaultLaw_law_735 rfl ?_
  refine lv_ldc2 (v := 4294967295) hx hb hown (hE.t w914 rfl) d_SeriesVaultLaw_law_736 ?_
  refine lv_land hx hb d_SeriesVaultLaw_law_739 ?_
  refine lv_lor hx hb d_SeriesVaultLaw_law_740 ?_
  refine lv_aload_n hx hb d_SeriesVaultLaw_law_741 rfl (lv_at hl 4 rfl) ?_
  refine lv_iload hx hb d_SeriesVaultLaw_law_742 (lv_at hl 0 rfl) ?_
  refine lv_iconst (v := 4) hx hb d_SeriesVaultLaw_law_744 (by decide) ?_
  refine lv_iadd hx hb d_SeriesVaultLaw_law_745 (tpi (y := 4) (by decide) ?_)
  refine va_sld hx hb hX hbl hbA hS (by unfold vp_in; decide) d_SeriesVaultLaw_law_746 ?_
  refine tpi (y := xs 4) rfl ?_
  refine lv_i2l hx hb d_SeriesVaultLaw_law_747 rfl ?_
  refine lv_bipush (v := 32) hx hb d_SeriesVaultLaw_law_748 (by decide) ?_
  refine lv_lshl hx hb d_SeriesVaultLaw_law_750 rfl ?_
  refine lv_aload_n hx hb d_SeriesVaultLaw_law_751 rfl (lv_at hl 4 rfl) ?_
  refine lv_iload hx hb d_SeriesVaultLaw_law_752 (lv_at hl 0 rfl) ?_
  refine lv_iconst (v := 5) hx hb d_SeriesVaultLaw_law_754 (by decide) ?_
  refine lv_iadd hx hb d_SeriesVaultLaw_law_755 (tpi (y := 5) (by decide) ?_)
  refine va_sld hx hb hX hbl hbA hS (by unfold vp_in; decide) d_SeriesVaultLaw_law_756 ?_
  refine tpi (y := xs 5) rfl ?_
  refine lv_i2l hx hb d_SeriesVaultLaw_law_757 rfl ?_
  refine lv_ldc2 (v := 4294967295) hx hb hown (hE.t w914 rfl) d_SeriesVaultLaw_law_758 ?_
  refine lv_land hx hb d_SeriesVaultLaw_law_761 ?_
  refine lv_lor hx hb d_SeriesVaultLaw_law_762 ?_
  refine lv_aload_n hx hb d_SeriesVaultLaw_law_763 rfl (lv_at hl 1 rfl) ?_
  have hPc := hP.sub (ws' := [(h, .inr (0, fs)), (v4, .inr (3, ns)), (o, .inl (dA 2, 1, .inr (.inl (fun _ => 0))))]) [0, 4, 20] rfl
  have hDc := hD.sub (ws' := [(h, .inr (0, fs)), (v4, .inr (3, ns)), (o, .inl (dA 2, 1, .inr (.inl (fun _ => 0))))]) [0, 4, 20] (by decide) rfl
  refine jnI (rnW (As := [.ref h, .int (xs 1), .long ((((xs 2).toInt64) <<< ((32 : Int32).toInt64 &&& 63)) ||| (((xs 3).toInt64) &&& 4294967295)), .long ((((xs 4).toInt64) <<< ((32 : Int32).toInt64 &&& 63)) ||| (((xs 5).toInt64) &&& 4294967295)), .ref o]) (rest := []) hx hb hml hown hE hK (hN _ _ hS) hPc hDc (c_K_delete_x l htr D dA H.size h fs v4 ns 0 (xs 1) ((((xs 2).toInt64) <<< ((32 : Int32).toInt64 &&& 63)) ||| (((xs 3).toInt64) &&& 4294967295)) ((((xs 4).toInt64) <<< ((32 : Int32).toInt64 &&& 63)) ||| (((xs 5).toInt64) &&& 4294967295)) o (fun _ => 0) (i32_pn _) h_fs_powered h_fs_now hl_fs h_ns_seriesCount hl_ns) w923 w922 w924 w861 rfl rfl ⟨⟨by decide, by decide⟩, rfl⟩ ⟨(Nat.le_of_ble_eq_true rfl), (Nat.le_of_ble_eq_true rfl)⟩ rfl hl.1 rfl (Nat.le_of_ble_eq_true rfl) d_SeriesVaultLaw_law_764 ⟨(Nat.le_of_ble_eq_true rfl), (Nat.le_of_ble_eq_true rfl)⟩) hP hD hS hA [0, 4, 20] [1, 2, 3, 5, 6, 7, 8, 9, 10, 11, 12, 13, 14, 15, 16, 17, 18, 19] (wr := [(v0, .inl (dA 0, 256, .inl (fun _ => 0))), (v1, .inr (1, js)), (v2, .inr (2, hs)), (v5, .inr (3, ss)), (v7, .inr (4, rs)), (v8, .inr (5, qs)), (v35, .inr (6, als)), (v19, .inl (dA 4, 32, .inr (.inr (.inr (.inr (fun _ => none)))))), (v20, .inl (dA 1, 64, .inl (fun _ => 0))), (v21, .inl (dA 2, 64, .inr (.inl (fun _ => 0)))), (v22, .inl (dA 2, 64, .inr (.inl (fun _ => 0)))), (v23, .inl (dA 1, 64, .inl (fun _ => 0))), (v25, .inl (dA 4, 32, .inr (.inr (.inr (.inr (fun _ => none)))))), (v26, .inl (dA 1, 64, .inl (fun _ => 0))), (v27, .inl (dA 2, 64, .inr (.inl (fun _ => 0)))), (v28, .inl (dA 2, 64, .inr (.inl (fun _ => 0)))), (mm, .inr (9, ms)), (mv0, .inl (dA 0, 65536, .inl (fun _ => 0)))]) rfl rfl (by decide) (by decide) (fun r1 u9 H locs hp9 hP hD hS => ?_)
  have hP : va_P D vwCl [(v0, .inl (dA 0, 256, .inl (fun _ => 0))), (v1, .inr (1, js)), (v2, .inr (2, hs)), (v5, .inr (3, ss)), (v7, .inr (4, rs)), (v8, .inr (5, qs)), (v35, .inr (6, als)), (v19, .inl (dA 4, 32, .inr (.inr (.inr (.inr (fun _ => none)))))), (v20, .inl (dA 1, 64, .inl (fun _ => 0))), (v21, .inl (dA 2, 64, .inr (.inl (fun _ => 0)))), (v22, .inl (dA 2, 64, .inr (.inl (fun _ => 0)))), (v23, .inl (dA 1, 64, .inl (fun _ => 0))), (v25, .inl (dA 4, 32, .inr (.inr (.inr (.inr (fun _ => none)))))), (v26, .inl (dA 1, 64, .inl (fun _ => 0))), (v27, .inl (dA 2, 64, .inr (.inl (fun _ => 0)))), (v28, .inl (dA 2, 64, .inr (.inl (fun _ => 0)))), (mm, .inr (9, ms)), (mv0, .inl (dA 0, 65536, .inl (fun _ => 0))), (h, .inr (0, fs)), (v4, .inr (3, ns)), (o, .inl (dA 2, 1, .inr (.inl (fun _ => 0))))] H := hP
  have hD : va_D A [(v0, .inl (dA 0, 256, .inl (fun _ => 0))), (v1, .inr (1, js)), (v2, .inr (2, hs)), (v5, .inr (3, ss)), (v7, .inr (4, rs)), (v8, .inr (5, qs)), (v35, .inr (6, als)), (v19, .inl (dA 4, 32, .inr (.inr (.inr (.inr (fun _ => none)))))), (v20, .inl (dA 1, 64, .inl (fun _ => 0))), (v21, .inl (dA 2, 64, .inr (.inl (fun _ => 0)))), (v22, .inl (dA 2, 64, .inr (.inl (fun _ => 0)))), (v23, .inl (dA 1, 64, .inl (fun _ => 0))), (v25, .inl (dA 4, 32, .inr (.inr (.inr (.inr (fun _ => none)))))), (v26, .inl (dA 1, 64, .inl (fun _ => 0))), (v27, .inl (dA 2, 64, .inr (.inl (fun _ => 0)))), (v28, .inl (dA 2, 64, .inr (.inl (fun _ => 0)))), (mm, .inr (9, ms)), (mv0, .inl (dA 0, 65536, .inl (fun _ => 0))), (h, .inr (0, fs)), (v4, .inr (3, ns)), (o, .inl (dA 2, 1, .inr (.inl (fun _ => 0))))] := hD
  have hp9 : 2 = r1 := Eq.symm hp9
  subst hp9
  refine lv_istore hx hb d_SeriesVaultLaw_law_767 hl (by decide) rfl (fun ls hl => ?_)
  have hl : lv_has ls 8 [(5, .int 2), (4, .int 0), (3, .ref o), (2, .ref mm), (1, .ref h), (0, .ref b)] := hl
  refine lv_aload_n hx hb d_SeriesVaultLaw_law_769 rfl (lv_at hl 3 rfl) ?_
  refine lv_aload_n hx hb d_SeriesVaultLaw_law_770 rfl (lv_at hl 5 rfl) ?_
  refine lv_iload hx hb d_SeriesVaultLaw_law_771 (lv_at hl 1 rfl) ?_
  refine lv_iconst (v := 1) hx hb d_SeriesVaultLaw_law_773 (by decide) ?_
  refine lv_iadd hx hb d_SeriesVaultLaw_law_774 (tpi (y := 1) (by decide) ?_)
  refine va_sld hx hb hX hbl hbA hS (by unfold vp_in; decide) d_SeriesVaultLaw_law_775 ?_
  refine tpi (y := xs 1) rfl ?_
  refine lv_aload_n hx hb d_SeriesVaultLaw_law_776 rfl (lv_at hl 5 rfl) ?_
  refine lv_iload hx hb d_SeriesVaultLaw_law_777 (lv_at hl 1 rfl) ?_
  refine lv_iconst (v := 2) hx hb d_SeriesVaultLaw_law_779 (by decide) ?_
  refine lv_iadd hx hb d_SeriesVaultLaw_law_780 (tpi (y := 2) (by decide) ?_)
  refine va_sld hx hb hX hbl hbA hS (by unfold vp_in; decide) d_SeriesVaultLaw_law_781 ?_
  refine tpi (y := xs 2) rfl ?_
  refine lv_i2l hx hb d_SeriesVaultLaw_law_782 rfl ?_
  refine lv_bipush (v := 32) hx hb d_SeriesVaultLaw_law_783 (by decide) ?_
  refine lv_lshl hx hb d_SeriesVaultLaw_law_785 rfl ?_
  refine lv_aload_n hx hb d_SeriesVaultLaw_law_786 rfl (lv_at hl 5 rfl) ?_
  refine lv_iload hx hb d_SeriesVaultLaw_law_787 (lv_at hl 1 rfl) ?_
  refine lv_iconst (v := 3) hx hb d_SeriesVaultLaw_law_789 (by decide) ?_
  refine lv_iadd hx hb d_SeriesVaultLaw_law_790 (tpi (y := 3) (by decide) ?_)
  refine va_sld hx hb hX hbl hbA hS (by unfold vp_in; decide) d_SeriesVaultLaw_law_791 ?_
  refine tpi (y := xs 3) rfl ?_
  refine lv_i2l hx hb d_SeriesVaultLaw_law_792 rfl ?_
  refine lv_ldc2 (v := 4294967295) hx hb hown (hE.t w914 rfl) d_SeriesVaultLaw_law_793 ?_
  refine lv_land hx hb d_SeriesVaultLaw_law_796 ?_
  refine lv_lor hx hb d_SeriesVaultLaw_law_797 ?_
  refine lv_aload_n hx hb d_SeriesVaultLaw_law_798 rfl (lv_at hl 5 rfl) ?_
  refine lv_iload hx hb d_SeriesVaultLaw_law_799 (lv_at hl 1 rfl) ?_
  refine lv_iconst (v := 4) hx hb d_SeriesVaultLaw_law_801 (by decide) ?_
  refine lv_iadd hx hb d_SeriesVaultLaw_law_802 (tpi (y := 4) (by decide) ?_)
  refine va_sld hx hb hX hbl hbA hS (by unfold vp_in; decide) d_SeriesVaultLaw_law_803 ?_
  refine tpi (y := xs 4) rfl ?_
  refine lv_i2l hx hb d_SeriesVaultLaw_law_804 rfl ?_
  refine lv_bipush (v := 32) hx hb d_SeriesVaultLaw_law_805 (by decide) ?_
  refine lv_lshl hx hb d_SeriesVaultLaw_law_807 rfl ?_
  refine lv_aload_n hx hb d_SeriesVaultLaw_law_808 rfl (lv_at hl 5 rfl) ?_
  refine lv_iload hx hb d_SeriesVaultLaw_law_809 (lv_at hl 1 rfl) ?_
  refine lv_iconst (v := 5) hx hb d_SeriesVaultLaw_law_811 (by decide) ?_
  refine lv_iadd hx hb d_SeriesVaultLaw_law_812 (tpi (y := 5) (by decide) ?_)
  refine va_sld hx hb hX hbl hbA hS (by unfold vp_in; decide) d_SeriesVaultLaw_law_813 ?_
  refine tpi (y := xs 5) rfl ?_
  refine lv_i2l hx hb d_SeriesVaultLaw_law_814 rfl ?_
  refine lv_ldc2 (v := 4294967295) hx hb hown (hE.t w914 rfl) d_SeriesVaultLaw_law_815 ?_
  refine lv_land hx hb d_SeriesVaultLaw_law_818 ?_
  refine lv_lor hx hb d_SeriesVaultLaw_law_819 ?_
  have hPc := hP.sub (ws' := [(mm, .inr (9, ms))]) [16] rfl
  have hDc := hD.sub (ws' := [(mm, .inr (9, ms))]) [16] (by decide) rfl
  refine jnI (rnV (As := [.int (xs 1), .long ((((xs 2).toInt64) <<< ((32 : Int32).toInt64 &&& 63)) ||| (((xs 3).toInt64) &&& 4294967295)), .long ((((xs 4).toInt64) <<< ((32 : Int32).toInt64 &&& 63)) ||| (((xs 5).toInt64) &&& 4294967295))]) (rest := []) hx hb hml hown hE hK (hN _ _ hS) hPc hDc (c_M_delete_x l D dA H.size mm ms (xs 1) ((((xs 2).toInt64) <<< ((32 : Int32).toInt64 &&& 63)) ||| (((xs 3).toInt64) &&& 4294967295)) ((((xs 4).toInt64) <<< ((32 : Int32).toInt64 &&& 63)) ||| (((xs 5).toInt64) &&& 4294967295)) h_ms_on h_ms_seriesCount hl_ms) (q0 := 0) rfl rfl w926 w925 w927 w928 w328 rfl rfl ⟨⟨by decide, by decide⟩, rfl⟩ ⟨(Nat.le_of_ble_eq_true rfl), (Nat.le_of_ble_eq_true rfl)⟩ rfl hl.1 rfl (Nat.le_of_ble_eq_true rfl) d_SeriesVaultLaw_law_820 ⟨(Nat.le_of_ble_eq_true rfl), (Nat.le_of_ble_eq_true rfl)⟩) hP hD hS hA [16] [0, 1, 2, 3, 4, 5, 6, 7, 8, 9, 10, 11, 12, 13, 14, 15, 17, 18, 19, 20] (wr := [(v0, .inl (dA 0, 256, .inl (fun _ => 0))), (v1, .inr (1, js)), (v2, .inr (2, hs)), (v5, .inr (3, ss)), (v7, .inr (4, rs)), (v8, .inr (5, qs)), (v35, .inr (6, als)), (v19, .inl (dA 4, 32, .inr (.inr (.inr (.inr (fun _ => none)))))), (v20, .inl (dA 1, 64, .inl (fun _ => 0))), (v21, .inl (dA 2, 64, .inr (.inl (fun _ => 0)))), (v22, .inl (dA 2, 64, .inr (.inl (fun _ => 0)))), (v23, .inl (dA 1, 64, .inl (fun _ => 0))), (v25, .inl (dA 4, 32, .inr (.inr (.inr (.inr (fun _ => none)))))), (v26, .inl (dA 1, 64, .inl (fun _ => 0))), (v27, .inl (dA 2, 64, .inr (.inl (fun _ => 0)))), (v28, .inl (dA 2, 64, .inr (.inl (fun _ => 0)))), (mv0, .inl (dA 0, 65536, .inl (fun _ => 0))), (h, .inr (0, fs)), (v4, .inr (3, ns)), (o, .inl (dA 2, 1, .inr (.inl (fun _ => 0))))]) rfl rfl (by decide) (by decide) (fun r2 u9 H locs hp9 hP hD hS => ?_)
  have hP : va_P D vwCl [(v0, .inl (dA 0, 256, .inl (fun _ => 0))), (v1, .inr (1, js)), (v2, .inr (2, hs)), (v5, .inr (3, ss)), (v7, .inr (4, rs)), (v8, .inr (5, qs)), (v35, .inr (6, als)), (v19, .inl (dA 4, 32, .inr (.inr (.inr (.inr (fun _ => none)))))), (v20, .inl (dA 1, 64, .inl (fun _ => 0))), (v21, .inl (dA 2, 64, .inr (.inl (fun _ => 0)))), (v22, .inl (dA 2, 64, .inr (.inl (fun _ => 0)))), (v23, .inl (dA 1, 64, .inl (fun _ => 0))), (v25, .inl (dA 4, 32, .inr (.inr (.inr (.inr (fun _ => none)))))), (v26, .inl (dA 1, 64, .inl (fun _ => 0))), (v27, .inl (dA 2, 64, .inr (.inl (fun _ => 0)))), (v28, .inl (dA 2, 64, .inr (.inl (fun _ => 0)))), (mv0, .inl (dA 0, 65536, .inl (fun _ => 0))), (h, .inr (0, fs)), (v4, .inr (3, ns)), (o, .inl (dA 2, 1, .inr (.inl (fun _ => 0)))), (mm, .inr (9, ((ms.set 0 (.int 2)).set 0 (.int 2))))] H := hP
  have hD : va_D A [(v0, .inl (dA 0, 256, .inl (fun _ => 0))), (v1, .inr (1, js)), (v2, .inr (2, hs)), (v5, .inr (3, ss)), (v7, .inr (4, rs)), (v8, .inr (5, qs)), (v35, .inr (6, als)), (v19, .inl (dA 4, 32, .inr (.inr (.inr (.inr (fun _ => none)))))), (v20, .inl (dA 1, 64, .inl (fun _ => 0))), (v21, .inl (dA 2, 64, .inr (.inl (fun _ => 0)))), (v22, .inl (dA 2, 64, .inr (.inl (fun _ => 0)))), (v23, .inl (dA 1, 64, .inl (fun _ => 0))), (v25, .inl (dA 4, 32, .inr (.inr (.inr (.inr (fun _ => none)))))), (v26, .inl (dA 1, 64, .inl (fun _ => 0))), (v27, .inl (dA 2, 64, .inr (.inl (fun _ => 0)))), (v28, .inl (dA 2, 64, .inr (.inl (fun _ => 0)))), (mv0, .inl (dA 0, 65536, .inl (fun _ => 0))), (h, .inr (0, fs)), (v4, .inr (3, ns)), (o, .inl (dA 2, 1, .inr (.inl (fun _ => 0)))), (mm, .inr (9, ((ms.set 0 (.int 2)).set 0 (.int 2))))] := hD
  have hp9 : 0 = r2 := Eq.symm hp9
  subst hp9
  refine lv_istore hx hb d_SeriesVaultLaw_law_823 hl (by decide) rfl (fun ls hl => ?_)
  have hl : lv_has ls 8 [(6, .int 0), (5, .int 2), (4, .int 0), (3, .ref o), (2, .ref mm), (1, .ref h), (0, .ref b)] := hl
  refine lv_aload_n hx hb d_SeriesVaultLaw_law_825 rfl (lv_at hl 4 rfl) ?_
  have hPc := hP.sub (ws' := [(mm, .inr (9, ((ms.set 0 (.int 2)).set 0 (.int 2))))]) [20] rfl
  have hDc := hD.sub (ws' := [(mm, .inr (9, ((ms.set 0 (.int 2)).set 0 (.int 2))))]) [20] (by decide) rfl
  refine jnI (rnV (As := []) (rest := []) hx hb hml hown hE hK (hN _ _ hS) hPc hDc (c_M_thrown l D dA H.size mm ((ms.set 0 (.int 2)).set 0 (.int 2)) 2 (by simp [hl_ms]) (by simp [hl_ms])) (q0 := 0) rfl rfl w869 w868 w870 w871 w328 rfl rfl ⟨⟨by decide, by decide⟩, rfl⟩ ⟨(Nat.le_of_ble_eq_true rfl), (Nat.le_of_ble_eq_true rfl)⟩ rfl hl.1 rfl (Nat.le_of_ble_eq_true rfl) d_SeriesVaultLaw_law_826 ⟨(Nat.le_of_ble_eq_true rfl), (Nat.le_of_ble_eq_true rfl)⟩) hP hD hS hA [20] [0, 1, 2, 3, 4, 5, 6, 7, 8, 9, 10, 11, 12, 13, 14, 15, 16, 17, 18, 19] (wr := [(v0, .inl (dA 0, 256, .inl (fun _ => 0))), (v1, .inr (1, js)), (v2, .inr (2, hs)), (v5, .inr (3, ss)), (v7, .inr (4, rs)), (v8, .inr (5, qs)), (v35, .inr (6, als)), (v19, .inl (dA 4, 32, .inr (.inr (.inr (.inr (fun _ => none)))))), (v20, .inl (dA 1, 64, .inl (fun _ => 0))), (v21, .inl (dA 2, 64, .inr (.inl (fun _ => 0)))), (v22, .inl (dA 2, 64, .inr (.inl (fun _ => 0)))), (v23, .inl (dA 1, 64, .inl (fun _ => 0))), (v25, .inl (dA 4, 32, .inr (.inr (.inr (.inr (fun _ => none)))))), (v26, .inl (dA 1, 64, .inl (fun _ => 0))), (v27, .inl (dA 2, 64, .inr (.inl (fun _ => 0)))), (v28, .inl (dA 2, 64, .inr (.inl (fun _ => 0)))), (mv0, .inl (dA 0, 65536, .inl (fun _ => 0))), (h, .inr (0, fs)), (v4, .inr (3, ns)), (o, .inl (dA 2, 1, .inr (.inl (fun _ => 0))))]) rfl rfl (by decide) (by decide) (fun r3 u9 H locs hp9 hP hD hS => ?_)
  have hP : va_P D vwCl [(v0, .inl (dA 0, 256, .inl (fun _ => 0))), (v1, .inr (1, js)), (v2, .inr (2, hs)), (v5, .inr (3, ss)), (v7, .inr (4, rs)), (v8, .inr (5, qs)), (v35, .inr (6, als)), (v19, .inl (dA 4, 32, .inr (.inr (.inr (.inr (fun _ => none)))))), (v20, .inl (dA 1, 64, .inl (fun _ => 0))), (v21, .inl (dA 2, 64, .inr (.inl (fun _ => 0)))), (v22, .inl (dA 2, 64, .inr (.inl (fun _ => 0)))), (v23, .inl (dA 1, 64, .inl (fun _ => 0))), (v25, .inl (dA 4, 32, .inr (.inr (.inr (.inr (fun _ => none)))))), (v26, .inl (dA 1, 64, .inl (fun _ => 0))), (v27, .inl (dA 2, 64, .inr (.inl (fun _ => 0)))), (v28, .inl (dA 2, 64, .inr (.inl (fun _ => 0)))), (mv0, .inl (dA 0, 65536, .inl (fun _ => 0))), (h, .inr (0, fs)), (v4, .inr (3, ns)), (o, .inl (dA 2, 1, .inr (.inl (fun _ => 0)))), (mm, .inr (9, ((ms.set 0 (.int 2)).set 0 (.int 2))))] H := hP
  have hD : va_D A [(v0, .inl (dA 0, 256, .inl (fun _ => 0))), (v1, .inr (1, js)), (v2, .inr (2, hs)), (v5, .inr (3, ss)), (v7, .inr (4, rs)), (v8, .inr (5, qs)), (v35, .inr (6, als)), (v19, .inl (dA 4, 32, .inr (.inr (.inr (.inr (fun _ => none)))))), (v20, .inl (dA 1, 64, .inl (fun _ => 0))), (v21, .inl (dA 2, 64, .inr (.inl (fun _ => 0)))), (v22, .inl (dA 2, 64, .inr (.inl (fun _ => 0)))), (v23, .inl (dA 1, 64, .inl (fun _ => 0))), (v25, .inl (dA 4, 32, .inr (.inr (.inr (.inr (fun _ => none)))))), (v26, .inl (dA 1, 64, .inl (fun _ => 0))), (v27, .inl (dA 2, 64, .inr (.inl (fun _ => 0)))), (v28, .inl (dA 2, 64, .inr (.inl (fun _ => 0)))), (mv0, .inl (dA 0, 65536, .inl (fun _ => 0))), (h, .inr (0, fs)), (v4, .inr (3, ns)), (o, .inl (dA 2, 1, .inr (.inl (fun _ => 0)))), (mm, .inr (9, ((ms.set 0 (.int 2)).set 0 (.int 2))))] := hD
  have hp9 : 2 = r3 := Eq.symm hp9
  subst hp9
  refine lv_iload hx hb d_SeriesVaultLaw_law_829 (lv_at hl 1 rfl) ?_
  refine lv_icmp_eq hx hb d_SeriesVaultLaw_law_831 (tgt := 836) rfl (fun _ => ?_) (fun h9 => absurd (by decide) h9)
  refine lv_iload hx hb d_SeriesVaultLaw_law_836 (lv_at hl 1 rfl) ?_
  refine lv_if_ne hx hb d_SeriesVaultLaw_law_838 (tgt := 853) rfl (fun _ => ?_) (fun h9 => absurd h9 (by decide))
  refine lv_goto hx hb d_SeriesVaultLaw_law_853 (tgt := 1770) rfl ?_
  refine lv_iinc (k := 2) (v := 6) hx hb d_SeriesVaultLaw_law_1770 hl rfl (by decide) (by decide) rfl (fun ls hl => ?_)
  have hl : lv_has ls 8 [(4, .int 6), (6, .int 0), (5, .int 2), (3, .ref o), (2, .ref mm), (1, .ref h), (0, .ref b)] := hl
  refine lv_goto hx hb d_SeriesVaultLaw_law_1773 (tgt := 23) rfl ?_
  refine lv_iload hx hb d_SeriesVaultLaw_law_23 (lv_at hl 0 rfl) ?_
  refine lv_aload_n hx hb d_SeriesVaultLaw_law_25 rfl (lv_at hl 6 rfl) ?_
  refine va_slen hx hb hX hbl hbA hS d_SeriesVaultLaw_law_26 ?_
  refine tpi (y := 6) (by decide) ?_
  refine lv_bipush (v := 6) hx hb d_SeriesVaultLaw_law_27 (by decide) ?_
  refine lv_isub hx hb d_SeriesVaultLaw_law_29 (tpi (y := 0) (by decide) ?_)
  refine lv_icmp_gt hx hb d_SeriesVaultLaw_law_30 (tgt := 1776) rfl (fun _ => ?_) (fun h9 => absurd (by decide) h9)
  refine lv_iconst (v := 1) hx hb d_SeriesVaultLaw_law_1776 (by decide) ?_
  exact lw_fin hC0 hS (Nat.le_of_ble_eq_true rfl) (Nat.le_of_ble_eq_true rfl) d_SeriesVaultLaw_law_1777
