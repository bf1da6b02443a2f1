theorem d_SeriesVaultLaw_law_856 : decode code 856 = .ok (.aload_n 1, 1) := by decide +kernel
theorem d_SeriesVaultLaw_law_857 : decode code 857 = .ok (.aload_n 3, 1) := by decide +kernel
theorem d_SeriesVaultLaw_law_858 : decode code 858 = .ok (.invokestatic 145, 3) := by decide +kernel
theorem d_SeriesVaultLaw_law_861 : decode code 861 = .ok (.istore 5, 2) := by decide +kernel
theorem d_SeriesVaultLaw_law_863 : decode code 863 = .ok (.aload_n 2, 1) := by decide +kernel
theorem d_SeriesVaultLaw_law_864 : decode code 864 = .ok (.invokevirtual 147, 3) := by decide +kernel
theorem d_SeriesVaultLaw_law_867 : decode code 867 = .ok (.istore 6, 2) := by decide +kernel
theorem d_SeriesVaultLaw_law_869 : decode code 869 = .ok (.aload_n 2, 1) := by decide +kernel
theorem d_SeriesVaultLaw_law_870 : decode code 870 = .ok (.invokevirtual 110, 3) := by decide +kernel
theorem d_SeriesVaultLaw_law_873 : decode code 873 = .ok (.iload 5, 2) := by decide +kernel
theorem d_SeriesVaultLaw_law_875 : decode code 875 = .ok (.if_icmp .eq 5, 3) := by decide +kernel
theorem d_SeriesVaultLaw_law_880 : decode code 880 = .ok (.iload 5, 2) := by decide +kernel
theorem d_SeriesVaultLaw_law_882 : decode code 882 = .ok (.ifCond .ne 22, 3) := by decide +kernel
theorem d_SeriesVaultLaw_law_885 : decode code 885 = .ok (.aload_n 3, 1) := by decide +kernel
theorem d_SeriesVaultLaw_law_886 : decode code 886 = .ok (.iconst 0, 1) := by decide +kernel
theorem d_SeriesVaultLaw_law_887 : decode code 887 = .ok (.laload, 1) := by decide +kernel
theorem d_SeriesVaultLaw_law_888 : decode code 888 = .ok (.iload 6, 2) := by decide +kernel
theorem d_SeriesVaultLaw_law_890 : decode code 890 = .ok (.ifCond .eq 7, 3) := by decide +kernel
theorem d_SeriesVaultLaw_law_897 : decode code 897 = .ok (.lconst 0, 1) := by decide +kernel
theorem d_SeriesVaultLaw_law_898 : decode code 898 = .ok (.lcmp, 1) := by decide +kernel
theorem d_SeriesVaultLaw_law_899 : decode code 899 = .ok (.ifCond .eq 5, 3) := by decide +kernel
theorem d_SeriesVaultLaw_law_904 : decode code 904 = .ok (.goto 866, 3) := by decide +kernel
theorem w929 : Cond.methodLink "SeriesVaultLaw" 145 ⟨"SeriesVaultLaw", "sync", "(LSeriesVault;[J)I"⟩ ∈ aW := aw_of (tb_5 (List.mem_of_getElem? (i := 223) rfl)) rfl
theorem w930 : Cond.codeWith ⟨"SeriesVaultLaw", "sync", "(LSeriesVault;[J)I"⟩ method_12_code 3 (some FieldType.int) [(0, 15, 18, 29)] ∈ aW := aw_of (tb_5 (List.mem_of_getElem? (i := 225) rfl)) rfl
theorem w931 : Cond.static ⟨"SeriesVaultLaw", "sync", "(LSeriesVault;[J)I"⟩ ∈ aW := aw_of (tb_5 (List.mem_of_getElem? (i := 224) rfl)) rfl
theorem w932 : Cond.methodLink "SeriesVaultLaw" 147 ⟨"SeriesVaultModel", "sync", "()Z"⟩ ∈ aW := aw_of (tb_10 (List.mem_of_getElem? (i := 64) rfl)) rfl
theorem w933 : Cond.code ⟨"SeriesVaultModel", "sync", "()Z"⟩ prog_14_method_43_code 2 (some FieldType.boolean) ∈ aW := aw_of (tb_10 (List.mem_of_getElem? (i := 67) rfl)) rfl
theorem w934 : Cond.instanceMethod ⟨"SeriesVaultModel", "sync", "()Z"⟩ ∈ aW := aw_of (tb_10 (List.mem_of_getElem? (i := 65) rfl)) rfl
theorem w935 : Cond.selects "SeriesVaultModel" ⟨"SeriesVaultModel", "sync", "()Z"⟩ ⟨"SeriesVaultModel", "sync", "()Z"⟩ ∈ aW := aw_of (tb_10 (List.mem_of_getElem? (i := 66) rfl)) rfl
set_option maxHeartbeats 4000000 in
set_option maxRecDepth 100000 in
theorem law_9 {p : Program} {e : Env} {s : State} {m : MethodId} {below : List Frame} {meth : Method} {c : Code} (l : Launch) {b : Nat} {xs : Nat → Int32} {D : va_G} {dA : Nat → ClassId} {e0 : Nat} {A : Nat → Prop} {H : Heap} {locs : List Loc} {ls : Array Slot} (hC : lS p l s m meth c b 6 xs D dA e0 A) (h : Nat) (v0 : Nat) (v1 : Nat) (v2 : Nat) (v4 : Nat) (v5 : Nat) (v7 : Nat) (v8 : Nat) (v19 : Nat) (v20 : Nat) (v21 : Nat) (v22 : Nat) (v23 : Nat) (v25 : Nat) (v26 : Nat) (v27 : Nat) (v28 : Nat) (v35 : Nat) (mm : Nat) (mv0 : Nat) (o : Nat) (fs : List Value) (js : List Value) (hs : List Value) (ns : List Value) (ss : List Value) (rs : List Value) (qs : List Value) (als : List Value) (ms : List Value) (h_fs_powered : fs[5]? = some (.int 1)) (h_fs_journal : fs[8]? = some (.ref v1)) (hl_fs : fs.length = 18) (h_js_changed : js[12]? = some (.int 0)) (hl_js : js.length = 13) (hl_hs : hs.length = 4) (hl_ns : ns.length = 11) (hl_ss : ss.length = 11) (hl_rs : rs.length = 6) (hl_qs : qs.length = 9) (hl_als : als.length = 3) (h_ms_on : ms[7]? = some (.int 1)) (h_ms_records : ms[37]? = some (.int 0)) (h_ms_fresh : ms[41]? = some (.int 0)) (hl_ms : ms.length = 79) (hP : va_P D vwCl [(h, .inr (0, fs)), (v0, .inl (dA 0, 256, .inl (fun _ => 0))), (v1, .inr (1, js)), (v2, .inr (2, hs)), (v4, .inr (3, ns)), (v5, .inr (3, ss)), (v7, .inr (4, rs)), (v8, .inr (5, qs)), (v35, .inr (6, als)), (v19, .inl (dA 4, 32, .inr (.inr (.inr (.inr (fun _ => none)))))), (v20, .inl (dA 1, 64, .inl (fun _ => 0))), (v21, .inl (dA 2, 64, .inr (.inl (fun _ => 0)))), (v22, .inl (dA 2, 64, .inr (.inl (fun _ => 0)))), (v23, .inl (dA 1, 64, .inl (fun _ => 0))), (v25, .inl (dA 4, 32, .inr (.inr (.inr (.inr (fun _ => none)))))), (v26, .inl (dA 1, 64, .inl (fun _ => 0))), (v27, .inl (dA 2, 64, .inr (.inl (fun _ => 0)))), (v28, .inl (dA 2, 64, .inr (.inl (fun _ => 0)))), (mm, .inr (9, ms)), (mv0, .inl (dA 0, 65536, .inl (fun _ => 0))), (o, .inl (dA 2, 1, .inr (.inl (fun _ => 0))))] H) (hD : va_D A [(h, .inr (0, fs)), (v0, .inl (dA 0, 256, .inl (fun _ => 0))), (v1, .inr (1, js)), (v2, .inr (2, hs)), (v4, .inr (3, ns)), (v5, .inr (3, ss)), (v7, .inr (4, rs)), (v8, .inr (5, qs)), (v35, .inr (6, als)), (v19, .inl (dA 4, 32, .inr (.inr (.inr (.inr (fun _ => none)))))), (v20, .inl (dA 1, 64, .inl (fun _ => 0))), (v21, .inl (dA 2, 64, .inr (.inl (fun _ => 0)))), (v22, .inl (dA 2, 64, .inr (.inl (fun _ => 0)))), (v23, .inl (dA 1, 64, .inl (fun _ => 0))), (v25, .inl (dA 4, 32, .inr (.inr (.inr (.inr (fun _ => none)))))), (v26, .inl (dA 1, 64, .inl (fun _ => 0))), (v27, .inl (dA 2, 64, .inr (.inl (fun _ => 0)))), (v28, .inl (dA 2, 64, .inr (.inl (fun _ => 0)))), (mm, .inr (9, ms)), (mv0, .inl (dA 0, 65536, .inl (fun _ => 0))), (o, .inl (dA 2, 1, .inr (.inl (fun _ => 0))))]) (hS : va_S A s.heap H locs) (hl : lv_has ls 8 [(4, .int 0), (3, .ref o), (2, .ref mm), (1, .ref h), (0, .ref b)]) : W p l e room_1 s m #[Value.ref b] below meth c H locs 92 1177737 (lw_Z below #[Value.ref b] s) (F0 m 856 ls []) := by
  have hC0 := hC
  obtain ⟨hx, hb, hr, hml, hown, hlk, hE, hK, hA, hN, hZ, hT, hX, hbl, hbA, hnew, htr⟩ := hC
  refine lv_aload_n hx hb d_SeriesVaultLaw_law_856 rfl (lv_at hl 3 rfl) ?_
  refine lv_aload_n hx hb d_SeriesVaultLaw_law_857 rfl (lv_at hl 1 rfl) ?_
  have hPc := hP.sub (ws' := [(h, .inr (0, fs)), (v1, .inr (1, js)), (o, .inl (dA 2, 1, .inr (.inl (fun _ => 0))))]) [0, 2, 20] rfl
  have hDc := hD.sub (ws' := [(h, .inr (0, fs)), (v1, .inr (1, js)), (o, .inl (dA 2, 1, .inr (.inl (fun _ => 0))))]) [0, 2, 20] (by decide) rfl
  refine jnI (rnW (As := [.ref h, .ref o]) (rest := []) hx hb hml hown hE hK (hN _ _ hS) hPc hDc (c_K_sync_0 l htr D dA H.size h fs v1 js o (fun _ => 0) h_fs_powered h_fs_journal hl_fs h_js_changed hl_js) w930 w929 w931 w861 rfl rfl ⟨⟨by decide, by decide⟩, rfl⟩ ⟨(Nat.le_of_ble_eq_true rfl), (Nat.le_of_ble_eq_true rfl)⟩ rfl hl.1 rfl (Nat.le_of_ble_eq_true rfl) d_SeriesVaultLaw_law_858 ⟨(Nat.le_of_ble_eq_true rfl), (Nat.le_of_ble_eq_true rfl)⟩) hP hD hS hA [0, 2, 20] [1, 3, 4, 5, 6, 7, 8, 9, 10, 11, 12, 13, 14, 15, 16, 17, 18, 19] (wr := [(v0, .inl (dA 0, 256, .inl (fun _ => 0))), (v2, .inr (2, hs)), (v4, .inr (3, ns)), (v5, .inr (3, ss)), (v7, .inr (4, rs)), (v8, .inr (5, qs)), (v35, .inr (6, als)), (v19, .inl (dA 4, 32, .inr (.inr (.inr (.inr (fun _ => none)))))), (v20, .inl (dA 1, 64, .inl (fun _ => 0))), (v21, .inl (dA 2, 64, .inr (.inl (fun _ => 0)))), (v22, .inl (dA 2, 64, .inr (.inl (fun _ => 0)))), (v23, .inl (dA 1, 64, .inl (fun _ => 0))), (v25, .inl (dA 4, 32, .inr (.inr (.inr (.inr (fun _ => none)))))), (v26, .inl (dA 1, 64, .inl (fun _ => 0))), (v27, .inl (dA 2, 64, .inr (.inl (fun _ => 0)))), (v28, .inl (dA 2, 64, .inr (.inl (fun _ => 0)))), (mm, .inr (9, ms)), (mv0, .inl (dA 0, 65536, .inl (fun _ => 0)))]) rfl rfl (by decide) (by decide) (fun r1 u9 H locs hp9 hP hD hS => ?_)
  have hP : va_P D vwCl [(v0, .inl (dA 0, 256, .inl (fun _ => 0))), (v2, .inr (2, hs)), (v4, .inr (3, ns)), (v5, .inr (3, ss)), (v7, .inr (4, rs)), (v8, .inr (5, qs)), (v35, .inr (6, als)), (v19, .inl (dA 4, 32, .inr (.inr (.inr (.inr (fun _ => none)))))), (v20, .inl (dA 1, 64, .inl (fun _ => 0))), (v21, .inl (dA 2, 64, .inr (.inl (fun _ => 0)))), (v22, .inl (dA 2, 64, .inr (.inl (fun _ => 0)))), (v23, .inl (dA 1, 64, .inl (fun _ => 0))), (v25, .inl (dA 4, 32, .inr (.inr (.inr (.inr (fun _ => none)))))), (v26, .inl (dA 1, 64, .inl (fun _ => 0))), (v27, .inl (dA 2, 64, .inr (.inl (fun _ => 0)))), (v28, .inl (dA 2, 64, .inr (.inl (fun _ => 0)))), (mm, .inr (9, ms)), (mv0, .inl (dA 0, 65536, .inl (fun _ => 0))), (h, .inr (0, fs)), (v1, .inr (1, js)), (o, .inl (dA 2, 1, .inr (.inl (vp_updL (fun _ => 0) 0 0))))] H := hP
  have hD : va_D A [(v0, .inl (dA 0, 256, .inl (fun _ => 0))), (v2, .inr (2, hs)), (v4, .inr (3, ns)), (v5, .inr (3, ss)), (v7, .inr (4, rs)), (v8, .inr (5, qs)), (v35, .inr (6, als)), (v19, .inl (dA 4, 32, .inr (.inr (.inr (.inr (fun _ => none)))))), (v20, .inl (dA 1, 64, .inl (fun _ => 0))), (v21, .inl (dA 2, 64, .inr (.inl (fun _ => 0)))), (v22, .inl (dA 2, 64, .inr (.inl (fun _ => 0)))), (v23, .inl (dA 1, 64, .inl (fun _ => 0))), (v25, .inl (dA 4, 32, .inr (.inr (.inr (.inr (fun _ => none)))))), (v26, .inl (dA 1, 64, .inl (fun _ => 0))), (v27, .inl (dA 2, 64, .inr (.inl (fun _ => 0)))), (v28, .inl (dA 2, 64, .inr (.inl (fun _ => 0)))), (mm, .inr (9, ms)), (mv0, .inl (dA 0, 65536, .inl (fun _ => 0))), (h, .inr (0, fs)), (v1, .inr (1, js)), (o, .inl (dA 2, 1, .inr (.inl (vp_updL (fun _ => 0) 0 0))))] := hD
  have hp9 : 0 = r1 := Eq.symm hp9
  subst hp9
  refine lv_istore hx hb d_SeriesVaultLaw_law_861 hl (by decide) rfl (fun ls hl => ?_)
  have hl : lv_has ls 8 [(5, .int 0), (4, .int 0), (3, .ref o), (2, .ref mm), (1, .ref h), (0, .ref b)] := hl
  refine lv_aload_n hx hb d_SeriesVaultLaw_law_863 rfl (lv_at hl 3 rfl) ?_
  have hPc := hP.sub (ws' := [(mm, .inr (9, ms))]) [16] rfl
  have hDc := hD.sub (ws' := [(mm, .inr (9, ms))]) [16] (by decide) rfl
  refine jnI (rnV (As := []) (rest := []) hx hb hml hown hE hK (hN _ _ hS) hPc hDc (c_M_sync_0 l D dA H.size mm ms h_ms_on h_ms_records h_ms_fresh hl_ms) (q0 := 0) rfl rfl w933 w932 w934 w935 w328 rfl rfl ⟨⟨by decide, by decide⟩, rfl⟩ ⟨(Nat.le_of_ble_eq_true rfl), (Nat.le_of_ble_eq_true rfl)⟩ rfl hl.1 rfl (Nat.le_of_ble_eq_true rfl) d_SeriesVaultLaw_law_864 ⟨(Nat.le_of_ble_eq_true rfl), (Nat.le_of_ble_eq_true rfl)⟩) hP hD hS hA [16] [0, 1, 2, 3, 4, 5, 6, 7, 8, 9, 10, 11, 12, 13, 14, 15, 17, 18, 19, 20] (wr := [(v0, .inl (dA 0, 256, .inl (fun _ => 0))), (v2, .inr (2, hs)), (v4, .inr (3, ns)), (v5, .inr (3, ss)), (v7, .inr (4, rs)), (v8, .inr (5, qs)), (v35, .inr (6, als)), (v19, .inl (dA 4, 32, .inr (.inr (.inr (.inr (fun _ => none)))))), (v20, .inl (dA 1, 64, .inl (fun _ => 0))), (v21, .inl (dA 2, 64, .inr (.inl (fun _ => 0)))), (v22, .inl (dA 2, 64, .inr (.inl (fun _ => 0)))), (v23, .inl (dA 1, 64, .inl (fun _ => 0))), (v25, .inl (dA 4, 32, .inr (.inr (.inr (.inr (fun _ => none)))))), (v26, .inl (dA 1, 64, .inl (fun _ => 0))), (v27, .inl (dA 2, 64, .inr (.inl (fun _ => 0)))), (v28, .inl (dA 2, 64, .inr (.inl (fun _ => 0)))), (mv0, .inl (dA 0, 65536, .inl (fun _ => 0))), (h, .inr (0, fs)), (v1, .inr (1, js)), (o, .inl (dA 2, 1, .inr (.inl (vp_updL (fun _ => 0) 0 0))))]) rfl rfl (by decide) (by decide) (fun r2 u9 H locs hp9 hP hD hS => ?_)
  have hP : va_P D vwCl [(v0, .inl (dA 0, 256, .inl (fun _ => 0))), (v2, .inr (2, hs)), (v4, .inr (3, ns)), (v5, .inr (3, ss)), (v7, .inr (4, rs)), (v8, .inr (5, qs)), (v35, .inr (6, als)), (v19, .inl (dA 4, 32, .inr (.inr (.inr (.inr (fun _ => none)))))), (v20, .inl (dA 1, 64, .inl (fun _ => 0))), (v21, .inl (dA 2, 64, .inr (.inl (fun _ => 0)))), (v22, .inl (dA 2, 64, .inr (.inl (fun _ => 0)))), (v23, .inl (dA 1, 64, .inl (fun _ => 0))), (v25, .inl (dA 4, 32, .inr (.inr (.inr (.inr (fun _ => none)))))), (v26, .inl (dA 1, 64, .inl (fun _ => 0))), (v27, .inl (dA 2, 64, .inr (.inl (fun _ => 0)))), (v28, .inl (dA 2, 64, .inr (.inl (fun _ => 0)))), (mv0, .inl (dA 0, 65536, .inl (fun _ => 0))), (h, .inr (0, fs)), (v1, .inr (1, js)), (o, .inl (dA 2, 1, .inr (.inl (vp_updL (fun _ => 0) 0 0)))), (mm, .inr (9, ((((ms.set 0 (.int 0)).set 41 (.int 0)).set 38 (.int 0)).set 0 (.int 0))))] H := hP
  have hD : va_D A [(v0, .inl (dA 0, 256, .inl (fun _ => 0))), (v2, .inr (2, hs)), (v4, .inr (3, ns)), (v5, .inr (3, ss)), (v7, .inr (4, rs)), (v8, .inr (5, qs)), (v35, .inr (6, als)), (v19, .inl (dA 4, 32, .inr (.inr (.inr (.inr (fun _ => none)))))), (v20, .inl (dA 1, 64, .inl (fun _ => 0))), (v21, .inl (dA 2, 64, .inr (.inl (fun _ => 0)))), (v22, .inl (dA 2, 64, .inr (.inl (fun _ => 0)))), (v23, .inl (dA 1, 64, .inl (fun _ => 0))), (v25, .inl (dA 4, 32, .inr (.inr (.inr (.inr (fun _ => none)))))), (v26, .inl (dA 1, 64, .inl (fun _ => 0))), (v27, .inl (dA 2, 64, .inr (.inl (fun _ => 0)))), (v28, .inl (dA 2, 64, .inr (.inl (fun _ => 0)))), (mv0, .inl (dA 0, 65536, .inl (fun _ => 0))), (h, .inr (0, fs)), (v1, .inr (1, js)), (o, .inl (dA 2, 1, .inr (.inl (vp_updL (fun _ => 0) 0 0)))), (mm, .inr (9, ((((ms.set 0 (.int 0)).set 41 (.int 0)).set 38 (.int 0)).set 0 (.int 0))))] := hD
  have hp9 : 0 = r2 := Eq.symm hp9
  subst hp9
  refine lv_istore hx hb d_SeriesVaultLaw_law_867 hl (by decide) rfl (fun ls hl => ?_)
  have hl : lv_has ls 8 [(6, .int 0), (5, .int 0), (4, .int 0), (3, .ref o), (2, .ref mm), (1, .ref h), (0, .ref b)] := hl
  refine lv_aload_n hx hb d_SeriesVaultLaw_law_869 rfl (lv_at hl 4 rfl) ?_
  have hPc := hP.sub (ws' := [(mm, .inr (9, ((((ms.set 0 (.int 0)).set 41 (.int 0)).set 38 (.int 0)).set 0 (.int 0))))]) [20] rfl
  have hDc := hD.sub (ws' := [(mm, .inr (9, ((((ms.set 0 (.int 0)).set 41 (.int 0)).set 38 (.int 0)).set 0 (.int 0))))]) [20] (by decide) rfl
  refine jnI (rnV (As := []) (rest := []) hx hb hml hown hE hK (hN _ _ hS) hPc hDc (c_M_thrown l D dA H.size mm ((((ms.set 0 (.int 0)).set 41 (.int 0)).set 38 (.int 0)).set 0 (.int 0)) 0 (by simp [hl_ms]) (by simp [hl_ms])) (q0 := 0) rfl rfl w869 w868 w870 w871 w328 rfl rfl ⟨⟨by decide, by decide⟩, rfl⟩ ⟨(Nat.le_of_ble_eq_true rfl), (Nat.le_of_ble_eq_true rfl)⟩ rfl hl.1 rfl (Nat.le_of_ble_eq_true rfl) d_SeriesVaultLaw_law_870 ⟨(Nat.le_of_ble_eq_true rfl), (Nat.le_of_ble_eq_true rfl)⟩) hP hD hS hA [20] [0, 1, 2, 3, 4, 5, 6, 7, 8, 9, 10, 11, 12, 13, 14, 15, 16, 17, 18, 19] (wr := [(v0, .inl (dA 0, 256, .inl (fun _ => 0))), (v2, .inr (2, hs)), (v4, .inr (3, ns)), (v5, .inr (3, ss)), (v7, .inr (4, rs)), (v8, .inr (5, qs)), (v35, .inr (6, als)), (v19, .inl (dA 4, 32, .inr (.inr (.inr (.inr (fun _ => none)))))), (v20, .inl (dA 1, 64, .inl (fun _ => 0))), (v21, .inl (dA 2, 64, .inr (.inl (fun _ => 0)))), (v22, .inl (dA 2, 64, .inr (.inl (fun _ => 0)))), (v23, .inl (dA 1, 64, .inl (fun _ => 0))), (v25, .inl (dA 4, 32, .inr (.inr (.inr (.inr (fun _ => none)))))), (v26, .inl (dA 1, 64, .inl (fun _ => 0))), (v27, .inl (dA 2, 64, .inr (.inl (fun _ => 0)))), (v28, .inl (dA 2, 64, .inr (.inl (fun _ => 0)))), (mv0, .inl (dA 0, 65536, .inl (fun _ => 0))), (h, .inr (0, fs)), (v1, .inr (1, js)), (o, .inl (dA 2, 1, .inr (.inl (vp_updL (fun _ => 0) 0 0))))]) rfl rfl (by decide) (by decide) (fun r3 u9 H locs hp9 hP hD hS => ?_)
  have hP : va_P D vwCl [(v0, .inl (dA 0, 256, .inl (fun _ => 0))), (v2, .inr (2, hs)), (v4, .inr (3, ns)), (v5, .inr (3, ss)), (v7, .inr (4, rs)), (v8, .inr (5, qs)), (v35, .inr (6, als)), (v19, .inl (dA 4, 32, .inr (.inr (.inr (.inr (fun _ => none)))))), (v20, .inl (dA 1, 64, .inl (fun _ => 0))), (v21, .inl (dA 2, 64, .inr (.inl (fun _ => 0)))), (v22, .inl (dA 2, 64, .inr (.inl (fun _ => 0)))), (v23, .inl (dA 1, 64, .inl (fun _ => 0))), (v25, .inl (dA 4, 32, .inr (.inr (.inr (.inr (fun _ => none)))))), (v26, .inl (dA 1, 64, .inl (fun _ => 0))), (v27, .inl (dA 2, 64, .inr (.inl (fun _ => 0)))), (v28, .inl (dA 2, 64, .inr (.inl (fun _ => 0)))), (mv0, .inl (dA 0, 65536, .inl (fun _ => 0))), (h, .inr (0, fs)), (v1, .inr (1, js)), (o, .inl (dA 2, 1, .inr (.inl (vp_updL (fun _ => 0) 0 0)))), (mm, .inr (9, ((((ms.set 0 (.int 0)).set 41 (.int 0)).set 38 (.int 0)).set 0 (.int 0))))] H := hP
  have hD : va_D A [(v0, .inl (dA 0, 256, .inl (fun _ => 0))), (v2, .inr (2, hs)), (v4, .inr (3, ns)), (v5, .inr (3, ss)), (v7, .inr (4, rs)), (v8, .inr (5, qs)), (v35, .inr (6, als)), (v19, .inl (dA 4, 32, .inr (.inr (.inr (.inr (fun _ => none)))))), (v20, .inl (dA 1, 64, .inl (fun _ => 0))), (v21, .inl (dA 2, 64, .inr (.inl (fun _ => 0)))), (v22, .inl (dA 2, 64, .inr (.inl (fun _ => 0)))), (v23, .inl (dA 1, 64, .inl (fun _ => 0))), (v25, .inl (dA 4, 32, .inr (.inr (.inr (.inr (fun _ => none)))))), (v26, .inl (dA 1, 64, .inl (fun _ => 0))), (v27, .inl (dA 2, 64, .inr (.inl (fun _ => 0)))), (v28, .inl (dA 2, 64, .inr (.inl (fun _ => 0)))), (mv0, .inl (dA 0, 65536, .inl (fun _ => 0))), (h, .inr (0, fs)), (v1, .inr (1, js)), (o, .inl (dA 2, 1, .inr (.inl (vp_updL (fun _ => 0) 0 0)))), (mm, .inr (9, ((((ms.set 0 (.int 0)).set 41 (.int 0)).set 38 (.int 0)).set 0 (.int 0))))] := hD
  have hp9 : 0 = r3 := Eq.symm hp9
  subst hp9
  refine lv_iload hx hb d_SeriesVaultLaw_law_873 (lv_at hl 1 rfl) ?_
  refine lv_icmp_eq hx hb d_SeriesVaultLaw_law_875 (tgt := 880) rfl (fun _ => ?_) (fun h9 => absurd (by decide) h9)
  refine lv_iload hx hb d_SeriesVaultLaw_law_880 (lv_at hl 1 rfl) ?_
  refine lv_if_ne hx hb d_SeriesVaultLaw_law_882 (tgt := 904) rfl (fun h9 => absurd (by decide) h9) (fun _ => ?_)
  refine lv_aload_n hx hb d_SeriesVaultLaw_law_885 rfl (lv_at hl 3 rfl) ?_
  refine lv_iconst (v := 0) hx hb d_SeriesVaultLaw_law_886 (by decide) ?_
  refine va_lald hx hb hK hP 19 2 rfl rfl (by unfold vp_in; decide) d_SeriesVaultLaw_law_887 ?_
  refine tpl (y := 0) (by rfl) ?_
  refine lv_iload hx hb d_SeriesVaultLaw_law_888 (lv_at hl 0 rfl) ?_
  refine lv_if_eq hx hb d_SeriesVaultLaw_law_890 (tgt := 897) rfl (fun _ => ?_) (fun h9 => absurd (by decide) h9)
  refine lv_lconst (v := 0) hx hb d_SeriesVaultLaw_law_897 (by decide) ?_
  refine W.lcmp hx hb d_SeriesVaultLaw_law_898 (tpi (y := 0) (by decide) ?_)
  refine lv_if_eq hx hb d_SeriesVaultLaw_law_899 (tgt := 904) rfl (fun _ => ?_) (fun h9 => absurd (by decide) h9)
  refine lv_goto hx hb d_SeriesVaultLaw_law_904 (tgt := 1770) rfl ?_
  refine lv_iinc (k := 2) (v := 6) hx hb d_SeriesVaultLaw_law_1770 hl rfl (by decide) (by decide) rfl (fun ls hl => ?_)
  have hl : lv_has ls 8 [(4, .int 6), (6, .int 0), (5, .int 0), (3, .ref o), (2, .ref mm), (1, .ref h), (0, .ref b)] := hl
  refine lv_goto hx hb d_SeriesVaultLaw_law_1773 (tgt := 23) rfl ?_
  refine lv_iload hx hb d_SeriesVaultLaw_law_23 (lv_at hl 0 rfl) ?_
  refine lv_aload_n hx hb d_SeriesVaultLaw_law_25 rfl (lv_at hl 6 rfl) ?_
  refine va_slen hx hb hX hbl hbA hS d_SeriesVaultLaw_law_26 ?_
  refine tpi (y := 6) (by decide) ?_
  refine lv_bipush (v := 6) hx hb d_SeriesVaultLaw_law_27 (by decide) ?_
  refine lv_isub hx hb d_SeriesVaultLaw_law_29 (tpi (y := 0) (by decide) ?_)
  refine lv_icmp_gt hx hb d_SeriesVaultLaw_law_30 (tgt := 1776) rfl (fun _ => ?_) (fun h9 => absurd (by decide) h9)
  refine lv_iconst (v := 1) hx hb d_SeriesVaultLaw_law_1776 (by decide) ?_
  exact lw_fin hC0 hS (Nat.le_of_ble_eq_true rfl) (Nat.le_of_ble_eq_true rfl) d_SeriesVaultLaw_law_1777
theorem d_SeriesVaultLaw_law_907 : decode code 907 = .ok (.aload_n 1, 1) := by decide +kernel
theorem d_SeriesVaultLaw_law_908 : decode code 908 = .ok (.aload_n 3, 1) := by decide +kernel
theorem d_SeriesVaultLaw_law_909 : decode code 909 = .ok (.invokestatic 148, 3) := by decide +kernel
theorem d_SeriesVaultLaw_law_912 : decode code 912 = .ok (.istore 5, 2) := by decide +kernel
theorem d_SeriesVaultLaw_law_914 : decode code 914 = .ok (.aload_n 2, 1) := by decide +kernel
theorem d_SeriesVaultLaw_law_915 : decode code 915 = .ok (.invokevirtual 150, 3) := by decide +kernel
theorem d_SeriesVaultLaw_law_918 : decode code 918 = .ok (.istore 6, 2) := by decide +kernel
theorem d_SeriesVaultLaw_law_920 : decode code 920 = .ok (.aload_n 2, 1) := by decide +kernel
theorem d_SeriesVaultLaw_law_921 : decode code 921 = .ok (.invokevirtual 110, 3) := by decide +kernel
theorem d_SeriesVaultLaw_law_924 : decode code 924 = .ok (.iload 5, 2) := by decide +kernel
theorem d_SeriesVaultLaw_law_926 : decode code 926 = .ok (.if_icmp .eq 5, 3) := by decide +kernel
theorem d_SeriesVaultLaw_law_931 : decode code 931 = .ok (.iload 5, 2) := by decide +kernel
theorem d_SeriesVaultLaw_law_933 : decode code 933 = .ok (.ifCond .ne 15, 3) := by decide +kernel
theorem d_SeriesVaultLaw_law_936 : decode code 936 = .ok (.aload_n 3, 1) := by decide +kernel
theorem d_SeriesVaultLaw_law_937 : decode code 937 = .ok (.iconst 0, 1) := by decide +kernel
theorem d_SeriesVaultLaw_law_938 : decode code 938 = .ok (.laload, 1) := by decide +kernel
theorem d_SeriesVaultLaw_law_939 : decode code 939 = .ok (.iload 6, 2) := by decide +kernel
theorem d_SeriesVaultLaw_law_941 : decode code 941 = .ok (.i2l, 1) := by decide +kernel
theorem d_SeriesVaultLaw_law_942 : decode code 942 = .ok (.lcmp, 1) := by decide +kernel
theorem d_SeriesVaultLaw_law_943 : decode code 943 = .ok (.ifCond .eq 5, 3) := by decide +kernel
theorem d_SeriesVaultLaw_law_948 : decode code 948 = .ok (.goto 822, 3) := by decide +kernel
theorem w936 : Cond.methodLink "SeriesVaultLaw" 148 ⟨"SeriesVaultLaw", "flush", "(LSeriesVault;[J)I"⟩ ∈ aW := aw_of (tb_5 (List.mem_of_getElem? (i := 230) rfl)) rfl
theorem w937 : Cond.codeWith ⟨"SeriesVaultLaw", "flush", "(LSeriesVault;[J)I"⟩ method_13_code 3 (some FieldType.int) [(0, 8, 11, 29), (0, 8, 14, 13)] ∈ aW := aw_of (tb_5 (List.mem_of_getElem? (i := 232) rfl)) rfl
theorem w938 : Cond.static ⟨"SeriesVaultLaw", "flush", "(LSeriesVault;[J)I"⟩ ∈ aW := aw_of (tb_5 (List.mem_of_getElem? (i := 231) rfl)) rfl
theorem w939 : Cond.methodLink "SeriesVaultLaw" 150 ⟨"SeriesVaultModel", "flush", "()I"⟩ ∈ aW := aw_of (tb_10 (List.mem_of_getElem? (i := 68) rfl)) rfl
theorem w940 : Cond.code ⟨"SeriesVaultModel", "flush", "()I"⟩ prog_14_method_44_code 5 (some FieldType.int) ∈ aW := aw_of (tb_10 (List.mem_of_getElem? (i := 71) rfl)) rfl
theorem w941 : Cond.instanceMethod ⟨"SeriesVaultModel", "flush", "()I"⟩ ∈ aW := aw_of (tb_10 (List.mem_of_getElem? (i := 69) rfl)) rfl
theorem w942 : Cond.selects "SeriesVaultModel" ⟨"SeriesVaultModel", "flush", "()I"⟩ ⟨"SeriesVaultModel", "flush", "()I"⟩ ∈ aW := aw_of (tb_10 (List.mem_of_getElem? (i := 70) rfl)) rfl
set_option maxHeartbeats 4000000 in
set_option maxRecDepth 100000 in
theorem law_10 {p : Program} {e : Env} {s : State} {m : MethodId} {below : List Frame} {meth : Method} {c : Code} (l : Launch) {b : Nat} {xs : Nat → Int32} {D : va_G} {dA : Nat → ClassId} {e0 : Nat} {A : Nat → Prop} {H : Heap} {locs : List Loc} {ls : Array Slot} (hC : lS p l s m meth c b 6 xs D dA e0 A) (h : Nat) (v0 : Nat) (v1 : Nat) (v2 : Nat) (v4 : Nat) (v5 : Nat) (v7 : Nat) (v8 : Nat) (v19 : Nat) (v20 : Nat) (v21 : Nat) (v22 : Nat) (v23 : Nat) (v25 : Nat) (v26 : Nat) (v27 : Nat) (v28 : Nat) (v35 : Nat) (mm : Nat) (mv0 : Nat) (o : Nat) (fs : List Value) (js : List Value) (hs : List Value) (ns : List Value) (ss : List Value) (rs : List Value) (qs : List Value) (als : List Value) (ms : List Value) (h_fs_powered : fs[5]? = some (.int 1)) (h_fs_journal : fs[8]? = some (.ref v1)) (hl_fs : fs.length = 18) (h_js_size : js[6]? = some (.int 0)) (hl_js : js.length = 13) (hl_hs : hs.length = 4) (hl_ns : ns.length = 11) (hl_ss : ss.length = 11) (hl_rs : rs.length = 6) (hl_qs : qs.length = 9) (hl_als : als.length = 3) (h_ms_on : ms[7]? = some (.int 1)) (h_ms_records : ms[37]? = some (.int 0)) (hl_ms : ms.length = 79) (hP : va_P D vwCl [(h, .inr (0, fs)), (v0, .inl (dA 0, 256, .inl (fun _ => 0))), (v1, .inr (1, js)), (v2, .inr (2, hs)), (v4, .inr (3, ns)), (v5, .inr (3, ss)), (v7, .inr (4, rs)), (v8, .inr (5, qs)), (v35, .inr (6, als)), (v19, .inl (dA 4, 32, .inr (.inr (.inr (.inr (fun _ => none)))))), (v20, .inl (dA 1, 64, .inl (fun _ => 0))), (v21, .inl (dA 2, 64, .inr (.inl (fun _ => 0)))), (v22, .inl (dA 2, 64, .inr (.inl (fun _ => 0)))), (v23, .inl (dA 1, 64, .inl (fun _ => 0))), (v25, .inl (dA 4, 32, .inr (.inr (.inr (.inr (fun _ => none)))))), (v26, .inl (dA 1, 64, .inl (fun _ => 0))), (v27, .inl (dA 2, 64, .inr (.inl (fun _ => 0)))), (v28, .inl (dA 2, 64, .inr (.inl (fun _ => 0)))), (mm, .inr (9, ms)), (mv0, .inl (dA 0, 65536, .inl (fun _ => 0))), (o, .inl (dA 2, 1, .inr (.inl (fun _ => 0))))] H) (hD : va_D A [(h, .inr (0, fs)), (v0, .inl (dA 0, 256, .inl (fun _ => 0))), (v1, .inr (1, js)), (v2, .inr (2, hs)), (v4, .inr (3, ns)), (v5, .inr (3, ss)), (v7, .inr (4, rs)), (v8, .inr (5, qs)), (v35, .inr (6, als)), (v19, .inl (dA 4, 32, .inr (.inr (.inr (.inr (fun _ => none)))))), (v20, .inl (dA 1, 64, .inl (fun _ => 0))), (v21, .inl (dA 2, 64, .inr (.inl (fun _ => 0)))), (v22, .inl (dA 2, 64, .inr (.inl (fun _ => 0)))), (v23, .inl (dA 1, 64, .inl (fun _ => 0))), (v25, .inl (dA 4, 32, .inr (.inr (.inr (.inr (fun _ => none)))))), (v26, .inl (dA 1, 64, .inl (fun _ => 0))), (v27, .inl (dA 2, 64, .inr (.inl (fun _ => 0)))), (v28, .inl (dA 2, 64, .inr (.inl (fun _ => 0)))), (mm, .inr (9, ms)), (mv0, .inl (dA 0, 65536, .inl (fun _ => 0))), (o, .inl (dA 2, 1, .inr (.inl (fun _ => 0))))]) (hS : va_S A s.heap H locs) (hl : lv_has ls 8 [(4, .int 0), (3, .ref o), (2, .ref mm), (1, .ref h), (0, .ref b)]) : W p l e room_1 s m #[Value.ref b] below meth c H locs 92 1177737 (lw_Z below #[Value.ref b] s) (F0 m 907 ls []) := by
  have hC0 := hC
  obtain ⟨hx, hb, hr, hml, hown, hlk, hE, hK, hA, hN, hZ, hT, hX, hbl, hbA, hnew, htr⟩ := hC
  refine lv_aload_n hx hb d_SeriesVaultLaw_law_907 rfl (lv_at hl 3 rfl) ?_
  refine lv_aload_n hx hb d_SeriesVaultLaw_law_908 rfl (lv_at hl 1 rfl) ?_
  have hPc := hP.sub (ws' := [(h, .inr (0, fs)), (v1, .inr (1, js)), (o, .inl (dA 2, 1, .inr (.inl (fun _ => 0))))]) [0, 2, 20] rfl
  have hDc := hD.sub (ws' := [(h, .inr (0, fs)), (v1, .inr (1, js)), (o, .inl (dA 2, 1, .inr (.inl (fun _ => 0))))]) [0, 2, 20] (by decide) rfl
  refine jnI (rnW (As := [.ref h, .ref o]) (rest := []) hx hb hml hown hE hK (hN _ _ hS) hPc hDc (c_K_flush_0 l htr D dA H.size h fs v1 js o (fun _ => 0) h_fs_powered h_fs_journal hl_fs h_js_size hl_js) w937 w936 w938 w861 rfl rfl ⟨⟨by decide, by decide⟩, rfl⟩ ⟨(Nat.le_of_ble_eq_true rfl), (Nat.le_of_ble_eq_true rfl)⟩ rfl hl.1 rfl (Nat.le_of_ble_eq_true rfl) d_SeriesVaultLaw_law_909 ⟨(Nat.le_of_ble_eq_true rfl), (Nat.le_of_ble_eq_true rfl)⟩) hP hD hS hA [0, 2, 20] [1, 3, 4, 5, 6, 7, 8, 9, 10, 11, 12, 13, 14, 15, 16, 17, 18, 19] (wr := [(v0, .inl (dA 0, 256, .inl (fun _ => 0))), (v2, .inr (2, hs)), (v4, .inr (3, ns)), (v5, .inr (3, ss)), (v7, .inr (4, rs)), (v8, .inr (5, qs)), (v35, .inr (6, als)), (v19, .inl (dA 4, 32, .inr (.inr (.inr (.inr (fun _ => none)))))), (v20, .inl (dA 1, 64, .inl (fun _ => 0))), (v21, .inl (dA 2, 64, .inr (.inl (fun _ => 0)))), (v22, .inl (dA 2, 64, .inr (.inl (fun _ => 0)))), (v23, .inl (dA 1, 64, .inl (fun _ => 0))), (v25, .inl (dA 4, 32, .inr (.inr (.inr (.inr (fun _ => none)))))), (v26, .inl (dA 1, 64, .inl (fun _ => 0))), (v27, .inl (dA 2, 64, .inr (.inl (fun _ => 0)))), (v28, .inl (dA 2, 64, .inr (.inl (fun _ => 0)))), (mm, .inr (9, ms)), (mv0, .inl (dA 0, 65536, .inl (fun _ => 0)))]) rfl rfl (by decide) (by decide) (fun r1 u9 H locs hp9 hP hD hS => ?_)
  have hP : va_P D vwCl [(v0, .inl (dA 0, 256, .inl (fun _ => 0))), (v2, .inr (2, hs)), (v4, .inr (3, ns)), (v5, .inr (3, ss)), (v7, .inr (4, rs)), (v8, .inr (5, qs)), (v35, .inr (6, als)), (v19, .inl (dA 4, 32, .inr (.inr (.inr (.inr (fun _ => none)))))), (v20, .inl (dA 1, 64, .inl (fun _ => 0))), (v21, .inl (dA 2, 64, .inr (.inl (fun _ => 0)))), (v22, .inl (dA 2, 64, .inr (.inl (fun _ => 0)))), (v23, .inl (dA 1, 64, .inl (fun _ => 0))), (v25, .inl (dA 4, 32, .inr (.inr (.inr (.inr (fun _ => none)))))), (v26, .inl (dA 1, 64, .inl (fun _ => 0))), (v27, .inl (dA 2, 64, .inr (.inl (fun _ => 0)))), (v28, .inl (dA 2, 64, .inr (.inl (fun _ => 0)))), (mm, .inr (9, ms)), (mv0, .inl (dA 0, 65536, .inl (fun _ => 0))), (h, .inr (0, fs)), (v1, .inr (1, js)), (o, .inl (dA 2, 1, .inr (.inl (vp_updL (fun _ => 0) 0 0))))] H := hP
  have hD : va_D A [(v0, .inl (dA 0, 256, .inl (fun _ => 0))), (v2, .inr (2, hs)), (v4, .inr (3, ns)), (v5, .inr (3, ss)), (v7, .inr (4, rs)), (v8, .inr (5, qs)), (v35, .inr (6, als)), (v19, .inl (dA 4, 32, .inr (.inr (.inr (.inr (fun _ => none)))))), (v20, .inl (dA 1, 64, .inl (fun _ => 0))), (v21, .inl (dA 2, 64, .inr (.inl (fun _ => 0)))), (v22, .inl (dA 2, 64, .inr (.inl (fun _ => 0)))), (v23, .inl (dA 1, 64, .inl (fun _ => 0))), (v25, .inl (dA 4, 32, .inr (.inr (.inr (.inr (fun _ => none)))))), (v26, .inl (dA 1, 64, .inl (fun _ => 0))), (v27, .inl (dA 2, 64, .inr (.inl (fun _ => 0)))), (v28, .inl (dA 2, 64, .inr (.inl (fun _ => 0)))), (mm, .inr (9, ms)), (mv0, .inl (dA 0, 65536, .inl (fun _ => 0))), (h, .inr (0, fs)), (v1, .inr (1, js)), (o, .inl (dA 2, 1, .inr (.inl (vp_updL (fun _ => 0) 0 0))))] := hD
  have hp9 : 0 = r1 := Eq.symm hp9
  subst hp9
  refine lv_istore hx hb d_SeriesVaultLaw_law_912 hl (by decide) rfl (fun ls hl => ?_)
  have hl : lv_has ls 8 [(5, .int 0), (4, .int 0), (3, .ref o), (2, .ref mm), (1, .ref h), (0, .ref b)] := hl
  refine lv_aload_n hx hb d_SeriesVaultLaw_law_914 rfl (lv_at hl 3 rfl) ?_
  have hPc := hP.sub (ws' := [(mm, .inr (9, ms))]) [16] rfl
  have hDc := hD.sub (ws' := [(mm, .inr (9, ms))]) [16] (by decide) rfl
  refine jnI (rnV (As := []) (rest := []) hx hb hml hown hE hK (hN _ _ hS) hPc hDc (c_M_flush_0 l D dA H.size mm ms h_ms_on h_ms_records hl_ms) (q0 := 0) rfl rfl w940 w939 w941 w942 w328 rfl rfl ⟨⟨by decide, by decide⟩, rfl⟩ ⟨(Nat.le_of_ble_eq_true rfl), (Nat.le_of_ble_eq_true rfl)⟩ rfl hl.1 rfl (Nat.le_of_ble_eq_true rfl) d_SeriesVaultLaw_law_915 ⟨(Nat.le_of_ble_eq_true rfl), (Nat.le_of_ble_eq_true rfl)⟩) hP hD hS hA [16] [0, 1, 2, 3, 4, 5, 6, 7, 8, 9, 10, 11, 12, 13, 14, 15, 17, 18, 19, 20] (wr := [(v0, .inl (dA 0, 256, .inl (fun _ => 0))), (v2, .inr (2, hs)), (v4, .inr (3, ns)), (v5, .inr (3, ss)), (v7, .inr (4, rs)), (v8, .inr (5, qs)), (v35, .inr (6, als)), (v19, .inl (dA 4, 32, .inr (.inr (.inr (.inr (fun _ => none)))))), (v20, .inl (dA 1, 64, .inl (fun _ => 0))), (v21, .inl (dA 2, 64, .inr (.inl (fun _ => 0)))), (v22, .inl (dA 2, 64, .inr (.inl (fun _ => 0)))), (v23, .inl (dA 1, 64, .inl (fun _ => 0))), (v25, .inl (dA 4, 32, .inr (.inr (.inr (.inr (fun _ => none)))))), (v26, .inl (dA 1, 64, .inl (fun _ => 0))), (v27, .inl (dA 2, 64, .inr (.inl (fun _ => 0)))), (v28, .inl (dA 2, 64, .inr (.inl (fun _ => 0)))), (mv0, .inl (dA 0, 65536, .inl (fun _ => 0))), (h, .inr (0, fs)), (v1, .inr (1, js)), (o, .inl (dA 2, 1, .inr (.inl (vp_updL (fun _ => 0) 0 0))))]) rfl rfl (by decide) (by decide) (fun r2 u9 H locs hp9 hP hD hS => ?_)
  have hP : va_P D vwCl [(v0, .inl (dA 0, 256, .inl (fun _ => 0))), (v2, .inr (2, hs)), (v4, .inr (3, ns)), (v5, .inr (3, ss)), (v7, .inr (4, rs)), (v8, .inr (5, qs)), (v35, .inr (6, als)), (v19, .inl (dA 4, 32, .inr (.inr (.inr (.inr (fun _ => none)))))), (v20, .inl (dA 1, 64, .inl (fun _ => 0))), (v21, .inl (dA 2, 64, .inr (.inl (fun _ => 0)))), (v22, .inl (dA 2, 64, .inr (.inl (fun _ => 0)))), (v23, .inl (dA 1, 64, .inl (fun _ => 0))), (v25, .inl (dA 4, 32, .inr (.inr (.inr (.inr (fun _ => none)))))), (v26, .inl (dA 1, 64, .inl (fun _ => 0))), (v27, .inl (dA 2, 64, .inr (.inl (fun _ => 0)))), (v28, .inl (dA 2, 64, .inr (.inl (fun _ => 0)))), (mv0, .inl (dA 0, 65536, .inl (fun _ => 0))), (h, .inr (0, fs)), (v1, .inr (1, js)), (o, .inl (dA 2, 1, .inr (.inl (vp_updL (fun _ => 0) 0 0)))), (mm, .inr (9, (ms.set 0 (.int 0))))] H := hP
  have hD : va_D A [(v0, .inl (dA 0, 256, .inl (fun _ => 0))), (v2, .inr (2, hs)), (v4, .inr (3, ns)), (v5, .inr (3, ss)), (v7, .inr (4, rs)), (v8, .inr (5, qs)), (v35, .inr (6, als)), (v19, .inl (dA 4, 32, .inr (.inr (.inr (.inr (fun _ => none)))))), (v20, .inl (dA 1, 64, .inl (fun _ => 0))), (v21, .inl (dA 2, 64, .inr (.inl (fun _ => 0)))), (v22, .inl (dA 2, 64, .inr (.inl (fun _ => 0)))), (v23, .inl (dA 1, 64, .inl (fun _ => 0))), (v25, .inl (dA 4, 32, .inr (.inr (.inr (.inr (fun _ => none)))))), (v26, .inl (dA 1, 64, .inl (fun _ => 0))), (v27, .inl (dA 2, 64, .inr (.inl (fun _ => 0)))), (v28, .inl (dA 2, 64, .inr (.inl (fun _ => 0)))), (mv0, .inl (dA 0, 65536, .inl (fun _ => 0))), (h, .inr (0, fs)), (v1, .inr (1, js)), (o, .inl (dA 2, 1, .inr (.inl (vp_updL (fun _ => 0) 0 0)))), (mm, .inr (9, (ms.set 0 (.int 0))))] := hD
  have hp9 : 0 = r2 := Eq.symm hp9
  subst hp9
  refine lv_istore hx hb d_SeriesVaultLaw_law_918 hl (by decide) rfl (fun ls hl => ?_)
  have hl : lv_has ls 8 [(6, .int 0), (5, .int 0), (4, .int 0), (3, .ref o), (2, .ref mm), (1, .ref h), (0, .ref b)] := hl
  refine lv_aload_n hx hb d_SeriesVaultLaw_law_920 rfl (lv_at hl 4 rfl) ?_
  have hPc := hP.sub (ws' := [(mm, .inr (9, (ms.set 0 (.int 0))))]) [20] rfl
  have hDc := hD.sub (ws' := [(mm, .inr (9, (ms.set 0 (.int 0))))]) [20] (by decide) rfl
  refine jnI (rnV (As := []) (rest := []) hx hb hml hown hE hK (hN _ _ hS) hPc hDc (c_M_thrown l D dA H.size mm (ms.set 0 (.int 0)) 0 (by simp [hl_ms]) (by simp [hl_ms])) (q0 := 0) rfl rfl w869 w868 w870 w871 w328 rfl rfl ⟨⟨by decide, by decide⟩, rfl⟩ ⟨(Nat.le_of_ble_eq_true rfl), (Nat.le_of_ble_eq_true rfl)⟩ rfl hl.1 rfl (Nat.le_of_ble_eq_true rfl) d_SeriesVaultLaw_law_921 ⟨(Nat.le_of_ble_eq_true rfl), (Nat.le_of_ble_eq_true rfl)⟩) hP hD hS hA [20] [0, 1, 2, 3, 4, 5, 6, 7, 8, 9, 10, 11, 12, 13, 14, 15, 16, 17, 18, 19] (wr := [(v0, .inl (dA 0, 256, .inl (fun _ => 0))), (v2, .inr (2, hs)), (v4, .inr (3, ns)), (v5, .inr (3, ss)), (v7, .inr (4, rs)), (v8, .inr (5, qs)), (v35, .inr (6, als)), (v19, .inl (dA 4, 32, .inr (.inr (.inr (.inr (fun _ => none)))))), (v20, .inl (dA 1, 64, .inl (fun _ => 0))), (v21, .inl (dA 2, 64, .inr (.inl (fun _ => 0)))), (v22, .inl (dA 2, 64, .inr (.inl (fun _ => 0)))), (v23, .inl (dA 1, 64, .inl (fun _ => 0))), (v25, .inl (dA 4, 32, .inr (.inr (.inr (.inr (fun _ => none)))))), (v26, .inl (dA 1, 64, .inl (fun _ => 0))), (v27, .inl (dA 2, 64, .inr (.inl (fun _ => 0)))), (v28, .inl (dA 2, 64, .inr (.inl (fun _ => 0)))), (mv0, .inl (dA 0, 65536, .inl (fun _ => 0))), (h, .inr (0, fs)), (v1, .inr (1, js)), (o, .inl (dA 2, 1, .inr (.inl (vp_updL (fun _ => 0) 0 0))))]) rfl rfl (by decide) (by decide) (fun r3 u9 H locs hp9 hP hD hS => ?_)
  have hP : va_P D vwCl [(v0, .inl (dA 0, 256, .inl (fun _ => 0))), (v2, .inr (2, hs)), (v4, .inr (3, ns)), (v5, .inr (3, ss)), (v7, .inr (4, rs)), (v8, .inr (5, qs)), (v35, .inr (6, als)), (v19, .inl (dA 4, 32, .inr (.inr (.inr (.inr (fun _ => none)))))), (v20, .inl (dA 1, 64, .inl (fun _ => 0))), (v21, .inl (dA 2, 64, .inr (.inl (fun _ => 0)))), (v22, .inl (dA 2, 64, .inr (.inl (fun _ => 0)))), (v23, .inl (dA 1, 64, .inl (fun _ => 0))), (v25, .inl (dA 4, 32, .inr (.inr (.inr (.inr (fun _ => none)))))), (v26, .inl (dA 1, 64, .inl (fun _ => 0))), (v27, .inl (dA 2, 64, .inr (.inl (fun _ => 0)))), (v28, .inl (dA 2, 64, .inr (.inl (fun _ => 0)))), (mv0, .inl (dA 0, 65536, .inl (fun _ => 0))), (h, .inr (0, fs)), (v1, .inr (1, js)), (o, .inl (dA 2, 1, .inr (.inl (vp_updL (fun _ => 0) 0 0)))), (mm, .inr (9, (ms.set 0 (.int 0))))] H := hP
  have hD : va_D A [(v0, .inl (dA 0, 256, .inl (fun _ => 0))), (v2, .inr (2, hs)), (v4, .inr (3, ns)), (v5, .inr (3, ss)), (v7, .inr (4, rs)), (v8, .inr (5, qs)), (v35, .inr (6, als)), (v19, .inl (dA 4, 32, .inr (.inr (.inr (.inr (fun _ => none)))))), (v20, .inl (dA 1, 64, .inl (fun _ => 0))), (v21, .inl (dA 2, 64, .inr (.inl (fun _ => 0)))), (v22, .inl (dA 2, 64, .inr (.inl (fun _ => 0)))), (v23, .inl (dA 1, 64, .inl (fun _ => 0))), (v25, .inl (dA 4, 32, .inr (.inr (.inr (.inr (fun _ => none)))))), (v26, .inl (dA 1, 64, .inl (fun _ => 0))), (v27, .inl (dA 2, 64, .inr (.inl (fun _ => 0)))), (v28, .inl (dA 2, 64, .inr (.inl (fun _ => 0)))), (mv0, .inl (dA 0, 65536, .inl (fun _ => 0))), (h, .inr (0, fs)), (v1, .inr (1, js)), (o, .inl (dA 2, 1, .inr (.inl (vp_updL (fun _ => 0) 0 0)))), (mm, .inr (9, (ms.set 0 (.int 0))))] := hD
  have hp9 : 0 = r3 := Eq.symm hp9
  subst hp9
  refine lv_iload hx hb d_SeriesVaultLaw_law_924 (lv_at hl 1 rfl) ?_
  refine lv_icmp_eq hx hb d_SeriesVaultLaw_law_926 (tgt := 931) rfl (fun _ => ?_) (fun h9 => absurd (by decide) h9)
  refine lv_iload hx hb d_SeriesVaultLaw_law_931 (lv_at hl 1 rfl) ?_
  refine lv_if_ne hx hb d_SeriesVaultLaw_law_933 (tgt := 948) rfl (fun h9 => absurd (by decide) h9) (fun _ => ?_)
  refine lv_aload_n hx hb d_SeriesVaultLaw_law_936 rfl (lv_at hl 3 rfl) ?_
  refine lv_iconst (v := 0) hx hb d_SeriesVaultLaw_law_937 (by decide) ?_
  refine va_lald hx hb hK hP 19 2 rfl rfl (by unfold vp_in; decide) d_SeriesVaultLaw_law_938 ?_
  refine tpl (y := 0) (by rfl) ?_
  refine lv_iload hx hb d_SeriesVaultLaw_law_939 (lv_at hl 0 rfl) ?_
  refine lv_i2l (v := 0) hx hb d_SeriesVaultLaw_law_941 (by decide) ?_
  refine W.lcmp hx hb d_SeriesVaultLaw_law_942 (tpi (y := 0) (by decide) ?_)
  refine lv_if_eq hx hb d_SeriesVaultLaw_law_943 (tgt := 948) rfl (fun _ => ?_) (fun h9 => absurd (by decide) h9)
  refine lv_goto hx hb d_SeriesVaultLaw_law_948 (tgt := 1770) rfl ?_
  refine lv_iinc (k := 2) (v := 6) hx hb d_SeriesVaultLaw_law_1770 hl rfl (by decide) (by decide) rfl (fun ls hl => ?_)
  have hl : lv_has ls 8 [(4, .int 6), (6, .int 0), (5, .int 0), (3, .ref o), (2, .ref mm), (1, .ref h), (0, .ref b)] := hl
  refine lv_goto hx hb d_SeriesVaultLaw_law_1773 (tgt := 23) rfl ?_
  refine lv_iload hx hb d_SeriesVaultLaw_law_23 (lv_at hl 0 rfl) ?_
  refine lv_aload_n hx hb d_SeriesVaultLaw_law_25 rfl (lv_at hl 6 rfl) ?_
  refine va_slen hx hb hX hbl hbA hS d_SeriesVaultLaw_law_26 ?_
  refine tpi (y := 6) (by decide) ?_
  refine lv_bipush (v := 6) hx hb d_SeriesVaultLaw_law_27 (by decide) ?_
  refine lv_isub hx hb d_SeriesVaultLaw_law_29 (tpi (y := 0) (by decide) ?_)
  refine lv_icmp_gt hx hb d_SeriesVaultLaw_law_30 (tgt := 1776) rfl (fun _ => ?_) (fun h9 => absurd (by decide) h9)
  refine lv_iconst (v := 1) hx hb d_SeriesVaultLaw_law_1776 (by decide) ?_
  exact lw_fin hC0 hS (Nat.le_of_ble_eq_true rfl) (Nat.le_of_ble_eq_true rfl) d_SeriesVaultLaw_law_1777
theorem d_SeriesVaultLaw_law_951 : decode code 951 = .ok (.aload_n 1, 1) := by decide +kernel
theorem d_SeriesVaultLaw_law_952 : decode code 952 = .ok (.aload_n 0, 1) := by decide +kernel
theorem d_SeriesVaultLaw_law_953 : decode code 953 = .ok (.iload 4, 2) := by decide +kernel
theorem d_SeriesVaultLaw_law_955 : decode code 955 = .ok (.iconst 1, 1) := by decide +kernel
theorem d_SeriesVaultLaw_law_956 : decode code 956 = .ok (.iadd, 1) := by decide +kernel
theorem d_SeriesVaultLaw_law_957 : decode code 957 = .ok (.iaload, 1) := by decide +kernel
theorem d_SeriesVaultLaw_law_958 : decode code 958 = .ok (.aload_n 3, 1) := by decide +kernel
theorem d_SeriesVaultLaw_law_959 : decode code 959 = .ok (.invokestatic 151, 3) := by decide +kernel
theorem d_SeriesVaultLaw_law_962 : decode code 962 = .ok (.istore 5, 2) := by decide +kernel
theorem d_SeriesVaultLaw_law_964 : decode code 964 = .ok (.aload_n 2, 1) := by decide +kernel
theorem d_SeriesVaultLaw_law_965 : decode code 965 = .ok (.aload_n 0, 1) := by decide +kernel
theorem d_SeriesVaultLaw_law_966 : decode code 966 = .ok (.iload 4, 2) := by decide +kernel
theorem d_SeriesVaultLaw_law_968 : decode code 968 = .ok (.iconst 1, 1) := by decide +kernel
theorem d_SeriesVaultLaw_law_969 : decode code 969 = .ok (.iadd, 1) := by decide +kernel
theorem d_SeriesVaultLaw_law_970 : decode code 970 = .ok (.iaload, 1) := by decide +kernel
theorem d_SeriesVaultLaw_law_971 : decode code 971 = .ok (.invokevirtual 153, 3) := by decide +kernel
theorem d_SeriesVaultLaw_law_974 : decode code 974 = .ok (.istore 6, 2) := by decide +kernel
theorem d_SeriesVaultLaw_law_976 : decode code 976 = .ok (.aload_n 2, 1) := by decide +kernel
theorem d_SeriesVaultLaw_law_977 : decode code 977 = .ok (.invokevirtual 110, 3) := by decide +kernel
theorem d_SeriesVaultLaw_law_980 : decode code 980 = .ok (.iload 5, 2) := by decide +kernel
theorem d_SeriesVaultLaw_law_982 : decode code 982 = .ok (.if_icmp .eq 5, 3) := by decide +kernel
theorem d_SeriesVaultLaw_law_987 : decode code 987 = .ok (.iload 5, 2) := by decide +kernel
theorem d_SeriesVaultLaw_law_989 : decode code 989 = .ok (.ifCond .ne 15, 3) := by decide +kernel
theorem d_SeriesVaultLaw_law_1004 : decode code 1004 = .ok (.goto 766, 3) := by decide +kernel
theorem w943 : Cond.methodLink "SeriesVaultLaw" 151 ⟨"SeriesVaultLaw", "compact", "(LSeriesVault;I[J)I"⟩ ∈ aW := aw_of (tb_6 (List.mem_of_getElem? (i := 116) rfl)) rfl
theorem w944 : Cond.codeWith ⟨"SeriesVaultLaw", "compact", "(LSeriesVault;I[J)I"⟩ method_14_code 4 (some FieldType.int) [(0, 9, 12, 29), (0, 9, 15, 35), (0, 9, 18, 13)] ∈ aW := aw_of (tb_6 (List.mem_of_getElem? (i := 118) rfl)) rfl
theorem w945 : Cond.static ⟨"SeriesVaultLaw", "compact", "(LSeriesVault;I[J)I"⟩ ∈ aW := aw_of (tb_6 (List.mem_of_getElem? (i := 117) rfl)) rfl
theorem w946 : Cond.methodLink "SeriesVaultLaw" 153 ⟨"SeriesVaultModel", "compact", "(I)I"⟩ ∈ aW := aw_of (tb_10 (List.mem_of_getElem? (i := 113) rfl)) rfl
theorem w947 : Cond.code ⟨"SeriesVaultModel", "compact", "(I)I"⟩ prog_14_method_45_code 7 (some FieldType.int) ∈ aW := aw_of (tb_10 (List.mem_of_getElem? (i := 116) rfl)) rfl
theorem w948 : Cond.instanceMethod ⟨"SeriesVaultModel", "compact", "(I)I"⟩ ∈ aW := aw_of (tb_10 (List.mem_of_getElem? (i := 114) rfl)) rfl
theorem w949 : Cond.selects "SeriesVaultModel" ⟨"SeriesVaultModel", "compact", "(I)I"⟩ ⟨"SeriesVaultModel", "compact", "(I)I"⟩ ∈ aW := aw_of (tb_10 (List.mem_of_getElem? (i := 115) rfl)) rfl
set_option maxHeartbeats 4000000 in
set_option maxRecDepth 100000 in
theorem law_11 {p : Program} {e : Env} {s : State} {m : MethodId} {below : List Frame} {meth : Method} {c : Code} (l : Launch) {b : Nat} {xs : Nat → Int32} {D : va_G} {dA : Nat → ClassId} {e0 : Nat} {A : Nat → Prop} {H : Heap} {locs : List Loc} {ls : Array Slot} (hC : lS p l s m meth c b 6 xs D dA e0 A) (h : Nat) (v0 : Nat) (v1 : Nat) (v2 : Nat) (v4 : Nat) (v5 : Nat) (v7 : Nat) (v8 : Nat) (v19 : Nat) (v20 : Nat) (v21 : Nat) (v22 : Nat) (v23 : Nat) (v25 : Nat) (v26 : Nat) (v27 : Nat) (v28 : Nat) (v35 : Nat) (mm : Nat) (mv0 : Nat) (o : Nat) (fs : List Value) (js : List Value) (hs : List Value) (ns : List Value) (ss : List Value) (rs : List Value) (qs : List Value) (als : List Value) (ms : List Value) (h_fs_powered : fs[5]? = some (.int 1)) (h_fs_now : fs[11]? = some (.ref v4)) (hl_fs : fs.length = 18) (hl_js : js.length = 13) (hl_hs : hs.length = 4) (h_ns_parcelCount : ns[1]? = some (.int 0)) (hl_ns : ns.length = 11) (hl_ss : ss.length = 11) (hl_rs : rs.length = 6) (hl_qs : qs.length = 9) (hl_als : als.length = 3) (h_ms_on : ms[7]? = some (.int 1)) (h_ms_parcelCount : ms[28]? = some (.int 0)) (hl_ms : ms.length = 79) (hP : va_P D vwCl [(h, .inr (0, fs)), (v0, .inl (dA 0, 256, .inl (fun _ => 0))), (v1, .inr (1, js)), (v2, .inr (2, hs)), (v4, .inr (3, ns)), (v5, .inr (3, ss)), (v7, .inr (4, rs)), (v8, .inr (5, qs)), (v35, .inr (6, als)), (v19, .inl (dA 4, 32, .inr (.inr (.inr (.inr (fun _ => none)))))), (v20, .inl (dA 1, 64, .inl (fun _ => 0))), (v21, .inl (dA 2, 64, .inr (.inl (fun _ => 0)))), (v22, .inl (dA 2, 64, .inr (.inl (fun _ => 0)))), (v23, .inl (dA 1, 64, .inl (fun _ => 0))), (v25, .inl (dA 4, 32, .inr (.inr (.inr (.inr (fun _ => none)))))), (v26, .inl (dA 1, 64, .inl (fun _ => 0))), (v27, .inl (dA 2, 64, .inr (.inl (fun _ => 0)))), (v28, .inl (dA 2, 64, .inr (.inl (fun _ => 0)))), (mm, .inr (9, ms)), (mv0, .inl (dA 0, 65536, .inl (fun _ => 0))), (o, .inl (dA 2, 1, .inr (.inl (fun _ => 0))))] H) (hD : va_D A [(h, .inr (0, fs)), (v0, .inl (dA 0, 256, .inl (fun _ => 0))), (v1, .inr (1, js)), (v2, .inr (2, hs)), (v4, .inr (3, ns)), (v5, .inr (3, ss)), (v7, .inr (4, rs)), (v8, .inr (5, qs)), (v35, .inr (6, als)), (v19, .inl (dA 4, 32, .inr (.inr (.inr (.inr (fun _ => none)))))), (v20, .inl (dA 1, 64, .inl (fun _ => 0))), (v21, .inl (dA 2, 64, .inr (.inl (fun _ => 0)))), (v22, .inl (dA 2, 64, .inr (.inl (fun _ => 0)))), (v23, .inl (dA 1, 64, .inl (fun _ => 0))), (v25, .inl (dA 4, 32, .inr (.inr (.inr (.inr (fun _ => none)))))), (v26, .inl (dA 1, 64, .inl (fun _ => 0))), (v27, .inl (dA 2, 64, .inr (.inl (fun _ => 0)))), (v28, .inl (dA 2, 64, .inr (.inl (fun _ => 0)))), (mm, .inr (9, ms)), (mv0, .inl (dA 0, 65536, .inl (fun _ => 0))), (o, .inl (dA 2, 1, .inr (.inl (fun _ => 0))))]) (hS : va_S A s.heap H locs) (hl : lv_has ls 8 [(4, .int 0), (3, .ref o), (2, .ref mm), (1, .ref h), (0, .ref b)]) : W p l e room_1 s m #[Value.ref b] below meth c H locs 92 1177737 (lw_Z below #[Value.ref b] s) (F0 m 951 ls []) := by
  have hC0 := hC
  obtain ⟨hx, hb, hr, hml, hown, hlk, hE, hK, hA, hN, hZ, hT, hX, hbl, hbA, hnew, htr⟩ := hC
  refine lv_aload_n hx hb d_SeriesVaultLaw_law_951 rfl (lv_at hl 3 rfl) ?_
  refine lv_aload_n hx hb d_SeriesVaultLaw_law_952 rfl (lv_at hl 4 rfl) ?_
  refine lv_iload hx hb d_SeriesVaultLaw_law_953 (lv_at hl 0 rfl) ?_
  refine lv_iconst (v := 1) hx hb d_SeriesVaultLaw_law_955 (by decide) ?_
  refine lv_iadd hx hb d_SeriesVaultLaw_law_956 (tpi (y := 1) (by decide) ?_)
  refine va_sld hx hb hX hbl hbA hS (by unfold vp_in; decide) d_SeriesVaultLaw_law_957 ?_
  refine tpi (y := xs 1) rfl ?_
  refine lv_aload_n hx hb d_SeriesVaultLaw_law_958 rfl (lv_at hl 1 rfl) ?_
  have hPc := hP.sub (ws' := [(h, .inr (0, fs)), (v4, .inr (3, ns)), (o, .inl (dA 2, 1, .inr (.inl (fun _ => 0))))]) [0, 4, 20] rfl
  have hDc := hD.sub (ws' := [(h, .inr (0, fs)), (v4, .inr (3, ns)), (o, .inl (dA 2, 1, .inr (.inl (fun _ => 0))))]) [0, 4, 20] (by decide) rfl
  refine jnI (rnW (As := [.ref h, .int (xs 1), .ref o]) (rest := []) hx hb hml hown hE hK (hN _ _ hS) hPc hDc (c_K_compact_x l htr D dA H.size h fs v4 ns 0 (xs 1) o (fun _ => 0) (i32_cm _) h_fs_powered h_fs_now hl_fs h_ns_parcelCount hl_ns) w944 w943 w945 w861 rfl rfl ⟨⟨by decide, by decide⟩, rfl⟩ ⟨(Nat.le_of_ble_eq_true rfl), (Nat.le_of_ble_eq_true rfl)⟩ rfl hl.1 rfl (Nat.le_of_ble_eq_true rfl) d_SeriesVaultLaw_law_959 ⟨(Nat.le_of_ble_eq_true rfl), (Nat.le_of_ble_eq_true rfl)⟩) hP hD hS hA [0, 4, 20] [1, 2, 3, 5, 6, 7, 8, 9, 10, 11, 12, 13, 14, 15, 16, 17, 18, 19] (wr := [(v0, .inl (dA 0, 256, .inl (fun _ => 0))), (v1, .inr (1, js)), (v2, .inr (2, hs)), (v5, .inr (3, ss)), (v7, .inr (4, rs)), (v8, .inr (5, qs)), (v35, .inr (6, als)), (v19, .inl (dA 4, 32, .inr (.inr (.inr (.inr (fun _ => none)))))), (v20, .inl (dA 1, 64, .inl (fun _ => 0))), (v21, .inl (dA 2, 64, .inr (.inl (fun _ => 0)))), (v22, .inl (dA 2, 64, .inr (.inl (fun _ => 0)))), (v23, .inl (dA 1, 64, .inl (fun _ => 0))), (v25, .inl (dA 4, 32, .inr (.inr (.inr (.inr (fun _ => none)))))), (v26, .inl (dA 1, 64, .inl (fun _ => 0))), (v27, .inl (dA 2, 64, .inr (.inl (fun _ => 0)))), (v28, .inl (dA 2, 64, .inr (.inl (fun _ => 0)))), (mm, .inr (9, ms)), (mv0, .inl (dA 0, 65536, .inl (fun _ => 0)))]) rfl rfl (by decide) (by decide) (fun r1 u9 H locs hp9 hP hD hS => ?_)
  have hP : va_P D vwCl [(v0, .inl (dA 0, 256, .inl (fun _ => 0))), (v1, .inr (1, js)), (v2, .inr (2, hs)), (v5, .inr (3, ss)), (v7, .inr (4, rs)), (v8, .inr (5, qs)), (v35, .inr (6, als)), (v19, .inl (dA 4, 32, .inr (.inr (.inr (.inr (fun _ => none)))))), (v20, .inl (dA 1, 64, .inl (fun _ => 0))), (v21, .inl (dA 2, 64, .inr (.inl (fun _ => 0)))), (v22, .inl (dA 2, 64, .inr (.inl (fun _ => 0)))), (v23, .inl (dA 1, 64, .inl (fun _ => 0))), (v25, .inl (dA 4, 32, .inr (.inr (.inr (.inr (fun _ => none)))))), (v26, .inl (dA 1, 64, .inl (fun _ => 0))), (v27, .inl (dA 2, 64, .inr (.inl (fun _ => 0)))), (v28, .inl (dA 2, 64, .inr (.inl (fun _ => 0)))), (mm, .inr (9, ms)), (mv0, .inl (dA 0, 65536, .inl (fun _ => 0))), (v4, .inr (3, ns)), (h, .inr (0, fs)), (o, .inl (dA 2, 1, .inr (.inl (fun _ => 0))))] H := hP
  have hD : va_D A [(v0, .inl (dA 0, 256, .inl (fun _ => 0))), (v1, .inr (1, js)), (v2, .inr (2, hs)), (v5, .inr (3, ss)), (v7, .inr (4, rs)), (v8, .inr (5, qs)), (v35, .inr (6, als)), (v19, .inl (dA 4, 32, .inr (.inr (.inr (.inr (fun _ => none)))))), (v20, .inl (dA 1, 64, .inl (fun _ => 0))), (v21, .inl (dA 2, 64, .inr (.inl (fun _ => 0)))), (v22, .inl (dA 2, 64, .inr (.inl (fun _ => 0)))), (v23, .inl (dA 1, 64, .inl (fun _ => 0))), (v25, .inl (dA 4, 32, .inr (.inr (.inr (.inr (fun _ => none)))))), (v26, .inl (dA 1, 64, .inl (fun _ => 0))), (v27, .inl (dA 2, 64, .inr (.inl (fun _ => 0)))), (v28, .inl (dA 2, 64, .inr (.inl (fun _ => 0)))), (mm, .inr (9, ms)), (mv0, .inl (dA 0, 65536, .inl (fun _ => 0))), (v4, .inr (3, ns)), (h, .inr (0, fs)), (o, .inl (dA 2, 1, .inr (.inl (fun _ => 0))))] := hD
  have hp9 : 2 = r1 := Eq.symm hp9
  subst hp9
  refine lv_istore hx hb d_SeriesVaultLaw_law_962 hl (by decide) rfl (fun ls hl => ?_)
  have hl : lv_has ls 8 [(5, .int 2), (4, .int 0), (3, .ref o), (2, .ref mm), (1, .ref h), (0, .ref b)] := hl
  refine lv_aload_n hx hb d_SeriesVaultLaw_law_964 rfl (lv_at hl 3 rfl) ?_
  refine lv_aload_n hx hb d_SeriesVaultLaw_law_965 rfl (lv_at hl 5 rfl) ?_
  refine lv_iload hx hb d_SeriesVaultLaw_law_966 (lv_at hl 1 rfl) ?_
  refine lv_iconst (v := 1) hx hb d_SeriesVaultLaw_law_968 (by decide) ?_
  refine lv_iadd hx hb d_SeriesVaultLaw_law_969 (tpi (y := 1) (by decide) ?_)
  refine va_sld hx hb hX hbl hbA hS (by unfold vp_in; decide) d_SeriesVaultLaw_law_970 ?_
  refine tpi (y := xs 1) rfl ?_
  have hPc := hP.sub (ws' := [(mm, .inr (9, ms))]) [16] rfl
  have hDc := hD.sub (ws' := [(mm, .inr (9, ms))]) [16] (by decide) rfl
  refine jnI (rnV (As := [.int (xs 1)]) (rest := []) hx hb hml hown hE hK (hN _ _ hS) hPc hDc (c_M_compact_x l D dA H.size mm ms (xs 1) h_ms_on h_ms_parcelCount hl_ms) (q0 := 0) rfl rfl w947 w946 w948 w949 w328 rfl rfl ⟨⟨by decide, by decide⟩, rfl⟩ ⟨(Nat.le_of_ble_eq_true rfl), (Nat.le_of_ble_eq_true rfl)⟩ rfl hl.1 rfl (Nat.le_of_ble_eq_true rfl) d_SeriesVaultLaw_law_971 ⟨(Nat.le_of_ble_eq_true rfl), (Nat.le_of_ble_eq_true rfl)⟩) hP hD hS hA [16] [0, 1, 2, 3, 4, 5, 6, 7, 8, 9, 10, 11, 12, 13, 14, 15, 17, 18, 19, 20] (wr := [(v0, .inl (dA 0, 256, .inl (fun _ => 0))), (v1, .inr (1, js)), (v2, .inr (2, hs)), (v5, .inr (3, ss)), (v7, .inr (4, rs)), (v8, .inr (5, qs)), (v35, .inr (6, als)), (v19, .inl (dA 4, 32, .inr (.inr (.inr (.inr (fun _ => none)))))), (v20, .inl (dA 1, 64, .inl (fun _ => 0))), (v21, .inl (dA 2, 64, .inr (.inl (fun _ => 0)))), (v22, .inl (dA 2, 64, .inr (.inl (fun _ => 0)))), (v23, .inl (dA 1, 64, .inl (fun _ => 0))), (v25, .inl (dA 4, 32, .inr (.inr (.inr (.inr (fun _ => none)))))), (v26, .inl (dA 1, 64, .inl (fun _ => 0))), (v27, .inl (dA 2, 64, .inr (.inl (fun _ => 0)))), (v28, .inl (dA 2, 64, .inr (.inl (fun _ => 0)))), (mv0, .inl (dA 0, 65536, .inl (fun _ => 0))), (v4, .inr (3, ns)), (h, .inr (0, fs)), (o, .inl (dA 2, 1, .inr (.inl (fun _ => 0))))]) rfl rfl (by decide) (by decide) (fun r2 u9 H locs hp9 hP hD hS => ?_)
  have hP : va_P D vwCl [(v0, .inl (dA 0, 256, .inl (fun _ => 0))), (v1, .inr (1, js)), (v2, .inr (2, hs)), (v5, .inr (3, ss)), (v7, .inr (4, rs)), (v8, .inr (5, qs)), (v35, .inr (6, als)), (v19, .inl (dA 4, 32, .inr (.inr (.inr (.inr (fun _ => none)))))), (v20, .inl (dA 1, 64, .inl (fun _ => 0))), (v21, .inl (dA 2, 64, .inr (.inl (fun _ => 0)))), (v22, .inl (dA 2, 64, .inr (.inl (fun _ => 0)))), (v23, .inl (dA 1, 64, .inl (fun _ => 0))), (v25, .inl (dA 4, 32, .inr (.inr (.inr (.inr (fun _ => none)))))), (v26, .inl (dA 1, 64, .inl (fun _ => 0))), (v27, .inl (dA 2, 64, .inr (.inl (fun _ => 0)))), (v28, .inl (dA 2, 64, .inr (.inl (fun _ => 0)))), (mv0, .inl (dA 0, 65536, .inl (fun _ => 0))), (v4, .inr (3, ns)), (h, .inr (0, fs)), (o, .inl (dA 2, 1, .inr (.inl (fun _ => 0)))), (mm, .inr (9, (ms.set 0 (.int 2))))] H := hP
  have hD : va_D A [(v0, .inl (dA 0, 256, .inl (fun _ => 0))), (v1, .inr (1, js)), (v2, .inr (2, hs)), (v5, .inr (3, ss)), (v7, .inr (4, rs)), (v8, .inr (5, qs)), (v35, .inr (6, als)), (v19, .inl (dA 4, 32, .inr (.inr (.inr (.inr (fun _ => none)))))), (v20, .inl (dA 1, 64, .inl (fun _ => 0))), (v21, .inl (dA 2, 64, .inr (.inl (fun _ => 0)))), (v22, .inl (dA 2, 64, .inr (.inl (fun _ => 0)))), (v23, .inl (dA 1, 64, .inl (fun _ => 0))), (v25, .inl (dA 4, 32, .inr (.inr (.inr (.inr (fun _ => none)))))), (v26, .inl (dA 1, 64, .inl (fun _ => 0))), (v27, .inl (dA 2, 64, .inr (.inl (fun _ => 0)))), (v28, .inl (dA 2, 64, .inr (.inl (fun _ => 0)))), (mv0, .inl (dA 0, 65536, .inl (fun _ => 0))), (v4, .inr (3, ns)), (h, .inr (0, fs)), (o, .inl (dA 2, 1, .inr (.inl (fun _ => 0)))), (mm, .inr (9, (ms.set 0 (.int 2))))] := hD
  have hp9 : 0 = r2 := Eq.symm hp9
  subst hp9
  refine lv_istore hx hb d_SeriesVaultLaw_law_974 hl (by decide) rfl (fun ls hl => ?_)
  have hl : lv_has ls 8 [(6, .int 0), (5, .int 2), (4, .int 0), (3, .ref o), (2, .ref mm), (1, .ref h), (0, .ref b)] := hl
  refine lv_aload_n hx hb d_SeriesVaultLaw_law_976 rfl (lv_at hl 4 rfl) ?_
  have hPc := hP.sub (ws' := [(mm, .inr (9, (ms.set 0 (.int 2))))]) [20] rfl
  have hDc := hD.sub (ws' := [(mm, .inr (9, (ms.set 0 (.int 2))))]) [20] (by decide) rfl
  refine jnI (rnV (As := []) (rest := []) hx hb hml hown hE hK (hN _ _ hS) hPc hDc (c_M_thrown l D dA H.size mm (ms.set 0 (.int 2)) 2 (by simp [hl_ms]) (by simp [hl_ms])) (q0 := 0) rfl rfl w869 w868 w870 w871 w328 rfl rfl ⟨⟨by decide, by decide⟩, rfl⟩ ⟨(Nat.le_of_ble_eq_true rfl), (Nat.le_of_ble_eq_true rfl)⟩ rfl hl.1 rfl (Nat.le_of_ble_eq_true rfl) d_SeriesVaultLaw_law_977 ⟨(Nat.le_of_ble_eq_true rfl), (Nat.le_of_ble_eq_true rfl)⟩) hP hD hS hA [20] [0, 1, 2, 3, 4, 5, 6, 7, 8, 9, 10, 11, 12, 13, 14, 15, 16, 17, 18, 19] (wr := [(v0, .inl (dA 0, 256, .inl (fun _ => 0))), (v1, .inr (1, js)), (v2, .inr (2, hs)), (v5, .inr (3, ss)), (v7, .inr (4, rs)), (v8, .inr (5, qs)), (v35, .inr (6, als)), (v19, .inl (dA 4, 32, .inr (.inr (.inr (.inr (fun _ => none)))))), (v20, .inl (dA 1, 64, .inl (fun _ => 0))), (v21, .inl (dA 2, 64, .inr (.inl (fun _ => 0)))), (v22, .inl (dA 2, 64, .inr (.inl (fun _ => 0)))), (v23, .inl (dA 1, 64, .inl (fun _ => 0))), (v25, .inl (dA 4, 32, .inr (.inr (.inr (.inr (fun _ => none)))))), (v26, .inl (dA 1, 64, .inl (fun _ => 0))), (v27, .inl (dA 2, 64, .inr (.inl (fun _ => 0)))), (v28, .inl (dA 2, 64, .inr (.inl (fun _ => 0)))), (mv0, .inl (dA 0, 65536, .inl (fun _ => 0))), (v4, .inr (3, ns)), (h, .inr (0, fs)), (o, .inl (dA 2, 1, .inr (.inl (fun _ => 0))))]) rfl rfl (by decide) (by decide) (fun r3 u9 H locs hp9 hP hD hS => ?_)
  have hP : va_P D vwCl [(v0, .inl (dA 0, 256, .inl (fun _ => 0))), (v1, .inr (1, js)), (v2, .inr (2, hs)), (v5, .inr (3, ss)), (v7, .inr (4, rs)), (v8, .inr (5, qs)), (v35, .inr (6, als)), (v19, .inl (dA 4, 32, .inr (.inr (.inr (.inr (fun _ => none)))))), (v20, .inl (dA 1, 64, .inl (fun _ => 0))), (v21, .inl (dA 2, 64, .inr (.inl (fun _ => 0)))), (v22, .inl (dA 2, 64, .inr (.inl (fun _ => 0)))), (v23, .inl (dA 1, 64, .inl (fun _ => 0))), (v25, .inl (dA 4, 32, .inr (.inr (.inr (.inr (fun _ => none)))))), (v26, .inl (dA 1, 64, .inl (fun _ => 0))), (v27, .inl (dA 2, 64, .inr (.inl (fun _ => 0)))), (v28, .inl (dA 2, 64, .inr (.inl (fun _ => 0)))), (mv0, .inl (dA 0, 65536, .inl (fun _ => 0))), (v4, .inr (3, ns)), (h, .inr (0, fs)), (o, .inl (dA 2, 1, .inr (.inl (fun _ => 0)))), (mm, .inr (9, (ms.set 0 (.int 2))))] H := hP
  have hD : va_D A [(v0, .inl (dA 0, 256, .inl (fun _ => 0))), (v1, .inr (1, js)), (v2, .inr (2, hs)), (v5, .inr (3, ss)), (v7, .inr (4, rs)), (v8, .inr (5, qs)), (v35, .inr (6, als)), (v19, .inl (dA 4, 32, .inr (.inr (.inr (.inr (fun _ => none)))))), (v20, .inl (dA 1, 64, .inl (fun _ => 0))), (v21, .inl (dA 2, 64, .inr (.inl (fun _ => 0)))), (v22, .inl (dA 2, 64, .inr (.inl (fun _ => 0)))), (v23, .inl (dA 1, 64, .inl (fun _ => 0))), (v25, .inl (dA 4, 32, .inr (.inr (.inr (.inr (fun _ => none)))))), (v26, .inl (dA 1, 64, .inl (fun _ => 0))), (v27, .inl (dA 2, 64, .inr (.inl (fun _ => 0)))), (v28, .inl (dA 2, 64, .inr (.inl (fun _ => 0)))), (mv0, .inl (dA 0, 65536, .inl (fun _ => 0))), (v4, .inr (3, ns)), (h, .inr (0, fs)), (o, .inl (dA 2, 1, .inr (.inl (fun _ => 0)))), (mm, .inr (9, (ms.set 0 (.int 2))))] := hD
  have hp9 : 2 = r3 := Eq.symm hp9
  subst hp9
  refine lv_iload hx hb d_SeriesVaultLaw_law_980 (lv_at hl 1 rfl) ?_
  refine lv_icmp_eq hx hb d_SeriesVaultLaw_law_982 (tgt := 987) rfl (fun _ => ?_) (fun h9 => absurd (by decide) h9)
  refine lv_iload hx hb d_SeriesVaultLaw_law_987 (lv_at hl 1 rfl) ?_
  refine lv_if_ne hx hb d_SeriesVaultLaw_law_989 (tgt := 1004) rfl (fun _ => ?_) (fun h9 => absurd h9 (by decide))
  refine lv_goto hx hb d_SeriesVaultLaw_law_1004 (tgt := 1770) rfl ?_
  refine lv_iinc (k := 2) (v := 6) hx hb d_SeriesVaultLaw_law_1770 hl rfl (by decide) (by decide) rfl (fun ls hl => ?_)
  have hl : lv_has ls 8 [(4, .int 6), (6, .int 0), (5, .int 2), (3, .ref o), (2, .ref mm), (1, .ref h), (0, .ref b)] := hl
  refine lv_goto hx hb d_SeriesVaultLaw_law_1773 (tgt := 23) rfl ?_
  refine lv_iload hx hb d_SeriesVaultLaw_law_23 (lv_at hl 0 rfl) ?_
  refine lv_aload_n hx hb d_SeriesVaultLaw_law_25 rfl (lv_at hl 6 rfl) ?_
  refine va_slen hx hb hX hbl hbA hS d_SeriesVaultLaw_law_26 ?_
  refine tpi (y := 6) (by decide) ?_
  refine lv_bipush (v := 6) hx hb d_SeriesVaultLaw_law_27 (by decide) ?_
  refine lv_isub hx hb d_SeriesVaultLaw_law_29 (tpi (y := 0) (by decide) ?_)
  refine lv_icmp_gt hx hb d_SeriesVaultLaw_law_30 (tgt := 1776) rfl (fun _ => ?_) (fun h9 => absurd (by decide) h9)
  refine lv_iconst (v := 1) hx hb d_SeriesVaultLaw_law_1776 (by decide) ?_
  exact lw_fin hC0 hS (Nat.le_of_ble_eq_true rfl) (Nat.le_of_ble_eq_true rfl) d_SeriesVaultLaw_law_1777
theorem d_SeriesVaultLaw_law_1007 : decode code 1007 = .ok (.aload_n 1, 1) := by decide +kernel
theorem d_SeriesVaultLaw_law_1008 : decode code 1008 = .ok (.aload_n 0, 1) := by decide +kernel
theorem d_SeriesVaultLaw_law_1009 : decode code 1009 = .ok (.iload 4, 2) := by decide +kernel
theorem d_SeriesVaultLaw_law_1011 : decode code 1011 = .ok (.iconst 1, 1) := by decide +kernel
theorem d_SeriesVaultLaw_law_1012 : decode code 1012 = .ok (.iadd, 1) := by decide +kernel
theorem d_SeriesVaultLaw_law_1013 : decode code 1013 = .ok (.iaload, 1) := by decide +kernel
theorem d_SeriesVaultLaw_law_1014 : decode code 1014 = .ok (.i2l, 1) := by decide +kernel
theorem d_SeriesVaultLaw_law_1015 : decode code 1015 = .ok (.bipush 32, 2) := by decide +kernel
theorem d_SeriesVaultLaw_law_1017 : decode code 1017 = .ok (.lshl, 1) := by decide +kernel
theorem d_SeriesVaultLaw_law_1018 : decode code 1018 = .ok (.aload_n 0, 1) := by decide +kernel
theorem d_SeriesVaultLaw_law_1019 : decode code 1019 = .ok (.iload 4, 2) := by decide +kernel
theorem d_SeriesVaultLaw_law_1021 : decode code 1021 = .ok (.iconst 2, 1) := by decide +kernel
theorem d_SeriesVaultLaw_law_1022 : decode code 1022 = .ok (.iadd, 1) := by decide +kernel
theorem d_SeriesVaultLaw_law_1023 : decode code 1023 = .ok (.iaload, 1) := by decide +kernel
theorem d_SeriesVaultLaw_law_1024 : decode code 1024 = .ok (.i2l, 1) := by decide +kernel
theorem d_SeriesVaultLaw_law_1025 : decode code 1025 = .ok (.ldc2_w 133, 3) := by decide +kernel
theorem d_SeriesVaultLaw_law_1028 : decode code 1028 = .ok (.land, 1) := by decide +kernel
theorem d_SeriesVaultLaw_law_1029 : decode code 1029 = .ok (.lor, 1) := by decide +kernel
theorem d_SeriesVaultLaw_law_1030 : decode code 1030 = .ok (.aload_n 3, 1) := by decide +kernel
theorem d_SeriesVaultLaw_law_1031 : decode code 1031 = .ok (.invokestatic 154, 3) := by decide +kernel
theorem d_SeriesVaultLaw_law_1034 : decode code 1034 = .ok (.istore 5, 2) := by decide +kernel
theorem d_SeriesVaultLaw_law_1036 : decode code 1036 = .ok (.aload_n 2, 1) := by decide +kernel
theorem d_SeriesVaultLaw_law_1037 : decode code 1037 = .ok (.aload_n 0, 1) := by decide +kernel
theorem d_SeriesVaultLaw_law_1038 : decode code 1038 = .ok (.iload 4, 2) := by decide +kernel
theorem d_SeriesVaultLaw_law_1040 : decode code 1040 = .ok (.iconst 1, 1) := by decide +kernel
theorem d_SeriesVaultLaw_law_1041 : decode code 1041 = .ok (.iadd, 1) := by decide +kernel
theorem d_SeriesVaultLaw_law_1042 : decode code 1042 = .ok (.iaload, 1) := by decide +kernel
theorem d_SeriesVaultLaw_law_1043 : decode code 1043 = .ok (.i2l, 1) := by decide +kernel
theorem d_SeriesVaultLaw_law_1044 : decode code 1044 = .ok (.bipush 32, 2) := by decide +kernel
theorem d_SeriesVaultLaw_law_1046 : decode code 1046 = .ok (.lshl, 1) := by decide +kernel
theorem d_SeriesVaultLaw_law_1047 : decode code 1047 = .ok (.aload_n 0, 1) := by decide +kernel
theorem d_SeriesVaultLaw_law_1048 : decode code 1048 = .ok (.iload 4, 2) := by decide +kernel
theorem d_SeriesVaultLaw_law_1050 : decode code 1050 = .ok (.iconst 2, 1) := by decide +kernel
theorem d_SeriesVaultLaw_law_1051 : decode code 1051 = .ok (.iadd, 1) := by decide +kernel
theorem d_SeriesVaultLaw_law_1052 : decode code 1052 = .ok (.iaload, 1) := by decide +kernel
theorem d_SeriesVaultLaw_law_1053 : decode code 1053 = .ok (.i2l, 1) := by decide +kernel
theorem d_SeriesVaultLaw_law_1054 : decode code 1054 = .ok (.ldc2_w 133, 3) := by decide +kernel
theorem d_SeriesVaultLaw_law_1057 : decode code 1057 = .ok (.land, 1) := by decide +kernel
theorem d_SeriesVaultLaw_law_1058 : decode code 1058 = .ok (.lor, 1) := by decide +kernel
theorem d_SeriesVaultLaw_law_1059 : decode code 1059 = .ok (.invokevirtual 157, 3) := by decide +kernel
theorem d_SeriesVaultLaw_law_1062 : decode code 1062 = .ok (.istore 6, 2) := by decide +kernel
theorem d_SeriesVaultLaw_law_1064 : decode code 1064 = .ok (.aload_n 2, 1) := by decide +kernel
theorem d_SeriesVaultLaw_law_1065 : decode code 1065 = .ok (.invokevirtual 110, 3) := by decide +kernel
theorem d_SeriesVaultLaw_law_1068 : decode code 1068 = .ok (.iload 5, 2) := by decide +kernel
theorem d_SeriesVaultLaw_law_1070 : decode code 1070 = .ok (.if_icmp .eq 5, 3) := by decide +kernel
theorem d_SeriesVaultLaw_law_1075 : decode code 1075 = .ok (.iload 5, 2) := by decide +kernel
theorem d_SeriesVaultLaw_law_1077 : decode code 1077 = .ok (.ifCond .ne 15, 3) := by decide +kernel
theorem d_SeriesVaultLaw_law_1092 : decode code 1092 = .ok (.goto 678, 3) := by decide +kernel
theorem w950 : Cond.methodLink "SeriesVaultLaw" 154 ⟨"SeriesVaultLaw", "retain", "(LSeriesVault;J[J)I"⟩ ∈ aW := aw_of (tb_6 (List.mem_of_getElem? (i := 147) rfl)) rfl
theorem w951 : Cond.codeWith ⟨"SeriesVaultLaw", "retain", "(LSeriesVault;J[J)I"⟩ method_15_code 5 (some FieldType.int) [(0, 9, 12, 29), (0, 9, 16, 19)] ∈ aW := aw_of (tb_6 (List.mem_of_getElem? (i := 149) rfl)) rfl
theorem w952 : Cond.static ⟨"SeriesVaultLaw", "retain", "(LSeriesVault;J[J)I"⟩ ∈ aW := aw_of (tb_6 (List.mem_of_getElem? (i := 148) rfl)) rfl
theorem w953 : Cond.methodLink "SeriesVaultLaw" 157 ⟨"SeriesVaultModel", "retain", "(J)I"⟩ ∈ aW := aw_of (tb_10 (List.mem_of_getElem? (i := 121) rfl)) rfl
theorem w954 : Cond.code ⟨"SeriesVaultModel", "retain", "(J)I"⟩ prog_14_method_47_code 7 (some FieldType.int) ∈ aW := aw_of (tb_10 (List.mem_of_getElem? (i := 124) rfl)) rfl
theorem w955 : Cond.instanceMethod ⟨"SeriesVaultModel", "retain", "(J)I"⟩ ∈ aW := aw_of (tb_10 (List.mem_of_getElem? (i := 122) rfl)) rfl
theorem w956 : Cond.selects "SeriesVaultModel" ⟨"SeriesVaultModel", "retain", "(J)I"⟩ ⟨"SeriesVaultModel", "retain", "(J)I"⟩ ∈ aW := aw_of (tb_10 (List.mem_of_getElem? (i := 123) rfl)) rfl
set_option maxHeartbeats 4000000 in
set_option maxRecDepth 100000 in
theorem law_12x {p : Program} {e : Env} {s : State} {m : MethodId} {below : List Frame} {meth : Method} {c : Code} (l : Launch) {b : Nat} {xs : Nat → Int32} {D : va_G} {dA : Nat → ClassId} {e0 : Nat} {A : Nat → Prop} {H : Heap} {locs : List Loc} {ls : Array Slot} (hC : lS p l s m meth c b 6 xs D dA e0 A) (h : Nat) (v0 : Nat) (v1 : Nat) (v2 : Nat) (v4 : Nat) (v5 : Nat) (v7 : Nat) (v8 : Nat) (v19 : Nat) (v20 : Nat) (v21 : Nat) (v22 : Nat) (v23 : Nat) (v25 : Nat) (v26 : Nat) (v27 : Nat) (v28 : Nat) (v35 : Nat) (mm : Nat) (mv0 : Nat) (o : Nat) (fs : List Value) (js : List Value) (hs : List Value) (ns : List Value) (ss : List Value) (rs : List Value) (qs : List Value) (als : List Value) (ms : List Value) (tt : Int64) (ht : (((xs 1).toInt64) <<< ((32 : Int32).toInt64 &&& 63)) ||| (((xs 2).toInt64) &&& 4294967295) = tt) (h0 : tt < 0 ∨ 1099511627775 < tt) (h_fs_powered : fs[5]? = some (.int 1)) (hl_fs : fs.length = 18) (hl_js : js.length = 13) (hl_hs : hs.length = 4) (hl_ns : ns.length = 11) (hl_ss : ss.length = 11) (hl_rs : rs.length = 6) (hl_qs : qs.length = 9) (hl_als : als.length = 3) (h_ms_on : ms[7]? = some (.int 1)) (h_ms_horizon : ms[24]? = some (.long 0)) (hl_ms : ms.length = 79) (hP : va_P D vwCl [(h, .inr (0, fs)), (v0, .inl (dA 0, 256, .inl (fun _ => 0))), (v1, .inr (1, js)), (v2, .inr (2, hs)), (v4, .inr (3, ns)), (v5, .inr (3, ss)), (v7, .inr (4, rs)), (v8, .inr (5, qs)), (v35, .inr (6, als)), (v19, .inl (dA 4, 32, .inr (.inr (.inr (.inr (fun _ => none)))))), (v20, .inl (dA 1, 64, .inl (fun _ => 0))), (v21, .inl (dA 2, 64, .inr (.inl (fun _ => 0)))), (v22, .inl (dA 2, 64, .inr (.inl (fun _ => 0)))), (v23, .inl (dA 1, 64, .inl (fun _ => 0))), (v25, .inl (dA 4, 32, .inr (.inr (.inr (.inr (fun _ => none)))))), (v26, .inl (dA 1, 64, .inl (fun _ => 0))), (v27, .inl (dA 2, 64, .inr (.inl (fun _ => 0)))), (v28, .inl (dA 2, 64, .inr (.inl (fun _ => 0)))), (mm, .inr (9, ms)), (mv0, .inl (dA 0, 65536, .inl (fun _ => 0))), (o, .inl (dA 2, 1, .inr (.inl (fun _ => 0))))] H) (hD : va_D A [(h, .inr (0, fs)), (v0, .inl (dA 0, 256, .inl (fun _ => 0))), (v1, .inr (1, js)), (v2, .inr (2, hs)), (v4, .inr (3, ns)), (v5, .inr (3, ss)), (v7, .inr (4, rs)), (v8, .inr (5, qs)), (v35, .inr (6, als)), (v19, .inl (dA 4, 32, .inr (.inr (.inr (.inr (fun _ => none)))))), (v20, .inl (dA 1, 64, .inl (fun _ => 0))), (v21, .inl (dA 2, 64, .inr (.inl (fun _ => 0)))), (v22, .inl (dA 2, 64, .inr (.inl (fun _ => 0)))), (v23, .inl (dA 1, 64, .inl (fun _ => 0))), (v25, .inl (dA 4, 32, .inr (.inr (.inr (.inr (fun _ => none)))))), (v26, .inl (dA 1, 64, .inl (fun _ => 0))), (v27, .inl (dA 2, 64, .inr (.inl (fun _ => 0)))), (v28, .inl (dA 2, 64, .inr (.inl (fun _ => 0)))), (mm, .inr (9, ms)), (mv0, .inl (dA 0, 65536, .inl (fun _ => 0))), (o, .inl (dA 2, 1, .inr (.inl (fun _ => 0))))]) (hS : va_S A s.heap H locs) (hl : lv_has ls 8 [(4, .int 0), (3, .ref o), (2, .ref mm), (1, .ref h), (0, .ref b)]) : W p l e room_1 s m #[Value.ref b] below meth c H locs 92 1177737 (lw_Z below #[Value.ref b] s) (F0 m 1007 ls []) := by
  have hC0 := hC
  obtain ⟨hx, hb, hr, hml, hown, hlk, hE, hK, hA, hN, hZ, hT, hX, hbl, hbA, hnew, htr⟩ := hC
  refine lv_aload_n hx hb d_SeriesVaultLaw_law_1007 rfl (lv_at hl 3 rfl) ?_
  refine lv_aload_n hx hb d_SeriesVaultLaw_law_1008 rfl (lv_at hl 4 rfl) ?_
  refine lv_iload hx hb d_SeriesVaultLaw_law_1009 (lv_at hl 0 rfl) ?_
  refine lv_iconst (v := 1) hx hb d_SeriesVaultLaw_law_1011 (by decide) ?_
  refine lv_iadd hx hb d_SeriesVaultLaw_law_1012 (tpi (y := 1) (by decide) ?_)
  refine va_sld hx hb hX hbl hbA hS (by unfold vp_in; decide) d_SeriesVaultLaw_law_1013 ?_
  refine tpi (y := xs 1) rfl ?_
  refine lv_i2l hx hb d_SeriesVaultLaw_law_1014 rfl ?_
  refine lv_bipush (v := 32) hx hb d_SeriesVaultLaw_law_1015 (by decide) ?_
  refine lv_lshl hx hb d_SeriesVaultLaw_law_1017 rfl ?_
  refine lv_aload_n hx hb d_SeriesVaultLaw_law_1018 rfl (lv_at hl 4 rfl) ?_
  refine lv_iload hx hb d_SeriesVaultLaw_law_1019 (lv_at hl 0 rfl) ?_
  refine lv_iconst (v := 2) hx hb d_SeriesVaultLaw_law_1021 (by decide) ?_
  refine lv_iadd hx hb d_SeriesVaultLaw_law_1022 (tpi (y := 2) (by decide) ?_)
  refine va_sld hx hb hX hbl hbA hS (by unfold vp_in; decide) d_SeriesVaultLaw_law_1023 ?_
  refine tpi (y := xs 2) rfl ?_
  refine lv_i2l hx hb d_SeriesVaultLaw_law_1024 rfl ?_
  refine lv_ldc2 (v := 4294967295) hx hb hown (hE.t w914 rfl) d_SeriesVaultLaw_law_1025 ?_
  refine lv_land hx hb d_SeriesVaultLaw_law_1028 ?_
  refine lv_lor hx hb d_SeriesVaultLaw_law_1029 ?_
  refine tpl (y := tt) ht ?_
  refine lv_aload_n hx hb d_SeriesVaultLaw_law_1030 rfl (lv_at hl 1 rfl) ?_
  have hPc := hP.sub (ws' := [(h, .inr (0, fs)), (o, .inl (dA 2, 1, .inr (.inl (fun _ => 0))))]) [0, 20] rfl
  have hDc := hD.sub (ws' := [(h, .inr (0, fs)), (o, .inl (dA 2, 1, .inr (.inl (fun _ => 0))))]) [0, 20] (by decide) rfl
  refine jnI (rnW (As := [.ref h, .long tt, .ref o]) (rest := []) hx hb hml hown hE hK (hN _ _ hS) hPc hDc (c_K_retain_x l htr D dA H.size h fs tt o (fun _ => 0) h0 h_fs_powered hl_fs) w951 w950 w952 w861 rfl rfl ⟨⟨by decide, by decide⟩, rfl⟩ ⟨(Nat.le_of_ble_eq_true rfl), (Nat.le_of_ble_eq_true rfl)⟩ rfl hl.1 rfl (Nat.le_of_ble_eq_true rfl) d_SeriesVaultLaw_law_1031 ⟨(Nat.le_of_ble_eq_true rfl), (Nat.le_of_ble_eq_true rfl)⟩) hP hD hS hA [0, 20] [1, 2, 3, 4, 5, 6, 7, 8, 9, 10, 11, 12, 13, 14, 15, 16, 17, 18, 19] (wr := [(v0, .inl (dA 0, 256, .inl (fun _ => 0))), (v1, .inr (1, js)), (v2, .inr (2, hs)), (v4, .inr (3, ns)), (v5, .inr (3, ss)), (v7, .inr (4, rs)), (v8, .inr (5, qs)), (v35, .inr (6, als)), (v19, .inl (dA 4, 32, .inr (.inr (.inr (.inr (fun _ => none)))))), (v20, .inl (dA 1, 64, .inl (fun _ => 0))), (v21, .inl (dA 2, 64, .inr (.inl (fun _ => 0)))), (v22, .inl (dA 2, 64, .inr (.inl (fun _ => 0)))), (v23, .inl (dA 1, 64, .inl (fun _ => 0))), (v25, .inl (dA 4, 32, .inr (.inr (.inr (.inr (fun _ => none)))))), (v26, .inl (dA 1, 64, .inl (fun _ => 0))), (v27, .inl (dA 2, 64, .inr (.inl (fun _ => 0)))), (v28, .inl (dA 2, 64, .inr (.inl (fun _ => 0)))), (mm, .inr (9, ms)), (mv0, .inl (dA 0, 65536, .inl (fun _ => 0)))]) rfl rfl (by decide) (by decide) (fun r1 u9 H locs hp9 hP hD hS => ?_)
  have hP : va_P D vwCl [(v0, .inl (dA 0, 256, .inl (fun _ => 0))), (v1, .inr (1, js)), (v2, .inr (2, hs)), (v4, .inr (3, ns)), (v5, .inr (3, ss)), (v7, .inr (4, rs)), (v8, .inr (5, qs)), (v35, .inr (6, als)), (v19, .inl (dA 4, 32, .inr (.inr (.inr (.inr (fun _ => none)))))), (v20, .inl (dA 1, 64, .inl (fun _ => 0))), (v21, .inl (dA 2, 64, .inr (.inl (fun _ => 0)))), (v22, .inl (dA 2, 64, .inr (.inl (fun _ => 0)))), (v23, .inl (dA 1, 64, .inl (fun _ => 0))), (v25, .inl (dA 4, 32, .inr (.inr (.inr (.inr (fun _ => none)))))), (v26, .inl (dA 1, 64, .inl (fun _ => 0))), (v27, .inl (dA 2, 64, .inr (.inl (fun _ => 0)))), (v28, .inl (dA 2, 64, .inr (.inl (fun _ => 0)))), (mm, .inr (9, ms)), (mv0, .inl (dA 0, 65536, .inl (fun _ => 0))), (h, .inr (0, fs)), (o, .inl (dA 2, 1, .inr (.inl (fun _ => 0))))] H := hP
  have hD : va_D A [(v0, .inl (dA 0, 256, .inl (fun _ => 0))), (v1, .inr (1, js)), (v2, .inr (2, hs)), (v4, .inr (3, ns)), (v5, .inr (3, ss)), (v7, .inr (4, rs)), (v8, .inr (5, qs)), (v35, .inr (6, als)), (v19, .inl (dA 4, 32, .inr (.inr (.inr (.inr (fun _ => none)))))), (v20, .inl (dA 1, 64, .inl (fun _ => 0))), (v21, .inl (dA 2, 64, .inr (.inl (fun _ => 0)))), (v22, .inl (dA 2, 64, .inr (.inl (fun _ => 0)))), (v23, .inl (dA 1, 64, .inl (fun _ => 0))), (v25, .inl (dA 4, 32, .inr (.inr (.inr (.inr (fun _ => none)))))), (v26, .inl (dA 1, 64, .inl (fun _ => 0))), (v27, .inl (dA 2, 64, .inr (.inl (fun _ => 0)))), (v28, .inl (dA 2, 64, .inr (.inl (fun _ => 0)))), (mm, .inr (9, ms)), (mv0, .inl (dA 0, 65536, .inl (fun _ => 0))), (h, .inr (0, fs)), (o, .inl (dA 2, 1, .inr (.inl (fun _ => 0))))] := hD
  have hp9 : 2 = r1 := Eq.symm hp9
  subst hp9
  refine lv_istore hx hb d_SeriesVaultLaw_law_1034 hl (by decide) rfl (fun ls hl => ?_)
  have hl : lv_has ls 8 [(5, .int 2), (4, .int 0), (3, .ref o), (2, .ref mm), (1, .ref h), (0, .ref b)] := hl
  refine lv_aload_n hx hb d_SeriesVaultLaw_law_1036 rfl (lv_at hl 3 rfl) ?_
  refine lv_aload_n hx hb d_SeriesVaultLaw_law_1037 rfl (lv_at hl 5 rfl) ?_
  refine lv_iload hx hb d_SeriesVaultLaw_law_1038 (lv_at hl 1 rfl) ?_
  refine lv_iconst (v := 1) hx hb d_SeriesVaultLaw_law_1040 (by decide) ?_
  refine lv_iadd hx hb d_SeriesVaultLaw_law_1041 (tpi (y := 1) (by decide) ?_)
  refine va_sld hx hb hX hbl hbA hS (by unfold vp_in; decide) d_SeriesVaultLaw_law_1042 ?_
  refine tpi (y := xs 1) rfl ?_
  refine lv_i2l hx hb d_SeriesVaultLaw_law_1043 rfl ?_
  refine lv_bipush (v := 32) hx hb d_SeriesVaultLaw_law_1044 (by decide) ?_
  refine lv_lshl hx hb d_SeriesVaultLaw_law_1046 rfl ?_
  refine lv_aload_n hx hb d_SeriesVaultLaw_law_1047 rfl (lv_at hl 5 rfl) ?_
  refine lv_iload hx hb d_SeriesVaultLaw_law_1048 (lv_at hl 1 rfl) ?_
  refine lv_iconst (v := 2) hx hb d_SeriesVaultLaw_law_1050 (by decide) ?_
  refine lv_iadd hx hb d_SeriesVaultLaw_law_1051 (tpi (y := 2) (by decide) ?_)
  refine va_sld hx hb hX hbl hbA hS (by unfold vp_in; decide) d_SeriesVaultLaw_law_1052 ?_
  refine tpi (y := xs 2) rfl ?_
  refine lv_i2l hx hb d_SeriesVaultLaw_law_1053 rfl ?_
  refine lv_ldc2 (v := 4294967295) hx hb hown (hE.t w914 rfl) d_SeriesVaultLaw_law_1054 ?_
  refine lv_land hx hb d_SeriesVaultLaw_law_1057 ?_
  refine lv_lor hx hb d_SeriesVaultLaw_law_1058 ?_
  refine tpl (y := tt) ht ?_
  have hPc := hP.sub (ws' := [(mm, .inr (9, ms))]) [17] rfl
  have hDc := hD.sub (ws' := [(mm, .inr (9, ms))]) [17] (by decide) rfl
  refine jnI (rnV (As := [.long tt]) (rest := []) hx hb hml hown hE hK (hN _ _ hS) hPc hDc (c_M_retain_x l D dA H.size mm ms tt h0 h_ms_on h_ms_horizon hl_ms) (q0 := 0) rfl rfl w954 w953 w955 w956 w328 rfl rfl ⟨⟨by decide, by decide⟩, rfl⟩ ⟨(Nat.le_of_ble_eq_true rfl), (Nat.le_of_ble_eq_true rfl)⟩ rfl hl.1 rfl (Nat.le_of_ble_eq_true rfl) d_SeriesVaultLaw_law_1059 ⟨(Nat.le_of_ble_eq_true rfl), (Nat.le_of_ble_eq_true rfl)⟩) hP hD hS hA [17] [0, 1, 2, 3, 4, 5, 6, 7, 8, 9, 10, 11, 12, 13, 14, 15, 16, 18, 19, 20] (wr := [(v0, .inl (dA 0, 256, .inl (fun _ => 0))), (v1, .inr (1, js)), (v2, .inr (2, hs)), (v4, .inr (3, ns)), (v5, .inr (3, ss)), (v7, .inr (4, rs)), (v8, .inr (5, qs)), (v35, .inr (6, als)), (v19, .inl (dA 4, 32, .inr (.inr (.inr (.inr (fun _ => none)))))), (v20, .inl (dA 1, 64, .inl (fun _ => 0))), (v21, .inl (dA 2, 64, .inr (.inl (fun _ => 0)))), (v22, .inl (dA 2, 64, .inr (.inl (fun _ => 0)))), (v23, .inl (dA 1, 64, .inl (fun _ => 0))), (v25, .inl (dA 4, 32, .inr (.inr (.inr (.inr (fun _ => none)))))), (v26, .inl (dA 1, 64, .inl (fun _ => 0))), (v27, .inl (dA 2, 64, .inr (.inl (fun _ => 0)))), (v28, .inl (dA 2, 64, .inr (.inl (fun _ => 0)))), (mv0, .inl (dA 0, 65536, .inl (fun _ => 0))), (h, .inr (0, fs)), (o, .inl (dA 2, 1, .inr (.inl (fun _ => 0))))]) rfl rfl (by decide) (by decide) (fun r2 u9 H locs hp9 hP hD hS => ?_)
  have hP : va_P D vwCl [(v0, .inl (dA 0, 256, .inl (fun _ => 0))), (v1, .inr (1, js)), (v2, .inr (2, hs)), (v4, .inr (3, ns)), (v5, .inr (3, ss)), (v7, .inr (4, rs)), (v8, .inr (5, qs)), (v35, .inr (6, als)), (v19, .inl (dA 4, 32, .inr (.inr (.inr (.inr (fun _ => none)))))), (v20, .inl (dA 1, 64, .inl (fun _ => 0))), (v21, .inl (dA 2, 64, .inr (.inl (fun _ => 0)))), (v22, .inl (dA 2, 64, .inr (.inl (fun _ => 0)))), (v23, .inl (dA 1, 64, .inl (fun _ => 0))), (v25, .inl (dA 4, 32, .inr (.inr (.inr (.inr (fun _ => none)))))), (v26, .inl (dA 1, 64, .inl (fun _ => 0))), (v27, .inl (dA 2, 64, .inr (.inl (fun _ => 0)))), (v28, .inl (dA 2, 64, .inr (.inl (fun _ => 0)))), (mv0, .inl (dA 0, 65536, .inl (fun _ => 0))), (h, .inr (0, fs)), (o, .inl (dA 2, 1, .inr (.inl (fun _ => 0)))), (mm, .inr (9, (ms.set 0 (.int 2))))] H := hP
  have hD : va_D A [(v0, .inl (dA 0, 256, .inl (fun _ => 0))), (v1, .inr (1, js)), (v2, .inr (2, hs)), (v4, .inr (3, ns)), (v5, .inr (3, ss)), (v7, .inr (4, rs)), (v8, .inr (5, qs)), (v35, .inr (6, als)), (v19, .inl (dA 4, 32, .inr (.inr (.inr (.inr (fun _ => none)))))), (v20, .inl (dA 1, 64, .inl (fun _ => 0))), (v21, .inl (dA 2, 64, .inr (.inl (fun _ => 0)))), (v22, .inl (dA 2, 64, .inr (.inl (fun _ => 0)))), (v23, .inl (dA 1, 64, .inl (fun _ => 0))), (v25, .inl (dA 4, 32, .inr (.inr (.inr (.inr (fun _ => none)))))), (v26, .inl (dA 1, 64, .inl (fun _ => 0))), (v27, .inl (dA 2, 64, .inr (.inl (fun _ => 0)))), (v28, .inl (dA 2, 64, .inr (.inl (fun _ => 0)))), (mv0, .inl (dA 0, 65536, .inl (fun _ => 0))), (h, .inr (0, fs)), (o, .inl (dA 2, 1, .inr (.inl (fun _ => 0)))), (mm, .inr (9, (ms.set 0 (.int 2))))] := hD
  have hp9 : 0 = r2 := Eq.symm hp9
  subst hp9
  refine lv_istore hx hb d_SeriesVaultLaw_law_1062 hl (by decide) rfl (fun ls hl => ?_)
  have hl : lv_has ls 8 [(6, .int 0), (5, .int 2), (4, .int 0), (3, .ref o), (2, .ref mm), (1, .ref h), (0, .ref b)] := hl
  refine lv_aload_n hx hb d_SeriesVaultLaw_law_1064 rfl (lv_at hl 4 rfl) ?_
  have hPc := hP.sub (ws' := [(mm, .inr (9, (ms.set 0 (.int 2))))]) [20] rfl
  have hDc := hD.sub (ws' := [(mm, .inr (9, (ms.set 0 (.int 2))))]) [20] (by decide) rfl
  refine jnI (rnV (As := []) (rest := []) hx hb hml hown hE hK (hN _ _ hS) hPc hDc (c_M_thrown l D dA H.size mm (ms.set 0 (.int 2)) 2 (by simp [hl_ms]) (by simp [hl_ms])) (q0 := 0) rfl rfl w869 w868 w870 w871 w328 rfl rfl ⟨⟨by decide, by decide⟩, rfl⟩ ⟨(Nat.le_of_ble_eq_true rfl), (Nat.le_of_ble_eq_true rfl)⟩ rfl hl.1 rfl (Nat.le_of_ble_eq_true rfl) d_SeriesVaultLaw_law_1065 ⟨(Nat.le_of_ble_eq_true rfl), (Nat.le_of_ble_eq_true rfl)⟩) hP hD hS hA [20] [0, 1, 2, 3, 4, 5, 6, 7, 8, 9, 10, 11, 12, 13, 14, 15, 16, 17, 18, 19] (wr := [(v0, .inl (dA 0, 256, .inl (fun _ => 0))), (v1, .inr (1, js)), (v2, .inr (2, hs)), (v4, .inr (3, ns)), (v5, .inr (3, ss)), (v7, .inr (4, rs)), (v8, .inr (5, qs)), (v35, .inr (6, als)), (v19, .inl (dA 4, 32, .inr (.inr (.inr (.inr (fun _ => none)))))), (v20, .inl (dA 1, 64, .inl (fun _ => 0))), (v21, .inl (dA 2, 64, .inr (.inl (fun _ => 0)))), (v22, .inl (dA 2, 64, .inr (.inl (fun _ => 0)))), (v23, .inl (dA 1, 64, .inl (fun _ => 0))), (v25, .inl (dA 4, 32, .inr (.inr (.inr (.inr (fun _ => none)))))), (v26, .inl (dA 1, 64, .inl (fun _ => 0))), (v27, .inl (dA 2, 64, .inr (.inl (fun _ => 0)))), (v28, .inl (dA 2, 64, .inr (.inl (fun _ => 0)))), (mv0, .inl (dA 0, 65536, .inl (fun _ => 0))), (h, .inr (0, fs)), (o, .inl (dA 2, 1, .inr (.inl (fun _ => 0))))]) rfl rfl (by decide) (by decide) (fun r3 u9 H locs hp9 hP hD hS => ?_)
  have hP : va_P D vwCl [(v0, .inl (dA 0, 256, .inl (fun _ => 0))), (v1, .inr (1, js)), (v2, .inr (2, hs)), (v4, .inr (3, ns)), (v5, .inr (3, ss)), (v7, .inr (4, rs)), (v8, .inr (5, qs)), (v35, .inr (6, als)), (v19, .inl (dA 4, 32, .inr (.inr (.inr (.inr (fun _ => none)))))), (v20, .inl (dA 1, 64, .inl (fun _ => 0))), (v21, .inl (dA 2, 64, .inr (.inl (fun _ => 0)))), (v22, .inl (dA 2, 64, .inr (.inl (fun _ => 0)))), (v23, .inl (dA 1, 64, .inl (fun _ => 0))), (v25, .inl (dA 4, 32, .inr (.inr (.inr (.inr (fun _ => none)))))), (v26, .inl (dA 1, 64, .inl (fun _ => 0))), (v27, .inl (dA 2, 64, .inr (.inl (fun _ => 0)))), (v28, .inl (dA 2, 64, .inr (.inl (fun _ => 0)))), (mv0, .inl (dA 0, 65536, .inl (fun _ => 0))), (h, .inr (0, fs)), (o, .inl (dA 2, 1, .inr (.inl (fun _ => 0)))), (mm, .inr (9, (ms.set 0 (.int 2))))] H := hP
  have hD : va_D A [(v0, .inl (dA 0, 256, .inl (fun _ => 0))), (v1, .inr (1, js)), (v2, .inr (2, hs)), (v4, .inr (3, ns)), (v5, .inr (3, ss)), (v7, .inr (4, rs)), (v8, .inr (5, qs)), (v35, .inr (6, als)), (v19, .inl (dA 4, 32, .inr (.inr (.inr (.inr (fun _ => none)))))), (v20, .inl (dA 1, 64, .inl (fun _ => 0))), (v21, .inl (dA 2, 64, .inr (.inl (fun _ => 0)))), (v22, .inl (dA 2, 64, .inr (.inl (fun _ => 0)))), (v23, .inl (dA 1, 64, .inl (fun _ => 0))), (v25, .inl (dA 4, 32, .inr (.inr (.inr (.inr (fun _ => none)))))), (v26, .inl (dA 1, 64, .inl (fun _ => 0))), (v27, .inl (dA 2, 64, .inr (.inl (fun _ => 0)))), (v28, .inl (dA 2, 64, .inr (.inl (fun _ => 0)))), (mv0, .inl (dA 0, 65536, .inl (fun _ => 0))), (h, .inr (0, fs)), (o, .inl (dA 2, 1, .inr (.inl (fun _ => 0)))), (mm, .inr (9, (ms.set 0 (.int 2))))] := hD
  have hp9 : 2 = r3 := Eq.symm hp9
  subst hp9
  refine lv_iload hx hb d_SeriesVaultLaw_law_1068 (lv_at hl 1 rfl) ?_
  refine lv_icmp_eq hx hb d_SeriesVaultLaw_law_1070 (tgt := 1075) rfl (fun _ => ?_) (fun h9 => absurd (by decide) h9)
  refine lv_iload hx hb d_SeriesVaultLaw_law_1075 (lv_at hl 1 rfl) ?_
  refine lv_if_ne hx hb d_SeriesVaultLaw_law_1077 (tgt := 1092) rfl (fun _ => ?_) (fun h9 => absurd h9 (by decide))
  refine lv_goto hx hb d_SeriesVaultLaw_law_1092 (tgt := 1770) rfl ?_
  refine lv_iinc (k := 2) (v := 6) hx hb d_SeriesVaultLaw_law_1770 hl rfl (by decide) (by decide) rfl (fun ls hl => ?_)
  have hl : lv_has ls 8 [(4, .int 6), (6, .int 0), (5, .int 2), (3, .ref o), (2, .ref mm), (1, .ref h), (0, .ref b)] := hl
  refine lv_goto hx hb d_SeriesVaultLaw_law_1773 (tgt := 23) rfl ?_
  refine lv_iload hx hb d_SeriesVaultLaw_law_23 (lv_at hl 0 rfl) ?_
  refine lv_aload_n hx hb d_SeriesVaultLaw_law_25 rfl (lv_at hl 6 rfl) ?_
  refine va_slen hx hb hX hbl hbA hS d_SeriesVaultLaw_law_26 ?_
  refine tpi (y := 6) (by decide) ?_
  refine lv_bipush (v := 6) hx hb d_SeriesVaultLaw_law_27 (by decide) ?_
  refine lv_isub hx hb d_SeriesVaultLaw_law_29 (tpi (y := 0) (by decide) ?_)
  refine lv_icmp_gt hx hb d_SeriesVaultLaw_law_30 (tgt := 1776) rfl (fun _ => ?_) (fun h9 => absurd (by decide) h9)
  refine lv_iconst (v := 1) hx hb d_SeriesVaultLaw_law_1776 (by decide) ?_
  exact lw_fin hC0 hS (Nat.le_of_ble_eq_true rfl) (Nat.le_of_ble_eq_true rfl) d_SeriesVaultLaw_law_1777
theorem d_SeriesVaultLaw_law_1080 : decode code 1080 = .ok (.aload_n 3, 1) := by decide +kernel
theorem d_SeriesVaultLaw_law_1081 : decode code 1081 = .ok (.iconst 0, 1) := by decide +kernel
theorem d_SeriesVaultLaw_law_1082 : decode code 1082 = .ok (.laload, 1) := by decide +kernel
theorem d_SeriesVaultLaw_law_1083 : decode code 1083 = .ok (.iload 6, 2) := by decide +kernel
theorem d_SeriesVaultLaw_law_1085 : decode code 1085 = .ok (.i2l, 1) := by decide +kernel
theorem d_SeriesVaultLaw_law_1086 : decode code 1086 = .ok (.lcmp, 1) := by decide +kernel
theorem d_SeriesVaultLaw_law_1087 : decode code 1087 = .ok (.ifCond .eq 5, 3) := by decide +kernel
set_option maxHeartbeats 4000000 in
set_option maxRecDepth 100000 in
theorem law_12_0 {p : Program} {e : Env} {s : State} {m : MethodId} {below : List Frame} {meth : Method} {c : Code} (l : Launch) {b : Nat} {xs : Nat → Int32} {D : va_G} {dA : Nat → ClassId} {e0 : Nat} {A : Nat → Prop} {H : Heap} {locs : List Loc} {ls : Array Slot} (hC : lS p l s m meth c b 6 xs D dA e0 A) (h : Nat) (v0 : Nat) (v1 : Nat) (v2 : Nat) (v4 : Nat) (v5 : Nat) (v7 : Nat) (v8 : Nat) (v19 : Nat) (v20 : Nat) (v21 : Nat) (v22 : Nat) (v23 : Nat) (v25 : Nat) (v26 : Nat) (v27 : Nat) (v28 : Nat) (v35 : Nat) (mm : Nat) (mv0 : Nat) (o : Nat) (fs : List Value) (js : List Value) (hs : List Value) (ns : List Value) (ss : List Value) (rs : List Value) (qs : List Value) (als : List Value) (ms : List Value) (ht : (((xs 1).toInt64) <<< ((32 : Int32).toInt64 &&& 63)) ||| (((xs 2).toInt64) &&& 4294967295) = 0) (h_fs_powered : fs[5]? = some (.int 1)) (h_fs_now : fs[11]? = some (.ref v4)) (hl_fs : fs.length = 18) (hl_js : js.length = 13) (hl_hs : hs.length = 4) (h_ns_horizon : ns[7]? = some (.long 0)) (hl_ns : ns.length = 11) (hl_ss : ss.length = 11) (hl_rs : rs.length = 6) (hl_qs : qs.length = 9) (hl_als : als.length = 3) (h_ms_on : ms[7]? = some (.int 1)) (h_ms_horizon : ms[24]? = some (.long 0)) (hl_ms : ms.length = 79) (hP : va_P D vwCl [(h, .inr (0, fs)), (v0, .inl (dA 0, 256, .inl (fun _ => 0))), (v1, .inr (1, js)), (v2, .inr (2, hs)), (v4, .inr (3, ns)), (v5, .inr (3, ss)), (v7, .inr (4, rs)), (v8, .inr (5, qs)), (v35, .inr (6, als)), (v19, .inl (dA 4, 32, .inr (.inr (.inr (.inr (fun _ => none)))))), (v20, .inl (dA 1, 64, .inl (fun _ => 0))), (v21, .inl (dA 2, 64, .inr (.inl (fun _ => 0)))), (v22, .inl (dA 2, 64, .inr (.inl (fun _ => 0)))), (v23, .inl (dA 1, 64, .inl (fun _ => 0))), (v25, .inl (dA 4, 32, .inr (.inr (.inr (.inr (fun _ => none)))))), (v26, .inl (dA 1, 64, .inl (fun _ => 0))), (v27, .inl (dA 2, 64, .inr (.inl (fun _ => 0)))), (v28, .inl (dA 2, 64, .inr (.inl (fun _ => 0)))), (mm, .inr (9, ms)), (mv0, .inl (dA 0, 65536, .inl (fun _ => 0))), (o, .inl (dA 2, 1, .inr (.inl (fun _ => 0))))] H) (hD : va_D A [(h, .inr (0, fs)), (v0, .inl (dA 0, 256, .inl (fun _ => 0))), (v1, .inr (1, js)), (v2, .inr (2, hs)), (v4, .inr (3, ns)), (v5, .inr (3, ss)), (v7, .inr (4, rs)), (v8, .inr (5, qs)), (v35, .inr (6, als)), (v19, .inl (dA 4, 32, .inr (.inr (.inr (.inr (fun _ => none)))))), (v20, .inl (dA 1, 64, .inl (fun _ => 0))), (v21, .inl (dA 2, 64, .inr (.inl (fun _ => 0)))), (v22, .inl (dA 2, 64, .inr (.inl (fun _ => 0)))), (v23, .inl (dA 1, 64, .inl (fun _ => 0))), (v25, .inl (dA 4, 32, .inr (.inr (.inr (.inr (fun _ => none)))))), (v26, .inl (dA 1, 64, .inl (fun _ => 0))), (v27, .inl (dA 2, 64, .inr (.inl (fun _ => 0)))), (v28, .inl (dA 2, 64, .inr (.inl (fun _ => 0)))), (mm, .inr (9, ms)), (mv0, .inl (dA 0, 65536, .inl (fun _ => 0))), (o, .inl (dA 2, 1, .inr (.inl (fun _ => 0))))]) (hS : va_S A s.heap H locs) (hl : lv_has ls 8 [(4, .int 0), (3, .ref o), (2, .ref mm), (1, .ref h), (0, .ref b)]) : W p l e room_1 s m #[Value.ref b] below meth c H locs 92 1177737 (lw_Z below #[Value.ref b] s) (F0 m 1007 ls []) := by
  have hC0 := hC
  obtain ⟨hx, hb, hr, hml, hown, hlk, hE, hK, hA, hN, hZ, hT, hX, hbl, hbA, hnew, htr⟩ := hC
  refine lv_aload_n hx hb d_SeriesVaultLaw_law_1007 rfl (lv_at hl 3 rfl) ?_
  refine lv_aload_n hx hb d_SeriesVaultLaw_law_1008 rfl (lv_at hl 4 rfl) ?_
  refine lv_iload hx hb d_SeriesVaultLaw_law_1009 (lv_at hl 0 rfl) ?_
  refine lv_iconst (v := 1) hx hb d_SeriesVaultLaw_law_1011 (by decide) ?_
  refine lv_iadd hx hb d_SeriesVaultLaw_law_1012 (tpi (y := 1) (by decide) ?_)
  refine va_sld hx hb hX hbl hbA hS (by unfold vp_in; decide) d_SeriesVaultLaw_law_1013 ?_
  refine tpi (y := xs 1) rfl ?_
  refine lv_i2l hx hb d_SeriesVaultLaw_law_1014 rfl ?_
  refine lv_bipush (v := 32) hx hb d_SeriesVaultLaw_law_1015 (by decide) ?_
  refine lv_lshl hx hb d_SeriesVaultLaw_law_1017 rfl ?_
  refine lv_aload_n hx hb d_SeriesVaultLaw_law_1018 rfl (lv_at hl 4 rfl) ?_
  refine lv_iload hx hb d_SeriesVaultLaw_law_1019 (lv_at hl 0 rfl) ?_
  refine lv_iconst (v := 2) hx hb d_SeriesVaultLaw_law_1021 (by decide) ?_
  refine lv_iadd hx hb d_SeriesVaultLaw_law_1022 (tpi (y := 2) (by decide) ?_)
  refine va_sld hx hb hX hbl hbA hS (by unfold vp_in; decide) d_SeriesVaultLaw_law_1023 ?_
  refine tpi (y := xs 2) rfl ?_
  refine lv_i2l hx hb d_SeriesVaultLaw_law_1024 rfl ?_
  refine lv_ldc2 (v := 4294967295) hx hb hown (hE.t w914 rfl) d_SeriesVaultLaw_law_1025 ?_
  refine lv_land hx hb d_SeriesVaultLaw_law_1028 ?_
  refine lv_lor hx hb d_SeriesVaultLaw_law_1029 ?_
  refine tpl (y := 0) ht ?_
  refine lv_aload_n hx hb d_SeriesVaultLaw_law_1030 rfl (lv_at hl 1 rfl) ?_
  have hPc := hP.sub (ws' := [(h, .inr (0, fs)), (v4, .inr (3, ns)), (o, .inl (dA 2, 1, .inr (.inl (fun _ => 0))))]) [0, 4, 20] rfl
  have hDc := hD.sub (ws' := [(h, .inr (0, fs)), (v4, .inr (3, ns)), (o, .inl (dA 2, 1, .inr (.inl (fun _ => 0))))]) [0, 4, 20] (by decide) rfl
  refine jnI (rnW (As := [.ref h, .long 0, .ref o]) (rest := []) hx hb hml hown hE hK (hN _ _ hS) hPc hDc (c_K_retain_0 l htr D dA H.size h fs v4 ns o (fun _ => 0) h_fs_powered h_fs_now hl_fs h_ns_horizon hl_ns) w951 w950 w952 w861 rfl rfl ⟨⟨by decide, by decide⟩, rfl⟩ ⟨(Nat.le_of_ble_eq_true rfl), (Nat.le_of_ble_eq_true rfl)⟩ rfl hl.1 rfl (Nat.le_of_ble_eq_true rfl) d_SeriesVaultLaw_law_1031 ⟨(Nat.le_of_ble_eq_true rfl), (Nat.le_of_ble_eq_true rfl)⟩) hP hD hS hA [0, 4, 20] [1, 2, 3, 5, 6, 7, 8, 9, 10, 11, 12, 13, 14, 15, 16, 17, 18, 19] (wr := [(v0, .inl (dA 0, 256, .inl (fun _ => 0))), (v1, .inr (1, js)), (v2, .inr (2, hs)), (v5, .inr (3, ss)), (v7, .inr (4, rs)), (v8, .inr (5, qs)), (v35, .inr (6, als)), (v19, .inl (dA 4, 32, .inr (.inr (.inr (.inr (fun _ => none)))))), (v20, .inl (dA 1, 64, .inl (fun _ => 0))), (v21, .inl (dA 2, 64, .inr (.inl (fun _ => 0)))), (v22, .inl (dA 2, 64, .inr (.inl (fun _ => 0)))), (v23, .inl (dA 1, 64, .inl (fun _ => 0))), (v25, .inl (dA 4, 32, .inr (.inr (.inr (.inr (fun _ => none)))))), (v26, .inl (dA 1, 64, .inl (fun _ => 0))), (v27, .inl (dA 2, 64, .inr (.inl (fun _ => 0)))), (v28, .inl (dA 2, 64, .inr (.inl (fun _ => 0)))), (mm, .inr (9, ms)), (mv0, .inl (dA 0, 65536, .inl (fun _ => 0)))]) rfl rfl (by decide) (by decide) (fun r1 u9 H locs hp9 hP hD hS => ?_)
  have hP : va_P D vwCl [(v0, .inl (dA 0, 256, .inl (fun _ => 0))), (v1, .inr (1, js)), (v2, .inr (2, hs)), (v5, .inr (3, ss)), (v7, .inr (4, rs)), (v8, .inr (5, qs)), (v35, .inr (6, als)), (v19, .inl (dA 4, 32, .inr (.inr (.inr (.inr (fun _ => none)))))), (v20, .inl (dA 1, 64, .inl (fun _ => 0))), (v21, .inl (dA 2, 64, .inr (.inl (fun _ => 0)))), (v22, .inl (dA 2, 64, .inr (.inl (fun _ => 0)))), (v23, .inl (dA 1, 64, .inl (fun _ => 0))), (v25, .inl (dA 4, 32, .inr (.inr (.inr (.inr (fun _ => none)))))), (v26, .inl (dA 1, 64, .inl (fun _ => 0))), (v27, .inl (dA 2, 64, .inr (.inl (fun _ => 0)))), (v28, .inl (dA 2, 64, .inr (.inl (fun _ => 0)))), (mm, .inr (9, ms)), (mv0, .inl (dA 0, 65536, .inl (fun _ => 0))), (h, .inr (0, fs)), (v4, .inr (3, ns)), (o, .inl (dA 2, 1, .inr (.inl (vp_updL (fun _ => 0) 0 0))))] H := hP
  have hD : va_D A [(v0, .inl (dA 0, 256, .inl (fun _ => 0))), (v1, .inr (1, js)), (v2, .inr (2, hs)), (v5, .inr (3, ss)), (v7, .inr (4, rs)), (v8, .inr (5, qs)), (v35, .inr (6, als)), (v19, .inl (dA 4, 32, .inr (.inr (.inr (.inr (fun _ => none)))))), (v20, .inl (dA 1, 64, .inl (fun _ => 0))), (v21, .inl (dA 2, 64, .inr (.inl (fun _ => 0)))), (v22, .inl (dA 2, 64, .inr (.inl (fun _ => 0)))), (v23, .inl (dA 1, 64, .inl (fun _ => 0))), (v25, .inl (dA 4, 32, .inr (.inr (.inr (.inr (fun _ => none)))))), (v26, .inl (dA 1, 64, .inl (fun _ => 0))), (v27, .inl (dA 2, 64, .inr (.inl (fun _ => 0)))), (v28, .inl (dA 2, 64, .inr (.inl (fun _ => 0)))), (mm, .inr (9, ms)), (mv0, .inl (dA 0, 65536, .inl (fun _ => 0))), (h, .inr (0, fs)), (v4, .inr (3, ns)), (o, .inl (dA 2, 1, .inr (.inl (vp_updL (fun _ => 0) 0 0))))] := hD
  have hp9 : 0 = r1 := Eq.symm hp9
  subst hp9
  refine lv_istore hx hb d_SeriesVaultLaw_law_1034 hl (by decide) rfl (fun ls hl => ?_)
  have hl : lv_has ls 8 [(5, .int 0), (4, .int 0), (3, .ref o), (2, .ref mm), (1, .ref h), (0, .ref b)] := hl
  refine lv_aload_n hx hb d_SeriesVaultLaw_law_1036 rfl (lv_at hl 3 rfl) ?_
  refine lv_aload_n hx hb d_SeriesVaultLaw_law_1037 rfl (lv_at hl 5 rfl) ?_
  refine lv_iload hx hb d_SeriesVaultLaw_law_1038 (lv_at hl 1 rfl) ?_
  refine lv_iconst (v := 1) hx hb d_SeriesVaultLaw_law_1040 (by decide) ?_
  refine lv_iadd hx hb d_SeriesVaultLaw_law_1041 (tpi (y := 1) (by decide) ?_)
  refine va_sld hx hb hX hbl hbA hS (by unfold vp_in; decide) d_SeriesVaultLaw_law_1042 ?_
  refine tpi (y := xs 1) rfl ?_
  refine lv_i2l hx hb d_SeriesVaultLaw_law_1043 rfl ?_
  refine lv_bipush (v := 32) hx hb d_SeriesVaultLaw_law_1044 (by decide) ?_
  refine lv_lshl hx hb d_SeriesVaultLaw_law_1046 rfl ?_
  refine lv_aload_n hx hb d_SeriesVaultLaw_law_1047 rfl (lv_at hl 5 rfl) ?_
  refine lv_iload hx hb d_SeriesVaultLaw_law_1048 (lv_at hl 1 rfl) ?_
  refine lv_iconst (v := 2) hx hb d_SeriesVaultLaw_law_1050 (by decide) ?_
  refine lv_iadd hx hb d_SeriesVaultLaw_law_1051 (tpi (y := 2) (by decide) ?_)
  refine va_sld hx hb hX hbl hbA hS (by unfold vp_in; decide) d_SeriesVaultLaw_law_1052 ?_
  refine tpi (y := xs 2) rfl ?_
  refine lv_i2l hx hb d_SeriesVaultLaw_law_1053 rfl ?_
  refine lv_ldc2 (v := 4294967295) hx hb hown (hE.t w914 rfl) d_SeriesVaultLaw_law_1054 ?_
  refine lv_land hx hb d_SeriesVaultLaw_law_1057 ?_
  refine lv_lor hx hb d_SeriesVaultLaw_law_1058 ?_
  refine tpl (y := 0) ht ?_
  have hPc := hP.sub (ws' := [(mm, .inr (9, ms))]) [16] rfl
  have hDc := hD.sub (ws' := [(mm, .inr (9, ms))]) [16] (by decide) rfl
  refine jnI (rnV (As := [.long 0]) (rest := []) hx hb hml hown hE hK (hN _ _ hS) hPc hDc (c_M_retain_0 l D dA H.size mm ms h_ms_on h_ms_horizon hl_ms) (q0 := 0) rfl rfl w954 w953 w955 w956 w328 rfl rfl ⟨⟨by decide, by decide⟩, rfl⟩ ⟨(Nat.le_of_ble_eq_true rfl), (Nat.le_of_ble_eq_true rfl)⟩ rfl hl.1 rfl (Nat.le_of_ble_eq_true rfl) d_SeriesVaultLaw_law_1059 ⟨(Nat.le_of_ble_eq_true rfl), (Nat.le_of_ble_eq_true rfl)⟩) hP hD hS hA [16] [0, 1, 2, 3, 4, 5, 6, 7, 8, 9, 10, 11, 12, 13, 14, 15, 17, 18, 19, 20] (wr := [(v0, .inl (dA 0, 256, .inl (fun _ => 0))), (v1, .inr (1, js)), (v2, .inr (2, hs)), (v5, .inr (3, ss)), (v7, .inr (4, rs)), (v8, .inr (5, qs)), (v35, .inr (6, als)), (v19, .inl (dA 4, 32, .inr (.inr (.inr (.inr (fun _ => none)))))), (v20, .inl (dA 1, 64, .inl (fun _ => 0))), (v21, .inl (dA 2, 64, .inr (.inl (fun _ => 0)))), (v22, .inl (dA 2, 64, .inr (.inl (fun _ => 0)))), (v23, .inl (dA 1, 64, .inl (fun _ => 0))), (v25, .inl (dA 4, 32, .inr (.inr (.inr (.inr (fun _ => none)))))), (v26, .inl (dA 1, 64, .inl (fun _ => 0))), (v27, .inl (dA 2, 64, .inr (.inl (fun _ => 0)))), (v28, .inl (dA 2, 64, .inr (.inl (fun _ => 0)))), (mv0, .inl (dA 0, 65536, .inl (fun _ => 0))), (h, .inr (0, fs)), (v4, .inr (3, ns)), (o, .inl (dA 2, 1, .inr (.inl (vp_updL (fun _ => 0) 0 0))))]) rfl rfl (by decide) (by decide) (fun r2 u9 H locs hp9 hP hD hS => ?_)
  have hP : va_P D vwCl [(v0, .inl (dA 0, 256, .inl (fun _ => 0))), (v1, .inr (1, js)), (v2, .inr (2, hs)), (v5, .inr (3, ss)), (v7, .inr (4, rs)), (v8, .inr (5, qs)), (v35, .inr (6, als)), (v19, .inl (dA 4, 32, .inr (.inr (.inr (.inr (fun _ => none)))))), (v20, .inl (dA 1, 64, .inl (fun _ => 0))), (v21, .inl (dA 2, 64, .inr (.inl (fun _ => 0)))), (v22, .inl (dA 2, 64, .inr (.inl (fun _ => 0)))), (v23, .inl (dA 1, 64, .inl (fun _ => 0))), (v25, .inl (dA 4, 32, .inr (.inr (.inr (.inr (fun _ => none)))))), (v26, .inl (dA 1, 64, .inl (fun _ => 0))), (v27, .inl (dA 2, 64, .inr (.inl (fun _ => 0)))), (v28, .inl (dA 2, 64, .inr (.inl (fun _ => 0)))), (mv0, .inl (dA 0, 65536, .inl (fun _ => 0))), (h, .inr (0, fs)), (v4, .inr (3, ns)), (o, .inl (dA 2, 1, .inr (.inl (vp_updL (fun _ => 0) 0 0)))), (mm, .inr (9, (ms.set 0 (.int 0))))] H := hP
  have hD : va_D A [(v0, .inl (dA 0, 256, .inl (fun _ => 0))), (v1, .inr (1, js)), (v2, .inr (2, hs)), (v5, .inr (3, ss)), (v7, .inr (4, rs)), (v8, .inr (5, qs)), (v35, .inr (6, als)), (v19, .inl (dA 4, 32, .inr (.inr (.inr (.inr (fun _ => none)))))), (v20, .inl (dA 1, 64, .inl (fun _ => 0))), (v21, .inl (dA 2, 64, .inr (.inl (fun _ => 0)))), (v22, .inl (dA 2, 64, .inr (.inl (fun _ => 0)))), (v23, .inl (dA 1, 64, .inl (fun _ => 0))), (v25, .inl (dA 4, 32, .inr (.inr (.inr (.inr (fun _ => none)))))), (v26, .inl (dA 1, 64, .inl (fun _ => 0))), (v27, .inl (dA 2, 64, .inr (.inl (fun _ => 0)))), (v28, .inl (dA 2, 64, .inr (.inl (fun _ => 0)))), (mv0, .inl (dA 0, 65536, .inl (fun _ => 0))), (h, .inr (0, fs)), (v4, .inr (3, ns)), (o, .inl (dA 2, 1, .inr (.inl (vp_updL (fun _ => 0) 0 0)))), (mm, .inr (9, (ms.set 0 (.int 0))))] := hD
  have hp9 : 0 = r2 := Eq.symm hp9
  subst hp9
  refine lv_istore hx hb d_SeriesVaultLaw_law_1062 hl (by decide) rfl (fun ls hl => ?_)
  have hl : lv_has ls 8 [(6, .int 0), (5, .int 0), (4, .int 0), (3, .ref o), (2, .ref mm), (1, .ref h), (0, .ref b)] := hl
  refine lv_aload_n hx hb d_SeriesVaultLaw_law_1064 rfl (lv_at hl 4 rfl) ?_
  have hPc := hP.sub (ws' := [(mm, .inr (9, (ms.set 0 (.int 0))))]) [20] rfl
  have hDc := hD.sub (ws' := [(mm, .inr (9, (ms.set 0 (.int 0))))]) [20] (by decide) rfl
  refine jnI (rnV (As := []) (rest := []) hx hb hml hown hE hK (hN _ _ hS) hPc hDc (c_M_thrown l D dA H.size mm (ms.set 0 (.int 0)) 0 (by simp [hl_ms]) (by simp [hl_ms])) (q0 := 0) rfl rfl w869 w868 w870 w871 w328 rfl rfl ⟨⟨by decide, by decide⟩, rfl⟩ ⟨(Nat.le_of_ble_eq_true rfl), (Nat.le_of_ble_eq_true rfl)⟩ rfl hl.1 rfl (Nat.le_of_ble_eq_true rfl) d_SeriesVaultLaw_law_1065 ⟨(Nat.le_of_ble_eq_true rfl), (Nat.le_of_ble_eq_true rfl)⟩) hP hD hS hA [20] [0, 1, 2, 3, 4, 5, 6, 7, 8, 9, 10, 11, 12, 13, 14, 15, 16, 17, 18, 19] (wr := [(v0, .inl (dA 0, 256, .inl (fun _ => 0))), (v1, .inr (1, js)), (v2, .inr (2, hs)), (v5, .inr (3, ss)), (v7, .inr (4, rs)), (v8, .inr (5, qs)), (v35, .inr (6, als)), (v19, .inl (dA 4, 32, .inr (.inr (.inr (.inr (fun _ => none)))))), (v20, .inl (dA 1, 64, .inl (fun _ => 0))), (v21, .inl (dA 2, 64, .inr (.inl (fun _ => 0)))), (v22, .inl (dA 2, 64, .inr (.inl (fun _ => 0)))), (v23, .inl (dA 1, 64, .inl (fun _ => 0))), (v25, .inl (dA 4, 32, .inr (.inr (.inr (.inr (fun _ => none)))))), (v26, .inl (dA 1, 64, .inl (fun _ => 0))), (v27, .inl (dA 2, 64, .inr (.inl (fun _ => 0)))), (v28, .inl (dA 2, 64, .inr (.inl (fun _ => 0)))), (mv0, .inl (dA 0, 65536, .inl (fun _ => 0))), (h, .inr (0, fs)), (v4, .inr (3, ns)), (o, .inl (dA 2, 1, .inr (.inl (vp_updL (fun _ => 0) 0 0))))]) rfl rfl (by decide) (by decide) (fun r3 u9 H locs hp9 hP hD hS => ?_)
  have hP : va_P D vwCl [(v0, .inl (dA 0, 256, .inl (fun _ => 0))), (v1, .inr (1, js)), (v2, .inr (2, hs)), (v5, .inr (3, ss)), (v7, .inr (4, rs)), (v8, .inr (5, qs)), (v35, .inr (6, als)), (v19, .inl (dA 4, 32, .inr (.inr (.inr (.inr (fun _ => none)))))), (v20, .inl (dA 1, 64, .inl (fun _ => 0))), (v21, .inl (dA 2, 64, .inr (.inl (fun _ => 0)))), (v22, .inl (dA 2, 64, .inr (.inl (fun _ => 0)))), (v23, .inl (dA 1, 64, .inl (fun _ => 0))), (v25, .inl (dA 4, 32, .inr (.inr (.inr (.inr (fun _ => none)))))), (v26, .inl (dA 1, 64, .inl (fun _ => 0))), (v27, .inl (dA 2, 64, .inr (.inl (fun _ => 0)))), (v28, .inl (dA 2, 64, .inr (.inl (fun _ => 0)))), (mv0, .inl (dA 0, 65536, .inl (fun _ => 0))), (h, .inr (0, fs)), (v4, .inr (3, ns)), (o, .inl (dA 2, 1, .inr (.inl (vp_updL (fun _ => 0) 0 0)))), (mm, .inr (9, (ms.set 0 (.int 0))))] H := hP
  have hD : va_D A [(v0, .inl (dA 0, 256, .inl (fun _ => 0))), (v1, .inr (1, js)), (v2, .inr (2, hs)), (v5, .inr (3, ss)), (v7, .inr (4, rs)), (v8, .inr (5, qs)), (v35, .inr (6, als)), (v19, .inl (dA 4, 32, .inr (.inr (.inr (.inr (fun _ => none)))))), (v20, .inl (dA 1, 64, .inl (fun _ => 0))), (v21, .inl (dA 2, 64, .inr (.inl (fun _ => 0)))), (v22, .inl (dA 2, 64, .inr (.inl (fun _ => 0)))), (v23, .inl (dA 1, 64, .inl (fun _ => 0))), (v25, .inl (dA 4, 32, .inr (.inr (.inr (.inr (fun _ => none)))))), (v26, .inl (dA 1, 64, .inl (fun _ => 0))), (v27, .inl (dA 2, 64, .inr (.inl (fun _ => 0)))), (v28, .inl (dA 2, 64, .inr (.inl (fun _ => 0)))), (mv0, .inl (dA 0, 65536, .inl (fun _ => 0))), (h, .inr (0, fs)), (v4, .inr (3, ns)), (o, .inl (dA 2, 1, .inr (.inl (vp_updL (fun _ => 0) 0 0)))), (mm, .inr (9, (ms.set 0 (.int 0))))] := hD
  have hp9 : 0 = r3 := Eq.symm hp9
  subst hp9
  refine lv_iload hx hb d_SeriesVaultLaw_law_1068 (lv_at hl 1 rfl) ?_
  refine lv_icmp_eq hx hb d_SeriesVaultLaw_law_1070 (tgt := 1075) rfl (fun _ => ?_) (fun h9 => absurd (by decide) h9)
  refine lv_iload hx hb d_SeriesVaultLaw_law_1075 (lv_at hl 1 rfl) ?_
  refine lv_if_ne hx hb d_SeriesVaultLaw_law_1077 (tgt := 1092) rfl (fun h9 => absurd (by decide) h9) (fun _ => ?_)
  refine lv_aload_n hx hb d_SeriesVaultLaw_law_1080 rfl (lv_at hl 3 rfl) ?_
  refine lv_iconst (v := 0) hx hb d_SeriesVaultLaw_law_1081 (by decide) ?_
  refine va_lald hx hb hK hP 19 2 rfl rfl (by unfold vp_in; decide) d_SeriesVaultLaw_law_1082 ?_
  refine tpl (y := 0) (by rfl) ?_
  refine lv_iload hx hb d_SeriesVaultLaw_law_1083 (lv_at hl 0 rfl) ?_
  refine lv_i2l (v := 0) hx hb d_SeriesVaultLaw_law_1085 (by decide) ?_
  refine W.lcmp hx hb d_SeriesVaultLaw_law_1086 (tpi (y := 0) (by decide) ?_)
  refine lv_if_eq hx hb d_SeriesVaultLaw_law_1087 (tgt := 1092) rfl (fun _ => ?_) (fun h9 => absurd (by decide) h9)
  refine lv_goto hx hb d_SeriesVaultLaw_law_1092 (tgt := 1770) rfl ?_
  refine lv_iinc (k := 2) (v := 6) hx hb d_SeriesVaultLaw_law_1770 hl rfl (by decide) (by decide) rfl (fun ls hl => ?_)
  have hl : lv_has ls 8 [(4, .int 6), (6, .int 0), (5, .int 0), (3, .ref o), (2, .ref mm), (1, .ref h), (0, .ref b)] := hl
  refine lv_goto hx hb d_SeriesVaultLaw_law_1773 (tgt := 23) rfl ?_
  refine lv_iload hx hb d_SeriesVaultLaw_law_23 (lv_at hl 0 rfl) ?_
  refine lv_aload_n hx hb d_SeriesVaultLaw_law_25 rfl (lv_at hl 6 rfl) ?_
  refine va_slen hx hb hX hbl hbA hS d_SeriesVaultLaw_law_26 ?_
  refine tpi (y := 6) (by decide) ?_
  refine lv_bipush (v := 6) hx hb d_SeriesVaultLaw_law_27 (by decide) ?_
  refine lv_isub hx hb d_SeriesVaultLaw_law_29 (tpi (y := 0) (by decide) ?_)
  refine lv_icmp_gt hx hb d_SeriesVaultLaw_law_30 (tgt := 1776) rfl (fun _ => ?_) (fun h9 => absurd (by decide) h9)
  refine lv_iconst (v := 1) hx hb d_SeriesVaultLaw_law_1776 (by decide) ?_
  exact lw_fin hC0 hS (Nat.le_of_ble_eq_true rfl) (Nat.le_of_ble_eq_true rfl) d_SeriesVaultLaw_law_1777
set_option maxHeartbeats 4000000 in
set_option maxRecDepth 100000 in
theorem law_12_1 {p : Program} {e : Env} {s : State} {m : MethodId} {below : List Frame} {meth : Method} {c : Code} (l : Launch) {b : Nat} {xs : Nat → Int32} {D : va_G} {dA : Nat → ClassId} {e0 : Nat} {A : Nat → Prop} {H : Heap} {locs : List Loc} {ls : Array Slot} (hC : lS p l s m meth c b 6 xs D dA e0 A) (h : Nat) (v0 : Nat) (v1 : Nat) (v2 : Nat) (v4 : Nat) (v5 : Nat) (v7 : Nat) (v8 : Nat) (v19 : Nat) (v20 : Nat) (v21 : Nat) (v22 : Nat) (v23 : Nat) (v25 : Nat) (v26 : Nat) (v27 : Nat) (v28 : Nat) (v35 : Nat) (mm : Nat) (mv0 : Nat) (o : Nat) (fs : List Value) (js : List Value) (hs : List Value) (ns : List Value) (ss : List Value) (rs : List Value) (qs : List Value) (als : List Value) (ms : List Value) (tt : Int64) (ht : (((xs 1).toInt64) <<< ((32 : Int32).toInt64 &&& 63)) ||| (((xs 2).toInt64) &&& 4294967295) = tt) (h1 : ¬ tt < 0) (h2 : tt ≤ 1099511627775) (h3 : 0 < tt) (h4 : ¬ tt = 0) (h_fs_powered : fs[5]? = some (.int 1)) (h_fs_cutLeft : fs[6]? = some (.int (-1))) (h_fs_writes : fs[7]? = some (.int 0)) (h_fs_journal : fs[8]? = some (.ref v1)) (h_fs_head : fs[9]? = some (.ref v2)) (h_fs_now : fs[11]? = some (.ref v4)) (h_fs_saved : fs[12]? = some (.ref v5)) (hl_fs : fs.length = 18) (h_js_changed : js[12]? = some (.int 0)) (hl_js : js.length = 13) (h_hs_size : hs[3]? = some (.int 0)) (hl_hs : hs.length = 4) (h_ns_parcels : ns[0]? = some (.ref v19)) (h_ns_parcelCount : ns[1]? = some (.int 0)) (h_ns_scarOwners : ns[2]? = some (.ref v20)) (h_ns_scarFroms : ns[3]? = some (.ref v21)) (h_ns_scarTos : ns[4]? = some (.ref v22)) (h_ns_scarPoints : ns[5]? = some (.ref v23)) (h_ns_scarCount : ns[6]? = some (.int 0)) (h_ns_horizon : ns[7]? = some (.long 0)) (hl_ns : ns.length = 11) (h_ss_parcels : ss[0]? = some (.ref v25)) (h_ss_scarOwners : ss[2]? = some (.ref v26)) (h_ss_scarFroms : ss[3]? = some (.ref v27)) (h_ss_scarTos : ss[4]? = some (.ref v28)) (hl_ss : ss.length = 11) (hl_rs : rs.length = 6) (hl_qs : qs.length = 9) (hl_als : als.length = 3) (h_ms_on : ms[7]? = some (.int 1)) (h_ms_cutLeft : ms[8]? = some (.int (-1))) (h_ms_written : ms[9]? = some (.int 0)) (h_ms_points : ms[23]? = some (.int 0)) (h_ms_horizon : ms[24]? = some (.long 0)) (h_ms_parcelCount : ms[28]? = some (.int 0)) (h_ms_records : ms[37]? = some (.int 0)) (h_ms_fresh : ms[41]? = some (.int 0)) (hl_ms : ms.length = 79) (hP : va_P D vwCl [(h, .inr (0, fs)), (v0, .inl (dA 0, 256, .inl (fun _ => 0))), (v1, .inr (1, js)), (v2, .inr (2, hs)), (v4, .inr (3, ns)), (v5, .inr (3, ss)), (v7, .inr (4, rs)), (v8, .inr (5, qs)), (v35, .inr (6, als)), (v19, .inl (dA 4, 32, .inr (.inr (.inr (.inr (fun _ => none)))))), (v20, .inl (dA 1, 64, .inl (fun _ => 0))), (v21, .inl (dA 2, 64, .inr (.inl (fun _ => 0)))), (v22, .inl (dA 2, 64, .inr (.inl (fun _ => 0)))), (v23, .inl (dA 1, 64, .inl (fun _ => 0))), (v25, .inl (dA 4, 32, .inr (.inr (.inr (.inr (fun _ => none)))))), (v26, .inl (dA 1, 64, .inl (fun _ => 0))), (v27, .inl (dA 2, 64, .inr (.inl (fun _ => 0)))), (v28, .inl (dA 2, 64, .inr (.inl (fun _ => 0)))), (mm, .inr (9, ms)), (mv0, .inl (dA 0, 65536, .inl (fun _ => 0))), (o, .inl (dA 2, 1, .inr (.inl (fun _ => 0))))] H) (hD : va_D A [(h, .inr (0, fs)), (v0, .inl (dA 0, 256, .inl (fun _ => 0))), (v1, .inr (1, js)), (v2, .inr (2, hs)), (v4, .inr (3, ns)), (v5, .inr (3, ss)), (v7, .inr (4, rs)), (v8, .inr (5, qs)), (v35, .inr (6, als)), (v19, .inl (dA 4, 32, .inr (.inr (.inr (.inr (fun _ => none)))))), (v20, .inl (dA 1, 64, .inl (fun _ => 0))), (v21, .inl (dA 2, 64, .inr (.inl (fun _ => 0)))), (v22, .inl (dA 2, 64, .inr (.inl (fun _ => 0)))), (v23, .inl (dA 1, 64, .inl (fun _ => 0))), (v25, .inl (dA 4, 32, .inr (.inr (.inr (.inr (fun _ => none)))))), (v26, .inl (dA 1, 64, .inl (fun _ => 0))), (v27, .inl (dA 2, 64, .inr (.inl (fun _ => 0)))), (v28, .inl (dA 2, 64, .inr (.inl (fun _ => 0)))), (mm, .inr (9, ms)), (mv0, .inl (dA 0, 65536, .inl (fun _ => 0))), (o, .inl (dA 2, 1, .inr (.inl (fun _ => 0))))]) (hS : va_S A s.heap H locs) (hl : lv_has ls 8 [(4, .int 0), (3, .ref o), (2, .ref mm), (1, .ref h), (0, .ref b)]) : W p l e room_1 s m #[Value.ref b] below meth c H locs 92 1177737 (lw_Z below #[Value.ref b] s) (F0 m 1007 ls []) := by
  have hC0 := hC
  obtain ⟨hx, hb, hr, hml, hown, hlk, hE, hK, hA, hN, hZ, hT, hX, hbl, hbA, hnew, htr⟩ := hC
  refine lv_aload_n hx hb d_SeriesVaultLaw_law_1007 rfl (lv_at hl 3 rfl) ?_
  refine lv_aload_n hx hb d_SeriesVaultLaw_law_1008 rfl (lv_at hl 4 rfl) ?_
  refine lv_iload hx hb d_SeriesVaultLaw_law_1009 (lv_at hl 0 rfl) ?_
  refine lv_iconst (v := 1) hx hb d_SeriesVaultLaw_law_1011 (by decide) ?_
  refine lv_iadd hx hb d_SeriesVaultLaw_law_1012 (tpi (y := 1) (by decide) ?_)
  refine va_sld hx hb hX hbl hbA hS (by unfold vp_in; decide) d_SeriesVaultLaw_law_1013 ?_
  refine tpi (y := xs 1) rfl ?_
  refine lv_i2l hx hb d_SeriesVaultLaw_law_1014 rfl ?_
  refine lv_bipush (v := 32) hx hb d_SeriesVaultLaw_law_1015 (by decide) ?_
  refine lv_lshl hx hb d_SeriesVaultLaw_law_1017 rfl ?_
  refine lv_aload_n hx hb d_SeriesVaultLaw_law_1018 rfl (lv_at hl 4 rfl) ?_
  refine lv_iload hx hb d_SeriesVaultLaw_law_1019 (lv_at hl 0 rfl) ?_
  refine lv_iconst (v := 2) hx hb d_SeriesVaultLaw_law_1021 (by decide) ?_
  refine lv_iadd hx hb d_SeriesVaultLaw_law_1022 (tpi (y := 2) (by decide) ?_)
  refine va_sld hx hb hX hbl hbA hS (by unfold vp_in; decide) d_SeriesVaultLaw_law_1023 ?_
  refine tpi (y := xs 2) rfl ?_
  refine lv_i2l hx hb d_SeriesVaultLaw_law_1024 rfl ?_
  refine lv_ldc2 (v := 4294967295) hx hb hown (hE.t w914 rfl) d_SeriesVaultLaw_law_1025 ?_
  refine lv_land hx hb d_SeriesVaultLaw_law_1028 ?_
  refine lv_lor hx hb d_SeriesVaultLaw_law_1029 ?_
  refine tpl (y := tt) ht ?_
  refine lv_aload_n hx hb d_SeriesVaultLaw_law_1030 rfl (lv_at hl 1 rfl) ?_
  have hPc := hP.sub (ws' := [(h, .inr (0, fs)), (v4, .inr (3, ns)), (v5, .inr (3, ss)), (v2, .inr (2, hs)), (v1, .inr (1, js)), (v23, .inl (dA 1, 64, .inl (fun _ => 0))), (v25, .inl (dA 4, 32, .inr (.inr (.inr (.inr (fun _ => none)))))), (v26, .inl (dA 1, 64, .inl (fun _ => 0))), (v27, .inl (dA 2, 64, .inr (.inl (fun _ => 0)))), (v28, .inl (dA 2, 64, .inr (.inl (fun _ => 0)))), (v19, .inl (dA 4, 32, .inr (.inr (.inr (.inr (fun _ => none)))))), (v20, .inl (dA 1, 64, .inl (fun _ => 0))), (v21, .inl (dA 2, 64, .inr (.inl (fun _ => 0)))), (v22, .inl (dA 2, 64, .inr (.inl (fun _ => 0)))), (o, .inl (dA 2, 1, .inr (.inl (fun _ => 0))))]) [0, 4, 5, 3, 2, 13, 14, 15, 16, 17, 9, 10, 11, 12, 20] rfl
  have hDc := hD.sub (ws' := [(h, .inr (0, fs)), (v4, .inr (3, ns)), (v5, .inr (3, ss)), (v2, .inr (2, hs)), (v1, .inr (1, js)), (v23, .inl (dA 1, 64, .inl (fun _ => 0))), (v25, .inl (dA 4, 32, .inr (.inr (.inr (.inr (fun _ => none)))))), (v26, .inl (dA 1, 64, .inl (fun _ => 0))), (v27, .inl (dA 2, 64, .inr (.inl (fun _ => 0)))), (v28, .inl (dA 2, 64, .inr (.inl (fun _ => 0)))), (v19, .inl (dA 4, 32, .inr (.inr (.inr (.inr (fun _ => none)))))), (v20, .inl (dA 1, 64, .inl (fun _ => 0))), (v21, .inl (dA 2, 64, .inr (.inl (fun _ => 0)))), (v22, .inl (dA 2, 64, .inr (.inl (fun _ => 0)))), (o, .inl (dA 2, 1, .inr (.inl (fun _ => 0))))]) [0, 4, 5, 3, 2, 13, 14, 15, 16, 17, 9, 10, 11, 12, 20] (by decide) rfl
  refine jnI (rnW (As := [.ref h, .long tt, .ref o]) (rest := []) hx hb hml hown hE hK (hN _ _ hS) hPc hDc (c_K_retain_1 l htr D dA H.size h fs v4 ns v5 ss v2 hs v1 js v23 (fun _ => 0) tt v25 v26 v27 v28 (fun _ => none) (fun _ => 0) (fun _ => 0) (fun _ => 0) v19 v20 v21 v22 (fun _ => none) (fun _ => 0) (fun _ => 0) (fun _ => 0) o (fun _ => 0) h1 h2 h3 h_fs_powered h_fs_cutLeft h_fs_writes h_fs_journal h_fs_head h_fs_now h_fs_saved hl_fs h_ns_parcels h_ns_parcelCount h_ns_scarOwners h_ns_scarFroms h_ns_scarTos h_ns_scarPoints h_ns_scarCount h_ns_horizon hl_ns h_ss_parcels h_ss_scarOwners h_ss_scarFroms h_ss_scarTos hl_ss h_hs_size hl_hs h_js_changed hl_js) w951 w950 w952 w861 rfl rfl ⟨⟨by decide, by decide⟩, rfl⟩ ⟨(Nat.le_of_ble_eq_true rfl), (Nat.le_of_ble_eq_true rfl)⟩ rfl hl.1 rfl (Nat.le_of_ble_eq_true rfl) d_SeriesVaultLaw_law_1031 ⟨(Nat.le_of_ble_eq_true rfl), (Nat.le_of_ble_eq_true rfl)⟩) hP hD hS hA [0, 4, 5, 3, 2, 13, 14, 15, 16, 17, 9, 10, 11, 12, 20] [1, 6, 7, 8, 18, 19] (wr := [(v0, .inl (dA 0, 256, .inl (fun _ => 0))), (v7, .inr (4, rs)), (v8, .inr (5, qs)), (v35, .inr (6, als)), (mm, .inr (9, ms)), (mv0, .inl (dA 0, 65536, .inl (fun _ => 0)))]) rfl rfl (by decide) (by decide) (fun r1 u9 H locs hp9 hP hD hS => ?_)
  have hP : va_P D vwCl [(v0, .inl (dA 0, 256, .inl (fun _ => 0))), (v7, .inr (4, rs)), (v8, .inr (5, qs)), (v35, .inr (6, als)), (mm, .inr (9, ms)), (mv0, .inl (dA 0, 65536, .inl (fun _ => 0))), (h, .inr (0, (fs.set 7 (.int (0 + 1))))), (v4, .inr (3, (((ns.set 7 (.long tt)).set 1 (.int 0)).set 6 (.int 0)))), (v5, .inr (3, (((ss.set 1 (.int 0)).set 6 (.int 0)).set 7 (.long tt)))), (v2, .inr (2, (hs.set 3 (.int 0)))), (v1, .inr (1, js)), (v23, .inl (dA 1, 64, .inl (upd (upd (upd (upd (upd (upd (upd (upd (upd (upd (upd (upd (upd (upd (upd (upd (upd (upd (upd (upd (upd (upd (upd (upd (upd (upd (upd (upd (upd (upd (upd (upd (upd (upd (upd (upd (upd (upd (upd (upd (upd (upd (upd (upd (upd (upd (upd (upd (upd (upd (upd (upd (upd (upd (upd (upd (upd (upd (upd (upd (upd (upd (upd (upd (fun _ => 0) 0 0) 1 0) 2 0) 3 0) 4 0) 5 0) 6 0) 7 0) 8 0) 9 0) 10 0) 11 0) 12 0) 13 0) 14 0) 15 0) 16 0) 17 0) 18 0) 19 0) 20 0) 21 0) 22 0) 23 0) 24 0) 25 0) 26 0) 27 0) 28 0) 29 0) 30 0) 31 0) 32 0) 33 0) 34 0) 35 0) 36 0) 37 0) 38 0) 39 0) 40 0) 41 0) 42 0) 43 0) 44 0) 45 0) 46 0) 47 0) 48 0) 49 0) 50 0) 51 0) 52 0) 53 0) 54 0) 55 0) 56 0) 57 0) 58 0) 59 0) 60 0) 61 0) 62 0) 63 0))), (v25, .inl (dA 4, 32, .inr (.inr (.inr (.inr (va_cpy (fun _ => none) (fun _ => none) 0 0 0)))))), (v26, .inl (dA 1, 64, .inl (va_cpy (fun _ => 0) (fun _ => 0) 0 0 0))), (v27, .inl (dA 2, 64, .inr (.inl (va_cpy (fun _ => 0) (fun _ => 0) 0 0 0)))), (v28, .inl (dA 2, 64, .inr (.inl (va_cpy (fun _ => 0) (fun _ => 0) 0 0 0)))), (v19, .inl (dA 4, 32, .inr (.inr (.inr (.inr (fun _ => none)))))), (v20, .inl (dA 1, 64, .inl (fun _ => 0))), (v21, .inl (dA 2, 64, .inr (.inl (fun _ => 0)))), (v22, .inl (dA 2, 64, .inr (.inl (fun _ => 0)))), (o, .inl (dA 2, 1, .inr (.inl (vp_updL (fun _ => 0) 0 0))))] H := hP
  have hD : va_D A [(v0, .inl (dA 0, 256, .inl (fun _ => 0))), (v7, .inr (4, rs)), (v8, .inr (5, qs)), (v35, .inr (6, als)), (mm, .inr (9, ms)), (mv0, .inl (dA 0, 65536, .inl (fun _ => 0))), (h, .inr (0, (fs.set 7 (.int (0 + 1))))), (v4, .inr (3, (((ns.set 7 (.long tt)).set 1 (.int 0)).set 6 (.int 0)))), (v5, .inr (3, (((ss.set 1 (.int 0)).set 6 (.int 0)).set 7 (.long tt)))), (v2, .inr (2, (hs.set 3 (.int 0)))), (v1, .inr (1, js)), (v23, .inl (dA 1, 64, .inl (upd (upd (upd (upd (upd (upd (upd (upd (upd (upd (upd (upd (upd (upd (upd (upd (upd (upd (upd (upd (upd (upd (upd (upd (upd (upd (upd (upd (upd (upd (upd (upd (upd (upd (upd (upd (upd (upd (upd (upd (upd (upd (upd (upd (upd (upd (upd (upd (upd (upd (upd (upd (upd (upd (upd (upd (upd (upd (upd (upd (upd (upd (upd (upd (fun _ => 0) 0 0) 1 0) 2 0) 3 0) 4 0) 5 0) 6 0) 7 0) 8 0) 9 0) 10 0) 11 0) 12 0) 13 0) 14 0) 15 0) 16 0) 17 0) 18 0) 19 0) 20 0) 21 0) 22 0) 23 0) 24 0) 25 0) 26 0) 27 0) 28 0) 29 0) 30 0) 31 0) 32 0) 33 0) 34 0) 35 0) 36 0) 37 0) 38 0) 39 0) 40 0) 41 0) 42 0) 43 0) 44 0) 45 0) 46 0) 47 0) 48 0) 49 0) 50 0) 51 0) 52 0) 53 0) 54 0) 55 0) 56 0) 57 0) 58 0) 59 0) 60 0) 61 0) 62 0) 63 0))), (v25, .inl (dA 4, 32, .inr (.inr (.inr (.inr (va_cpy (fun _ => none) (fun _ => none) 0 0 0)))))), (v26, .inl (dA 1, 64, .inl (va_cpy (fun _ => 0) (fun _ => 0) 0 0 0))), (v27, .inl (dA 2, 64, .inr (.inl (va_cpy (fun _ => 0) (fun _ => 0) 0 0 0)))), (v28, .inl (dA 2, 64, .inr (.inl (va_cpy (fun _ => 0) (fun _ => 0) 0 0 0)))), (v19, .inl (dA 4, 32, .inr (.inr (.inr (.inr (fun _ => none)))))), (v20, .inl (dA 1, 64, .inl (fun _ => 0))), (v21, .inl (dA 2, 64, .inr (.inl (fun _ => 0)))), (v22, .inl (dA 2, 64, .inr (.inl (fun _ => 0)))), (o, .inl (dA 2, 1, .inr (.inl (vp_updL (fun _ => 0) 0 0))))] := hD
  have hp9 : 0 = r1 := Eq.symm hp9
  subst hp9
  refine lv_istore hx hb d_SeriesVaultLaw_law_1034 hl (by decide) rfl (fun ls hl => ?_)
  have hl : lv_has ls 8 [(5, .int 0), (4, .int 0), (3, .ref o), (2, .ref mm), (1, .ref h), (0, .ref b)] := hl
  refine lv_aload_n hx hb d_SeriesVaultLaw_law_1036 rfl (lv_at hl 3 rfl) ?_
  refine lv_aload_n hx hb d_SeriesVaultLaw_law_1037 rfl (lv_at hl 5 rfl) ?_
  refine lv_iload hx hb d_SeriesVaultLaw_law_1038 (lv_at hl 1 rfl) ?_
  refine lv_iconst (v := 1) hx hb d_SeriesVaultLaw_law_1040 (by decide) ?_
  refine lv_iadd hx hb d_SeriesVaultLaw_law_1041 (tpi (y := 1) (by decide) ?_)
  refine va_sld hx hb hX hbl hbA hS (by unfold vp_in; decide) d_SeriesVaultLaw_law_1042 ?_
  refine tpi (y := xs 1) rfl ?_
  refine lv_i2l hx hb d_SeriesVaultLaw_law_1043 rfl ?_
  refine lv_bipush (v := 32) hx hb d_SeriesVaultLaw_law_1044 (by decide) ?_
  refine lv_lshl hx hb d_SeriesVaultLaw_law_1046 rfl ?_
  refine lv_aload_n hx hb d_SeriesVaultLaw_law_1047 rfl (lv_at hl 5 rfl) ?_
  refine lv_iload hx hb d_SeriesVaultLaw_law_1048 (lv_at hl 1 rfl) ?_
  refine lv_iconst (v := 2) hx hb d_SeriesVaultLaw_law_1050 (by decide) ?_
  refine lv_iadd hx hb d_SeriesVaultLaw_law_1051 (tpi (y := 2) (by decide) ?_)
  refine va_sld hx hb hX hbl hbA hS (by unfold vp_in; decide) d_SeriesVaultLaw_law_1052 ?_
  refine tpi (y := xs 2) rfl ?_
  refine lv_i2l hx hb d_SeriesVaultLaw_law_1053 rfl ?_
  refine lv_ldc2 (v := 4294967295) hx hb hown (hE.t w914 rfl) d_SeriesVaultLaw_law_1054 ?_
  refine lv_land hx hb d_SeriesVaultLaw_law_1057 ?_
  refine lv_lor hx hb d_SeriesVaultLaw_law_1058 ?_
  refine tpl (y := tt) ht ?_
  have hPc := hP.sub (ws' := [(mm, .inr (9, ms))]) [4] rfl
  have hDc := hD.sub (ws' := [(mm, .inr (9, ms))]) [4] (by decide) rfl
  refine jnI (rnV (As := [.long tt]) (rest := []) hx hb hml hown hE hK (hN _ _ hS) hPc hDc (c_M_retain l D dA H.size mm ms tt h1 h2 h4 h_ms_on h_ms_cutLeft h_ms_written h_ms_points h_ms_horizon h_ms_parcelCount h_ms_records h_ms_fresh hl_ms) (q0 := 0) rfl rfl w954 w953 w955 w956 w328 rfl rfl ⟨⟨by decide, by decide⟩, rfl⟩ ⟨(Nat.le_of_ble_eq_true rfl), (Nat.le_of_ble_eq_true rfl)⟩ rfl hl.1 rfl (Nat.le_of_ble_eq_true rfl) d_SeriesVaultLaw_law_1059 ⟨(Nat.le_of_ble_eq_true rfl), (Nat.le_of_ble_eq_true rfl)⟩) hP hD hS hA [4] [0, 1, 2, 3, 5, 6, 7, 8, 9, 10, 11, 12, 13, 14, 15, 16, 17, 18, 19, 20] (wr := [(v0, .inl (dA 0, 256, .inl (fun _ => 0))), (v7, .inr (4, rs)), (v8, .inr (5, qs)), (v35, .inr (6, als)), (mv0, .inl (dA 0, 65536, .inl (fun _ => 0))), (h, .inr (0, (fs.set 7 (.int (0 + 1))))), (v4, .inr (3, (((ns.set 7 (.long tt)).set 1 (.int 0)).set 6 (.int 0)))), (v5, .inr (3, (((ss.set 1 (.int 0)).set 6 (.int 0)).set 7 (.long tt)))), (v2, .inr (2, (hs.set 3 (.int 0)))), (v1, .inr (1, js)), (v23, .inl (dA 1, 64, .inl (upd (upd (upd (upd (upd (upd (upd (upd (upd (upd (upd (upd (upd (upd (upd (upd (upd (upd (upd (upd (upd (upd (upd (upd (upd (upd (upd (upd (upd (upd (upd (upd (upd (upd (upd (upd (upd (upd (upd (upd (upd (upd (upd (upd (upd (upd (upd (upd (upd (upd (upd (upd (upd (upd (upd (upd (upd (upd (upd (upd (upd (upd (upd (upd (fun _ => 0) 0 0) 1 0) 2 0) 3 0) 4 0) 5 0) 6 0) 7 0) 8 0) 9 0) 10 0) 11 0) 12 0) 13 0) 14 0) 15 0) 16 0) 17 0) 18 0) 19 0) 20 0) 21 0) 22 0) 23 0) 24 0) 25 0) 26 0) 27 0) 28 0) 29 0) 30 0) 31 0) 32 0) 33 0) 34 0) 35 0) 36 0) 37 0) 38 0) 39 0) 40 0) 41 0) 42 0) 43 0) 44 0) 45 0) 46 0) 47 0) 48 0) 49 0) 50 0) 51 0) 52 0) 53 0) 54 0) 55 0) 56 0) 57 0) 58 0) 59 0) 60 0) 61 0) 62 0) 63 0))), (v25, .inl (dA 4, 32, .inr (.inr (.inr (.inr (va_cpy (fun _ => none) (fun _ => none) 0 0 0)))))), (v26, .inl (dA 1, 64, .inl (va_cpy (fun _ => 0) (fun _ => 0) 0 0 0))), (v27, .inl (dA 2, 64, .inr (.inl (va_cpy (fun _ => 0) (fun _ => 0) 0 0 0)))), (v28, .inl (dA 2, 64, .inr (.inl (va_cpy (fun _ => 0) (fun _ => 0) 0 0 0)))), (v19, .inl (dA 4, 32, .inr (.inr (.inr (.inr (fun _ => none)))))), (v20, .inl (dA 1, 64, .inl (fun _ => 0))), (v21, .inl (dA 2, 64, .inr (.inl (fun _ => 0)))), (v22, .inl (dA 2, 64, .inr (.inl (fun _ => 0)))), (o, .inl (dA 2, 1, .inr (.inl (vp_updL (fun _ => 0) 0 0))))]) rfl rfl (by decide) (by decide) (fun r2 u9 H locs hp9 hP hD hS => ?_)
  have hP : va_P D vwCl [(v0, .inl (dA 0, 256, .inl (fun _ => 0))), (v7, .inr (4, rs)), (v8, .inr (5, qs)), (v35, .inr (6, als)), (mv0, .inl (dA 0, 65536, .inl (fun _ => 0))), (h, .inr (0, (fs.set 7 (.int (0 + 1))))), (v4, .inr (3, (((ns.set 7 (.long tt)).set 1 (.int 0)).set 6 (.int 0)))), (v5, .inr (3, (((ss.set 1 (.int 0)).set 6 (.int 0)).set 7 (.long tt)))), (v2, .inr (2, (hs.set 3 (.int 0)))), (v1, .inr (1, js)), (v23, .inl (dA 1, 64, .inl (upd (upd (upd (upd (upd (upd (upd (upd (upd (upd (upd (upd (upd (upd (upd (upd (upd (upd (upd (upd (upd (upd (upd (upd (upd (upd (upd (upd (upd (upd (upd (upd (upd (upd (upd (upd (upd (upd (upd (upd (upd (upd (upd (upd (upd (upd (upd (upd (upd (upd (upd (upd (upd (upd (upd (upd (upd (upd (upd (upd (upd (upd (upd (upd (fun _ => 0) 0 0) 1 0) 2 0) 3 0) 4 0) 5 0) 6 0) 7 0) 8 0) 9 0) 10 0) 11 0) 12 0) 13 0) 14 0) 15 0) 16 0) 17 0) 18 0) 19 0) 20 0) 21 0) 22 0) 23 0) 24 0) 25 0) 26 0) 27 0) 28 0) 29 0) 30 0) 31 0) 32 0) 33 0) 34 0) 35 0) 36 0) 37 0) 38 0) 39 0) 40 0) 41 0) 42 0) 43 0) 44 0) 45 0) 46 0) 47 0) 48 0) 49 0) 50 0) 51 0) 52 0) 53 0) 54 0) 55 0) 56 0) 57 0) 58 0) 59 0) 60 0) 61 0) 62 0) 63 0))), (v25, .inl (dA 4, 32, .inr (.inr (.inr (.inr (va_cpy (fun _ => none) (fun _ => none) 0 0 0)))))), (v26, .inl (dA 1, 64, .inl (va_cpy (fun _ => 0) (fun _ => 0) 0 0 0))), (v27, .inl (dA 2, 64, .inr (.inl (va_cpy (fun _ => 0) (fun _ => 0) 0 0 0)))), (v28, .inl (dA 2, 64, .inr (.inl (va_cpy (fun _ => 0) (fun _ => 0) 0 0 0)))), (v19, .inl (dA 4, 32, .inr (.inr (.inr (.inr (fun _ => none)))))), (v20, .inl (dA 1, 64, .inl (fun _ => 0))), (v21, .inl (dA 2, 64, .inr (.inl (fun _ => 0)))), (v22, .inl (dA 2, 64, .inr (.inl (fun _ => 0)))), (o, .inl (dA 2, 1, .inr (.inl (vp_updL (fun _ => 0) 0 0)))), (mm, .inr (9, ((((((((ms.set 0 (.int 0)).set 41 (.int 0)).set 38 (.int 0)).set 8 (.int (-1))).set 9 (.int 1)).set 24 (.long tt)).set 23 (.int 0)).set 25 (.long tt))))] H := hP
  have hD : va_D A [(v0, .inl (dA 0, 256, .inl (fun _ => 0))), (v7, .inr (4, rs)), (v8, .inr (5, qs)), (v35, .inr (6, als)), (mv0, .inl (dA 0, 65536, .inl (fun _ => 0))), (h, .inr (0, (fs.set 7 (.int (0 + 1))))), (v4, .inr (3, (((ns.set 7 (.long tt)).set 1 (.int 0)).set 6 (.int 0)))), (v5, .inr (3, (((ss.set 1 (.int 0)).set 6 (.int 0)).set 7 (.long tt)))), (v2, .inr (2, (hs.set 3 (.int 0)))), (v1, .inr (1, js)), (v23, .inl (dA 1, 64, .inl (upd (upd (upd (upd (upd (upd (upd (upd (upd (upd (upd (upd (upd (upd (upd (upd (upd (upd (upd (upd (upd (upd (upd (upd (upd (upd (upd (upd (upd (upd (upd (upd (upd (upd (upd (upd (upd (upd (upd (upd (upd (upd (upd (upd (upd (upd (upd (upd (upd (upd (upd (upd (upd (upd (upd (upd (upd (upd (upd (upd (upd (upd (upd (upd (fun _ => 0) 0 0) 1 0) 2 0) 3 0) 4 0) 5 0) 6 0) 7 0) 8 0) 9 0) 10 0) 11 0) 12 0) 13 0) 14 0) 15 0) 16 0) 17 0) 18 0) 19 0) 20 0) 21 0) 22 0) 23 0) 24 0) 25 0) 26 0) 27 0) 28 0) 29 0) 30 0) 31 0) 32 0) 33 0) 34 0) 35 0) 36 0) 37 0) 38 0) 39 0) 40 0) 41 0) 42 0) 43 0) 44 0) 45 0) 46 0) 47 0) 48 0) 49 0) 50 0) 51 0) 52 0) 53 0) 54 0) 55 0) 56 0) 57 0) 58 0) 59 0) 60 0) 61 0) 62 0) 63 0))), (v25, .inl (dA 4, 32, .inr (.inr (.inr (.inr (va_cpy (fun _ => none) (fun _ => none) 0 0 0)))))), (v26, .inl (dA 1, 64, .inl (va_cpy (fun _ => 0) (fun _ => 0) 0 0 0))), (v27, .inl (dA 2, 64, .inr (.inl (va_cpy (fun _ => 0) (fun _ => 0) 0 0 0)))), (v28, .inl (dA 2, 64, .inr (.inl (va_cpy (fun _ => 0) (fun _ => 0) 0 0 0)))), (v19, .inl (dA 4, 32, .inr (.inr (.inr (.inr (fun _ => none)))))), (v20, .inl (dA 1, 64, .inl (fun _ => 0))), (v21, .inl (dA 2, 64, .inr (.inl (fun _ => 0)))), (v22, .inl (dA 2, 64, .inr (.inl (fun _ => 0)))), (o, .inl (dA 2, 1, .inr (.inl (vp_updL (fun _ => 0) 0 0)))), (mm, .inr (9, ((((((((ms.set 0 (.int 0)).set 41 (.int 0)).set 38 (.int 0)).set 8 (.int (-1))).set 9 (.int 1)).set 24 (.long tt)).set 23 (.int 0)).set 25 (.long tt))))] := hD
  have hp9 : 0 = r2 := Eq.symm hp9
  subst hp9
  refine lv_istore hx hb d_SeriesVaultLaw_law_1062 hl (by decide) rfl (fun ls hl => ?_)
  have hl : lv_has ls 8 [(6, .int 0), (5, .int 0), (4, .int 0), (3, .ref o), (2, .ref mm), (1, .ref h), (0, .ref b)] := hl
  refine lv_aload_n hx hb d_SeriesVaultLaw_law_1064 rfl (lv_at hl 4 rfl) ?_
  have hPc := hP.sub (ws' := [(mm, .inr (9, ((((((((ms.set 0 (.int 0)).set 41 (.int 0)).set 38 (.int 0)).set 8 (.int (-1))).set 9 (.int 1)).set 24 (.long tt)).set 23 (.int 0)).set 25 (.long tt))))]) [20] rfl
  have hDc := hD.sub (ws' := [(mm, .inr (9, ((((((((ms.set 0 (.int 0)).set 41 (.int 0)).set 38 (.int 0)).set 8 (.int (-1))).set 9 (.int 1)).set 24 (.long tt)).set 23 (.int 0)).set 25 (.long tt))))]) [20] (by decide) rfl
  refine jnI (rnV (As := []) (rest := []) hx hb hml hown hE hK (hN _ _ hS) hPc hDc (c_M_thrown l D dA H.size mm ((((((((ms.set 0 (.int 0)).set 41 (.int 0)).set 38 (.int 0)).set 8 (.int (-1))).set 9 (.int 1)).set 24 (.long tt)).set 23 (.int 0)).set 25 (.long tt)) 0 (by simp [hl_ms]) (by simp [hl_ms])) (q0 := 0) rfl rfl w869 w868 w870 w871 w328 rfl rfl ⟨⟨by decide, by decide⟩, rfl⟩ ⟨(Nat.le_of_ble_eq_true rfl), (Nat.le_of_ble_eq_true rfl)⟩ rfl hl.1 rfl (Nat.le_of_ble_eq_true rfl) d_SeriesVaultLaw_law_1065 ⟨(Nat.le_of_ble_eq_true rfl), (Nat.le_of_ble_eq_true rfl)⟩) hP hD hS hA [20] [0, 1, 2, 3, 4, 5, 6, 7, 8, 9, 10, 11, 12, 13, 14, 15, 16, 17, 18, 19] (wr := [(v0, .inl (dA 0, 256, .inl (fun _ => 0))), (v7, .inr (4, rs)), (v8, .inr (5, qs)), (v35, .inr (6, als)), (mv0, .inl (dA 0, 65536, .inl (fun _ => 0))), (h, .inr (0, (fs.set 7 (.int (0 + 1))))), (v4, .inr (3, (((ns.set 7 (.long tt)).set 1 (.int 0)).set 6 (.int 0)))), (v5, .inr (3, (((ss.set 1 (.int 0)).set 6 (.int 0)).set 7 (.long tt)))), (v2, .inr (2, (hs.set 3 (.int 0)))), (v1, .inr (1, js)), (v23, .inl (dA 1, 64, .inl (upd (upd (upd (upd (upd (upd (upd (upd (upd (upd (upd (upd (upd (upd (upd (upd (upd (upd (upd (upd (upd (upd (upd (upd (upd (upd (upd (upd (upd (upd (upd (upd (upd (upd (upd (upd (upd (upd (upd (upd (upd (upd (upd (upd (upd (upd (upd (upd (upd (upd (upd (upd (upd (upd (upd (upd (upd (upd (upd (upd (upd (upd (upd (upd (fun _ => 0) 0 0) 1 0) 2 0) 3 0) 4 0) 5 0) 6 0) 7 0) 8 0) 9 0) 10 0) 11 0) 12 0) 13 0) 14 0) 15 0) 16 0) 17 0) 18 0) 19 0) 20 0) 21 0) 22 0) 23 0) 24 0) 25 0) 26 0) 27 0) 28 0) 29 0) 30 0) 31 0) 32 0) 33 0) 34 0) 35 0) 36 0) 37 0) 38 0) 39 0) 40 0) 41 0) 42 0) 43 0) 44 0) 45 0) 46 0) 47 0) 48 0) 49 0) 50 0) 51 0) 52 0) 53 0) 54 0) 55 0) 56 0) 57 0) 58 0) 59 0) 60 0) 61 0) 62 0) 63 0))), (v25, .inl (dA 4, 32, .inr (.inr (.inr (.inr (va_cpy (fun _ => none) (fun _ => none) 0 0 0)))))), (v26, .inl (dA 1, 64, .inl (va_cpy (fun _ => 0) (fun _ => 0) 0 0 0))), (v27, .inl (dA 2, 64, .inr (.inl (va_cpy (fun _ => 0) (fun _ => 0) 0 0 0)))), (v28, .inl (dA 2, 64, .inr (.inl (va_cpy (fun _ => 0) (fun _ => 0) 0 0 0)))), (v19, .inl (dA 4, 32, .inr (.inr (.inr (.inr (fun _ => none)))))), (v20, .inl (dA 1, 64, .inl (fun _ => 0))), (v21, .inl (dA 2, 64, .inr (.inl (fun _ => 0)))), (v22, .inl (dA 2, 64, .inr (.inl (fun _ => 0)))), (o, .inl (dA 2, 1, .inr (.inl (vp_updL (fun _ => 0) 0 0))))]) rfl rfl (by decide) (by decide) (fun r3 u9 H locs hp9 hP hD hS => ?_)
  have hP : va_P D vwCl [(v0, .inl (dA 0, 256, .inl (fun _ => 0))), (v7, .inr (4, rs)), (v8, .inr (5, qs)), (v35, .inr (6, als)), (mv0, .inl (dA 0, 65536, .inl (fun _ => 0))), (h, .inr (0, (fs.set 7 (.int (0 + 1))))), (v4, .inr (3, (((ns.set 7 (.long tt)).set 1 (.int 0)).set 6 (.int 0)))), (v5, .inr (3, (((ss.set 1 (.int 0)).set 6 (.int 0)).set 7 (.long tt)))), (v2, .inr (2, (hs.set 3 (.int 0)))), (v1, .inr (1, js)), (v23, .inl (dA 1, 64, .inl (upd (upd (upd (upd (upd (upd (upd (upd (upd (upd (upd (upd (upd (upd (upd (upd (upd (upd (upd (upd (upd (upd (upd (upd (upd (upd (upd (upd (upd (upd (upd (upd (upd (upd (upd (upd (upd (upd (upd (upd (upd (upd (upd (upd (upd (upd (upd (upd (upd (upd (upd (upd (upd (upd (upd (upd (upd (upd (upd (upd (upd (upd (upd (upd (fun _ => 0) 0 0) 1 0) 2 0) 3 0) 4 0) 5 0) 6 0) 7 0) 8 0) 9 0) 10 0) 11 0) 12 0) 13 0) 14 0) 15 0) 16 0) 17 0) 18 0) 19 0) 20 0) 21 0) 22 0) 23 0) 24 0) 25 0) 26 0) 27 0) 28 0) 29 0) 30 0) 31 0) 32 0) 33 0) 34 0) 35 0) 36 0) 37 0) 38 0) 39 0) 40 0) 41 0) 42 0) 43 0) 44 0) 45 0) 46 0) 47 0) 48 0) 49 0) 50 0) 51 0) 52 0) 53 0) 54 0) 55 0) 56 0) 57 0) 58 0) 59 0) 60 0) 61 0) 62 0) 63 0))), (v25, .inl (dA 4, 32, .inr (.inr (.inr (.inr (va_cpy (fun _ => none) (fun _ => none) 0 0 0)))))), (v26, .inl (dA 1, 64, .inl (va_cpy (fun _ => 0) (fun _ => 0) 0 0 0))), (v27, .inl (dA 2, 64, .inr (.inl (va_cpy (fun _ => 0) (fun _ => 0) 0 0 0)))), (v28, .inl (dA 2, 64, .inr (.inl (va_cpy (fun _ => 0) (fun _ => 0) 0 0 0)))), (v19, .inl (dA 4, 32, .inr (.inr (.inr (.inr (fun _ => none)))))), (v20, .inl (dA 1, 64, .inl (fun _ => 0))), (v21, .inl (dA 2, 64, .inr (.inl (fun _ => 0)))), (v22, .inl (dA 2, 64, .inr (.inl (fun _ => 0)))), (o, .inl (dA 2, 1, .inr (.inl (vp_updL (fun _ => 0) 0 0)))), (mm, .inr (9, ((((((((ms.set 0 (.int 0)).set 41 (.int 0)).set 38 (.int 0)).set 8 (.int (-1))).set 9 (.int 1)).set 24 (.long tt)).set 23 (.int 0)).set 25 (.long tt))))] H := hP
  have hD : va_D A [(v0, .inl (dA 0, 256, .inl (fun _ => 0))), (v7, .inr (4, rs)), (v8, .inr (5, qs)), (v35, .inr (6, als)), (mv0, .inl (dA 0, 65536, .inl (fun _ => 0))), (h, .inr (0, (fs.set 7 (.int (0 + 1))))), (v4, .inr (3, (((ns.set 7 (.long tt)).set 1 (.int 0)).set 6 (.int 0)))), (v5, .inr (3, (((ss.set 1 (.int 0)).set 6 (.int 0)).set 7 (.long tt)))), (v2, .inr (2, (hs.set 3 (.int 0)))), (v1, .inr (1, js)), (v23, .inl (dA 1, 64, .inl (upd (upd (upd (upd (upd (upd (upd (upd (upd (upd (upd (upd (upd (upd (upd (upd (upd (upd (upd (upd (upd (upd (upd (upd (upd (upd (upd (upd (upd (upd (upd (upd (upd (upd (upd (upd (upd (upd (upd (upd (upd (upd (upd (upd (upd (upd (upd (upd (upd (upd (upd (upd (upd (upd (upd (upd (upd (upd (upd (upd (upd (upd (upd (upd (fun _ => 0) 0 0) 1 0) 2 0) 3 0) 4 0) 5 0) 6 0) 7 0) 8 0) 9 0) 10 0) 11 0) 12 0) 13 0) 14 0) 15 0) 16 0) 17 0) 18 0) 19 0) 20 0) 21 0) 22 0) 23 0) 24 0) 25 0) 26 0) 27 0) 28 0) 29 0) 30 0) 31 0) 32 0) 33 0) 34 0) 35 0) 36 0) 37 0) 38 0) 39 0) 40 0) 41 0) 42 0) 43 0) 44 0) 45 0) 46 0) 47 0) 48 0) 49 0) 50 0) 51 0) 52 0) 53 0) 54 0) 55 0) 56 0) 57 0) 58 0) 59 0) 60 0) 61 0) 62 0) 63 0))), (v25, .inl (dA 4, 32, .inr (.inr (.inr (.inr (va_cpy (fun _ => none) (fun _ => none) 0 0 0)))))), (v26, .inl (dA 1, 64, .inl (va_cpy (fun _ => 0) (fun _ => 0) 0 0 0))), (v27, .inl (dA 2, 64, .inr (.inl (va_cpy (fun _ => 0) (fun _ => 0) 0 0 0)))), (v28, .inl (dA 2, 64, .inr (.inl (va_cpy (fun _ => 0) (fun _ => 0) 0 0 0)))), (v19, .inl (dA 4, 32, .inr (.inr (.inr (.inr (fun _ => none)))))), (v20, .inl (dA 1, 64, .inl (fun _ => 0))), (v21, .inl (dA 2, 64, .inr (.inl (fun _ => 0)))), (v22, .inl (dA 2, 64, .inr (.inl (fun _ => 0)))), (o, .inl (dA 2, 1, .inr (.inl (vp_updL (fun _ => 0) 0 0)))), (mm, .inr (9, ((((((((ms.set 0 (.int 0)).set 41 (.int 0)).set 38 (.int 0)).set 8 (.int (-1))).set 9 (.int 1)).set 24 (.long tt)).set 23 (.int 0)).set 25 (.long tt))))] := hD
  have hp9 : 0 = r3 := Eq.symm hp9
  subst hp9
  refine lv_iload hx hb d_SeriesVaultLaw_law_1068 (lv_at hl 1 rfl) ?_
  refine lv_icmp_eq hx hb d_SeriesVaultLaw_law_1070 (tgt := 1075) rfl (fun _ => ?_) (fun h9 => absurd (by decide) h9)
  refine lv_iload hx hb d_SeriesVaultLaw_law_1075 (lv_at hl 1 rfl) ?_
  refine lv_if_ne hx hb d_SeriesVaultLaw_law_1077 (tgt := 1092) rfl (fun h9 => absurd (by decide) h9) (fun _ => ?_)
  refine lv_aload_n hx hb d_SeriesVaultLaw_law_1080 rfl (lv_at hl 3 rfl) ?_
  refine lv_iconst (v := 0) hx hb d_SeriesVaultLaw_law_1081 (by decide) ?_
  refine va_lald hx hb hK hP 19 2 rfl rfl (by unfold vp_in; decide) d_SeriesVaultLaw_law_1082 ?_
  refine tpl (y := 0) (by rfl) ?_
  refine lv_iload hx hb d_SeriesVaultLaw_law_1083 (lv_at hl 0 rfl) ?_
  refine lv_i2l (v := 0) hx hb d_SeriesVaultLaw_law_1085 (by decide) ?_
  refine W.lcmp hx hb d_SeriesVaultLaw_law_1086 (tpi (y := 0) (by decide) ?_)
  refine lv_if_eq hx hb d_SeriesVaultLaw_law_1087 (tgt := 1092) rfl (fun _ => ?_) (fun h9 => absurd (by decide) h9)
  refine lv_goto hx hb d_SeriesVaultLaw_law_1092 (tgt := 1770) rfl ?_
  refine lv_iinc (k := 2) (v := 6) hx hb d_SeriesVaultLaw_law_1770 hl rfl (by decide) (by decide) rfl (fun ls hl => ?_)
  have hl : lv_has ls 8 [(4, .int 6), (6, .int 0), (5, .int 0), (3, .ref o), (2, .ref mm), (1, .ref h), (0, .ref b)] := hl
  refine lv_goto hx hb d_SeriesVaultLaw_law_1773 (tgt := 23) rfl ?_
  refine lv_iload hx hb d_SeriesVaultLaw_law_23 (lv_at hl 0 rfl) ?_
  refine lv_aload_n hx hb d_SeriesVaultLaw_law_25 rfl (lv_at hl 6 rfl) ?_
  refine va_slen hx hb hX hbl hbA hS d_SeriesVaultLaw_law_26 ?_
  refine tpi (y := 6) (by decide) ?_
  refine lv_bipush (v := 6) hx hb d_SeriesVaultLaw_law_27 (by decide) ?_
  refine lv_isub hx hb d_SeriesVaultLaw_law_29 (tpi (y := 0) (by decide) ?_)
  refine lv_icmp_gt hx hb d_SeriesVaultLaw_law_30 (tgt := 1776) rfl (fun _ => ?_) (fun h9 => absurd (by decide) h9)
  refine lv_iconst (v := 1) hx hb d_SeriesVaultLaw_law_1776 (by decide) ?_
  exact lw_fin hC0 hS (Nat.le_of_ble_eq_true rfl) (Nat.le_of_ble_eq_true rfl) d_SeriesVaultLaw_law_1777
theorem d_SeriesVaultLaw_law_1095 : decode code 1095 = .ok (.aload_n 1, 1) := by decide +kernel
theorem d_SeriesVaultLaw_law_1096 : decode code 1096 = .ok (.aload_n 0, 1) := by decide +kernel
theorem d_SeriesVaultLaw_law_1097 : decode code 1097 = .ok (.iload 4, 2) := by decide +kernel
theorem d_SeriesVaultLaw_law_1099 : decode code 1099 = .ok (.iconst 1, 1) := by decide +kernel
theorem d_SeriesVaultLaw_law_1100 : decode code 1100 = .ok (.iadd, 1) := by decide +kernel
theorem d_SeriesVaultLaw_law_1101 : decode code 1101 = .ok (.iaload, 1) := by decide +kernel
theorem d_SeriesVaultLaw_law_1102 : decode code 1102 = .ok (.i2l, 1) := by decide +kernel
theorem d_SeriesVaultLaw_law_1103 : decode code 1103 = .ok (.bipush 32, 2) := by decide +kernel
theorem d_SeriesVaultLaw_law_1105 : decode code 1105 = .ok (.lshl, 1) := by decide +kernel
theorem d_SeriesVaultLaw_law_1106 : decode code 1106 = .ok (.aload_n 0, 1) := by decide +kernel
theorem d_SeriesVaultLaw_law_1107 : decode code 1107 = .ok (.iload 4, 2) := by decide +kernel
theorem d_SeriesVaultLaw_law_1109 : decode code 1109 = .ok (.iconst 2, 1) := by decide +kernel
theorem d_SeriesVaultLaw_law_1110 : decode code 1110 = .ok (.iadd, 1) := by decide +kernel
theorem d_SeriesVaultLaw_law_1111 : decode code 1111 = .ok (.iaload, 1) := by decide +kernel
theorem d_SeriesVaultLaw_law_1112 : decode code 1112 = .ok (.i2l, 1) := by decide +kernel
theorem d_SeriesVaultLaw_law_1113 : decode code 1113 = .ok (.ldc2_w 133, 3) := by decide +kernel
theorem d_SeriesVaultLaw_law_1116 : decode code 1116 = .ok (.land, 1) := by decide +kernel
theorem d_SeriesVaultLaw_law_1117 : decode code 1117 = .ok (.lor, 1) := by decide +kernel
theorem d_SeriesVaultLaw_law_1118 : decode code 1118 = .ok (.aload_n 0, 1) := by decide +kernel
theorem d_SeriesVaultLaw_law_1119 : decode code 1119 = .ok (.iload 4, 2) := by decide +kernel
theorem d_SeriesVaultLaw_law_1121 : decode code 1121 = .ok (.iconst 3, 1) := by decide +kernel
theorem d_SeriesVaultLaw_law_1122 : decode code 1122 = .ok (.iadd, 1) := by decide +kernel
theorem d_SeriesVaultLaw_law_1123 : decode code 1123 = .ok (.iaload, 1) := by decide +kernel
theorem d_SeriesVaultLaw_law_1124 : decode code 1124 = .ok (.i2l, 1) := by decide +kernel
theorem d_SeriesVaultLaw_law_1125 : decode code 1125 = .ok (.bipush 32, 2) := by decide +kernel
theorem d_SeriesVaultLaw_law_1127 : decode code 1127 = .ok (.lshl, 1) := by decide +kernel
theorem d_SeriesVaultLaw_law_1128 : decode code 1128 = .ok (.aload_n 0, 1) := by decide +kernel
theorem d_SeriesVaultLaw_law_1129 : decode code 1129 = .ok (.iload 4, 2) := by decide +kernel
theorem d_SeriesVaultLaw_law_1131 : decode code 1131 = .ok (.iconst 4, 1) := by decide +kernel
theorem d_SeriesVaultLaw_law_1132 : decode code 1132 = .ok (.iadd, 1) := by decide +kernel
theorem d_SeriesVaultLaw_law_1133 : decode code 1133 = .ok (.iaload, 1) := by decide +kernel
theorem d_SeriesVaultLaw_law_1134 : decode code 1134 = .ok (.i2l, 1) := by decide +kernel
theorem d_SeriesVaultLaw_law_1135 : decode code 1135 = .ok (.ldc2_w 133, 3) := by decide +kernel
theorem d_SeriesVaultLaw_law_1138 : decode code 1138 = .ok (.land, 1) := by decide +kernel
theorem d_SeriesVaultLaw_law_1139 : decode code 1139 = .ok (.lor, 1) := by decide +kernel
theorem d_SeriesVaultLaw_law_1140 : decode code 1140 = .ok (.aload_n 0, 1) := by decide +kernel
theorem d_SeriesVaultLaw_law_1141 : decode code 1141 = .ok (.iload 4, 2) := by decide +kernel
theorem d_SeriesVaultLaw_law_1143 : decode code 1143 = .ok (.iconst 5, 1) := by decide +kernel
theorem d_SeriesVaultLaw_law_1144 : decode code 1144 = .ok (.iadd, 1) := by decide +kernel
theorem d_SeriesVaultLaw_law_1145 : decode code 1145 = .ok (.iaload, 1) := by decide +kernel
theorem d_SeriesVaultLaw_law_1146 : decode code 1146 = .ok (.aload_n 3, 1) := by decide +kernel
theorem d_SeriesVaultLaw_law_1147 : decode code 1147 = .ok (.invokestatic 158, 3) := by decide +kernel
theorem d_SeriesVaultLaw_law_1150 : decode code 1150 = .ok (.istore 5, 2) := by decide +kernel
theorem d_SeriesVaultLaw_law_1152 : decode code 1152 = .ok (.aload_n 2, 1) := by decide +kernel
theorem d_SeriesVaultLaw_law_1153 : decode code 1153 = .ok (.aload_n 0, 1) := by decide +kernel
theorem d_SeriesVaultLaw_law_1154 : decode code 1154 = .ok (.iload 4, 2) := by decide +kernel
theorem d_SeriesVaultLaw_law_1156 : decode code 1156 = .ok (.iconst 1, 1) := by decide +kernel
theorem d_SeriesVaultLaw_law_1157 : decode code 1157 = .ok (.iadd, 1) := by decide +kernel
theorem d_SeriesVaultLaw_law_1158 : decode code 1158 = .ok (.iaload, 1) := by decide +kernel
theorem d_SeriesVaultLaw_law_1159 : decode code 1159 = .ok (.i2l, 1) := by decide +kernel
theorem d_SeriesVaultLaw_law_1160 : decode code 1160 = .ok (.bipush 32, 2) := by decide +kernel
theorem d_SeriesVaultLaw_law_1162 : decode code 1162 = .ok (.lshl, 1) := by decide +kernel
theorem d_SeriesVaultLaw_law_1163 : decode code 1163 = .ok (.aload_n 0, 1) := by decide +kernel
theorem d_SeriesVaultLaw_law_1164 : decode code 1164 = .ok (.iload 4, 2) := by decide +kernel
theorem d_SeriesVaultLaw_law_1166 : decode code 1166 = .ok (.iconst 2, 1) := by decide +kernel
theorem d_SeriesVaultLaw_law_1167 : decode code 1167 = .ok (.iadd, 1) := by decide +kernel
theorem d_SeriesVaultLaw_law_1168 : decode code 1168 = .ok (.iaload, 1) := by decide +kernel
theorem d_SeriesVaultLaw_law_1169 : decode code 1169 = .ok (.i2l, 1) := by decide +kernel
theorem d_SeriesVaultLaw_law_1170 : decode code 1170 = .ok (.ldc2_w 133, 3) := by decide +kernel
theorem d_SeriesVaultLaw_law_1173 : decode code 1173 = .ok (.land, 1) := by decide +kernel
theorem d_SeriesVaultLaw_law_1174 : decode code 1174 = .ok (.lor, 1) := by decide +kernel
theorem d_SeriesVaultLaw_law_1175 : decode code 1175 = .ok (.aload_n 0, 1) := by decide +kernel
theorem d_SeriesVaultLaw_law_1176 : decode code 1176 = .ok (.iload 4, 2) := by decide +kernel
theorem d_SeriesVaultLaw_law_1178 : decode code 1178 = .ok (.iconst 3, 1) := by decide +kernel
theorem d_SeriesVaultLaw_law_1179 : decode code 1179 = .ok (.iadd, 1) := by decide +kernel
theorem d_SeriesVaultLaw_law_1180 : decode code 1180 = .ok (.iaload, 1) := by decide +kernel
theorem d_SeriesVaultLaw_law_1181 : decode code 1181 = .ok (.i2l, 1) := by decide +kernel
theorem d_SeriesVaultLaw_law_1182 : decode code 1182 = .ok (.bipush 32, 2) := by decide +kernel
theorem d_SeriesVaultLaw_law_1184 : decode code 1184 = .ok (.lshl, 1) := by decide +kernel
theorem d_SeriesVaultLaw_law_1185 : decode code 1185 = .ok (.aload_n 0, 1) := by decide +kernel
theorem d_SeriesVaultLaw_law_1186 : decode code 1186 = .ok (.iload 4, 2) := by decide +kernel
theorem d_SeriesVaultLaw_law_1188 : decode code 1188 = .ok (.iconst 4, 1) := by decide +kernel
theorem d_SeriesVaultLaw_law_1189 : decode code 1189 = .ok (.iadd, 1) := by decide +kernel
theorem d_SeriesVaultLaw_law_1190 : decode code 1190 = .ok (.iaload, 1) := by decide +kernel
theorem d_SeriesVaultLaw_law_1191 : decode code 1191 = .ok (.i2l, 1) := by decide +kernel
theorem d_SeriesVaultLaw_law_1192 : decode code 1192 = .ok (.ldc2_w 133, 3) := by decide +kernel
theorem d_SeriesVaultLaw_law_1195 : decode code 1195 = .ok (.land, 1) := by decide +kernel
theorem d_SeriesVaultLaw_law_1196 : decode code 1196 = .ok (.lor, 1) := by decide +kernel
theorem d_SeriesVaultLaw_law_1197 : decode code 1197 = .ok (.aload_n 0, 1) := by decide +kernel
theorem d_SeriesVaultLaw_law_1198 : decode code 1198 = .ok (.iload 4, 2) := by decide +kernel
theorem d_SeriesVaultLaw_law_1200 : decode code 1200 = .ok (.iconst 5, 1) := by decide +kernel
theorem d_SeriesVaultLaw_law_1201 : decode code 1201 = .ok (.iadd, 1) := by decide +kernel
theorem d_SeriesVaultLaw_law_1202 : decode code 1202 = .ok (.iaload, 1) := by decide +kernel
theorem d_SeriesVaultLaw_law_1203 : decode code 1203 = .ok (.invokevirtual 161, 3) := by decide +kernel
theorem d_SeriesVaultLaw_law_1206 : decode code 1206 = .ok (.istore 6, 2) := by decide +kernel
theorem d_SeriesVaultLaw_law_1208 : decode code 1208 = .ok (.aload_n 2, 1) := by decide +kernel
theorem d_SeriesVaultLaw_law_1209 : decode code 1209 = .ok (.invokevirtual 110, 3) := by decide +kernel
theorem d_SeriesVaultLaw_law_1212 : decode code 1212 = .ok (.iload 5, 2) := by decide +kernel
theorem d_SeriesVaultLaw_law_1214 : decode code 1214 = .ok (.if_icmp .eq 5, 3) := by decide +kernel
theorem d_SeriesVaultLaw_law_1219 : decode code 1219 = .ok (.iload 5, 2) := by decide +kernel
theorem d_SeriesVaultLaw_law_1221 : decode code 1221 = .ok (.ifCond .ne 15, 3) := by decide +kernel
theorem d_SeriesVaultLaw_law_1224 : decode code 1224 = .ok (.aload_n 3, 1) := by decide +kernel
theorem d_SeriesVaultLaw_law_1225 : decode code 1225 = .ok (.iconst 0, 1) := by decide +kernel
theorem d_SeriesVaultLaw_law_1226 : decode code 1226 = .ok (.laload, 1) := by decide +kernel
theorem d_SeriesVaultLaw_law_1227 : decode code 1227 = .ok (.iload 6, 2) := by decide +kernel
theorem d_SeriesVaultLaw_law_1229 : decode code 1229 = .ok (.i2l, 1) := by decide +kernel
theorem d_SeriesVaultLaw_law_1230 : decode code 1230 = .ok (.lcmp, 1) := by decide +kernel
theorem d_SeriesVaultLaw_law_1231 : decode code 1231 = .ok (.ifCond .eq 5, 3) := by decide +kernel
theorem d_SeriesVaultLaw_law_1236 : decode code 1236 = .ok (.goto 534, 3) := by decide +kernel
theorem w957 : Cond.methodLink "SeriesVaultLaw" 158 ⟨"SeriesVaultLaw", "ask", "(LSeriesVault;JJI[J)I"⟩ ∈ aW := aw_of (tb_6 (List.mem_of_getElem? (i := 174) rfl)) rfl
theorem w958 : Cond.codeWith ⟨"SeriesVaultLaw", "ask", "(LSeriesVault;JJI[J)I"⟩ method_16_code 8 (some FieldType.int) [(0, 13, 16, 29), (0, 13, 20, 19)] ∈ aW := aw_of (tb_6 (List.mem_of_getElem? (i := 176) rfl)) rfl
theorem w959 : Cond.static ⟨"SeriesVaultLaw", "ask", "(LSeriesVault;JJI[J)I"⟩ ∈ aW := aw_of (tb_6 (List.mem_of_getElem? (i := 175) rfl)) rfl
theorem w960 : Cond.methodLink "SeriesVaultLaw" 161 ⟨"SeriesVaultModel", "ask", "(JJI)I"⟩ ∈ aW := aw_of (tb_10 (List.mem_of_getElem? (i := 149) rfl)) rfl
theorem w961 : Cond.code ⟨"SeriesVaultModel", "ask", "(JJI)I"⟩ prog_14_method_91_code 7 (some FieldType.int) ∈ aW := aw_of (tb_10 (List.mem_of_getElem? (i := 152) rfl)) rfl
theorem w962 : Cond.instanceMethod ⟨"SeriesVaultModel", "ask", "(JJI)I"⟩ ∈ aW := aw_of (tb_10 (List.mem_of_getElem? (i := 150) rfl)) rfl
theorem w963 : Cond.selects "SeriesVaultModel" ⟨"SeriesVaultModel", "ask", "(JJI)I"⟩ ⟨"SeriesVaultModel", "ask", "(JJI)I"⟩ ∈ aW := aw_of (tb_10 (List.mem_of_getElem? (i := 151) rfl)) rfl
set_option maxHeartbeats 4000000 in
set_option maxRecDepth 100000 in
theorem law_13 {p : Program} {e : Env} {s : State} {m : MethodId} {below : List Frame} {meth : Method} {c : Code} (l : Launch) {b : Nat} {xs : Nat → Int32} {D : va_G} {dA : Nat → ClassId} {e0 : Nat} {A : Nat → Prop} {H : Heap} {locs : List Loc} {ls : Array Slot} (hC : lS p l s m meth c b 6 xs D dA e0 A) (h : Nat) (v0 : Nat) (v1 : Nat) (v2 : Nat) (v4 : Nat) (v5 : Nat) (v7 : Nat) (v8 : Nat) (v19 : Nat) (v20 : Nat) (v21 : Nat) (v22 : Nat) (v23 : Nat) (v25 : Nat) (v26 : Nat) (v27 : Nat) (v28 : Nat) (v35 : Nat) (mm : Nat) (mv0 : Nat) (o : Nat) (fs : List Value) (js : List Value) (hs : List Value) (ns : List Value) (ss : List Value) (rs : List Value) (qs : List Value) (als : List Value) (ms : List Value) (tt : Int64) (tw : Int64) (ht : (((xs 1).toInt64) <<< ((32 : Int32).toInt64 &&& 63)) ||| (((xs 2).toInt64) &&& 4294967295) = tt) (hu : (((xs 3).toInt64) <<< ((32 : Int32).toInt64 &&& 63)) ||| (((xs 4).toInt64) &&& 4294967295) = tw) (h1 : ¬ tt < 0) (h2 : tt ≤ 1099511627775) (h3 : ¬ tw < 1) (h4 : tw ≤ 1099511627775) (h5 : ¬ xs 5 < 1) (h6 : xs 5 ≤ 64) (h_fs_tape : fs[0]? = some (.ref v0)) (h_fs_tapeLength : fs[1]? = some (.int 0)) (h_fs_powered : fs[5]? = some (.int 1)) (h_fs_question : fs[15]? = some (.ref v8)) (hl_fs : fs.length = 18) (hl_js : js.length = 13) (hl_hs : hs.length = 4) (hl_ns : ns.length = 11) (hl_ss : ss.length = 11) (hl_rs : rs.length = 6) (h_qs_steps : qs[8]? = some (.ref v35)) (hl_qs : qs.length = 9) (h_als_elementData : als[0]? = some (.ref e0)) (h_als_size : als[1]? = some (.int 0)) (h_als_modCount : als[2]? = some (.int 0)) (hl_als : als.length = 3) (h_ms_length : ms[2]? = some (.int 0)) (h_ms_on : ms[7]? = some (.int 1)) (hl_ms : ms.length = 79) (hP : va_P D vwCl [(h, .inr (0, fs)), (v0, .inl (dA 0, 256, .inl (fun _ => 0))), (v1, .inr (1, js)), (v2, .inr (2, hs)), (v4, .inr (3, ns)), (v5, .inr (3, ss)), (v7, .inr (4, rs)), (v8, .inr (5, qs)), (v35, .inr (6, als)), (v19, .inl (dA 4, 32, .inr (.inr (.inr (.inr (fun _ => none)))))), (v20, .inl (dA 1, 64, .inl (fun _ => 0))), (v21, .inl (dA 2, 64, .inr (.inl (fun _ => 0)))), (v22, .inl (dA 2, 64, .inr (.inl (fun _ => 0)))), (v23, .inl (dA 1, 64, .inl (fun _ => 0))), (v25, .inl (dA 4, 32, .inr (.inr (.inr (.inr (fun _ => none)))))), (v26, .inl (dA 1, 64, .inl (fun _ => 0))), (v27, .inl (dA 2, 64, .inr (.inl (fun _ => 0)))), (v28, .inl (dA 2, 64, .inr (.inl (fun _ => 0)))), (mm, .inr (9, ms)), (mv0, .inl (dA 0, 65536, .inl (fun _ => 0))), (o, .inl (dA 2, 1, .inr (.inl (fun _ => 0))))] H) (hD : va_D A [(h, .inr (0, fs)), (v0, .inl (dA 0, 256, .inl (fun _ => 0))), (v1, .inr (1, js)), (v2, .inr (2, hs)), (v4, .inr (3, ns)), (v5, .inr (3, ss)), (v7, .inr (4, rs)), (v8, .inr (5, qs)), (v35, .inr (6, als)), (v19, .inl (dA 4, 32, .inr (.inr (.inr (.inr (fun _ => none)))))), (v20, .inl (dA 1, 64, .inl (fun _ => 0))), (v21, .inl (dA 2, 64, .inr (.inl (fun _ => 0)))), (v22, .inl (dA 2, 64, .inr (.inl (fun _ => 0)))), (v23, .inl (dA 1, 64, .inl (fun _ => 0))), (v25, .inl (dA 4, 32, .inr (.inr (.inr (.inr (fun _ => none)))))), (v26, .inl (dA 1, 64, .inl (fun _ => 0))), (v27, .inl (dA 2, 64, .inr (.inl (fun _ => 0)))), (v28, .inl (dA 2, 64, .inr (.inl (fun _ => 0)))), (mm, .inr (9, ms)), (mv0, .inl (dA 0, 65536, .inl (fun _ => 0))), (o, .inl (dA 2, 1, .inr (.inl (fun _ => 0))))]) (hS : va_S A s.heap H locs) (hl : lv_has ls 8 [(4, .int 0), (3, .ref o), (2, .ref mm), (1, .ref h), (0, .ref b)]) : W p l e room_1 s m #[Value.ref b] below meth c H locs 92 1177737 (lw_Z below #[Value.ref b] s) (F0 m 1095 ls []) := by
  have hC0 := hC
  obtain ⟨hx, hb, hr, hml, hown, hlk, hE, hK, hA, hN, hZ, hT, hX, hbl, hbA, hnew, htr⟩ := hC
  refine lv_aload_n hx hb d_SeriesVaultLaw_law_1095 rfl (lv_at hl 3 rfl) ?_
  refine lv_aload_n hx hb d_SeriesVaultLaw_law_1096 rfl (lv_at hl 4 rfl) ?_
  refine lv_iload hx hb d_SeriesVaultLaw_law_1097 (lv_at hl 0 rfl) ?_
  refine lv_iconst (v := 1) hx hb d_SeriesVaultLaw_law_1099 (by decide) ?_
  refine lv_iadd hx hb d_SeriesVaultLaw_law_1100 (tpi (y := 1) (by decide) ?_)
  refine va_sld hx hb hX hbl hbA hS (by unfold vp_in; decide) d_SeriesVaultLaw_law_1101 ?_
  refine tpi (y := xs 1) rfl ?_
  refine lv_i2l hx hb d_SeriesVaultLaw_law_1102 rfl ?_
  refine lv_bipush (v := 32) hx hb d_SeriesVaultLaw_law_1103 (by decide) ?_
  refine lv_lshl hx hb d_SeriesVaultLaw_law_1105 rfl ?_
  refine lv_aload_n hx hb d_SeriesVaultLaw_law_1106 rfl (lv_at hl 4 rfl) ?_
  refine lv_iload hx hb d_SeriesVaultLaw_law_1107 (lv_at hl 0 rfl) ?_
  refine lv_iconst (v := 2) hx hb d_SeriesVaultLaw_law_1109 (by decide) ?_
  refine lv_iadd hx hb d_SeriesVaultLaw_law_1110 (tpi (y := 2) (by decide) ?_)
  refine va_sld hx hb hX hbl hbA hS (by unfold vp_in; decide) d_SeriesVaultLaw_law_1111 ?_
  refine tpi (y := xs 2) rfl ?_
  refine lv_i2l hx hb d_SeriesVaultLaw_law_1112 rfl ?_
  refine lv_ldc2 (v := 4294967295) hx hb hown (hE.t w914 rfl) d_SeriesVaultLaw_law_1113 ?_
  refine lv_land hx hb d_SeriesVaultLaw_law_1116 ?_
  refine lv_lor hx hb d_SeriesVaultLaw_law_1117 ?_
  refine tpl (y := tt) ht ?_
  refine lv_aload_n hx hb d_SeriesVaultLaw_law_1118 rfl (lv_at hl 4 rfl) ?_
  refine lv_iload hx hb d_SeriesVaultLaw_law_1119 (lv_at hl 0 rfl) ?_
  refine lv_iconst (v := 3) hx hb d_SeriesVaultLaw_law_1121 (by decide) ?_
  refine lv_iadd hx hb d_SeriesVaultLaw_law_1122 (tpi (y := 3) (by decide) ?_)
  refine va_sld hx hb hX hbl hbA hS (by unfold vp_in; decide) d_SeriesVaultLaw_law_1123 ?_
  refine tpi (y := xs 3) rfl ?_
  refine lv_i2l hx hb d_SeriesVaultLaw_law_1124 rfl ?_
  refine lv_bipush (v := 32) hx hb d_SeriesVaultLaw_law_1125 (by decide) ?_
  refine lv_lshl hx hb d_SeriesVaultLaw_law_1127 rfl ?_
  refine lv_aload_n hx hb d_SeriesVaultLaw_law_1128 rfl (lv_at hl 4 rfl) ?_
  refine lv_iload hx hb d_SeriesVaultLaw_law_1129 (lv_at hl 0 rfl) ?_
  refine lv_iconst (v := 4) hx hb d_SeriesVaultLaw_law_1131 (by decide) ?_
  refine lv_iadd hx hb d_SeriesVaultLaw_law_1132 (tpi (y := 4) (by decide) ?_)
  refine va_sld hx hb hX hbl hbA hS (by unfold vp_in; decide) d_SeriesVaultLaw_law_1133 ?_
  refine tpi (y := xs 4) rfl ?_
  refine lv_i2l hx hb d_SeriesVaultLaw_law_1134 rfl ?_
  refine lv_ldc2 (v := 4294967295) hx hb hown (hE.t w914 rfl) d_SeriesVaultLaw_law_1135 ?_
  refine lv_land hx hb d_SeriesVaultLaw_law_1138 ?_
  refine lv_lor hx hb d_SeriesVaultLaw_law_1139 ?_
  refine tpl (y := tw) hu ?_
  refine lv_aload_n hx hb d_SeriesVaultLaw_law_1140 rfl (lv_at hl 4 rfl) ?_
  refine lv_iload hx hb d_SeriesVaultLaw_law_1141 (lv_at hl 0 rfl) ?_
  refine lv_iconst (v := 5) hx hb d_SeriesVaultLaw_law_1143 (by decide) ?_
  refine lv_iadd hx hb d_SeriesVaultLaw_law_1144 (tpi (y := 5) (by decide) ?_)
  refine va_sld hx hb hX hbl hbA hS (by unfold vp_in; decide) d_SeriesVaultLaw_law_1145 ?_
  refine tpi (y := xs 5) rfl ?_
  refine lv_aload_n hx hb d_SeriesVaultLaw_law_1146 rfl (lv_at hl 1 rfl) ?_
  have hPc := hP.sub (ws' := [(h, .inr (0, fs)), (v8, .inr (5, qs)), (v35, .inr (6, als)), (o, .inl (dA 2, 1, .inr (.inl (fun _ => 0))))]) [0, 7, 8, 20] rfl
  have hDc := hD.sub (ws' := [(h, .inr (0, fs)), (v8, .inr (5, qs)), (v35, .inr (6, als)), (o, .inl (dA 2, 1, .inr (.inl (fun _ => 0))))]) [0, 7, 8, 20] (by decide) rfl
  refine jnI (rnW (As := [.ref h, .long tt, .long tw, .int (xs 5), .ref o]) (rest := []) hx hb hml hown hE hK (hN _ _ hS) hPc hDc (c_K_ask l htr D dA H.size h fs v0 v8 qs v35 als 0 e0 tt tw (xs 5) o (fun _ => 0) h1 h2 h3 h4 h5 h6 h_fs_tape h_fs_tapeLength h_fs_powered h_fs_question hl_fs h_qs_steps hl_qs h_als_elementData h_als_size h_als_modCount hl_als) w958 w957 w959 w861 rfl rfl ⟨⟨by decide, by decide⟩, rfl⟩ ⟨(Nat.le_of_ble_eq_true rfl), (Nat.le_of_ble_eq_true rfl)⟩ rfl hl.1 rfl (Nat.le_of_ble_eq_true rfl) d_SeriesVaultLaw_law_1147 ⟨(Nat.le_of_ble_eq_true rfl), (Nat.le_of_ble_eq_true rfl)⟩) hP hD hS hA [0, 7, 8, 20] [1, 2, 3, 4, 5, 6, 9, 10, 11, 12, 13, 14, 15, 16, 17, 18, 19] (wr := [(v0, .inl (dA 0, 256, .inl (fun _ => 0))), (v1, .inr (1, js)), (v2, .inr (2, hs)), (v4, .inr (3, ns)), (v5, .inr (3, ss)), (v7, .inr (4, rs)), (v19, .inl (dA 4, 32, .inr (.inr (.inr (.inr (fun _ => none)))))), (v20, .inl (dA 1, 64, .inl (fun _ => 0))), (v21, .inl (dA 2, 64, .inr (.inl (fun _ => 0)))), (v22, .inl (dA 2, 64, .inr (.inl (fun _ => 0)))), (v23, .inl (dA 1, 64, .inl (fun _ => 0))), (v25, .inl (dA 4, 32, .inr (.inr (.inr (.inr (fun _ => none)))))), (v26, .inl (dA 1, 64, .inl (fun _ => 0))), (v27, .inl (dA 2, 64, .inr (.inl (fun _ => 0)))), (v28, .inl (dA 2, 64, .inr (.inl (fun _ => 0)))), (mm, .inr (9, ms)), (mv0, .inl (dA 0, 65536, .inl (fun _ => 0)))]) rfl rfl (by decide) (by decide) (fun r1 u9 H locs hp9 hP hD hS => ?_)
  have hP : va_P D vwCl [(v0, .inl (dA 0, 256, .inl (fun _ => 0))), (v1, .inr (1, js)), (v2, .inr (2, hs)), (v4, .inr (3, ns)), (v5, .inr (3, ss)), (v7, .inr (4, rs)), (v19, .inl (dA 4, 32, .inr (.inr (.inr (.inr (fun _ => none)))))), (v20, .inl (dA 1, 64, .inl (fun _ => 0))), (v21, .inl (dA 2, 64, .inr (.inl (fun _ => 0)))), (v22, .inl (dA 2, 64, .inr (.inl (fun _ => 0)))), (v23, .inl (dA 1, 64, .inl (fun _ => 0))), (v25, .inl (dA 4, 32, .inr (.inr (.inr (.inr (fun _ => none)))))), (v26, .inl (dA 1, 64, .inl (fun _ => 0))), (v27, .inl (dA 2, 64, .inr (.inl (fun _ => 0)))), (v28, .inl (dA 2, 64, .inr (.inl (fun _ => 0)))), (mm, .inr (9, ms)), (mv0, .inl (dA 0, 65536, .inl (fun _ => 0))), (h, .inr (0, ((((fs.set 1 (.int 0)).set 17 (.int 0)).set 2 (.int 2)).set 3 (.int 0)))), (v8, .inr (5, ((((((((((qs.set 0 (.ref v0)).set 1 (.int 0)).set 6 (.int 0)).set 7 (.int 0)).set 4 (.int 0)).set 3 (.int 0)).set 4 (.int 0)).set 2 (.int 256)).set 6 (.int 2)).set 7 (.int 0)))), (v35, .inr (6, ((als.set 2 (.int (0 + 1))).set 1 (.int 0)))), (o, .inl (dA 2, 1, .inr (.inl (vp_updL (fun _ => 0) 0 (-1)))))] H := hP
  have hD : va_D A [(v0, .inl (dA 0, 256, .inl (fun _ => 0))), (v1, .inr (1, js)), (v2, .inr (2, hs)), (v4, .inr (3, ns)), (v5, .inr (3, ss)), (v7, .inr (4, rs)), (v19, .inl (dA 4, 32, .inr (.inr (.inr (.inr (fun _ => none)))))), (v20, .inl (dA 1, 64, .inl (fun _ => 0))), (v21, .inl (dA 2, 64, .inr (.inl (fun _ => 0)))), (v22, .inl (dA 2, 64, .inr (.inl (fun _ => 0)))), (v23, .inl (dA 1, 64, .inl (fun _ => 0))), (v25, .inl (dA 4, 32, .inr (.inr (.inr (.inr (fun _ => none)))))), (v26, .inl (dA 1, 64, .inl (fun _ => 0))), (v27, .inl (dA 2, 64, .inr (.inl (fun _ => 0)))), (v28, .inl (dA 2, 64, .inr (.inl (fun _ => 0)))), (mm, .inr (9, ms)), (mv0, .inl (dA 0, 65536, .inl (fun _ => 0))), (h, .inr (0, ((((fs.set 1 (.int 0)).set 17 (.int 0)).set 2 (.int 2)).set 3 (.int 0)))), (v8, .inr (5, ((((((((((qs.set 0 (.ref v0)).set 1 (.int 0)).set 6 (.int 0)).set 7 (.int 0)).set 4 (.int 0)).set 3 (.int 0)).set 4 (.int 0)).set 2 (.int 256)).set 6 (.int 2)).set 7 (.int 0)))), (v35, .inr (6, ((als.set 2 (.int (0 + 1))).set 1 (.int 0)))), (o, .inl (dA 2, 1, .inr (.inl (vp_updL (fun _ => 0) 0 (-1)))))] := hD
  have hp9 : 0 = r1 := Eq.symm hp9
  subst hp9
  refine lv_istore hx hb d_SeriesVaultLaw_law_1150 hl (by decide) rfl (fun ls hl => ?_)
  have hl : lv_has ls 8 [(5, .int 0), (4, .int 0), (3, .ref o), (2, .ref mm), (1, .ref h), (0, .ref b)] := hl
  refine lv_aload_n hx hb d_SeriesVaultLaw_law_1152 rfl (lv_at hl 3 rfl) ?_
  refine lv_aload_n hx hb d_SeriesVaultLaw_law_1153 rfl (lv_at hl 5 rfl) ?_
  refine lv_iload hx hb d_SeriesVaultLaw_law_1154 (lv_at hl 1 rfl) ?_
  refine lv_iconst (v := 1) hx hb d_SeriesVaultLaw_law_1156 (by decide) ?_
  refine lv_iadd hx hb d_SeriesVaultLaw_law_1157 (tpi (y := 1) (by decide) ?_)
  refine va_sld hx hb hX hbl hbA hS (by unfold vp_in; decide) d_SeriesVaultLaw_law_1158 ?_
  refine tpi (y := xs 1) rfl ?_
  refine lv_i2l hx hb d_SeriesVaultLaw_law_1159 rfl ?_
  refine lv_bipush (v := 32) hx hb d_SeriesVaultLaw_law_1160 (by decide) ?_
  refine lv_lshl hx hb d_SeriesVaultLaw_law_1162 rfl ?_
  refine lv_aload_n hx hb d_SeriesVaultLaw_law_1163 rfl (lv_at hl 5 rfl) ?_
  refine lv_iload hx hb d_SeriesVaultLaw_law_1164 (lv_at hl 1 rfl) ?_
  refine lv_iconst (v := 2) hx hb d_SeriesVaultLaw_law_1166 (by decide) ?_
  refine lv_iadd hx hb d_SeriesVaultLaw_law_1167 (tpi (y := 2) (by decide) ?_)
  refine va_sld hx hb hX hbl hbA hS (by unfold vp_in; decide) d_SeriesVaultLaw_law_1168 ?_
  refine tpi (y := xs 2) rfl ?_
  refine lv_i2l hx hb d_SeriesVaultLaw_law_1169 rfl ?_
  refine lv_ldc2 (v := 4294967295) hx hb hown (hE.t w914 rfl) d_SeriesVaultLaw_law_1170 ?_
  refine lv_land hx hb d_SeriesVaultLaw_law_1173 ?_
  refine lv_lor hx hb d_SeriesVaultLaw_law_1174 ?_
  refine tpl (y := tt) ht ?_
  refine lv_aload_n hx hb d_SeriesVaultLaw_law_1175 rfl (lv_at hl 5 rfl) ?_
  refine lv_iload hx hb d_SeriesVaultLaw_law_1176 (lv_at hl 1 rfl) ?_
  refine lv_iconst (v := 3) hx hb d_SeriesVaultLaw_law_1178 (by decide) ?_
  refine lv_iadd hx hb d_SeriesVaultLaw_law_1179 (tpi (y := 3) (by decide) ?_)
  refine va_sld hx hb hX hbl hbA hS (by unfold vp_in; decide) d_SeriesVaultLaw_law_1180 ?_
  refine tpi (y := xs 3) rfl ?_
  refine lv_i2l hx hb d_SeriesVaultLaw_law_1181 rfl ?_
  refine lv_bipush (v := 32) hx hb d_SeriesVaultLaw_law_1182 (by decide) ?_
  refine lv_lshl hx hb d_SeriesVaultLaw_law_1184 rfl ?_
  refine lv_aload_n hx hb d_SeriesVaultLaw_law_1185 rfl (lv_at hl 5 rfl) ?_
  refine lv_iload hx hb d_SeriesVaultLaw_law_1186 (lv_at hl 1 rfl) ?_
  refine lv_iconst (v := 4) hx hb d_SeriesVaultLaw_law_1188 (by decide) ?_
  refine lv_iadd hx hb d_SeriesVaultLaw_law_1189 (tpi (y := 4) (by decide) ?_)
  refine va_sld hx hb hX hbl hbA hS (by unfold vp_in; decide) d_SeriesVaultLaw_law_1190 ?_
  refine tpi (y := xs 4) rfl ?_
  refine lv_i2l hx hb d_SeriesVaultLaw_law_1191 rfl ?_
  refine lv_ldc2 (v := 4294967295) hx hb hown (hE.t w914 rfl) d_SeriesVaultLaw_law_1192 ?_
  refine lv_land hx hb d_SeriesVaultLaw_law_1195 ?_
  refine lv_lor hx hb d_SeriesVaultLaw_law_1196 ?_
  refine tpl (y := tw) hu ?_
  refine lv_aload_n hx hb d_SeriesVaultLaw_law_1197 rfl (lv_at hl 5 rfl) ?_
  refine lv_iload hx hb d_SeriesVaultLaw_law_1198 (lv_at hl 1 rfl) ?_
  refine lv_iconst (v := 5) hx hb d_SeriesVaultLaw_law_1200 (by decide) ?_
  refine lv_iadd hx hb d_SeriesVaultLaw_law_1201 (tpi (y := 5) (by decide) ?_)
  refine va_sld hx hb hX hbl hbA hS (by unfold vp_in; decide) d_SeriesVaultLaw_law_1202 ?_
  refine tpi (y := xs 5) rfl ?_
  have hPc := hP.sub (ws' := [(mm, .inr (9, ms))]) [15] rfl
  have hDc := hD.sub (ws' := [(mm, .inr (9, ms))]) [15] (by decide) rfl
  refine jnI (rnV (As := [.long tt, .long tw, .int (xs 5)]) (rest := []) hx hb hml hown hE hK (hN _ _ hS) hPc hDc (c_M_ask l D dA H.size mm ms tt tw (xs 5) h1 h2 h3 h4 h5 h6 h_ms_length h_ms_on hl_ms) (q0 := 0) rfl rfl w961 w960 w962 w963 w328 rfl rfl ⟨⟨by decide, by decide⟩, rfl⟩ ⟨(Nat.le_of_ble_eq_true rfl), (Nat.le_of_ble_eq_true rfl)⟩ rfl hl.1 rfl (Nat.le_of_ble_eq_true rfl) d_SeriesVaultLaw_law_1203 ⟨(Nat.le_of_ble_eq_true rfl), (Nat.le_of_ble_eq_true rfl)⟩) hP hD hS hA [15] [0, 1, 2, 3, 4, 5, 6, 7, 8, 9, 10, 11, 12, 13, 14, 16, 17, 18, 19, 20] (wr := [(v0, .inl (dA 0, 256, .inl (fun _ => 0))), (v1, .inr (1, js)), (v2, .inr (2, hs)), (v4, .inr (3, ns)), (v5, .inr (3, ss)), (v7, .inr (4, rs)), (v19, .inl (dA 4, 32, .inr (.inr (.inr (.inr (fun _ => none)))))), (v20, .inl (dA 1, 64, .inl (fun _ => 0))), (v21, .inl (dA 2, 64, .inr (.inl (fun _ => 0)))), (v22, .inl (dA 2, 64, .inr (.inl (fun _ => 0)))), (v23, .inl (dA 1, 64, .inl (fun _ => 0))), (v25, .inl (dA 4, 32, .inr (.inr (.inr (.inr (fun _ => none)))))), (v26, .inl (dA 1, 64, .inl (fun _ => 0))), (v27, .inl (dA 2, 64, .inr (.inl (fun _ => 0)))), (v28, .inl (dA 2, 64, .inr (.inl (fun _ => 0)))), (mv0, .inl (dA 0, 65536, .inl (fun _ => 0))), (h, .inr (0, ((((fs.set 1 (.int 0)).set 17 (.int 0)).set 2 (.int 2)).set 3 (.int 0)))), (v8, .inr (5, ((((((((((qs.set 0 (.ref v0)).set 1 (.int 0)).set 6 (.int 0)).set 7 (.int 0)).set 4 (.int 0)).set 3 (.int 0)).set 4 (.int 0)).set 2 (.int 256)).set 6 (.int 2)).set 7 (.int 0)))), (v35, .inr (6, ((als.set 2 (.int (0 + 1))).set 1 (.int 0)))), (o, .inl (dA 2, 1, .inr (.inl (vp_updL (fun _ => 0) 0 (-1)))))]) rfl rfl (by decide) (by decide) (fun r2 u9 H locs hp9 hP hD hS => ?_)
  have hP : va_P D vwCl [(v0, .inl (dA 0, 256, .inl (fun _ => 0))), (v1, .inr (1, js)), (v2, .inr (2, hs)), (v4, .inr (3, ns)), (v5, .inr (3, ss)), (v7, .inr (4, rs)), (v19, .inl (dA 4, 32, .inr (.inr (.inr (.inr (fun _ => none)))))), (v20, .inl (dA 1, 64, .inl (fun _ => 0))), (v21, .inl (dA 2, 64, .inr (.inl (fun _ => 0)))), (v22, .inl (dA 2, 64, .inr (.inl (fun _ => 0)))), (v23, .inl (dA 1, 64, .inl (fun _ => 0))), (v25, .inl (dA 4, 32, .inr (.inr (.inr (.inr (fun _ => none)))))), (v26, .inl (dA 1, 64, .inl (fun _ => 0))), (v27, .inl (dA 2, 64, .inr (.inl (fun _ => 0)))), (v28, .inl (dA 2, 64, .inr (.inl (fun _ => 0)))), (mv0, .inl (dA 0, 65536, .inl (fun _ => 0))), (h, .inr (0, ((((fs.set 1 (.int 0)).set 17 (.int 0)).set 2 (.int 2)).set 3 (.int 0)))), (v8, .inr (5, ((((((((((qs.set 0 (.ref v0)).set 1 (.int 0)).set 6 (.int 0)).set 7 (.int 0)).set 4 (.int 0)).set 3 (.int 0)).set 4 (.int 0)).set 2 (.int 256)).set 6 (.int 2)).set 7 (.int 0)))), (v35, .inr (6, ((als.set 2 (.int (0 + 1))).set 1 (.int 0)))), (o, .inl (dA 2, 1, .inr (.inl (vp_updL (fun _ => 0) 0 (-1))))), (mm, .inr (9, (((((((((((((((((((ms.set 0 (.int 0)).set 3 (.int 0)).set 4 (.int 0)).set 57 (.long tt)).set 58 (.long tw)).set 59 (.int (xs 5))).set 71 (.int 0)).set 56 (.int 0)).set 55 (.int 0)).set 68 (.int 0)).set 69 (.int 0)).set 46 (.int 0)).set 70 (.int 1)).set 45 (.int 0)).set 44 (.int 0)).set 70 (.int 0)).set 3 (.int 2)).set 4 (.int 0)).set 2 (.int 0))))] H := hP
  have hD : va_D A [(v0, .inl (dA 0, 256, .inl (fun _ => 0))), (v1, .inr (1, js)), (v2, .inr (2, hs)), (v4, .inr (3, ns)), (v5, .inr (3, ss)), (v7, .inr (4, rs)), (v19, .inl (dA 4, 32, .inr (.inr (.inr (.inr (fun _ => none)))))), (v20, .inl (dA 1, 64, .inl (fun _ => 0))), (v21, .inl (dA 2, 64, .inr (.inl (fun _ => 0)))), (v22, .inl (dA 2, 64, .inr (.inl (fun _ => 0)))), (v23, .inl (dA 1, 64, .inl (fun _ => 0))), (v25, .inl (dA 4, 32, .inr (.inr (.inr (.inr (fun _ => none)))))), (v26, .inl (dA 1, 64, .inl (fun _ => 0))), (v27, .inl (dA 2, 64, .inr (.inl (fun _ => 0)))), (v28, .inl (dA 2, 64, .inr (.inl (fun _ => 0)))), (mv0, .inl (dA 0, 65536, .inl (fun _ => 0))), (h, .inr (0, ((((fs.set 1 (.int 0)).set 17 (.int 0)).set 2 (.int 2)).set 3 (.int 0)))), (v8, .inr (5, ((((((((((qs.set 0 (.ref v0)).set 1 (.int 0)).set 6 (.int 0)).set 7 (.int 0)).set 4 (.int 0)).set 3 (.int 0)).set 4 (.int 0)).set 2 (.int 256)).set 6 (.int 2)).set 7 (.int 0)))), (v35, .inr (6, ((als.set 2 (.int (0 + 1))).set 1 (.int 0)))), (o, .inl (dA 2, 1, .inr (.inl (vp_updL (fun _ => 0) 0 (-1))))), (mm, .inr (9, (((((((((((((((((((ms.set 0 (.int 0)).set 3 (.int 0)).set 4 (.int 0)).set 57 (.long tt)).set 58 (.long tw)).set 59 (.int (xs 5))).set 71 (.int 0)).set 56 (.int 0)).set 55 (.int 0)).set 68 (.int 0)).set 69 (.int 0)).set 46 (.int 0)).set 70 (.int 1)).set 45 (.int 0)).set 44 (.int 0)).set 70 (.int 0)).set 3 (.int 2)).set 4 (.int 0)).set 2 (.int 0))))] := hD
  have hp9 : (-1) = r2 := Eq.symm hp9
  subst hp9
  refine lv_istore hx hb d_SeriesVaultLaw_law_1206 hl (by decide) rfl (fun ls hl => ?_)
  have hl : lv_has ls 8 [(6, .int (-1)), (5, .int 0), (4, .int 0), (3, .ref o), (2, .ref mm), (1, .ref h), (0, .ref b)] := hl
  refine lv_aload_n hx hb d_SeriesVaultLaw_law_1208 rfl (lv_at hl 4 rfl) ?_
  have hPc := hP.sub (ws' := [(mm, .inr (9, (((((((((((((((((((ms.set 0 (.int 0)).set 3 (.int 0)).set 4 (.int 0)).set 57 (.long tt)).set 58 (.long tw)).set 59 (.int (xs 5))).set 71 (.int 0)).set 56 (.int 0)).set 55 (.int 0)).set 68 (.int 0)).set 69 (.int 0)).set 46 (.int 0)).set 70 (.int 1)).set 45 (.int 0)).set 44 (.int 0)).set 70 (.int 0)).set 3 (.int 2)).set 4 (.int 0)).set 2 (.int 0))))]) [20] rfl
  have hDc := hD.sub (ws' := [(mm, .inr (9, (((((((((((((((((((ms.set 0 (.int 0)).set 3 (.int 0)).set 4 (.int 0)).set 57 (.long tt)).set 58 (.long tw)).set 59 (.int (xs 5))).set 71 (.int 0)).set 56 (.int 0)).set 55 (.int 0)).set 68 (.int 0)).set 69 (.int 0)).set 46 (.int 0)).set 70 (.int 1)).set 45 (.int 0)).set 44 (.int 0)).set 70 (.int 0)).set 3 (.int 2)).set 4 (.int 0)).set 2 (.int 0))))]) [20] (by decide) rfl
  refine jnI (rnV (As := []) (rest := []) hx hb hml hown hE hK (hN _ _ hS) hPc hDc (c_M_thrown l D dA H.size mm (((((((((((((((((((ms.set 0 (.int 0)).set 3 (.int 0)).set 4 (.int 0)).set 57 (.long tt)).set 58 (.long tw)).set 59 (.int (xs 5))).set 71 (.int 0)).set 56 (.int 0)).set 55 (.int 0)).set 68 (.int 0)).set 69 (.int 0)).set 46 (.int 0)).set 70 (.int 1)).set 45 (.int 0)).set 44 (.int 0)).set 70 (.int 0)).set 3 (.int 2)).set 4 (.int 0)).set 2 (.int 0)) 0 (by simp [hl_ms]) (by simp [hl_ms])) (q0 := 0) rfl rfl w869 w868 w870 w871 w328 rfl rfl ⟨⟨by decide, by decide⟩, rfl⟩ ⟨(Nat.le_of_ble_eq_true rfl), (Nat.le_of_ble_eq_true rfl)⟩ rfl hl.1 rfl (Nat.le_of_ble_eq_true rfl) d_SeriesVaultLaw_law_1209 ⟨(Nat.le_of_ble_eq_true rfl), (Nat.le_of_ble_eq_true rfl)⟩) hP hD hS hA [20] [0, 1, 2, 3, 4, 5, 6, 7, 8, 9, 10, 11, 12, 13, 14, 15, 16, 17, 18, 19] (wr := [(v0, .inl (dA 0, 256, .inl (fun _ => 0))), (v1, .inr (1, js)), (v2, .inr (2, hs)), (v4, .inr (3, ns)), (v5, .inr (3, ss)), (v7, .inr (4, rs)), (v19, .inl (dA 4, 32, .inr (.inr (.inr (.inr (fun _ => none)))))), (v20, .inl (dA 1, 64, .inl (fun _ => 0))), (v21, .inl (dA 2, 64, .inr (.inl (fun _ => 0)))), (v22, .inl (dA 2, 64, .inr (.inl (fun _ => 0)))), (v23, .inl (dA 1, 64, .inl (fun _ => 0))), (v25, .inl (dA 4, 32, .inr (.inr (.inr (.inr (fun _ => none)))))), (v26, .inl (dA 1, 64, .inl (fun _ => 0))), (v27, .inl (dA 2, 64, .inr (.inl (fun _ => 0)))), (v28, .inl (dA 2, 64, .inr (.inl (fun _ => 0)))), (mv0, .inl (dA 0, 65536, .inl (fun _ => 0))), (h, .inr (0, ((((fs.set 1 (.int 0)).set 17 (.int 0)).set 2 (.int 2)).set 3 (.int 0)))), (v8, .inr (5, ((((((((((qs.set 0 (.ref v0)).set 1 (.int 0)).set 6 (.int 0)).set 7 (.int 0)).set 4 (.int 0)).set 3 (.int 0)).set 4 (.int 0)).set 2 (.int 256)).set 6 (.int 2)).set 7 (.int 0)))), (v35, .inr (6, ((als.set 2 (.int (0 + 1))).set 1 (.int 0)))), (o, .inl (dA 2, 1, .inr (.inl (vp_updL (fun _ => 0) 0 (-1)))))]) rfl rfl (by decide) (by decide) (fun r3 u9 H locs hp9 hP hD hS => ?_)
  have hP : va_P D vwCl [(v0, .inl (dA 0, 256, .inl (fun _ => 0))), (v1, .inr (1, js)), (v2, .inr (2, hs)), (v4, .inr (3, ns)), (v5, .inr (3, ss)), (v7, .inr (4, rs)), (v19, .inl (dA 4, 32, .inr (.inr (.inr (.inr (fun _ => none)))))), (v20, .inl (dA 1, 64, .inl (fun _ => 0))), (v21, .inl (dA 2, 64, .inr (.inl (fun _ => 0)))), (v22, .inl (dA 2, 64, .inr (.inl (fun _ => 0)))), (v23, .inl (dA 1, 64, .inl (fun _ => 0))), (v25, .inl (dA 4, 32, .inr (.inr (.inr (.inr (fun _ => none)))))), (v26, .inl (dA 1, 64, .inl (fun _ => 0))), (v27, .inl (dA 2, 64, .inr (.inl (fun _ => 0)))), (v28, .inl (dA 2, 64, .inr (.inl (fun _ => 0)))), (mv0, .inl (dA 0, 65536, .inl (fun _ => 0))), (h, .inr (0, ((((fs.set 1 (.int 0)).set 17 (.int 0)).set 2 (.int 2)).set 3 (.int 0)))), (v8, .inr (5, ((((((((((qs.set 0 (.ref v0)).set 1 (.int 0)).set 6 (.int 0)).set 7 (.int 0)).set 4 (.int 0)).set 3 (.int 0)).set 4 (.int 0)).set 2 (.int 256)).set 6 (.int 2)).set 7 (.int 0)))), (v35, .inr (6, ((als.set 2 (.int (0 + 1))).set 1 (.int 0)))), (o, .inl (dA 2, 1, .inr (.inl (vp_updL (fun _ => 0) 0 (-1))))), (mm, .inr (9, (((((((((((((((((((ms.set 0 (.int 0)).set 3 (.int 0)).set 4 (.int 0)).set 57 (.long tt)).set 58 (.long tw)).set 59 (.int (xs 5))).set 71 (.int 0)).set 56 (.int 0)).set 55 (.int 0)).set 68 (.int 0)).set 69 (.int 0)).set 46 (.int 0)).set 70 (.int 1)).set 45 (.int 0)).set 44 (.int 0)).set 70 (.int 0)).set 3 (.int 2)).set 4 (.int 0)).set 2 (.int 0))))] H := hP
  have hD : va_D A [(v0, .inl (dA 0, 256, .inl (fun _ => 0))), (v1, .inr (1, js)), (v2, .inr (2, hs)), (v4, .inr (3, ns)), (v5, .inr (3, ss)), (v7, .inr (4, rs)), (v19, .inl (dA 4, 32, .inr (.inr (.inr (.inr (fun _ => none)))))), (v20, .inl (dA 1, 64, .inl (fun _ => 0))), (v21, .inl (dA 2, 64, .inr (.inl (fun _ => 0)))), (v22, .inl (dA 2, 64, .inr (.inl (fun _ => 0)))), (v23, .inl (dA 1, 64, .inl (fun _ => 0))), (v25, .inl (dA 4, 32, .inr (.inr (.inr (.inr (fun _ => none)))))), (v26, .inl (dA 1, 64, .inl (fun _ => 0))), (v27, .inl (dA 2, 64, .inr (.inl (fun _ => 0)))), (v28, .inl (dA 2, 64, .inr (.inl (fun _ => 0)))), (mv0, .inl (dA 0, 65536, .inl (fun _ => 0))), (h, .inr (0, ((((fs.set 1 (.int 0)).set 17 (.int 0)).set 2 (.int 2)).set 3 (.int 0)))), (v8, .inr (5, ((((((((((qs.set 0 (.ref v0)).set 1 (.int 0)).set 6 (.int 0)).set 7 (.int 0)).set 4 (.int 0)).set 3 (.int 0)).set 4 (.int 0)).set 2 (.int 256)).set 6 (.int 2)).set 7 (.int 0)))), (v35, .inr (6, ((als.set 2 (.int (0 + 1))).set 1 (.int 0)))), (o, .inl (dA 2, 1, .inr (.inl (vp_updL (fun _ => 0) 0 (-1))))), (mm, .inr (9, (((((((((((((((((((ms.set 0 (.int 0)).set 3 (.int 0)).set 4 (.int 0)).set 57 (.long tt)).set 58 (.long tw)).set 59 (.int (xs 5))).set 71 (.int 0)).set 56 (.int 0)).set 55 (.int 0)).set 68 (.int 0)).set 69 (.int 0)).set 46 (.int 0)).set 70 (.int 1)).set 45 (.int 0)).set 44 (.int 0)).set 70 (.int 0)).set 3 (.int 2)).set 4 (.int 0)).set 2 (.int 0))))] := hD
  have hp9 : 0 = r3 := Eq.symm hp9
  subst hp9
  refine lv_iload hx hb d_SeriesVaultLaw_law_1212 (lv_at hl 1 rfl) ?_
  refine lv_icmp_eq hx hb d_SeriesVaultLaw_law_1214 (tgt := 1219) rfl (fun _ => ?_) (fun h9 => absurd (by decide) h9)
  refine lv_iload hx hb d_SeriesVaultLaw_law_1219 (lv_at hl 1 rfl) ?_
  refine lv_if_ne hx hb d_SeriesVaultLaw_law_1221 (tgt := 1236) rfl (fun h9 => absurd (by decide) h9) (fun _ => ?_)
  refine lv_aload_n hx hb d_SeriesVaultLaw_law_1224 rfl (lv_at hl 3 rfl) ?_
  refine lv_iconst (v := 0) hx hb d_SeriesVaultLaw_law_1225 (by decide) ?_
  refine va_lald hx hb hK hP 19 2 rfl rfl (by unfold vp_in; decide) d_SeriesVaultLaw_law_1226 ?_
  refine tpl (y := (-1)) (by rfl) ?_
  refine lv_iload hx hb d_SeriesVaultLaw_law_1227 (lv_at hl 0 rfl) ?_
  refine lv_i2l (v := (-1)) hx hb d_SeriesVaultLaw_law_1229 (by decide) ?_
  refine W.lcmp hx hb d_SeriesVaultLaw_law_1230 (tpi (y := 0) (by decide) ?_)
  refine lv_if_eq hx hb d_SeriesVaultLaw_law_1231 (tgt := 1236) rfl (fun _ => ?_) (fun h9 => absurd (by decide) h9)
  refine lv_goto hx hb d_SeriesVaultLaw_law_1236 (tgt := 1770) rfl ?_
  refine lv_iinc (k := 2) (v := 6) hx hb d_SeriesVaultLaw_law_1770 hl rfl (by decide) (by decide) rfl (fun ls hl => ?_)
  have hl : lv_has ls 8 [(4, .int 6), (6, .int (-1)), (5, .int 0), (3, .ref o), (2, .ref mm), (1, .ref h), (0, .ref b)] := hl
  refine lv_goto hx hb d_SeriesVaultLaw_law_1773 (tgt := 23) rfl ?_
  refine lv_iload hx hb d_SeriesVaultLaw_law_23 (lv_at hl 0 rfl) ?_
  refine lv_aload_n hx hb d_SeriesVaultLaw_law_25 rfl (lv_at hl 6 rfl) ?_
  refine va_slen hx hb hX hbl hbA hS d_SeriesVaultLaw_law_26 ?_
  refine tpi (y := 6) (by decide) ?_
  refine lv_bipush (v := 6) hx hb d_SeriesVaultLaw_law_27 (by decide) ?_
  refine lv_isub hx hb d_SeriesVaultLaw_law_29 (tpi (y := 0) (by decide) ?_)
  refine lv_icmp_gt hx hb d_SeriesVaultLaw_law_30 (tgt := 1776) rfl (fun _ => ?_) (fun h9 => absurd (by decide) h9)
  refine lv_iconst (v := 1) hx hb d_SeriesVaultLaw_law_1776 (by decide) ?_
  exact lw_fin hC0 hS (Nat.le_of_ble_eq_true rfl) (Nat.le_of_ble_eq_true rfl) d_SeriesVaultLaw_law_1777
set_option maxHeartbeats 4000000 in
set_option maxRecDepth 100000 in
theorem law_13xt {p : Program} {e : Env} {s : State} {m : MethodId} {below : List Frame} {meth : Method} {c : Code} (l : Launch) {b : Nat} {xs : Nat → Int32} {D : va_G} {dA : Nat → ClassId} {e0 : Nat} {A : Nat → Prop} {H : Heap} {locs : List Loc} {ls : Array Slot} (hC : lS p l s m meth c b 6 xs D dA e0 A) (h : Nat) (v0 : Nat) (v1 : Nat) (v2 : Nat) (v4 : Nat) (v5 : Nat) (v7 : Nat) (v8 : Nat) (v19 : Nat) (v20 : Nat) (v21 : Nat) (v22 : Nat) (v23 : Nat) (v25 : Nat) (v26 : Nat) (v27 : Nat) (v28 : Nat) (v35 : Nat) (mm : Nat) (mv0 : Nat) (o : Nat) (fs : List Value) (js : List Value) (hs : List Value) (ns : List Value) (ss : List Value) (rs : List Value) (qs : List Value) (als : List Value) (ms : List Value) (tt : Int64) (tw : Int64) (ht : (((xs 1).toInt64) <<< ((32 : Int32).toInt64 &&& 63)) ||| (((xs 2).toInt64) &&& 4294967295) = tt) (hu : (((xs 3).toInt64) <<< ((32 : Int32).toInt64 &&& 63)) ||| (((xs 4).toInt64) &&& 4294967295) = tw) (h0 : tt < 0 ∨ 1099511627775 < tt) (h_fs_powered : fs[5]? = some (.int 1)) (hl_fs : fs.length = 18) (hl_js : js.length = 13) (hl_hs : hs.length = 4) (hl_ns : ns.length = 11) (hl_ss : ss.length = 11) (hl_rs : rs.length = 6) (hl_qs : qs.length = 9) (hl_als : als.length = 3) (h_ms_on : ms[7]? = some (.int 1)) (hl_ms : ms.length = 79) (hP : va_P D vwCl [(h, .inr (0, fs)), (v0, .inl (dA 0, 256, .inl (fun _ => 0))), (v1, .inr (1, js)), (v2, .inr (2, hs)), (v4, .inr (3, ns)), (v5, .inr (3, ss)), (v7, .inr (4, rs)), (v8, .inr (5, qs)), (v35, .inr (6, als)), (v19, .inl (dA 4, 32, .inr (.inr (.inr (.inr (fun _ => none)))))), (v20, .inl (dA 1, 64, .inl (fun _ => 0))), (v21, .inl (dA 2, 64, .inr (.inl (fun _ => 0)))), (v22, .inl (dA 2, 64, .inr (.inl (fun _ => 0)))), (v23, .inl (dA 1, 64, .inl (fun _ => 0))), (v25, .inl (dA 4, 32, .inr (.inr (.inr (.inr (fun _ => none)))))), (v26, .inl (dA 1, 64, .inl (fun _ => 0))), (v27, .inl (dA 2, 64, .inr (.inl (fun _ => 0)))), (v28, .inl (dA 2, 64, .inr (.inl (fun _ => 0)))), (mm, .inr (9, ms)), (mv0, .inl (dA 0, 65536, .inl (fun _ => 0))), (o, .inl (dA 2, 1, .inr (.inl (fun _ => 0))))] H) (hD : va_D A [(h, .inr (0, fs)), (v0, .inl (dA 0, 256, .inl (fun _ => 0))), (v1, .inr (1, js)), (v2, .inr (2, hs)), (v4, .inr (3, ns)), (v5, .inr (3, ss)), (v7, .inr (4, rs)), (v8, .inr (5, qs)), (v35, .inr (6, als)), (v19, .inl (dA 4, 32, .inr (.inr (.inr (.inr (fun _ => none)))))), (v20, .inl (dA 1, 64, .inl (fun _ => 0))), (v21, .inl (dA 2, 64, .inr (.inl (fun _ => 0)))), (v22, .inl (dA 2, 64, .inr (.inl (fun _ => 0)))), (v23, .inl (dA 1, 64, .inl (fun _ => 0))), (v25, .inl (dA 4, 32, .inr (.inr (.inr (.inr (fun _ => none)))))), (v26, .inl (dA 1, 64, .inl (fun _ => 0))), (v27, .inl (dA 2, 64, .inr (.inl (fun _ => 0)))), (v28, .inl (dA 2, 64, .inr (.inl (fun _ => 0)))), (mm, .inr (9, ms)), (mv0, .inl (dA 0, 65536, .inl (fun _ => 0))), (o, .inl (dA 2, 1, .inr (.inl (fun _ => 0))))]) (hS : va_S A s.heap H locs) (hl : lv_has ls 8 [(4, .int 0), (3, .ref o), (2, .ref mm), (1, .ref h), (0, .ref b)]) : W p l e room_1 s m #[Value.ref b] below meth c H locs 92 1177737 (lw_Z below #[Value.ref b] s) (F0 m 1095 ls []) := by
  have hC0 := hC
  obtain ⟨hx, hb, hr, hml, hown, hlk, hE, hK, hA, hN, hZ, hT, hX, hbl, hbA, hnew, htr⟩ := hC
  refine lv_aload_n hx hb d_SeriesVaultLaw_law_1095 rfl (lv_at hl 3 rfl) ?_
  refine lv_aload_n hx hb d_SeriesVaultLaw_law_1096 rfl (lv_at hl 4 rfl) ?_
  refine lv_iload hx hb d_SeriesVaultLaw_law_1097 (lv_at hl 0 rfl) ?_
  refine lv_iconst (v := 1) hx hb d_SeriesVaultLaw_law_1099 (by decide) ?_
  refine lv_iadd hx hb d_SeriesVaultLaw_law_1100 (tpi (y := 1) (by decide) ?_)
  refine va_sld hx hb hX hbl hbA hS (by unfold vp_in; decide) d_SeriesVaultLaw_law_1101 ?_
  refine tpi (y := xs 1) rfl ?_
  refine lv_i2l hx hb d_SeriesVaultLaw_law_1102 rfl ?_
  refine lv_bipush (v := 32) hx hb d_SeriesVaultLaw_law_1103 (by decide) ?_
  refine lv_lshl hx hb d_SeriesVaultLaw_law_1105 rfl ?_
  refine lv_aload_n hx hb d_SeriesVaultLaw_law_1106 rfl (lv_at hl 4 rfl) ?_
  refine lv_iload hx hb d_SeriesVaultLaw_law_1107 (lv_at hl 0 rfl) ?_
  refine lv_iconst (v := 2) hx hb d_SeriesVaultLaw_law_1109 (by decide) ?_
  refine lv_iadd hx hb d_SeriesVaultLaw_law_1110 (tpi (y := 2) (by decide) ?_)
  refine va_sld hx hb hX hbl hbA hS (by unfold vp_in; decide) d_SeriesVaultLaw_law_1111 ?_
  refine tpi (y := xs 2) rfl ?_
  refine lv_i2l hx hb d_SeriesVaultLaw_law_1112 rfl ?_
  refine lv_ldc2 (v := 4294967295) hx hb hown (hE.t w914 rfl) d_SeriesVaultLaw_law_1113 ?_
  refine lv_land hx hb d_SeriesVaultLaw_law_1116 ?_
  refine lv_lor hx hb d_SeriesVaultLaw_law_1117 ?_
  refine tpl (y := tt) ht ?_
  refine lv_aload_n hx hb d_SeriesVaultLaw_law_1118 rfl (lv_at hl 4 rfl) ?_
  refine lv_iload hx hb d_SeriesVaultLaw_law_1119 (lv_at hl 0 rfl) ?_
  refine lv_iconst (v := 3) hx hb d_SeriesVaultLaw_law_1121 (by decide) ?_
  refine lv_iadd hx hb d_SeriesVaultLaw_law_1122 (tpi (y := 3) (by decide) ?_)
  refine va_sld hx hb hX hbl hbA hS (by unfold vp_in; decide) d_SeriesVaultLaw_law_1123 ?_
  refine tpi (y := xs 3) rfl ?_
  refine lv_i2l hx hb d_SeriesVaultLaw_law_1124 rfl ?_
  refine lv_bipush (v := 32) hx hb d_SeriesVaultLaw_law_1125 (by decide) ?_
  refine lv_lshl hx hb d_SeriesVaultLaw_law_1127 rfl ?_
  refine lv_aload_n hx hb d_SeriesVaultLaw_law_1128 rfl (lv_at hl 4 rfl) ?_
  refine lv_iload hx hb d_SeriesVaultLaw_law_1129 (lv_at hl 0 rfl) ?_
  refine lv_iconst (v := 4) hx hb d_SeriesVaultLaw_law_1131 (by decide) ?_
  refine lv_iadd hx hb d_SeriesVaultLaw_law_1132 (tpi (y := 4) (by decide) ?_)
  refine va_sld hx hb hX hbl hbA hS (by unfold vp_in; decide) d_SeriesVaultLaw_law_1133 ?_
  refine tpi (y := xs 4) rfl ?_
  refine lv_i2l hx hb d_SeriesVaultLaw_law_1134 rfl ?_
  refine lv_ldc2 (v := 4294967295) hx hb hown (hE.t w914 rfl) d_SeriesVaultLaw_law_1135 ?_
  refine lv_land hx hb d_SeriesVaultLaw_law_1138 ?_
  refine lv_lor hx hb d_SeriesVaultLaw_law_1139 ?_
  refine tpl (y := tw) hu ?_
  refine lv_aload_n hx hb d_SeriesVaultLaw_law_1140 rfl (lv_at hl 4 rfl) ?_
  refine lv_iload hx hb d_SeriesVaultLaw_law_1141 (lv_at hl 0 rfl) ?_
  refine lv_iconst (v := 5) hx hb d_SeriesVaultLaw_law_1143 (by decide) ?_
  refine lv_iadd hx hb d_SeriesVaultLaw_law_1144 (tpi (y := 5) (by decide) ?_)
  refine va_sld hx hb hX hbl hbA hS (by unfold vp_in; decide) d_SeriesVaultLaw_law_1145 ?_
  refine tpi (y := xs 5) rfl ?_
  refine lv_aload_n hx hb d_SeriesVaultLaw_law_1146 rfl (lv_at hl 1 rfl) ?_
  have hPc := hP.sub (ws' := [(h, .inr (0, fs)), (o, .inl (dA 2, 1, .inr (.inl (fun _ => 0))))]) [0, 20] rfl
  have hDc := hD.sub (ws' := [(h, .inr (0, fs)), (o, .inl (dA 2, 1, .inr (.inl (fun _ => 0))))]) [0, 20] (by decide) rfl
  refine jnI (rnW (As := [.ref h, .long tt, .long tw, .int (xs 5), .ref o]) (rest := []) hx hb hml hown hE hK (hN _ _ hS) hPc hDc (c_K_ask_xt l htr D dA H.size h fs tt tw (xs 5) o (fun _ => 0) h0 h_fs_powered hl_fs) w958 w957 w959 w861 rfl rfl ⟨⟨by decide, by decide⟩, rfl⟩ ⟨(Nat.le_of_ble_eq_true rfl), (Nat.le_of_ble_eq_true rfl)⟩ rfl hl.1 rfl (Nat.le_of_ble_eq_true rfl) d_SeriesVaultLaw_law_1147 ⟨(Nat.le_of_ble_eq_true rfl), (Nat.le_of_ble_eq_true rfl)⟩) hP hD hS hA [0, 20] [1, 2, 3, 4, 5, 6, 7, 8, 9, 10, 11, 12, 13, 14, 15, 16, 17, 18, 19] (wr := [(v0, .inl (dA 0, 256, .inl (fun _ => 0))), (v1, .inr (1, js)), (v2, .inr (2, hs)), (v4, .inr (3, ns)), (v5, .inr (3, ss)), (v7, .inr (4, rs)), (v8, .inr (5, qs)), (v35, .inr (6, als)), (v19, .inl (dA 4, 32, .inr (.inr (.inr (.inr (fun _ => none)))))), (v20, .inl (dA 1, 64, .inl (fun _ => 0))), (v21, .inl (dA 2, 64, .inr (.inl (fun _ => 0)))), (v22, .inl (dA 2, 64, .inr (.inl (fun _ => 0)))), (v23, .inl (dA 1, 64, .inl (fun _ => 0))), (v25, .inl (dA 4, 32, .inr (.inr (.inr (.inr (fun _ => none)))))), (v26, .inl (dA 1, 64, .inl (fun _ => 0))), (v27, .inl (dA 2, 64, .inr (.inl (fun _ => 0)))), (v28, .inl (dA 2, 64, .inr (.inl (fun _ => 0)))), (mm, .inr (9, ms)), (mv0, .inl (dA 0, 65536, .inl (fun _ => 0)))]) rfl rfl (by decide) (by decide) (fun r1 u9 H locs hp9 hP hD hS => ?_)
  have hP : va_P D vwCl [(v0, .inl (dA 0, 256, .inl (fun _ => 0))), (v1, .inr (1, js)), (v2, .inr (2, hs)), (v4, .inr (3, ns)), (v5, .inr (3, ss)), (v7, .inr (4, rs)), (v8, .inr (5, qs)), (v35, .inr (6, als)), (v19, .inl (dA 4, 32, .inr (.inr (.inr (.inr (fun _ => none)))))), (v20, .inl (dA 1, 64, .inl (fun _ => 0))), (v21, .inl (dA 2, 64, .inr (.inl (fun _ => 0)))), (v22, .inl (dA 2, 64, .inr (.inl (fun _ => 0)))), (v23, .inl (dA 1, 64, .inl (fun _ => 0))), (v25, .inl (dA 4, 32, .inr (.inr (.inr (.inr (fun _ => none)))))), (v26, .inl (dA 1, 64, .inl (fun _ => 0))), (v27, .inl (dA 2, 64, .inr (.inl (fun _ => 0)))), (v28, .inl (dA 2, 64, .inr (.inl (fun _ => 0)))), (mm, .inr (9, ms)), (mv0, .inl (dA 0, 65536, .inl (fun _ => 0))), (h, .inr (0, fs)), (o, .inl (dA 2, 1, .inr (.inl (fun _ => 0))))] H := hP
  have hD : va_D A [(v0, .inl (dA 0, 256, .inl (fun _ => 0))), (v1, .inr (1, js)), (v2, .inr (2, hs)), (v4, .inr (3, ns)), (v5, .inr (3, ss)), (v7, .inr (4, rs)), (v8, .inr (5, qs)), (v35, .inr (6, als)), (v19, .inl (dA 4, 32, .inr (.inr (.inr (.inr (fun _ => none)))))), (v20, .inl (dA 1, 64, .inl (fun _ => 0))), (v21, .inl (dA 2, 64, .inr (.inl (fun _ => 0)))), (v22, .inl (dA 2, 64, .inr (.inl (fun _ => 0)))), (v23, .inl (dA 1, 64, .inl (fun _ => 0))), (v25, .inl (dA 4, 32, .inr (.inr (.inr (.inr (fun _ => none)))))), (v26, .inl (dA 1, 64, .inl (fun _ => 0))), (v27, .inl (dA 2, 64, .inr (.inl (fun _ => 0)))), (v28, .inl (dA 2, 64, .inr (.inl (fun _ => 0)))), (mm, .inr (9, ms)), (mv0, .inl (dA 0, 65536, .inl (fun _ => 0))), (h, .inr (0, fs)), (o, .inl (dA 2, 1, .inr (.inl (fun _ => 0))))] := hD
  have hp9 : 2 = r1 := Eq.symm hp9
  subst hp9
  refine lv_istore hx hb d_SeriesVaultLaw_law_1150 hl (by decide) rfl (fun ls hl => ?_)
  have hl : lv_has ls 8 [(5, .int 2), (4, .int 0), (3, .ref o), (2, .ref mm), (1, .ref h), (0, .ref b)] := hl
  refine lv_aload_n hx hb d_SeriesVaultLaw_law_1152 rfl (lv_at hl 3 rfl) ?_
  refine lv_aload_n hx hb d_SeriesVaultLaw_law_1153 rfl (lv_at hl 5 rfl) ?_
  refine lv_iload hx hb d_SeriesVaultLaw_law_1154 (lv_at hl 1 rfl) ?_
  refine lv_iconst (v := 1) hx hb d_SeriesVaultLaw_law_1156 (by decide) ?_
  refine lv_iadd hx hb d_SeriesVaultLaw_law_1157 (tpi (y := 1) (by decide) ?_)
  refine va_sld hx hb hX hbl hbA hS (by unfold vp_in; decide) d_SeriesVaultLaw_law_1158 ?_
  refine tpi (y := xs 1) rfl ?_
  refine lv_i2l hx hb d_SeriesVaultLaw_law_1159 rfl ?_
  refine lv_bipush (v := 32) hx hb d_SeriesVaultLaw_law_1160 (by decide) ?_
  refine lv_lshl hx hb d_SeriesVaultLaw_law_1162 rfl ?_
  refine lv_aload_n hx hb d_SeriesVaultLaw_law_1163 rfl (lv_at hl 5 rfl) ?_
  refine lv_iload hx hb d_SeriesVaultLaw_law_1164 (lv_at hl 1 rfl) ?_
  refine lv_iconst (v := 2) hx hb d_SeriesVaultLaw_law_1166 (by decide) ?_
  refine lv_iadd hx hb d_SeriesVaultLaw_law_1167 (tpi (y := 2) (by decide) ?_)
  refine va_sld hx hb hX hbl hbA hS (by unfold vp_in; decide) d_SeriesVaultLaw_law_1168 ?_
  refine tpi (y := xs 2) rfl ?_
  refine lv_i2l hx hb d_SeriesVaultLaw_law_1169 rfl ?_
  refine lv_ldc2 (v := 4294967295) hx hb hown (hE.t w914 rfl) d_SeriesVaultLaw_law_1170 ?_
  refine lv_land hx hb d_SeriesVaultLaw_law_1173 ?_
  refine lv_lor hx hb d_SeriesVaultLaw_law_1174 ?_
  refine tpl (y := tt) ht ?_
  refine lv_aload_n hx hb d_SeriesVaultLaw_law_1175 rfl (lv_at hl 5 rfl) ?_
  refine lv_iload hx hb d_SeriesVaultLaw_law_1176 (lv_at hl 1 rfl) ?_
  refine lv_iconst (v := 3) hx hb d_SeriesVaultLaw_law_1178 (by decide) ?_
  refine lv_iadd hx hb d_SeriesVaultLaw_law_1179 (tpi (y := 3) (by decide) ?_)
  refine va_sld hx hb hX hbl hbA hS (by unfold vp_in; decide) d_SeriesVaultLaw_law_1180 ?_
  refine tpi (y := xs 3) rfl ?_
  refine lv_i2l hx hb d_SeriesVaultLaw_law_1181 rfl ?_
  refine lv_bipush (v := 32) hx hb d_SeriesVaultLaw_law_1182 (by decide) ?_
  refine lv_lshl hx hb d_SeriesVaultLaw_law_1184 rfl ?_
  refine lv_aload_n hx hb d_SeriesVaultLaw_law_1185 rfl (lv_at hl 5 rfl) ?_
  refine lv_iload hx hb d_SeriesVaultLaw_law_1186 (lv_at hl 1 rfl) ?_
  refine lv_iconst (v := 4) hx hb d_SeriesVaultLaw_law_1188 (by decide) ?_
  refine lv_iadd hx hb d_SeriesVaultLaw_law_1189 (tpi (y := 4) (by decide) ?_)
  refine va_sld hx hb hX hbl hbA hS (by unfold vp_in; decide) d_SeriesVaultLaw_law_1190 ?_
  refine tpi (y := xs 4) rfl ?_
  refine lv_i2l hx hb d_SeriesVaultLaw_law_1191 rfl ?_
  refine lv_ldc2 (v := 4294967295) hx hb hown (hE.t w914 rfl) d_SeriesVaultLaw_law_1192 ?_
  refine lv_land hx hb d_SeriesVaultLaw_law_1195 ?_
  refine lv_lor hx hb d_SeriesVaultLaw_law_1196 ?_
  refine tpl (y := tw) hu ?_
  refine lv_aload_n hx hb d_SeriesVaultLaw_law_1197 rfl (lv_at hl 5 rfl) ?_
  refine lv_iload hx hb d_SeriesVaultLaw_law_1198 (lv_at hl 1 rfl) ?_
  refine lv_iconst (v := 5) hx hb d_SeriesVaultLaw_law_1200 (by decide) ?_
  refine lv_iadd hx hb d_SeriesVaultLaw_law_1201 (tpi (y := 5) (by decide) ?_)
  refine va_sld hx hb hX hbl hbA hS (by unfold vp_in; decide) d_SeriesVaultLaw_law_1202 ?_
  refine tpi (y := xs 5) rfl ?_
  have hPc := hP.sub (ws' := [(mm, .inr (9, ms))]) [17] rfl
  have hDc := hD.sub (ws' := [(mm, .inr (9, ms))]) [17] (by decide) rfl
  refine jnI (rnV (As := [.long tt, .long tw, .int (xs 5)]) (rest := []) hx hb hml hown hE hK (hN _ _ hS) hPc hDc (c_M_ask_x l D dA H.size mm ms tt tw (xs 5) (h0.elim Or.inl (fun z => Or.inr (Or.inl z))) h_ms_on hl_ms) (q0 := 0) rfl rfl w961 w960 w962 w963 w328 rfl rfl ⟨⟨by decide, by decide⟩, rfl⟩ ⟨(Nat.le_of_ble_eq_true rfl), (Nat.le_of_ble_eq_true rfl)⟩ rfl hl.1 rfl (Nat.le_of_ble_eq_true rfl) d_SeriesVaultLaw_law_1203 ⟨(Nat.le_of_ble_eq_true rfl), (Nat.le_of_ble_eq_true rfl)⟩) hP hD hS hA [17] [0, 1, 2, 3, 4, 5, 6, 7, 8, 9, 10, 11, 12, 13, 14, 15, 16, 18, 19, 20] (wr := [(v0, .inl (dA 0, 256, .inl (fun _ => 0))), (v1, .inr (1, js)), (v2, .inr (2, hs)), (v4, .inr (3, ns)), (v5, .inr (3, ss)), (v7, .inr (4, rs)), (v8, .inr (5, qs)), (v35, .inr (6, als)), (v19, .inl (dA 4, 32, .inr (.inr (.inr (.inr (fun _ => none)))))), (v20, .inl (dA 1, 64, .inl (fun _ => 0))), (v21, .inl (dA 2, 64, .inr (.inl (fun _ => 0)))), (v22, .inl (dA 2, 64, .inr (.inl (fun _ => 0)))), (v23, .inl (dA 1, 64, .inl (fun _ => 0))), (v25, .inl (dA 4, 32, .inr (.inr (.inr (.inr (fun _ => none)))))), (v26, .inl (dA 1, 64, .inl (fun _ => 0))), (v27, .inl (dA 2, 64, .inr (.inl (fun _ => 0)))), (v28, .inl (dA 2, 64, .inr (.inl (fun _ => 0)))), (mv0, .inl (dA 0, 65536, .inl (fun _ => 0))), (h, .inr (0, fs)), (o, .inl (dA 2, 1, .inr (.inl (fun _ => 0))))]) rfl rfl (by decide) (by decide) (fun r2 u9 H locs hp9 hP hD hS => ?_)
  have hP : va_P D vwCl [(v0, .inl (dA 0, 256, .inl (fun _ => 0))), (v1, .inr (1, js)), (v2, .inr (2, hs)), (v4, .inr (3, ns)), (v5, .inr (3, ss)), (v7, .inr (4, rs)), (v8, .inr (5, qs)), (v35, .inr (6, als)), (v19, .inl (dA 4, 32, .inr (.inr (.inr (.inr (fun _ => none)))))), (v20, .inl (dA 1, 64, .inl (fun _ => 0))), (v21, .inl (dA 2, 64, .inr (.inl (fun _ => 0)))), (v22, .inl (dA 2, 64, .inr (.inl (fun _ => 0)))), (v23, .inl (dA 1, 64, .inl (fun _ => 0))), (v25, .inl (dA 4, 32, .inr (.inr (.inr (.inr (fun _ => none)))))), (v26, .inl (dA 1, 64, .inl (fun _ => 0))), (v27, .inl (dA 2, 64, .inr (.inl (fun _ => 0)))), (v28, .inl (dA 2, 64, .inr (.inl (fun _ => 0)))), (mv0, .inl (dA 0, 65536, .inl (fun _ => 0))), (h, .inr (0, fs)), (o, .inl (dA 2, 1, .inr (.inl (fun _ => 0)))), (mm, .inr (9, (ms.set 0 (.int 2))))] H := hP
  have hD : va_D A [(v0, .inl (dA 0, 256, .inl (fun _ => 0))), (v1, .inr (1, js)), (v2, .inr (2, hs)), (v4, .inr (3, ns)), (v5, .inr (3, ss)), (v7, .inr (4, rs)), (v8, .inr (5, qs)), (v35, .inr (6, als)), (v19, .inl (dA 4, 32, .inr (.inr (.inr (.inr (fun _ => none)))))), (v20, .inl (dA 1, 64, .inl (fun _ => 0))), (v21, .inl (dA 2, 64, .inr (.inl (fun _ => 0)))), (v22, .inl (dA 2, 64, .inr (.inl (fun _ => 0)))), (v23, .inl (dA 1, 64, .inl (fun _ => 0))), (v25, .inl (dA 4, 32, .inr (.inr (.inr (.inr (fun _ => none)))))), (v26, .inl (dA 1, 64, .inl (fun _ => 0))), (v27, .inl (dA 2, 64, .inr (.inl (fun _ => 0)))), (v28, .inl (dA 2, 64, .inr (.inl (fun _ => 0)))), (mv0, .inl (dA 0, 65536, .inl (fun _ => 0))), (h, .inr (0, fs)), (o, .inl (dA 2, 1, .inr (.inl (fun _ => 0)))), (mm, .inr (9, (ms.set 0 (.int 2))))] := hD
  have hp9 : 0 = r2 := Eq.symm hp9
  subst hp9
  refine lv_istore hx hb d_SeriesVaultLaw_law_1206 hl (by decide) rfl (fun ls hl => ?_)
  have hl : lv_has ls 8 [(6, .int 0), (5, .int 2), (4, .int 0), (3, .ref o), (2, .ref mm), (1, .ref h), (0, .ref b)] := hl
  refine lv_aload_n hx hb d_SeriesVaultLaw_law_1208 rfl (lv_at hl 4 rfl) ?_
  have hPc := hP.sub (ws' := [(mm, .inr (9, (ms.set 0 (.int 2))))]) [20] rfl
  have hDc := hD.sub (ws' := [(mm, .inr (9, (ms.set 0 (.int 2))))]) [20] (by decide) rfl
  refine jnI (rnV (As := []) (rest := []) hx hb hml hown hE hK (hN _ _ hS) hPc hDc (c_M_thrown l D dA H.size mm (ms.set 0 (.int 2)) 2 (by simp [hl_ms]) (by simp [hl_ms])) (q0 := 0) rfl rfl w869 w868 w870 w871 w328 rfl rfl ⟨⟨by decide, by decide⟩, rfl⟩ ⟨(Nat.le_of_ble_eq_true rfl), (Nat.le_of_ble_eq_true rfl)⟩ rfl hl.1 rfl (Nat.le_of_ble_eq_true rfl) d_SeriesVaultLaw_law_1209 ⟨(Nat.le_of_ble_eq_true rfl), (Nat.le_of_ble_eq_true rfl)⟩) hP hD hS hA [20] [0, 1, 2, 3, 4, 5, 6, 7, 8, 9, 10, 11, 12, 13, 14, 15, 16, 17, 18, 19] (wr := [(v0, .inl (dA 0, 256, .inl (fun _ => 0))), (v1, .inr (1, js)), (v2, .inr (2, hs)), (v4, .inr (3, ns)), (v5, .inr (3, ss)), (v7, .inr (4, rs)), (v8, .inr (5, qs)), (v35, .inr (6, als)), (v19, .inl (dA 4, 32, .inr (.inr (.inr (.inr (fun _ => none)))))), (v20, .inl (dA 1, 64, .inl (fun _ => 0))), (v21, .inl (dA 2, 64, .inr (.inl (fun _ => 0)))), (v22, .inl (dA 2, 64, .inr (.inl (fun _ => 0)))), (v23, .inl (dA 1, 64, .inl (fun _ => 0))), (v25, .inl (dA 4, 32, .inr (.inr (.inr (.inr (fun _ => none)))))), (v26, .inl (dA 1, 64, .inl (fun _ => 0))), (v27, .inl (dA 2, 64, .inr (.inl (fun _ => 0)))), (v28, .inl (dA 2, 64, .inr (.inl (fun _ => 0)))), (mv0, .inl (dA 0, 65536, .inl (fun _ => 0))), (h, .inr (0, fs)), (o, .inl (dA 2, 1, .inr (.inl (fun _ => 0))))]) rfl rfl (by decide) (by decide) (fun r3 u9 H locs hp9 hP hD hS => ?_)
  have hP : va_P D vwCl [(v0, .inl (dA 0, 256, .inl (fun _ => 0))), (v1, .inr (1, js)), (v2, .inr (2, hs)), (v4, .inr (3, ns)), (v5, .inr (3, ss)), (v7, .inr (4, rs)), (v8, .inr (5, qs)), (v35, .inr (6, als)), (v19, .inl (dA 4, 32, .inr (.inr (.inr (.inr (fun _ => none)))))), (v20, .inl (dA 1, 64, .inl (fun _ => 0))), (v21, .inl (dA 2, 64, .inr (.inl (fun _ => 0)))), (v22, .inl (dA 2, 64, .inr (.inl (fun _ => 0)))), (v23, .inl (dA 1, 64, .inl (fun _ => 0))), (v25, .inl (dA 4, 32, .inr (.inr (.inr (.inr (fun _ => none)))))), (v26, .inl (dA 1, 64, .inl (fun _ => 0))), (v27, .inl (dA 2, 64, .inr (.inl (fun _ => 0)))), (v28, .inl (dA 2, 64, .inr (.inl (fun _ => 0)))), (mv0, .inl (dA 0, 65536, .inl (fun _ => 0))), (h, .inr (0, fs)), (o, .inl (dA 2, 1, .inr (.inl (fun _ => 0)))), (mm, .inr (9, (ms.set 0 (.int 2))))] H := hP
  have hD : va_D A [(v0, .inl (dA 0, 256, .inl (fun _ => 0))), (v1, .inr (1, js)), (v2, .inr (2, hs)), (v4, .inr (3, ns)), (v5, .inr (3, ss)), (v7, .inr (4, rs)), (v8, .inr (5, qs)), (v35, .inr (6, als)), (v19, .inl (dA 4, 32, .inr (.inr (.inr (.inr (fun _ => none)))))), (v20, .inl (dA 1, 64, .inl (fun _ => 0))), (v21, .inl (dA 2, 64, .inr (.inl (fun _ => 0)))), (v22, .inl (dA 2, 64, .inr (.inl (fun _ => 0)))), (v23, .inl (dA 1, 64, .inl (fun _ => 0))), (v25, .inl (dA 4, 32, .inr (.inr (.inr (.inr (fun _ => none)))))), (v26, .inl (dA 1, 64, .inl (fun _ => 0))), (v27, .inl (dA 2, 64, .inr (.inl (fun _ => 0)))), (v28, .inl (dA 2, 64, .inr (.inl (fun _ => 0)))), (mv0, .inl (dA 0, 65536, .inl (fun _ => 0))), (h, .inr (0, fs)), (o, .inl (dA 2, 1, .inr (.inl (fun _ => 0)))), (mm, .inr (9, (ms.set 0 (.int 2))))] := hD
  have hp9 : 2 = r3 := Eq.symm hp9
  subst hp9
  refine lv_iload hx hb d_SeriesVaultLaw_law_1212 (lv_at hl 1 rfl) ?_
  refine lv_icmp_eq hx hb d_SeriesVaultLaw_law_1214 (tgt := 1219) rfl (fun _ => ?_) (fun h9 => absurd (by decide) h9)
  refine lv_iload hx hb d_SeriesVaultLaw_law_1219 (lv_at hl 1 rfl) ?_
  refine lv_if_ne hx hb d_SeriesVaultLaw_law_1221 (tgt := 1236) rfl (fun _ => ?_) (fun h9 => absurd h9 (by decide))
  refine lv_goto hx hb d_SeriesVaultLaw_law_1236 (tgt := 1770) rfl ?_
  refine lv_iinc (k := 2) (v := 6) hx hb d_SeriesVaultLaw_law_1770 hl rfl (by decide) (by decide) rfl (fun ls hl => ?_)
  have hl : lv_has ls 8 [(4, .int 6), (6, .int 0), (5, .int 2), (3, .ref o), (2, .ref mm), (1, .ref h), (0, .ref b)] := hl
  refine lv_goto hx hb d_SeriesVaultLaw_law_1773 (tgt := 23) rfl ?_
  refine lv_iload hx hb d_SeriesVaultLaw_law_23 (lv_at hl 0 rfl) ?_
  refine lv_aload_n hx hb d_SeriesVaultLaw_law_25 rfl (lv_at hl 6 rfl) ?_
  refine va_slen hx hb hX hbl hbA hS d_SeriesVaultLaw_law_26 ?_
  refine tpi (y := 6) (by decide) ?_
  refine lv_bipush (v := 6) hx hb d_SeriesVaultLaw_law_27 (by decide) ?_
  refine lv_isub hx hb d_SeriesVaultLaw_law_29 (tpi (y := 0) (by decide) ?_)
  refine lv_icmp_gt hx hb d_SeriesVaultLaw_law_30 (tgt := 1776) rfl (fun _ => ?_) (fun h9 => absurd (by decide) h9)
  refine lv_iconst (v := 1) hx hb d_SeriesVaultLaw_law_1776 (by decide) ?_
  exact lw_fin hC0 hS (Nat.le_of_ble_eq_true rfl) (Nat.le_of_ble_eq_true rfl) d_SeriesVaultLaw_law_1777
set_option maxHeartbeats 4000000 in
set_option maxRecDepth 100000 in
theorem law_13xw {p : Program} {e : Env} {s : State} {m : MethodId} {below : List Frame} {meth : Method} {c : Code} (l : Launch) {b : Nat} {xs : Nat → Int32} {D : va_G} {dA : Nat → ClassId} {e0 : Nat} {A : Nat → Prop} {H : Heap} {locs : List Loc} {ls : Array Slot} (hC : lS p l s m meth c b 6 xs D dA e0 A) (h : Nat) (v0 : Nat) (v1 : Nat) (v2 : Nat) (v4 : Nat) (v5 : Nat) (v7 : Nat) (v8 : Nat) (v19 : Nat) (v20 : Nat) (v21 : Nat) (v22 : Nat) (v23 : Nat) (v25 : Nat) (v26 : Nat) (v27 : Nat) (v28 : Nat) (v35 : Nat) (mm : Nat) (mv0 : Nat) (o : Nat) (fs : List Value) (js : List Value) (hs : List Value) (ns : List Value) (ss : List Value) (rs : List Value) (qs : List Value) (als : List Value) (ms : List Value) (tt : Int64) (tw : Int64) (ht : (((xs 1).toInt64) <<< ((32 : Int32).toInt64 &&& 63)) ||| (((xs 2).toInt64) &&& 4294967295) = tt) (hu : (((xs 3).toInt64) <<< ((32 : Int32).toInt64 &&& 63)) ||| (((xs 4).toInt64) &&& 4294967295) = tw) (h1 : ¬ tt < 0) (h2 : tt ≤ 1099511627775) (h0 : tw < 1 ∨ 1099511627775 < tw ∨ xs 5 < 1 ∨ 64 < xs 5) (h_fs_powered : fs[5]? = some (.int 1)) (hl_fs : fs.length = 18) (hl_js : js.length = 13) (hl_hs : hs.length = 4) (hl_ns : ns.length = 11) (hl_ss : ss.length = 11) (hl_rs : rs.length = 6) (hl_qs : qs.length = 9) (hl_als : als.length = 3) (h_ms_on : ms[7]? = some (.int 1)) (hl_ms : ms.length = 79) (hP : va_P D vwCl [(h, .inr (0, fs)), (v0, .inl (dA 0, 256, .inl (fun _ => 0))), (v1, .inr (1, js)), (v2, .inr (2, hs)), (v4, .inr (3, ns)), (v5, .inr (3, ss)), (v7, .inr (4, rs)), (v8, .inr (5, qs)), (v35, .inr (6, als)), (v19, .inl (dA 4, 32, .inr (.inr (.inr (.inr (fun _ => none)))))), (v20, .inl (dA 1, 64, .inl (fun _ => 0))), (v21, .inl (dA 2, 64, .inr (.inl (fun _ => 0)))), (v22, .inl (dA 2, 64, .inr (.inl (fun _ => 0)))), (v23, .inl (dA 1, 64, .inl (fun _ => 0))), (v25, .inl (dA 4, 32, .inr (.inr (.inr (.inr (fun _ => none)))))), (v26, .inl (dA 1, 64, .inl (fun _ => 0))), (v27, .inl (dA 2, 64, .inr (.inl (fun _ => 0)))), (v28, .inl (dA 2, 64, .inr (.inl (fun _ => 0)))), (mm, .inr (9, ms)), (mv0, .inl (dA 0, 65536, .inl (fun _ => 0))), (o, .inl (dA 2, 1, .inr (.inl (fun _ => 0))))] H) (hD : va_D A [(h, .inr (0, fs)), (v0, .inl (dA 0, 256, .inl (fun _ => 0))), (v1, .inr (1, js)), (v2, .inr (2, hs)), (v4, .inr (3, ns)), (v5, .inr (3, ss)), (v7, .inr (4, rs)), (v8, .inr (5, qs)), (v35, .inr (6, als)), (v19, .inl (dA 4, 32, .inr (.inr (.inr (.inr (fun _ => none)))))), (v20, .inl (dA 1, 64, .inl (fun _ => 0))), (v21, .inl (dA 2, 64, .inr (.inl (fun _ => 0)))), (v22, .inl (dA 2, 64, .inr (.inl (fun _ => 0)))), (v23, .inl (dA 1, 64, .inl (fun _ => 0))), (v25, .inl (dA 4, 32, .inr (.inr (.inr (.inr (fun _ => none)))))), (v26, .inl (dA 1, 64, .inl (fun _ => 0))), (v27, .inl (dA 2, 64, .inr (.inl (fun _ => 0)))), (v28, .inl (dA 2, 64, .inr (.inl (fun _ => 0)))), (mm, .inr (9, ms)), (mv0, .inl (dA 0, 65536, .inl (fun _ => 0))), (o, .inl (dA 2, 1, .inr (.inl (fun _ => 0))))]) (hS : va_S A s.heap H locs) (hl : lv_has ls 8 [(4, .int 0), (3, .ref o), (2, .ref mm), (1, .ref h), (0, .ref b)]) : W p l e room_1 s m #[Value.ref b] below meth c H locs 92 1177737 (lw_Z below #[Value.ref b] s) (F0 m 1095 ls []) := by
  have hC0 := hC
  obtain ⟨hx, hb, hr, hml, hown, hlk, hE, hK, hA, hN, hZ, hT, hX, hbl, hbA, hnew, htr⟩ := hC
  refine lv_aload_n hx hb d_SeriesVaultLaw_law_1095 rfl (lv_at hl 3 rfl) ?_
  refine lv_aload_n hx hb d_SeriesVaultLaw_law_1096 rfl (lv_at hl 4 rfl) ?_
  refine lv_iload hx hb d_SeriesVaultLaw_law_1097 (lv_at hl 0 rfl) ?_
  refine lv_iconst (v := 1) hx hb d_SeriesVaultLaw_law_1099 (by decide) ?_
  refine lv_iadd hx hb d_SeriesVaultLaw_law_1100 (tpi (y := 1) (by decide) ?_)
  refine va_sld hx hb hX hbl hbA hS (by unfold vp_in; decide) d_SeriesVaultLaw_law_1101 ?_
  refine tpi (y := xs 1) rfl ?_
  refine lv_i2l hx hb d_SeriesVaultLaw_law_1102 rfl ?_
  refine lv_bipush (v := 32) hx hb d_SeriesVaultLaw_law_1103 (by decide) ?_
  refine lv_lshl hx hb d_SeriesVaultLaw_law_1105 rfl ?_
  refine lv_aload_n hx hb d_SeriesVaultLaw_law_1106 rfl (lv_at hl 4 rfl) ?_
  refine lv_iload hx hb d_SeriesVaultLaw_law_1107 (lv_at hl 0 rfl) ?_
  refine lv_iconst (v := 2) hx hb d_SeriesVaultLaw_law_1109 (by decide) ?_
  refine lv_iadd hx hb d_SeriesVaultLaw_law_1110 (tpi (y := 2) (by decide) ?_)
  refine va_sld hx hb hX hbl hbA hS (by unfold vp_in; decide) d_SeriesVaultLaw_law_1111 ?_
  refine tpi (y := xs 2) rfl ?_
  refine lv_i2l hx hb d_SeriesVaultLaw_law_1112 rfl ?_
  refine lv_ldc2 (v := 4294967295) hx hb hown (hE.t w914 rfl) d_SeriesVaultLaw_law_1113 ?_
  refine lv_land hx hb d_SeriesVaultLaw_law_1116 ?_
  refine lv_lor hx hb d_SeriesVaultLaw_law_1117 ?_
  refine tpl (y := tt) ht ?_
  refine lv_aload_n hx hb d_SeriesVaultLaw_law_1118 rfl (lv_at hl 4 rfl) ?_
  refine lv_iload hx hb d_SeriesVaultLaw_law_1119 (lv_at hl 0 rfl) ?_
  refine lv_iconst (v := 3) hx hb d_SeriesVaultLaw_law_1121 (by decide) ?_
  refine lv_iadd hx hb d_SeriesVaultLaw_law_1122 (tpi (y := 3) (by decide) ?_)
  refine va_sld hx hb hX hbl hbA hS (by unfold vp_in; decide) d_SeriesVaultLaw_law_1123 ?_
  refine tpi (y := xs 3) rfl ?_
  refine lv_i2l hx hb d_SeriesVaultLaw_law_1124 rfl ?_
  refine lv_bipush (v := 32) hx hb d_SeriesVaultLaw_law_1125 (by decide) ?_
  refine lv_lshl hx hb d_SeriesVaultLaw_law_1127 rfl ?_
  refine lv_aload_n hx hb d_SeriesVaultLaw_law_1128 rfl (lv_at hl 4 rfl) ?_
  refine lv_iload hx hb d_SeriesVaultLaw_law_1129 (lv_at hl 0 rfl) ?_
  refine lv_iconst (v := 4) hx hb d_SeriesVaultLaw_law_1131 (by decide) ?_
  refine lv_iadd hx hb d_SeriesVaultLaw_law_1132 (tpi (y := 4) (by decide) ?_)
  refine va_sld hx hb hX hbl hbA hS (by unfold vp_in; decide) d_SeriesVaultLaw_law_1133 ?_
  refine tpi (y := xs 4) rfl ?_
  refine lv_i2l hx hb d_SeriesVaultLaw_law_1134 rfl ?_
  refine lv_ldc2 (v := 4294967295) hx hb hown (hE.t w914 rfl) d_SeriesVaultLaw_law_1135 ?_
  refine lv_land hx hb d_SeriesVaultLaw_law_1138 ?_
  refine lv_lor hx hb d_SeriesVaultLaw_law_1139 ?_
  refine tpl (y := tw) hu ?_
  refine lv_aload_n hx hb d_SeriesVaultLaw_law_1140 rfl (lv_at hl 4 rfl) ?_
  refine lv_iload hx hb d_SeriesVaultLaw_law_1141 (lv_at hl 0 rfl) ?_
  refine lv_iconst (v := 5) hx hb d_SeriesVaultLaw_law_1143 (by decide) ?_
  refine lv_iadd hx hb d_SeriesVaultLaw_law_1144 (tpi (y := 5) (by decide) ?_)
  refine va_sld hx hb hX hbl hbA hS (by unfold vp_in; decide) d_SeriesVaultLaw_law_1145 ?_
  refine tpi (y := xs 5) rfl ?_
  refine lv_aload_n hx hb d_SeriesVaultLaw_law_1146 rfl (lv_at hl 1 rfl) ?_
  have hPc := hP.sub (ws' := [(h, .inr (0, fs)), (o, .inl (dA 2, 1, .inr (.inl (fun _ => 0))))]) [0, 20] rfl
  have hDc := hD.sub (ws' := [(h, .inr (0, fs)), (o, .inl (dA 2, 1, .inr (.inl (fun _ => 0))))]) [0, 20] (by decide) rfl
  refine jnI (rnW (As := [.ref h, .long tt, .long tw, .int (xs 5), .ref o]) (rest := []) hx hb hml hown hE hK (hN _ _ hS) hPc hDc (c_K_ask_xw l htr D dA H.size h fs tt tw (xs 5) o (fun _ => 0) h1 h2 h0 h_fs_powered hl_fs) w958 w957 w959 w861 rfl rfl ⟨⟨by decide, by decide⟩, rfl⟩ ⟨(Nat.le_of_ble_eq_true rfl), (Nat.le_of_ble_eq_true rfl)⟩ rfl hl.1 rfl (Nat.le_of_ble_eq_true rfl) d_SeriesVaultLaw_law_1147 ⟨(Nat.le_of_ble_eq_true rfl), (Nat.le_of_ble_eq_true rfl)⟩) hP hD hS hA [0, 20] [1, 2, 3, 4, 5, 6, 7, 8, 9, 10, 11, 12, 13, 14, 15, 16, 17, 18, 19] (wr := [(v0, .inl (dA 0, 256, .inl (fun _ => 0))), (v1, .inr (1, js)), (v2, .inr (2, hs)), (v4, .inr (3, ns)), (v5, .inr (3, ss)), (v7, .inr (4, rs)), (v8, .inr (5, qs)), (v35, .inr (6, als)), (v19, .inl (dA 4, 32, .inr (.inr (.inr (.inr (fun _ => none)))))), (v20, .inl (dA 1, 64, .inl (fun _ => 0))), (v21, .inl (dA 2, 64, .inr (.inl (fun _ => 0)))), (v22, .inl (dA 2, 64, .inr (.inl (fun _ => 0)))), (v23, .inl (dA 1, 64, .inl (fun _ => 0))), (v25, .inl (dA 4, 32, .inr (.inr (.inr (.inr (fun _ => none)))))), (v26, .inl (dA 1, 64, .inl (fun _ => 0))), (v27, .inl (dA 2, 64, .inr (.inl (fun _ => 0)))), (v28, .inl (dA 2, 64, .inr (.inl (fun _ => 0)))), (mm, .inr (9, ms)), (mv0, .inl (dA 0, 65536, .inl (fun _ => 0)))]) rfl rfl (by decide) (by decide) (fun r1 u9 H locs hp9 hP hD hS => ?_)
  have hP : va_P D vwCl [(v0, .inl (dA 0, 256, .inl (fun _ => 0))), (v1, .inr (1, js)), (v2, .inr (2, hs)), (v4, .inr (3, ns)), (v5, .inr (3, ss)), (v7, .inr (4, rs)), (v8, .inr (5, qs)), (v35, .inr (6, als)), (v19, .inl (dA 4, 32, .inr (.inr (.inr (.inr (fun _ => none)))))), (v20, .inl (dA 1, 64, .inl (fun _ => 0))), (v21, .inl (dA 2, 64, .inr (.inl (fun _ => 0)))), (v22, .inl (dA 2, 64, .inr (.inl (fun _ => 0)))), (v23, .inl (dA 1, 64, .inl (fun _ => 0))), (v25, .inl (dA 4, 32, .inr (.inr (.inr (.inr (fun _ => none)))))), (v26, .inl (dA 1, 64, .inl (fun _ => 0))), (v27, .inl (dA 2, 64, .inr (.inl (fun _ => 0)))), (v28, .inl (dA 2, 64, .inr (.inl (fun _ => 0)))), (mm, .inr (9, ms)), (mv0, .inl (dA 0, 65536, .inl (fun _ => 0))), (h, .inr (0, fs)), (o, .inl (dA 2, 1, .inr (.inl (fun _ => 0))))] H := hP
  have hD : va_D A [(v0, .inl (dA 0, 256, .inl (fun _ => 0))), (v1, .inr (1, js)), (v2, .inr (2, hs)), (v4, .inr (3, ns)), (v5, .inr (3, ss)), (v7, .inr (4, rs)), (v8, .inr (5, qs)), (v35, .inr (6, als)), (v19, .inl (dA 4, 32, .inr (.inr (.inr (.inr (fun _ => none)))))), (v20, .inl (dA 1, 64, .inl (fun _ => 0))), (v21, .inl (dA 2, 64, .inr (.inl (fun _ => 0)))), (v22, .inl (dA 2, 64, .inr (.inl (fun _ => 0)))), (v23, .inl (dA 1, 64, .inl (fun _ => 0))), (v25, .inl (dA 4, 32, .inr (.inr (.inr (.inr (fun _ => none)))))), (v26, .inl (dA 1, 64, .inl (fun _ => 0))), (v27, .inl (dA 2, 64, .inr (.inl (fun _ => 0)))), (v28, .inl (dA 2, 64, .inr (.inl (fun _ => 0)))), (mm, .inr (9, ms)), (mv0, .inl (dA 0, 65536, .inl (fun _ => 0))), (h, .inr (0, fs)), (o, .inl (dA 2, 1, .inr (.inl (fun _ => 0))))] := hD
  have hp9 : 2 = r1 := Eq.symm hp9
  subst hp9
  refine lv_istore hx hb d_SeriesVaultLaw_law_1150 hl (by decide) rfl (fun ls hl => ?_)
  have hl : lv_has ls 8 [(5, .int 2), (4, .int 0), (3, .ref o), (2, .ref mm), (1, .ref h), (0, .ref b)] := hl
  refine lv_aload_n hx hb d_SeriesVaultLaw_law_1152 rfl (lv_at hl 3 rfl) ?_
  refine lv_aload_n hx hb d_SeriesVaultLaw_law_1153 rfl (lv_at hl 5 rfl) ?_
  refine lv_iload hx hb d_SeriesVaultLaw_law_1154 (lv_at hl 1 rfl) ?_
  refine lv_iconst (v := 1) hx hb d_SeriesVaultLaw_law_1156 (by decide) ?_
  refine lv_iadd hx hb d_SeriesVaultLaw_law_1157 (tpi (y := 1) (by decide) ?_)
  refine va_sld hx hb hX hbl hbA hS (by unfold vp_in; decide) d_SeriesVaultLaw_law_1158 ?_
  refine tpi (y := xs 1) rfl ?_
  refine lv_i2l hx hb d_SeriesVaultLaw_law_1159 rfl ?_
  refine lv_bipush (v := 32) hx hb d_SeriesVaultLaw_law_1160 (by decide) ?_
  refine lv_lshl hx hb d_SeriesVaultLaw_law_1162 rfl ?_
  refine lv_aload_n hx hb d_SeriesVaultLaw_law_1163 rfl (lv_at hl 5 rfl) ?_
  refine lv_iload hx hb d_SeriesVaultLaw_law_1164 (lv_at hl 1 rfl) ?_
  refine lv_iconst (v := 2) hx hb d_SeriesVaultLaw_law_1166 (by decide) ?_
  refine lv_iadd hx hb d_SeriesVaultLaw_law_1167 (tpi (y := 2) (by decide) ?_)
  refine va_sld hx hb hX hbl hbA hS (by unfold vp_in; decide) d_SeriesVaultLaw_law_1168 ?_
  refine tpi (y := xs 2) rfl ?_
  refine lv_i2l hx hb d_SeriesVaultLaw_law_1169 rfl ?_
  refine lv_ldc2 (v := 4294967295) hx hb hown (hE.t w914 rfl) d_SeriesVaultLaw_law_1170 ?_
  refine lv_land hx hb d_SeriesVaultLaw_law_1173 ?_
  refine lv_lor hx hb d_SeriesVaultLaw_law_1174 ?_
  refine tpl (y := tt) ht ?_
  refine lv_aload_n hx hb d_SeriesVaultLaw_law_1175 rfl (lv_at hl 5 rfl) ?_
  refine lv_iload hx hb d_SeriesVaultLaw_law_1176 (lv_at hl 1 rfl) ?_
  refine lv_iconst (v := 3) hx hb d_SeriesVaultLaw_law_1178 (by decide) ?_
  refine lv_iadd hx hb d_SeriesVaultLaw_law_1179 (tpi (y := 3) (by decide) ?_)
  refine va_sld hx hb hX hbl hbA hS (by unfold vp_in; decide) d_SeriesVaultLaw_law_1180 ?_
  refine tpi (y := xs 3) rfl ?_
  refine lv_i2l hx hb d_SeriesVaultLaw_law_1181 rfl ?_
  refine lv_bipush (v := 32) hx hb d_SeriesVaultLaw_law_1182 (by decide) ?_
  refine lv_lshl hx hb d_SeriesVaultLaw_law_1184 rfl ?_
  refine lv_aload_n hx hb d_SeriesVaultLaw_law_1185 rfl (lv_at hl 5 rfl) ?_
  refine lv_iload hx hb d_SeriesVaultLaw_law_1186 (lv_at hl 1 rfl) ?_
  refine lv_iconst (v := 4) hx hb d_SeriesVaultLaw_law_1188 (by decide) ?_
  refine lv_iadd hx hb d_SeriesVaultLaw_law_1189 (tpi (y := 4) (by decide) ?_)
  refine va_sld hx hb hX hbl hbA hS (by unfold vp_in; decide) d_SeriesVaultLaw_law_1190 ?_
  refine tpi (y := xs 4) rfl ?_
  refine lv_i2l hx hb d_SeriesVaultLaw_law_1191 rfl ?_
  refine lv_ldc2 (v := 4294967295) hx hb hown (hE.t w914 rfl) d_SeriesVaultLaw_law_1192 ?_
  refine lv_land hx hb d_SeriesVaultLaw_law_1195 ?_
  refine lv_lor hx hb d_SeriesVaultLaw_law_1196 ?_
  refine tpl (y := tw) hu ?_
  refine lv_aload_n hx hb d_SeriesVaultLaw_law_1197 rfl (lv_at hl 5 rfl) ?_
  refine lv_iload hx hb d_SeriesVaultLaw_law_1198 (lv_at hl 1 rfl) ?_
  refine lv_iconst (v := 5) hx hb d_SeriesVaultLaw_law_1200 (by decide) ?_
  refine lv_iadd hx hb d_SeriesVaultLaw_law_1201 (tpi (y := 5) (by decide) ?_)
  refine va_sld hx hb hX hbl hbA hS (by unfold vp_in; decide) d_SeriesVaultLaw_law_1202 ?_
  refine tpi (y := xs 5) rfl ?_
  have hPc := hP.sub (ws' := [(mm, .inr (9, ms))]) [17] rfl
  have hDc := hD.sub (ws' := [(mm, .inr (9, ms))]) [17] (by decide) rfl
  refine jnI (rnV (As := [.long tt, .long tw, .int (xs 5)]) (rest := []) hx hb hml hown hE hK (hN _ _ hS) hPc hDc (c_M_ask_x l D dA H.size mm ms tt tw (xs 5) (Or.inr (Or.inr h0)) h_ms_on hl_ms) (q0 := 0) rfl rfl w961 w960 w962 w963 w328 rfl rfl ⟨⟨by decide, by decide⟩, rfl⟩ ⟨(Nat.le_of_ble_eq_true rfl), (Nat.le_of_ble_eq_true rfl)⟩ rfl hl.1 rfl (Nat.le_of_ble_eq_true rfl) d_SeriesVaultLaw_law_1203 ⟨(Nat.le_of_ble_eq_true rfl), (Nat.le_of_ble_eq_true rfl)⟩) hP hD hS hA [17] [0, 1, 2, 3, 4, 5, 6, 7, 8, 9, 10, 11, 12, 13, 14, 15, 16, 18, 19, 20] (wr := [(v0, .inl (dA 0, 256, .inl (fun _ => 0))), (v1, .inr (1, js)), (v2, .inr (2, hs)), (v4, .inr (3, ns)), (v5, .inr (3, ss)), (v7, .inr (4, rs)), (v8, .inr (5, qs)), (v35, .inr (6, als)), (v19, .inl (dA 4, 32, .inr (.inr (.inr (.inr (fun _ => none)))))), (v20, .inl (dA 1, 64, .inl (fun _ => 0))), (v21, .inl (dA 2, 64, .inr (.inl (fun _ => 0)))), (v22, .inl (dA 2, 64, .inr (.inl (fun _ => 0)))), (v23, .inl (dA 1, 64, .inl (fun _ => 0))), (v25, .inl (dA 4, 32, .inr (.inr (.inr (.inr (fun _ => none)))))), (v26, .inl (dA 1, 64, .inl (fun _ => 0))), (v27, .inl (dA 2, 64, .inr (.inl (fun _ => 0)))), (v28, .inl (dA 2, 64, .inr (.inl (fun _ => 0)))), (mv0, .inl (dA 0, 65536, .inl (fun _ => 0))), (h, .inr (0, fs)), (o, .inl (dA 2, 1, .inr (.inl (fun _ => 0))))]) rfl rfl (by decide) (by decide) (fun r2 u9 H locs hp9 hP hD hS => ?_)
  have hP : va_P D vwCl [(v0, .inl (dA 0, 256, .inl (fun _ => 0))), (v1, .inr (1, js)), (v2, .inr (2, hs)), (v4, .inr (3, ns)), (v5, .inr (3, ss)), (v7, .inr (4, rs)), (v8, .inr (5, qs)), (v35, .inr (6, als)), (v19, .inl (dA 4, 32, .inr (.inr (.inr (.inr (fun _ => none)))))), (v20, .inl (dA 1, 64, .inl (fun _ => 0))), (v21, .inl (dA 2, 64, .inr (.inl (fun _ => 0)))), (v22, .inl (dA 2, 64, .inr (.inl (fun _ => 0)))), (v23, .inl (dA 1, 64, .inl (fun _ => 0))), (v25, .inl (dA 4, 32, .inr (.inr (.inr (.inr (fun _ => none)))))), (v26, .inl (dA 1, 64, .inl (fun _ => 0))), (v27, .inl (dA 2, 64, .inr (.inl (fun _ => 0)))), (v28, .inl (dA 2, 64, .inr (.inl (fun _ => 0)))), (mv0, .inl (dA 0, 65536, .inl (fun _ => 0))), (h, .inr (0, fs)), (o, .inl (dA 2, 1, .inr (.inl (fun _ => 0)))), (mm, .inr (9, (ms.set 0 (.int 2))))] H := hP
  have hD : va_D A [(v0, .inl (dA 0, 256, .inl (fun _ => 0))), (v1, .inr (1, js)), (v2, .inr (2, hs)), (v4, .inr (3, ns)), (v5, .inr (3, ss)), (v7, .inr (4, rs)), (v8, .inr (5, qs)), (v35, .inr (6, als)), (v19, .inl (dA 4, 32, .inr (.inr (.inr (.inr (fun _ => none)))))), (v20, .inl (dA 1, 64, .inl (fun _ => 0))), (v21, .inl (dA 2, 64, .inr (.inl (fun _ => 0)))), (v22, .inl (dA 2, 64, .inr (.inl (fun _ => 0)))), (v23, .inl (dA 1, 64, .inl (fun _ => 0))), (v25, .inl (dA 4, 32, .inr (.inr (.inr (.inr (fun _ => none)))))), (v26, .inl (dA 1, 64, .inl (fun _ => 0))), (v27, .inl (dA 2, 64, .inr (.inl (fun _ => 0)))), (v28, .inl (dA 2, 64, .inr (.inl (fun _ => 0)))), (mv0, .inl (dA 0, 65536, .inl (fun _ => 0))), (h, .inr (0, fs)), (o, .inl (dA 2, 1, .inr (.inl (fun _ => 0)))), (mm, .inr (9, (ms.set 0 (.int 2))))] := hD
  have hp9 : 0 = r2 := Eq.symm hp9
  subst hp9
  refine lv_istore hx hb d_SeriesVaultLaw_law_1206 hl (by decide) rfl (fun ls hl => ?_)
  have hl : lv_has ls 8 [(6, .int 0), (5, .int 2), (4, .int 0), (3, .ref o), (2, .ref mm), (1, .ref h), (0, .ref b)] := hl
  refine lv_aload_n hx hb d_SeriesVaultLaw_law_1208 rfl (lv_at hl 4 rfl) ?_
  have hPc := hP.sub (ws' := [(mm, .inr (9, (ms.set 0 (.int 2))))]) [20] rfl
  have hDc := hD.sub (ws' := [(mm, .inr (9, (ms.set 0 (.int 2))))]) [20] (by decide) rfl
  refine jnI (rnV (As := []) (rest := []) hx hb hml hown hE hK (hN _ _ hS) hPc hDc (c_M_thrown l D dA H.size mm (ms.set 0 (.int 2)) 2 (by simp [hl_ms]) (by simp [hl_ms])) (q0 := 0) rfl rfl w869 w868 w870 w871 w328 rfl rfl ⟨⟨by decide, by decide⟩, rfl⟩ ⟨(Nat.le_of_ble_eq_true rfl), (Nat.le_of_ble_eq_true rfl)⟩ rfl hl.1 rfl (Nat.le_of_ble_eq_true rfl) d_SeriesVaultLaw_law_1209 ⟨(Nat.le_of_ble_eq_true rfl), (Nat.le_of_ble_eq_true rfl)⟩) hP hD hS hA [20] [0, 1, 2, 3, 4, 5, 6, 7, 8, 9, 10, 11, 12, 13, 14, 15, 16, 17, 18, 19] (wr := [(v0, .inl (dA 0, 256, .inl (fun _ => 0))), (v1, .inr (1, js)), (v2, .inr (2, hs)), (v4, .inr (3, ns)), (v5, .inr (3, ss)), (v7, .inr (4, rs)), (v8, .inr (5, qs)), (v35, .inr (6, als)), (v19, .inl (dA 4, 32, .inr (.inr (.inr (.inr (fun _ => none)))))), (v20, .inl (dA 1, 64, .inl (fun _ => 0))), (v21, .inl (dA 2, 64, .inr (.inl (fun _ => 0)))), (v22, .inl (dA 2, 64, .inr (.inl (fun _ => 0)))), (v23, .inl (dA 1, 64, .inl (fun _ => 0))), (v25, .inl (dA 4, 32, .inr (.inr (.inr (.inr (fun _ => none)))))), (v26, .inl (dA 1, 64, .inl (fun _ => 0))), (v27, .inl (dA 2, 64, .inr (.inl (fun _ => 0)))), (v28, .inl (dA 2, 64, .inr (.inl (fun _ => 0)))), (mv0, .inl (dA 0, 65536, .inl (fun _ => 0))), (h, .inr (0, fs)), (o, .inl (dA 2, 1, .inr (.inl (fun _ => 0))))]) rfl rfl (by decide) (by decide) (fun r3 u9 H locs hp9 hP hD hS => ?_)
  have hP : va_P D vwCl [(v0, .inl (dA 0, 256, .inl (fun _ => 0))), (v1, .inr (1, js)), (v2, .inr (2, hs)), (v4, .inr (3, ns)), (v5, .inr (3, ss)), (v7, .inr (4, rs)), (v8, .inr (5, qs)), (v35, .inr (6, als)), (v19, .inl (dA 4, 32, .inr (.inr (.inr (.inr (fun _ => none)))))), (v20, .inl (dA 1, 64, .inl (fun _ => 0))), (v21, .inl (dA 2, 64, .inr (.inl (fun _ => 0)))), (v22, .inl (dA 2, 64, .inr (.inl (fun _ => 0)))), (v23, .inl (dA 1, 64, .inl (fun _ => 0))), (v25, .inl (dA 4, 32, .inr (.inr (.inr (.inr (fun _ => none)))))), (v26, .inl (dA 1, 64, .inl (fun _ => 0))), (v27, .inl (dA 2, 64, .inr (.inl (fun _ => 0)))), (v28, .inl (dA 2, 64, .inr (.inl (fun _ => 0)))), (mv0, .inl (dA 0, 65536, .inl (fun _ => 0))), (h, .inr (0, fs)), (o, .inl (dA 2, 1, .inr (.inl (fun _ => 0)))), (mm, .inr (9, (ms.set 0 (.int 2))))] H := hP
  have hD : va_D A [(v0, .inl (dA 0, 256, .inl (fun _ => 0))), (v1, .inr (1, js)), (v2, .inr (2, hs)), (v4, .inr (3, ns)), (v5, .inr (3, ss)), (v7, .inr (4, rs)), (v8, .inr (5, qs)), (v35, .inr (6, als)), (v19, .inl (dA 4, 32, .inr (.inr (.inr (.inr (fun _ => none)))))), (v20, .inl (dA 1, 64, .inl (fun _ => 0))), (v21, .inl (dA 2, 64, .inr (.inl (fun _ => 0)))), (v22, .inl (dA 2, 64, .inr (.inl (fun _ => 0)))), (v23, .inl (dA 1, 64, .inl (fun _ => 0))), (v25, .inl (dA 4, 32, .inr (.inr (.inr (.inr (fun _ => none)))))), (v26, .inl (dA 1, 64, .inl (fun _ => 0))), (v27, .inl (dA 2, 64, .inr (.inl (fun _ => 0)))), (v28, .inl (dA 2, 64, .inr (.inl (fun _ => 0)))), (mv0, .inl (dA 0, 65536, .inl (fun _ => 0))), (h, .inr (0, fs)), (o, .inl (dA 2, 1, .inr (.inl (fun _ => 0)))), (mm, .inr (9, (ms.set 0 (.int 2))))] := hD
  have hp9 : 2 = r3 := Eq.symm hp9
  subst hp9
  refine lv_iload hx hb d_SeriesVaultLaw_law_1212 (lv_at hl 1 rfl) ?_
  refine lv_icmp_eq hx hb d_SeriesVaultLaw_law_1214 (tgt := 1219) rfl (fun _ => ?_) (fun h9 => absurd (by decide) h9)
  refine lv_iload hx hb d_SeriesVaultLaw_law_1219 (lv_at hl 1 rfl) ?_
  refine lv_if_ne hx hb d_SeriesVaultLaw_law_1221 (tgt := 1236) rfl (fun _ => ?_) (fun h9 => absurd h9 (by decide))
  refine lv_goto hx hb d_SeriesVaultLaw_law_1236 (tgt := 1770) rfl ?_
  refine lv_iinc (k := 2) (v := 6) hx hb d_SeriesVaultLaw_law_1770 hl rfl (by decide) (by decide) rfl (fun ls hl => ?_)
  have hl : lv_has ls 8 [(4, .int 6), (6, .int 0), (5, .int 2), (3, .ref o), (2, .ref mm), (1, .ref h), (0, .ref b)] := hl
  refine lv_goto hx hb d_SeriesVaultLaw_law_1773 (tgt := 23) rfl ?_
  refine lv_iload hx hb d_SeriesVaultLaw_law_23 (lv_at hl 0 rfl) ?_
  refine lv_aload_n hx hb d_SeriesVaultLaw_law_25 rfl (lv_at hl 6 rfl) ?_
  refine va_slen hx hb hX hbl hbA hS d_SeriesVaultLaw_law_26 ?_
  refine tpi (y := 6) (by decide) ?_
  refine lv_bipush (v := 6) hx hb d_SeriesVaultLaw_law_27 (by decide) ?_
  refine lv_isub hx hb d_SeriesVaultLaw_law_29 (tpi (y := 0) (by decide) ?_)
  refine lv_icmp_gt hx hb d_SeriesVaultLaw_law_30 (tgt := 1776) rfl (fun _ => ?_) (fun h9 => absurd (by decide) h9)
  refine lv_iconst (v := 1) hx hb d_SeriesVaultLaw_law_1776 (by decide) ?_
  exact lw_fin hC0 hS (Nat.le_of_ble_eq_true rfl) (Nat.le_of_ble_eq_true rfl) d_SeriesVaultLaw_law_1777
