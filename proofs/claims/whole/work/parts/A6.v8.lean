theorem d_J_grow_0 : decode prog_3_method_8_code 0 = .ok (.aload_n 0, 1) := by decide +kernel
theorem d_J_grow_1 : decode prog_3_method_8_code 1 = .ok (.aload_n 0, 1) := by decide +kernel
theorem d_J_grow_2 : decode prog_3_method_8_code 2 = .ok (.getfield 9, 3) := by decide +kernel
theorem d_J_grow_5 : decode prog_3_method_8_code 5 = .ok (.iconst 2, 1) := by decide +kernel
theorem d_J_grow_6 : decode prog_3_method_8_code 6 = .ok (.aload_n 0, 1) := by decide +kernel
theorem d_J_grow_7 : decode prog_3_method_8_code 7 = .ok (.getfield 38, 3) := by decide +kernel
theorem d_J_grow_10 : decode prog_3_method_8_code 10 = .ok (.imul, 1) := by decide +kernel
theorem d_J_grow_11 : decode prog_3_method_8_code 11 = .ok (.invokestatic 64, 3) := by decide +kernel
theorem d_J_grow_14 : decode prog_3_method_8_code 14 = .ok (.putfield 9, 3) := by decide +kernel
theorem d_J_grow_17 : decode prog_3_method_8_code 17 = .ok (.aload_n 0, 1) := by decide +kernel
theorem d_J_grow_18 : decode prog_3_method_8_code 18 = .ok (.aload_n 0, 1) := by decide +kernel
theorem d_J_grow_19 : decode prog_3_method_8_code 19 = .ok (.getfield 15, 3) := by decide +kernel
theorem d_J_grow_22 : decode prog_3_method_8_code 22 = .ok (.iconst 2, 1) := by decide +kernel
theorem d_J_grow_23 : decode prog_3_method_8_code 23 = .ok (.aload_n 0, 1) := by decide +kernel
theorem d_J_grow_24 : decode prog_3_method_8_code 24 = .ok (.getfield 38, 3) := by decide +kernel
theorem d_J_grow_27 : decode prog_3_method_8_code 27 = .ok (.imul, 1) := by decide +kernel
theorem d_J_grow_28 : decode prog_3_method_8_code 28 = .ok (.invokestatic 64, 3) := by decide +kernel
theorem d_J_grow_31 : decode prog_3_method_8_code 31 = .ok (.putfield 15, 3) := by decide +kernel
theorem d_J_grow_34 : decode prog_3_method_8_code 34 = .ok (.aload_n 0, 1) := by decide +kernel
theorem d_J_grow_35 : decode prog_3_method_8_code 35 = .ok (.aload_n 0, 1) := by decide +kernel
theorem d_J_grow_36 : decode prog_3_method_8_code 36 = .ok (.getfield 18, 3) := by decide +kernel
theorem d_J_grow_39 : decode prog_3_method_8_code 39 = .ok (.iconst 2, 1) := by decide +kernel
theorem d_J_grow_40 : decode prog_3_method_8_code 40 = .ok (.aload_n 0, 1) := by decide +kernel
theorem d_J_grow_41 : decode prog_3_method_8_code 41 = .ok (.getfield 38, 3) := by decide +kernel
theorem d_J_grow_44 : decode prog_3_method_8_code 44 = .ok (.imul, 1) := by decide +kernel
theorem d_J_grow_45 : decode prog_3_method_8_code 45 = .ok (.invokestatic 64, 3) := by decide +kernel
theorem d_J_grow_48 : decode prog_3_method_8_code 48 = .ok (.putfield 18, 3) := by decide +kernel
theorem d_J_grow_51 : decode prog_3_method_8_code 51 = .ok (.aload_n 0, 1) := by decide +kernel
theorem d_J_grow_52 : decode prog_3_method_8_code 52 = .ok (.aload_n 0, 1) := by decide +kernel
theorem d_J_grow_53 : decode prog_3_method_8_code 53 = .ok (.getfield 21, 3) := by decide +kernel
theorem d_J_grow_56 : decode prog_3_method_8_code 56 = .ok (.iconst 2, 1) := by decide +kernel
theorem d_J_grow_57 : decode prog_3_method_8_code 57 = .ok (.aload_n 0, 1) := by decide +kernel
theorem d_J_grow_58 : decode prog_3_method_8_code 58 = .ok (.getfield 38, 3) := by decide +kernel
theorem d_J_grow_61 : decode prog_3_method_8_code 61 = .ok (.imul, 1) := by decide +kernel
theorem d_J_grow_62 : decode prog_3_method_8_code 62 = .ok (.invokestatic 64, 3) := by decide +kernel
theorem d_J_grow_65 : decode prog_3_method_8_code 65 = .ok (.putfield 21, 3) := by decide +kernel
theorem d_J_grow_68 : decode prog_3_method_8_code 68 = .ok (.aload_n 0, 1) := by decide +kernel
theorem d_J_grow_69 : decode prog_3_method_8_code 69 = .ok (.aload_n 0, 1) := by decide +kernel
theorem d_J_grow_70 : decode prog_3_method_8_code 70 = .ok (.getfield 24, 3) := by decide +kernel
theorem d_J_grow_73 : decode prog_3_method_8_code 73 = .ok (.iconst 2, 1) := by decide +kernel
theorem d_J_grow_74 : decode prog_3_method_8_code 74 = .ok (.aload_n 0, 1) := by decide +kernel
theorem d_J_grow_75 : decode prog_3_method_8_code 75 = .ok (.getfield 38, 3) := by decide +kernel
theorem d_J_grow_78 : decode prog_3_method_8_code 78 = .ok (.imul, 1) := by decide +kernel
theorem d_J_grow_79 : decode prog_3_method_8_code 79 = .ok (.invokestatic 70, 3) := by decide +kernel
theorem d_J_grow_82 : decode prog_3_method_8_code 82 = .ok (.putfield 24, 3) := by decide +kernel
theorem d_J_grow_85 : decode prog_3_method_8_code 85 = .ok (.aload_n 0, 1) := by decide +kernel
theorem d_J_grow_86 : decode prog_3_method_8_code 86 = .ok (.aload_n 0, 1) := by decide +kernel
theorem d_J_grow_87 : decode prog_3_method_8_code 87 = .ok (.getfield 28, 3) := by decide +kernel
theorem d_J_grow_90 : decode prog_3_method_8_code 90 = .ok (.iconst 2, 1) := by decide +kernel
theorem d_J_grow_91 : decode prog_3_method_8_code 91 = .ok (.aload_n 0, 1) := by decide +kernel
theorem d_J_grow_92 : decode prog_3_method_8_code 92 = .ok (.getfield 38, 3) := by decide +kernel
theorem d_J_grow_95 : decode prog_3_method_8_code 95 = .ok (.imul, 1) := by decide +kernel
theorem d_J_grow_96 : decode prog_3_method_8_code 96 = .ok (.invokestatic 70, 3) := by decide +kernel
theorem d_J_grow_99 : decode prog_3_method_8_code 99 = .ok (.putfield 28, 3) := by decide +kernel
theorem d_J_grow_102 : decode prog_3_method_8_code 102 = .ok (.return_, 1) := by decide +kernel
theorem w1111 : Cond.code ⟨"java/util/Arrays", "copyOf", "([II)[I"⟩ prog_38_method_123_code 3 (some (FieldType.array FieldType.int)) ∈ aW := aw_of (tb_5 (List.mem_of_getElem? (i := 73) rfl)) rfl
theorem w1112 : Cond.methodLink "SeriesVault$Journal" 64 ⟨"java/util/Arrays", "copyOf", "([II)[I"⟩ ∈ aW := aw_of (tb_5 (List.mem_of_getElem? (i := 71) rfl)) rfl
theorem w1113 : Cond.static ⟨"java/util/Arrays", "copyOf", "([II)[I"⟩ ∈ aW := aw_of (tb_5 (List.mem_of_getElem? (i := 72) rfl)) rfl
theorem w1114 : Cond.code ⟨"java/util/Arrays", "copyOf", "([JI)[J"⟩ prog_38_method_124_code 3 (some (FieldType.array FieldType.long)) ∈ aW := aw_of (tb_5 (List.mem_of_getElem? (i := 81) rfl)) rfl
theorem w1115 : Cond.methodLink "SeriesVault$Journal" 70 ⟨"java/util/Arrays", "copyOf", "([JI)[J"⟩ ∈ aW := aw_of (tb_5 (List.mem_of_getElem? (i := 79) rfl)) rfl
theorem w1116 : Cond.static ⟨"java/util/Arrays", "copyOf", "([JI)[J"⟩ ∈ aW := aw_of (tb_5 (List.mem_of_getElem? (i := 80) rfl)) rfl
set_option maxHeartbeats 4000000 in
set_option maxRecDepth 100000 in
theorem v_jgrow (l : Launch) (D : va_G) (dA : Nat → ClassId) (sz : Nat) (h : Nat) (ad : Nat → Nat) (x : VS) (h0 : x.jsize = x.jN) (h1 : 0 < x.jsize) (h2 : x.jsize ≤ 65536) : Met l ⟨"SeriesVault$Journal", "grow", "()V"⟩ [Cond.code ⟨"SeriesVault$Journal", "grow", "()V"⟩ prog_3_method_8_code 1 none] { frames := 2, cells := 6, slots := 12 * x.jsize, locals := 62 } (pC D dA [.ref (ad 0)] (VW dA h ad x) sz) (va_Qv (fun (u9 : Nat → Nat) => True) (fun (u9 : Nat → Nat) t9 => bW D (va_A (VW dA h ad x) sz) (VW dA h ad (VS.s_jS (VS.s_jF (VS.s_jB (VS.s_jU (VS.s_jO (VS.s_jK (VS.s_jN (VS.s_jA x u9) (2 * x.jsize)) (va_cpy x.jK (fun _ => 0) 0 0 (min x.jN (2 * x.jsize)))) (va_cpy x.jO (fun _ => 0) 0 0 (min x.jN (2 * x.jsize)))) (va_cpy x.jU (fun _ => 0) 0 0 (min x.jN (2 * x.jsize)))) (va_cpy x.jB (fun _ => 0) 0 0 (min x.jN (2 * x.jsize)))) (va_cpy x.jF (fun _ => 0) 0 0 (min x.jN (2 * x.jsize)))) (va_cpy x.jS (fun _ => 0) 0 0 (min x.jN (2 * x.jsize))))) t9) (va_A (VW dA h ad x) sz)) 6 (12 * x.jsize) (va_A (VW dA h ad x) sz) := by
  refine mkC (y := ⟨"SeriesVault$Journal", "grow", "()V"⟩) (cc := prog_3_method_8_code) (maxL := 1) (av := [.ref (ad 0)]) (ws := VW dA h ad x) (sz := sz) (Qc := fun A => va_Qv (fun (u9 : Nat → Nat) => True) (fun (u9 : Nat → Nat) t9 => bW D A (VW dA h ad (VS.s_jS (VS.s_jF (VS.s_jB (VS.s_jU (VS.s_jO (VS.s_jK (VS.s_jN (VS.s_jA x u9) (2 * x.jsize)) (va_cpy x.jK (fun _ => 0) 0 0 (min x.jN (2 * x.jsize)))) (va_cpy x.jO (fun _ => 0) 0 0 (min x.jN (2 * x.jsize)))) (va_cpy x.jU (fun _ => 0) 0 0 (min x.jN (2 * x.jsize)))) (va_cpy x.jB (fun _ => 0) 0 0 (min x.jN (2 * x.jsize)))) (va_cpy x.jF (fun _ => 0) 0 0 (min x.jN (2 * x.jsize)))) (va_cpy x.jS (fun _ => 0) 0 0 (min x.jN (2 * x.jsize))))) t9) A) (by decide) (Nat.le_of_ble_eq_true rfl) ?_
  intro A p e s m below meth c ls hsz hB
  obtain ⟨hx, hb, hr, hml, hown, hin, hlk, hE, hK, hP, hD, hS, hA, hN, hl⟩ := hB
  have hown : s.vm.findClass "SeriesVault$Journal" = some m.cls := hown
  have hl : lv_has ls 1 [(0, .ref (ad 0))] := hl
  obtain ⟨H, hH⟩ : ∃ z, z = s.heap := ⟨_, rfl⟩
  have hP : va_P D vwCl (VW dA h ad x) H := by rw [hH]; exact hP
  have hS : va_S A s.heap H [] := by rw [hH]; exact hS
  rw [← hH]
  refine lv_aload_n hx hb d_J_grow_0 rfl (lv_at hl 0 rfl) ?_
  refine lv_aload_n hx hb d_J_grow_1 rfl (lv_at hl 0 rfl) ?_
  refine gF (v := .ref (x.jA 0)) hx hb hown hE hK hP 2 rfl rfl layJ 0 (by decide) w190 rfl d_J_grow_2 ?_
  refine lv_iconst (v := 2) hx hb d_J_grow_5 (by decide) ?_
  refine lv_aload_n hx hb d_J_grow_6 rfl (lv_at hl 0 rfl) ?_
  refine gF (v := .int (nI x.jsize)) hx hb hown hE hK hP 2 rfl rfl layJ 6 (by decide) w545 rfl d_J_grow_7 ?_
  refine lv_imul hx hb d_J_grow_10 (tpi (y := nI (2 * x.jsize)) (pk_mul (2) (x.jsize)) ?_)
  refine jfR (rnS (As := [.ref (x.jA 0), .int (nI (2 * x.jsize))]) (rest := [.ref (ad 0)]) hx hb hml hown hE hK (hN _ _ hS) hP hD (v_copyOfI l D dA H.size (VW dA h ad x) (3) (x.jA 0) x.jN x.jK (2 * x.jsize) rfl (show x.jN < 2 * x.jsize by omega) (show 2 * x.jsize ≤ 131072 by omega)) w1111 w1112 w1113 w712 rfl rfl ⟨⟨by decide, by decide⟩, rfl⟩ ⟨(Nat.le_of_ble_eq_true rfl), (Nat.le_of_ble_eq_true rfl)⟩ rfl hl.1 rfl (Nat.le_of_ble_eq_true rfl) d_J_grow_11 ⟨(show 0 + 1 ≤ 6 by omega), (show 0 + (2 * x.jsize) ≤ 12 * x.jsize by omega)⟩) hP hD hS hA (fun u9 q1 H locs hp9 hP hD hS => ?_)
  have hP : va_P D vwCl ([(q1, .inl (dA 1, 2 * x.jsize, .inl (fun z9 => nI ((va_cpy x.jK (fun _ => 0) 0 0 (min x.jN (2 * x.jsize))) z9))))] ++ VW dA h ad x) H := hP
  have hD : va_D A ([(q1, .inl (dA 1, 2 * x.jsize, .inl (fun z9 => nI ((va_cpy x.jK (fun _ => 0) 0 0 (min x.jN (2 * x.jsize))) z9))))] ++ VW dA h ad x) := hD
  refine pF (v := .ref q1) hx hb hown hE hK hP hD hS 3 rfl rfl layJ tyJ tokJ nmJ 0 (by decide) w190 rfl rfl rfl (Nat.le_of_ble_eq_true rfl) d_J_grow_14 (fun H locs hP hD hS => ?_)
  have hP : va_P D vwCl ([(q1, .inl (dA 1, 2 * x.jsize, .inl (fun z9 => nI ((va_cpy x.jK (fun _ => 0) 0 0 (min x.jN (2 * x.jsize))) z9))))] ++ VWf dA h ad x (VS.s_jA x (va_up x.jA 0 q1))) H := hP
  have hD : va_D A ([(q1, .inl (dA 1, 2 * x.jsize, .inl (fun z9 => nI ((va_cpy x.jK (fun _ => 0) 0 0 (min x.jN (2 * x.jsize))) z9))))] ++ VWf dA h ad x (VS.s_jA x (va_up x.jA 0 q1))) := hD
  refine lv_aload_n hx hb d_J_grow_17 rfl (lv_at hl 0 rfl) ?_
  refine lv_aload_n hx hb d_J_grow_18 rfl (lv_at hl 0 rfl) ?_
  refine gF (v := .ref (x.jA 1)) hx hb hown hE hK hP 3 rfl rfl layJ 1 (by decide) w191 rfl d_J_grow_19 ?_
  refine lv_iconst (v := 2) hx hb d_J_grow_22 (by decide) ?_
  refine lv_aload_n hx hb d_J_grow_23 rfl (lv_at hl 0 rfl) ?_
  refine gF (v := .int (nI x.jsize)) hx hb hown hE hK hP 3 rfl rfl layJ 6 (by decide) w545 rfl d_J_grow_24 ?_
  refine lv_imul hx hb d_J_grow_27 (tpi (y := nI (2 * x.jsize)) (pk_mul (2) (x.jsize)) ?_)
  refine jfR (rnS (As := [.ref (x.jA 1), .int (nI (2 * x.jsize))]) (rest := [.ref (ad 0)]) hx hb hml hown hE hK (hN _ _ hS) hP hD (v_copyOfI l D dA H.size ([(q1, .inl (dA 1, 2 * x.jsize, .inl (fun z9 => nI ((va_cpy x.jK (fun _ => 0) 0 0 (min x.jN (2 * x.jsize))) z9))))] ++ VWf dA h ad x (VS.s_jA x (va_up x.jA 0 q1))) (5) (x.jA 1) x.jN x.jO (2 * x.jsize) rfl (show x.jN < 2 * x.jsize by omega) (show 2 * x.jsize ≤ 131072 by omega)) w1111 w1112 w1113 w712 rfl rfl ⟨⟨by decide, by decide⟩, rfl⟩ ⟨(Nat.le_of_ble_eq_true rfl), (Nat.le_of_ble_eq_true rfl)⟩ rfl hl.1 rfl (Nat.le_of_ble_eq_true rfl) d_J_grow_28 ⟨(show (0 + 1) + 1 ≤ 6 by omega), (show (0 + (2 * x.jsize)) + (2 * x.jsize) ≤ 12 * x.jsize by omega)⟩) hP hD hS hA (fun u9 q2 H locs hp9 hP hD hS => ?_)
  have hP : va_P D vwCl ([(q2, .inl (dA 1, 2 * x.jsize, .inl (fun z9 => nI ((va_cpy x.jO (fun _ => 0) 0 0 (min x.jN (2 * x.jsize))) z9)))), (q1, .inl (dA 1, 2 * x.jsize, .inl (fun z9 => nI ((va_cpy x.jK (fun _ => 0) 0 0 (min x.jN (2 * x.jsize))) z9))))] ++ VWf dA h ad x (VS.s_jA x (va_up x.jA 0 q1))) H := hP
  have hD : va_D A ([(q2, .inl (dA 1, 2 * x.jsize, .inl (fun z9 => nI ((va_cpy x.jO (fun _ => 0) 0 0 (min x.jN (2 * x.jsize))) z9)))), (q1, .inl (dA 1, 2 * x.jsize, .inl (fun z9 => nI ((va_cpy x.jK (fun _ => 0) 0 0 (min x.jN (2 * x.jsize))) z9))))] ++ VWf dA h ad x (VS.s_jA x (va_up x.jA 0 q1))) := hD
  refine pF (v := .ref q2) hx hb hown hE hK hP hD hS 4 rfl rfl layJ tyJ tokJ nmJ 1 (by decide) w191 rfl rfl rfl (Nat.le_of_ble_eq_true rfl) d_J_grow_31 (fun H locs hP hD hS => ?_)
  have hP : va_P D vwCl ([(q2, .inl (dA 1, 2 * x.jsize, .inl (fun z9 => nI ((va_cpy x.jO (fun _ => 0) 0 0 (min x.jN (2 * x.jsize))) z9)))), (q1, .inl (dA 1, 2 * x.jsize, .inl (fun z9 => nI ((va_cpy x.jK (fun _ => 0) 0 0 (min x.jN (2 * x.jsize))) z9))))] ++ VWf dA h ad x (VS.s_jA x (va_up (va_up x.jA 0 q1) 1 q2))) H := hP
  have hD : va_D A ([(q2, .inl (dA 1, 2 * x.jsize, .inl (fun z9 => nI ((va_cpy x.jO (fun _ => 0) 0 0 (min x.jN (2 * x.jsize))) z9)))), (q1, .inl (dA 1, 2 * x.jsize, .inl (fun z9 => nI ((va_cpy x.jK (fun _ => 0) 0 0 (min x.jN (2 * x.jsize))) z9))))] ++ VWf dA h ad x (VS.s_jA x (va_up (va_up x.jA 0 q1) 1 q2))) := hD
  refine lv_aload_n hx hb d_J_grow_34 rfl (lv_at hl 0 rfl) ?_
  refine lv_aload_n hx hb d_J_grow_35 rfl (lv_at hl 0 rfl) ?_
  refine gF (v := .ref (x.jA 2)) hx hb hown hE hK hP 4 rfl rfl layJ 2 (by decide) w192 rfl d_J_grow_36 ?_
  refine lv_iconst (v := 2) hx hb d_J_grow_39 (by decide) ?_
  refine lv_aload_n hx hb d_J_grow_40 rfl (lv_at hl 0 rfl) ?_
  refine gF (v := .int (nI x.jsize)) hx hb hown hE hK hP 4 rfl rfl layJ 6 (by decide) w545 rfl d_J_grow_41 ?_
  refine lv_imul hx hb d_J_grow_44 (tpi (y := nI (2 * x.jsize)) (pk_mul (2) (x.jsize)) ?_)
  refine jfR (rnS (As := [.ref (x.jA 2), .int (nI (2 * x.jsize))]) (rest := [.ref (ad 0)]) hx hb hml hown hE hK (hN _ _ hS) hP hD (v_copyOfI l D dA H.size ([(q2, .inl (dA 1, 2 * x.jsize, .inl (fun z9 => nI ((va_cpy x.jO (fun _ => 0) 0 0 (min x.jN (2 * x.jsize))) z9)))), (q1, .inl (dA 1, 2 * x.jsize, .inl (fun z9 => nI ((va_cpy x.jK (fun _ => 0) 0 0 (min x.jN (2 * x.jsize))) z9))))] ++ VWf dA h ad x (VS.s_jA x (va_up (va_up x.jA 0 q1) 1 q2))) (7) (x.jA 2) x.jN x.jU (2 * x.jsize) rfl (show x.jN < 2 * x.jsize by omega) (show 2 * x.jsize ≤ 131072 by omega)) w1111 w1112 w1113 w712 rfl rfl ⟨⟨by decide, by decide⟩, rfl⟩ ⟨(Nat.le_of_ble_eq_true rfl), (Nat.le_of_ble_eq_true rfl)⟩ rfl hl.1 rfl (Nat.le_of_ble_eq_true rfl) d_J_grow_45 ⟨(show (0 + 1 + 1) + 1 ≤ 6 by omega), (show (0 + (2 * x.jsize) + (2 * x.jsize)) + (2 * x.jsize) ≤ 12 * x.jsize by omega)⟩) hP hD hS hA (fun u9 q3 H locs hp9 hP hD hS => ?_)
  have hP : va_P D vwCl ([(q3, .inl (dA 1, 2 * x.jsize, .inl (fun z9 => nI ((va_cpy x.jU (fun _ => 0) 0 0 (min x.jN (2 * x.jsize))) z9)))), (q2, .inl (dA 1, 2 * x.jsize, .inl (fun z9 => nI ((va_cpy x.jO (fun _ => 0) 0 0 (min x.jN (2 * x.jsize))) z9)))), (q1, .inl (dA 1, 2 * x.jsize, .inl (fun z9 => nI ((va_cpy x.jK (fun _ => 0) 0 0 (min x.jN (2 * x.jsize))) z9))))] ++ VWf dA h ad x (VS.s_jA x (va_up (va_up x.jA 0 q1) 1 q2))) H := hP
  have hD : va_D A ([(q3, .inl (dA 1, 2 * x.jsize, .inl (fun z9 => nI ((va_cpy x.jU (fun _ => 0) 0 0 (min x.jN (2 * x.jsize))) z9)))), (q2, .inl (dA 1, 2 * x.jsize, .inl (fun z9 => nI ((va_cpy x.jO (fun _ => 0) 0 0 (min x.jN (2 * x.jsize))) z9)))), (q1, .inl (dA 1, 2 * x.jsize, .inl (fun z9 => nI ((va_cpy x.jK (fun _ => 0) 0 0 (min x.jN (2 * x.jsize))) z9))))] ++ VWf dA h ad x (VS.s_jA x (va_up (va_up x.jA 0 q1) 1 q2))) := hD
  refine pF (v := .ref q3) hx hb hown hE hK hP hD hS 5 rfl rfl layJ tyJ tokJ nmJ 2 (by decide) w192 rfl rfl rfl (Nat.le_of_ble_eq_true rfl) d_J_grow_48 (fun H locs hP hD hS => ?_)
  have hP : va_P D vwCl ([(q3, .inl (dA 1, 2 * x.jsize, .inl (fun z9 => nI ((va_cpy x.jU (fun _ => 0) 0 0 (min x.jN (2 * x.jsize))) z9)))), (q2, .inl (dA 1, 2 * x.jsize, .inl (fun z9 => nI ((va_cpy x.jO (fun _ => 0) 0 0 (min x.jN (2 * x.jsize))) z9)))), (q1, .inl (dA 1, 2 * x.jsize, .inl (fun z9 => nI ((va_cpy x.jK (fun _ => 0) 0 0 (min x.jN (2 * x.jsize))) z9))))] ++ VWf dA h ad x (VS.s_jA x (va_up (va_up (va_up x.jA 0 q1) 1 q2) 2 q3))) H := hP
  have hD : va_D A ([(q3, .inl (dA 1, 2 * x.jsize, .inl (fun z9 => nI ((va_cpy x.jU (fun _ => 0) 0 0 (min x.jN (2 * x.jsize))) z9)))), (q2, .inl (dA 1, 2 * x.jsize, .inl (fun z9 => nI ((va_cpy x.jO (fun _ => 0) 0 0 (min x.jN (2 * x.jsize))) z9)))), (q1, .inl (dA 1, 2 * x.jsize, .inl (fun z9 => nI ((va_cpy x.jK (fun _ => 0) 0 0 (min x.jN (2 * x.jsize))) z9))))] ++ VWf dA h ad x (VS.s_jA x (va_up (va_up (va_up x.jA 0 q1) 1 q2) 2 q3))) := hD
  refine lv_aload_n hx hb d_J_grow_51 rfl (lv_at hl 0 rfl) ?_
  refine lv_aload_n hx hb d_J_grow_52 rfl (lv_at hl 0 rfl) ?_
  refine gF (v := .ref (x.jA 3)) hx hb hown hE hK hP 5 rfl rfl layJ 3 (by decide) w193 rfl d_J_grow_53 ?_
  refine lv_iconst (v := 2) hx hb d_J_grow_56 (by decide) ?_
  refine lv_aload_n hx hb d_J_grow_57 rfl (lv_at hl 0 rfl) ?_
  refine gF (v := .int (nI x.jsize)) hx hb hown hE hK hP 5 rfl rfl layJ 6 (by decide) w545 rfl d_J_grow_58 ?_
  refine lv_imul hx hb d_J_grow_61 (tpi (y := nI (2 * x.jsize)) (pk_mul (2) (x.jsize)) ?_)
  refine jfR (rnS (As := [.ref (x.jA 3), .int (nI (2 * x.jsize))]) (rest := [.ref (ad 0)]) hx hb hml hown hE hK (hN _ _ hS) hP hD (v_copyOfI l D dA H.size ([(q3, .inl (dA 1, 2 * x.jsize, .inl (fun z9 => nI ((va_cpy x.jU (fun _ => 0) 0 0 (min x.jN (2 * x.jsize))) z9)))), (q2, .inl (dA 1, 2 * x.jsize, .inl (fun z9 => nI ((va_cpy x.jO (fun _ => 0) 0 0 (min x.jN (2 * x.jsize))) z9)))), (q1, .inl (dA 1, 2 * x.jsize, .inl (fun z9 => nI ((va_cpy x.jK (fun _ => 0) 0 0 (min x.jN (2 * x.jsize))) z9))))] ++ VWf dA h ad x (VS.s_jA x (va_up (va_up (va_up x.jA 0 q1) 1 q2) 2 q3))) (9) (x.jA 3) x.jN x.jB (2 * x.jsize) rfl (show x.jN < 2 * x.jsize by omega) (show 2 * x.jsize ≤ 131072 by omega)) w1111 w1112 w1113 w712 rfl rfl ⟨⟨by decide, by decide⟩, rfl⟩ ⟨(Nat.le_of_ble_eq_true rfl), (Nat.le_of_ble_eq_true rfl)⟩ rfl hl.1 rfl (Nat.le_of_ble_eq_true rfl) d_J_grow_62 ⟨(show (0 + 1 + 1 + 1) + 1 ≤ 6 by omega), (show (0 + (2 * x.jsize) + (2 * x.jsize) + (2 * x.jsize)) + (2 * x.jsize) ≤ 12 * x.jsize by omega)⟩) hP hD hS hA (fun u9 q4 H locs hp9 hP hD hS => ?_)
  have hP : va_P D vwCl ([(q4, .inl (dA 1, 2 * x.jsize, .inl (fun z9 => nI ((va_cpy x.jB (fun _ => 0) 0 0 (min x.jN (2 * x.jsize))) z9)))), (q3, .inl (dA 1, 2 * x.jsize, .inl (fun z9 => nI ((va_cpy x.jU (fun _ => 0) 0 0 (min x.jN (2 * x.jsize))) z9)))), (q2, .inl (dA 1, 2 * x.jsize, .inl (fun z9 => nI ((va_cpy x.jO (fun _ => 0) 0 0 (min x.jN (2 * x.jsize))) z9)))), (q1, .inl (dA 1, 2 * x.jsize, .inl (fun z9 => nI ((va_cpy x.jK (fun _ => 0) 0 0 (min x.jN (2 * x.jsize))) z9))))] ++ VWf dA h ad x (VS.s_jA x (va_up (va_up (va_up x.jA 0 q1) 1 q2) 2 q3))) H := hP
  have hD : va_D A ([(q4, .inl (dA 1, 2 * x.jsize, .inl (fun z9 => nI ((va_cpy x.jB (fun _ => 0) 0 0 (min x.jN (2 * x.jsize))) z9)))), (q3, .inl (dA 1, 2 * x.jsize, .inl (fun z9 => nI ((va_cpy x.jU (fun _ => 0) 0 0 (min x.jN (2 * x.jsize))) z9)))), (q2, .inl (dA 1, 2 * x.jsize, .inl (fun z9 => nI ((va_cpy x.jO (fun _ => 0) 0 0 (min x.jN (2 * x.jsize))) z9)))), (q1, .inl (dA 1, 2 * x.jsize, .inl (fun z9 => nI ((va_cpy x.jK (fun _ => 0) 0 0 (min x.jN (2 * x.jsize))) z9))))] ++ VWf dA h ad x (VS.s_jA x (va_up (va_up (va_up x.jA 0 q1) 1 q2) 2 q3))) := hD
  refine pF (v := .ref q4) hx hb hown hE hK hP hD hS 6 rfl rfl layJ tyJ tokJ nmJ 3 (by decide) w193 rfl rfl rfl (Nat.le_of_ble_eq_true rfl) d_J_grow_65 (fun H locs hP hD hS => ?_)
  have hP : va_P D vwCl ([(q4, .inl (dA 1, 2 * x.jsize, .inl (fun z9 => nI ((va_cpy x.jB (fun _ => 0) 0 0 (min x.jN (2 * x.jsize))) z9)))), (q3, .inl (dA 1, 2 * x.jsize, .inl (fun z9 => nI ((va_cpy x.jU (fun _ => 0) 0 0 (min x.jN (2 * x.jsize))) z9)))), (q2, .inl (dA 1, 2 * x.jsize, .inl (fun z9 => nI ((va_cpy x.jO (fun _ => 0) 0 0 (min x.jN (2 * x.jsize))) z9)))), (q1, .inl (dA 1, 2 * x.jsize, .inl (fun z9 => nI ((va_cpy x.jK (fun _ => 0) 0 0 (min x.jN (2 * x.jsize))) z9))))] ++ VWf dA h ad x (VS.s_jA x (va_up (va_up (va_up (va_up x.jA 0 q1) 1 q2) 2 q3) 3 q4))) H := hP
  have hD : va_D A ([(q4, .inl (dA 1, 2 * x.jsize, .inl (fun z9 => nI ((va_cpy x.jB (fun _ => 0) 0 0 (min x.jN (2 * x.jsize))) z9)))), (q3, .inl (dA 1, 2 * x.jsize, .inl (fun z9 => nI ((va_cpy x.jU (fun _ => 0) 0 0 (min x.jN (2 * x.jsize))) z9)))), (q2, .inl (dA 1, 2 * x.jsize, .inl (fun z9 => nI ((va_cpy x.jO (fun _ => 0) 0 0 (min x.jN (2 * x.jsize))) z9)))), (q1, .inl (dA 1, 2 * x.jsize, .inl (fun z9 => nI ((va_cpy x.jK (fun _ => 0) 0 0 (min x.jN (2 * x.jsize))) z9))))] ++ VWf dA h ad x (VS.s_jA x (va_up (va_up (va_up (va_up x.jA 0 q1) 1 q2) 2 q3) 3 q4))) := hD
  refine lv_aload_n hx hb d_J_grow_68 rfl (lv_at hl 0 rfl) ?_
  refine lv_aload_n hx hb d_J_grow_69 rfl (lv_at hl 0 rfl) ?_
  refine gF (v := .ref (x.jA 4)) hx hb hown hE hK hP 6 rfl rfl layJ 4 (by decide) w194 rfl d_J_grow_70 ?_
  refine lv_iconst (v := 2) hx hb d_J_grow_73 (by decide) ?_
  refine lv_aload_n hx hb d_J_grow_74 rfl (lv_at hl 0 rfl) ?_
  refine gF (v := .int (nI x.jsize)) hx hb hown hE hK hP 6 rfl rfl layJ 6 (by decide) w545 rfl d_J_grow_75 ?_
  refine lv_imul hx hb d_J_grow_78 (tpi (y := nI (2 * x.jsize)) (pk_mul (2) (x.jsize)) ?_)
  refine jfR (rnS (As := [.ref (x.jA 4), .int (nI (2 * x.jsize))]) (rest := [.ref (ad 0)]) hx hb hml hown hE hK (hN _ _ hS) hP hD (v_copyOfJ l D dA H.size ([(q4, .inl (dA 1, 2 * x.jsize, .inl (fun z9 => nI ((va_cpy x.jB (fun _ => 0) 0 0 (min x.jN (2 * x.jsize))) z9)))), (q3, .inl (dA 1, 2 * x.jsize, .inl (fun z9 => nI ((va_cpy x.jU (fun _ => 0) 0 0 (min x.jN (2 * x.jsize))) z9)))), (q2, .inl (dA 1, 2 * x.jsize, .inl (fun z9 => nI ((va_cpy x.jO (fun _ => 0) 0 0 (min x.jN (2 * x.jsize))) z9)))), (q1, .inl (dA 1, 2 * x.jsize, .inl (fun z9 => nI ((va_cpy x.jK (fun _ => 0) 0 0 (min x.jN (2 * x.jsize))) z9))))] ++ VWf dA h ad x (VS.s_jA x (va_up (va_up (va_up (va_up x.jA 0 q1) 1 q2) 2 q3) 3 q4))) (11) (x.jA 4) x.jN x.jF (2 * x.jsize) rfl (show x.jN < 2 * x.jsize by omega) (show 2 * x.jsize ≤ 131072 by omega)) w1114 w1115 w1116 w712 rfl rfl ⟨⟨by decide, by decide⟩, rfl⟩ ⟨(Nat.le_of_ble_eq_true rfl), (Nat.le_of_ble_eq_true rfl)⟩ rfl hl.1 rfl (Nat.le_of_ble_eq_true rfl) d_J_grow_79 ⟨(show (0 + 1 + 1 + 1 + 1) + 1 ≤ 6 by omega), (show (0 + (2 * x.jsize) + (2 * x.jsize) + (2 * x.jsize) + (2 * x.jsize)) + (2 * x.jsize) ≤ 12 * x.jsize by omega)⟩) hP hD hS hA (fun u9 q5 H locs hp9 hP hD hS => ?_)
  have hP : va_P D vwCl ([(q5, .inl (dA 2, 2 * x.jsize, .inr (.inl (va_cpy x.jF (fun _ => 0) 0 0 (min x.jN (2 * x.jsize)))))), (q4, .inl (dA 1, 2 * x.jsize, .inl (fun z9 => nI ((va_cpy x.jB (fun _ => 0) 0 0 (min x.jN (2 * x.jsize))) z9)))), (q3, .inl (dA 1, 2 * x.jsize, .inl (fun z9 => nI ((va_cpy x.jU (fun _ => 0) 0 0 (min x.jN (2 * x.jsize))) z9)))), (q2, .inl (dA 1, 2 * x.jsize, .inl (fun z9 => nI ((va_cpy x.jO (fun _ => 0) 0 0 (min x.jN (2 * x.jsize))) z9)))), (q1, .inl (dA 1, 2 * x.jsize, .inl (fun z9 => nI ((va_cpy x.jK (fun _ => 0) 0 0 (min x.jN (2 * x.jsize))) z9))))] ++ VWf dA h ad x (VS.s_jA x (va_up (va_up (va_up (va_up x.jA 0 q1) 1 q2) 2 q3) 3 q4))) H := hP
  have hD : va_D A ([(q5, .inl (dA 2, 2 * x.jsize, .inr (.inl (va_cpy x.jF (fun _ => 0) 0 0 (min x.jN (2 * x.jsize)))))), (q4, .inl (dA 1, 2 * x.jsize, .inl (fun z9 => nI ((va_cpy x.jB (fun _ => 0) 0 0 (min x.jN (2 * x.jsize))) z9)))), (q3, .inl (dA 1, 2 * x.jsize, .inl (fun z9 => nI ((va_cpy x.jU (fun _ => 0) 0 0 (min x.jN (2 * x.jsize))) z9)))), (q2, .inl (dA 1, 2 * x.jsize, .inl (fun z9 => nI ((va_cpy x.jO (fun _ => 0) 0 0 (min x.jN (2 * x.jsize))) z9)))), (q1, .inl (dA 1, 2 * x.jsize, .inl (fun z9 => nI ((va_cpy x.jK (fun _ => 0) 0 0 (min x.jN (2 * x.jsize))) z9))))] ++ VWf dA h ad x (VS.s_jA x (va_up (va_up (va_up (va_up x.jA 0 q1) 1 q2) 2 q3) 3 q4))) := hD
  refine pF (v := .ref q5) hx hb hown hE hK hP hD hS 7 rfl rfl layJ tyJ tokJ nmJ 4 (by decide) w194 rfl rfl rfl (Nat.le_of_ble_eq_true rfl) d_J_grow_82 (fun H locs hP hD hS => ?_)
  have hP : va_P D vwCl ([(q5, .inl (dA 2, 2 * x.jsize, .inr (.inl (va_cpy x.jF (fun _ => 0) 0 0 (min x.jN (2 * x.jsize)))))), (q4, .inl (dA 1, 2 * x.jsize, .inl (fun z9 => nI ((va_cpy x.jB (fun _ => 0) 0 0 (min x.jN (2 * x.jsize))) z9)))), (q3, .inl (dA 1, 2 * x.jsize, .inl (fun z9 => nI ((va_cpy x.jU (fun _ => 0) 0 0 (min x.jN (2 * x.jsize))) z9)))), (q2, .inl (dA 1, 2 * x.jsize, .inl (fun z9 => nI ((va_cpy x.jO (fun _ => 0) 0 0 (min x.jN (2 * x.jsize))) z9)))), (q1, .inl (dA 1, 2 * x.jsize, .inl (fun z9 => nI ((va_cpy x.jK (fun _ => 0) 0 0 (min x.jN (2 * x.jsize))) z9))))] ++ VWf dA h ad x (VS.s_jA x (va_up (va_up (va_up (va_up (va_up x.jA 0 q1) 1 q2) 2 q3) 3 q4) 4 q5))) H := hP
  have hD : va_D A ([(q5, .inl (dA 2, 2 * x.jsize, .inr (.inl (va_cpy x.jF (fun _ => 0) 0 0 (min x.jN (2 * x.jsize)))))), (q4, .inl (dA 1, 2 * x.jsize, .inl (fun z9 => nI ((va_cpy x.jB (fun _ => 0) 0 0 (min x.jN (2 * x.jsize))) z9)))), (q3, .inl (dA 1, 2 * x.jsize, .inl (fun z9 => nI ((va_cpy x.jU (fun _ => 0) 0 0 (min x.jN (2 * x.jsize))) z9)))), (q2, .inl (dA 1, 2 * x.jsize, .inl (fun z9 => nI ((va_cpy x.jO (fun _ => 0) 0 0 (min x.jN (2 * x.jsize))) z9)))), (q1, .inl (dA 1, 2 * x.jsize, .inl (fun z9 => nI ((va_cpy x.jK (fun _ => 0) 0 0 (min x.jN (2 * x.jsize))) z9))))] ++ VWf dA h ad x (VS.s_jA x (va_up (va_up (va_up (va_up (va_up x.jA 0 q1) 1 q2) 2 q3) 3 q4) 4 q5))) := hD
  refine lv_aload_n hx hb d_J_grow_85 rfl (lv_at hl 0 rfl) ?_
  refine lv_aload_n hx hb d_J_grow_86 rfl (lv_at hl 0 rfl) ?_
  refine gF (v := .ref (x.jA 5)) hx hb hown hE hK hP 7 rfl rfl layJ 5 (by decide) w195 rfl d_J_grow_87 ?_
  refine lv_iconst (v := 2) hx hb d_J_grow_90 (by decide) ?_
  refine lv_aload_n hx hb d_J_grow_91 rfl (lv_at hl 0 rfl) ?_
  refine gF (v := .int (nI x.jsize)) hx hb hown hE hK hP 7 rfl rfl layJ 6 (by decide) w545 rfl d_J_grow_92 ?_
  refine lv_imul hx hb d_J_grow_95 (tpi (y := nI (2 * x.jsize)) (pk_mul (2) (x.jsize)) ?_)
  refine jfR (rnS (As := [.ref (x.jA 5), .int (nI (2 * x.jsize))]) (rest := [.ref (ad 0)]) hx hb hml hown hE hK (hN _ _ hS) hP hD (v_copyOfJ l D dA H.size ([(q5, .inl (dA 2, 2 * x.jsize, .inr (.inl (va_cpy x.jF (fun _ => 0) 0 0 (min x.jN (2 * x.jsize)))))), (q4, .inl (dA 1, 2 * x.jsize, .inl (fun z9 => nI ((va_cpy x.jB (fun _ => 0) 0 0 (min x.jN (2 * x.jsize))) z9)))), (q3, .inl (dA 1, 2 * x.jsize, .inl (fun z9 => nI ((va_cpy x.jU (fun _ => 0) 0 0 (min x.jN (2 * x.jsize))) z9)))), (q2, .inl (dA 1, 2 * x.jsize, .inl (fun z9 => nI ((va_cpy x.jO (fun _ => 0) 0 0 (min x.jN (2 * x.jsize))) z9)))), (q1, .inl (dA 1, 2 * x.jsize, .inl (fun z9 => nI ((va_cpy x.jK (fun _ => 0) 0 0 (min x.jN (2 * x.jsize))) z9))))] ++ VWf dA h ad x (VS.s_jA x (va_up (va_up (va_up (va_up (va_up x.jA 0 q1) 1 q2) 2 q3) 3 q4) 4 q5))) (13) (x.jA 5) x.jN x.jS (2 * x.jsize) rfl (show x.jN < 2 * x.jsize by omega) (show 2 * x.jsize ≤ 131072 by omega)) w1114 w1115 w1116 w712 rfl rfl ⟨⟨by decide, by decide⟩, rfl⟩ ⟨(Nat.le_of_ble_eq_true rfl), (Nat.le_of_ble_eq_true rfl)⟩ rfl hl.1 rfl (Nat.le_of_ble_eq_true rfl) d_J_grow_96 ⟨(show (0 + 1 + 1 + 1 + 1 + 1) + 1 ≤ 6 by omega), (show (0 + (2 * x.jsize) + (2 * x.jsize) + (2 * x.jsize) + (2 * x.jsize) + (2 * x.jsize)) + (2 * x.jsize) ≤ 12 * x.jsize by omega)⟩) hP hD hS hA (fun u9 q6 H locs hp9 hP hD hS => ?_)
  have hP : va_P D vwCl ([(q6, .inl (dA 2, 2 * x.jsize, .inr (.inl (va_cpy x.jS (fun _ => 0) 0 0 (min x.jN (2 * x.jsize)))))), (q5, .inl (dA 2, 2 * x.jsize, .inr (.inl (va_cpy x.jF (fun _ => 0) 0 0 (min x.jN (2 * x.jsize)))))), (q4, .inl (dA 1, 2 * x.jsize, .inl (fun z9 => nI ((va_cpy x.jB (fun _ => 0) 0 0 (min x.jN (2 * x.jsize))) z9)))), (q3, .inl (dA 1, 2 * x.jsize, .inl (fun z9 => nI ((va_cpy x.jU (fun _ => 0) 0 0 (min x.jN (2 * x.jsize))) z9)))), (q2, .inl (dA 1, 2 * x.jsize, .inl (fun z9 => nI ((va_cpy x.jO (fun _ => 0) 0 0 (min x.jN (2 * x.jsize))) z9)))), (q1, .inl (dA 1, 2 * x.jsize, .inl (fun z9 => nI ((va_cpy x.jK (fun _ => 0) 0 0 (min x.jN (2 * x.jsize))) z9))))] ++ VWf dA h ad x (VS.s_jA x (va_up (va_up (va_up (va_up (va_up x.jA 0 q1) 1 q2) 2 q3) 3 q4) 4 q5))) H := hP
  have hD : va_D A ([(q6, .inl (dA 2, 2 * x.jsize, .inr (.inl (va_cpy x.jS (fun _ => 0) 0 0 (min x.jN (2 * x.jsize)))))), (q5, .inl (dA 2, 2 * x.jsize, .inr (.inl (va_cpy x.jF (fun _ => 0) 0 0 (min x.jN (2 * x.jsize)))))), (q4, .inl (dA 1, 2 * x.jsize, .inl (fun z9 => nI ((va_cpy x.jB (fun _ => 0) 0 0 (min x.jN (2 * x.jsize))) z9)))), (q3, .inl (dA 1, 2 * x.jsize, .inl (fun z9 => nI ((va_cpy x.jU (fun _ => 0) 0 0 (min x.jN (2 * x.jsize))) z9)))), (q2, .inl (dA 1, 2 * x.jsize, .inl (fun z9 => nI ((va_cpy x.jO (fun _ => 0) 0 0 (min x.jN (2 * x.jsize))) z9)))), (q1, .inl (dA 1, 2 * x.jsize, .inl (fun z9 => nI ((va_cpy x.jK (fun _ => 0) 0 0 (min x.jN (2 * x.jsize))) z9))))] ++ VWf dA h ad x (VS.s_jA x (va_up (va_up (va_up (va_up (va_up x.jA 0 q1) 1 q2) 2 q3) 3 q4) 4 q5))) := hD
  refine pF (v := .ref q6) hx hb hown hE hK hP hD hS 8 rfl rfl layJ tyJ tokJ nmJ 5 (by decide) w195 rfl rfl rfl (Nat.le_of_ble_eq_true rfl) d_J_grow_99 (fun H locs hP hD hS => ?_)
  have hP : va_P D vwCl ([(q6, .inl (dA 2, 2 * x.jsize, .inr (.inl (va_cpy x.jS (fun _ => 0) 0 0 (min x.jN (2 * x.jsize)))))), (q5, .inl (dA 2, 2 * x.jsize, .inr (.inl (va_cpy x.jF (fun _ => 0) 0 0 (min x.jN (2 * x.jsize)))))), (q4, .inl (dA 1, 2 * x.jsize, .inl (fun z9 => nI ((va_cpy x.jB (fun _ => 0) 0 0 (min x.jN (2 * x.jsize))) z9)))), (q3, .inl (dA 1, 2 * x.jsize, .inl (fun z9 => nI ((va_cpy x.jU (fun _ => 0) 0 0 (min x.jN (2 * x.jsize))) z9)))), (q2, .inl (dA 1, 2 * x.jsize, .inl (fun z9 => nI ((va_cpy x.jO (fun _ => 0) 0 0 (min x.jN (2 * x.jsize))) z9)))), (q1, .inl (dA 1, 2 * x.jsize, .inl (fun z9 => nI ((va_cpy x.jK (fun _ => 0) 0 0 (min x.jN (2 * x.jsize))) z9))))] ++ VWf dA h ad x (VS.s_jA x (va_up (va_up (va_up (va_up (va_up (va_up x.jA 0 q1) 1 q2) 2 q3) 3 q4) 4 q5) 5 q6))) H := hP
  have hD : va_D A ([(q6, .inl (dA 2, 2 * x.jsize, .inr (.inl (va_cpy x.jS (fun _ => 0) 0 0 (min x.jN (2 * x.jsize)))))), (q5, .inl (dA 2, 2 * x.jsize, .inr (.inl (va_cpy x.jF (fun _ => 0) 0 0 (min x.jN (2 * x.jsize)))))), (q4, .inl (dA 1, 2 * x.jsize, .inl (fun z9 => nI ((va_cpy x.jB (fun _ => 0) 0 0 (min x.jN (2 * x.jsize))) z9)))), (q3, .inl (dA 1, 2 * x.jsize, .inl (fun z9 => nI ((va_cpy x.jU (fun _ => 0) 0 0 (min x.jN (2 * x.jsize))) z9)))), (q2, .inl (dA 1, 2 * x.jsize, .inl (fun z9 => nI ((va_cpy x.jO (fun _ => 0) 0 0 (min x.jN (2 * x.jsize))) z9)))), (q1, .inl (dA 1, 2 * x.jsize, .inl (fun z9 => nI ((va_cpy x.jK (fun _ => 0) 0 0 (min x.jN (2 * x.jsize))) z9))))] ++ VWf dA h ad x (VS.s_jA x (va_up (va_up (va_up (va_up (va_up (va_up x.jA 0 q1) 1 q2) 2 q3) 3 q4) 4 q5) 5 q6))) := hD
  have hP := swP 13 hP
  have hD := swD 13 hD
  have hP := swP 11 hP
  have hD := swD 11 hD
  have hP := swP 9 hP
  have hD := swD 9 hD
  have hP := swP 7 hP
  have hD := swD 7 hD
  have hP := swP 5 hP
  have hD := swD 5 hD
  have hP := swP 3 hP
  have hD := swD 3 hD
  have hP : va_P D vwCl (VW dA h ad (VS.s_jS (VS.s_jF (VS.s_jB (VS.s_jU (VS.s_jO (VS.s_jK (VS.s_jN (VS.s_jA x (va_up (va_up (va_up (va_up (va_up (va_up x.jA 0 q1) 1 q2) 2 q3) 3 q4) 4 q5) 5 q6)) (2 * x.jsize)) (va_cpy x.jK (fun _ => 0) 0 0 (min x.jN (2 * x.jsize)))) (va_cpy x.jO (fun _ => 0) 0 0 (min x.jN (2 * x.jsize)))) (va_cpy x.jU (fun _ => 0) 0 0 (min x.jN (2 * x.jsize)))) (va_cpy x.jB (fun _ => 0) 0 0 (min x.jN (2 * x.jsize)))) (va_cpy x.jF (fun _ => 0) 0 0 (min x.jN (2 * x.jsize)))) (va_cpy x.jS (fun _ => 0) 0 0 (min x.jN (2 * x.jsize))))) H := hP
  have hD : va_D A (VW dA h ad (VS.s_jS (VS.s_jF (VS.s_jB (VS.s_jU (VS.s_jO (VS.s_jK (VS.s_jN (VS.s_jA x (va_up (va_up (va_up (va_up (va_up (va_up x.jA 0 q1) 1 q2) 2 q3) 3 q4) 4 q5) 5 q6)) (2 * x.jsize)) (va_cpy x.jK (fun _ => 0) 0 0 (min x.jN (2 * x.jsize)))) (va_cpy x.jO (fun _ => 0) 0 0 (min x.jN (2 * x.jsize)))) (va_cpy x.jU (fun _ => 0) 0 0 (min x.jN (2 * x.jsize)))) (va_cpy x.jB (fun _ => 0) 0 0 (min x.jN (2 * x.jsize)))) (va_cpy x.jF (fun _ => 0) 0 0 (min x.jN (2 * x.jsize)))) (va_cpy x.jS (fun _ => 0) 0 0 (min x.jN (2 * x.jsize))))) := hD
  exact rfV hx hb hr hlk hS (va_up (va_up (va_up (va_up (va_up (va_up x.jA 0 q1) 1 q2) 2 q3) 3 q4) 4 q5) 5 q6) trivial hP hD (show 0 + 1 + 1 + 1 + 1 + 1 + 1 ≤ 6 by omega) (show 0 + (2 * x.jsize) + (2 * x.jsize) + (2 * x.jsize) + (2 * x.jsize) + (2 * x.jsize) + (2 * x.jsize) ≤ 12 * x.jsize by omega) d_J_grow_102
