theorem d_M_operator_0 : decode prog_14_method_88_code 0 = .ok (.aload_n 0, 1) := by decide +kernel
theorem d_M_operator_1 : decode prog_14_method_88_code 1 = .ok (.getfield 351, 3) := by decide +kernel
theorem d_M_operator_4 : decode prog_14_method_88_code 4 = .ok (.invokestatic 451, 3) := by decide +kernel
theorem d_M_operator_7 : decode prog_14_method_88_code 7 = .ok (.istore_n 1, 1) := by decide +kernel
theorem d_M_operator_8 : decode prog_14_method_88_code 8 = .ok (.iload_n 1, 1) := by decide +kernel
theorem d_M_operator_9 : decode prog_14_method_88_code 9 = .ok (.iconst 1, 1) := by decide +kernel
theorem d_M_operator_10 : decode prog_14_method_88_code 10 = .ok (.if_icmp .eq 8, 3) := by decide +kernel
theorem d_M_operator_18 : decode prog_14_method_88_code 18 = .ok (.aload_n 0, 1) := by decide +kernel
theorem d_M_operator_19 : decode prog_14_method_88_code 19 = .ok (.iload_n 1, 1) := by decide +kernel
theorem d_M_operator_20 : decode prog_14_method_88_code 20 = .ok (.invokevirtual 483, 3) := by decide +kernel
theorem d_M_operator_23 : decode prog_14_method_88_code 23 = .ok (.ifCond .ne 5, 3) := by decide +kernel
theorem d_M_operator_28 : decode prog_14_method_88_code 28 = .ok (.aload_n 0, 1) := by decide +kernel
theorem d_M_operator_29 : decode prog_14_method_88_code 29 = .ok (.getfield 126, 3) := by decide +kernel
theorem d_M_operator_32 : decode prog_14_method_88_code 32 = .ok (.aload_n 0, 1) := by decide +kernel
theorem d_M_operator_33 : decode prog_14_method_88_code 33 = .ok (.getfield 439, 3) := by decide +kernel
theorem d_M_operator_36 : decode prog_14_method_88_code 36 = .ok (.aload_n 0, 1) := by decide +kernel
theorem d_M_operator_37 : decode prog_14_method_88_code 37 = .ok (.getfield 351, 3) := by decide +kernel
theorem d_M_operator_40 : decode prog_14_method_88_code 40 = .ok (.iastore, 1) := by decide +kernel
theorem d_M_operator_41 : decode prog_14_method_88_code 41 = .ok (.aload_n 0, 1) := by decide +kernel
theorem d_M_operator_42 : decode prog_14_method_88_code 42 = .ok (.getfield 129, 3) := by decide +kernel
theorem d_M_operator_45 : decode prog_14_method_88_code 45 = .ok (.aload_n 0, 1) := by decide +kernel
theorem d_M_operator_46 : decode prog_14_method_88_code 46 = .ok (.getfield 439, 3) := by decide +kernel
theorem d_M_operator_49 : decode prog_14_method_88_code 49 = .ok (.aload_n 0, 1) := by decide +kernel
theorem d_M_operator_50 : decode prog_14_method_88_code 50 = .ok (.getfield 345, 3) := by decide +kernel
theorem d_M_operator_53 : decode prog_14_method_88_code 53 = .ok (.iastore, 1) := by decide +kernel
theorem d_M_operator_54 : decode prog_14_method_88_code 54 = .ok (.aload_n 0, 1) := by decide +kernel
theorem d_M_operator_55 : decode prog_14_method_88_code 55 = .ok (.dup, 1) := by decide +kernel
theorem d_M_operator_56 : decode prog_14_method_88_code 56 = .ok (.getfield 439, 3) := by decide +kernel
theorem d_M_operator_59 : decode prog_14_method_88_code 59 = .ok (.iconst 1, 1) := by decide +kernel
theorem d_M_operator_60 : decode prog_14_method_88_code 60 = .ok (.iadd, 1) := by decide +kernel
theorem d_M_operator_61 : decode prog_14_method_88_code 61 = .ok (.putfield 439, 3) := by decide +kernel
theorem d_M_operator_64 : decode prog_14_method_88_code 64 = .ok (.aload_n 0, 1) := by decide +kernel
theorem d_M_operator_65 : decode prog_14_method_88_code 65 = .ok (.iconst 1, 1) := by decide +kernel
theorem d_M_operator_66 : decode prog_14_method_88_code 66 = .ok (.putfield 472, 3) := by decide +kernel
theorem d_M_operator_69 : decode prog_14_method_88_code 69 = .ok (.aload_n 0, 1) := by decide +kernel
theorem d_M_operator_70 : decode prog_14_method_88_code 70 = .ok (.invokevirtual 373, 3) := by decide +kernel
theorem d_M_operator_73 : decode prog_14_method_88_code 73 = .ok (.ireturn, 1) := by decide +kernel
theorem d_M_operator_26 : decode prog_14_method_88_code 26 = .ok (.iconst 0, 1) := by decide +kernel
theorem d_M_operator_27 : decode prog_14_method_88_code 27 = .ok (.ireturn, 1) := by decide +kernel
theorem d_M_operator_13 : decode prog_14_method_88_code 13 = .ok (.iload_n 1, 1) := by decide +kernel
theorem d_M_operator_14 : decode prog_14_method_88_code 14 = .ok (.iconst 2, 1) := by decide +kernel
theorem d_M_operator_15 : decode prog_14_method_88_code 15 = .ok (.if_icmp .ne 59, 3) := by decide +kernel
theorem d_M_operator_74 : decode prog_14_method_88_code 74 = .ok (.aload_n 0, 1) := by decide +kernel
theorem d_M_operator_75 : decode prog_14_method_88_code 75 = .ok (.getfield 351, 3) := by decide +kernel
theorem d_M_operator_78 : decode prog_14_method_88_code 78 = .ok (.bipush 41, 2) := by decide +kernel
theorem d_M_operator_80 : decode prog_14_method_88_code 80 = .ok (.if_icmp .ne 10, 3) := by decide +kernel
theorem d_M_operator_90 : decode prog_14_method_88_code 90 = .ok (.aload_n 0, 1) := by decide +kernel
theorem d_M_operator_91 : decode prog_14_method_88_code 91 = .ok (.iconst 2, 1) := by decide +kernel
theorem d_M_operator_92 : decode prog_14_method_88_code 92 = .ok (.aload_n 0, 1) := by decide +kernel
theorem d_M_operator_93 : decode prog_14_method_88_code 93 = .ok (.getfield 345, 3) := by decide +kernel
theorem d_M_operator_96 : decode prog_14_method_88_code 96 = .ok (.invokevirtual 224, 3) := by decide +kernel
theorem d_M_operator_99 : decode prog_14_method_88_code 99 = .ok (.ireturn, 1) := by decide +kernel
theorem d_M_operator_83 : decode prog_14_method_88_code 83 = .ok (.aload_n 0, 1) := by decide +kernel
theorem d_M_operator_84 : decode prog_14_method_88_code 84 = .ok (.invokevirtual 486, 3) := by decide +kernel
theorem d_M_operator_87 : decode prog_14_method_88_code 87 = .ok (.ifCond .ne 13, 3) := by decide +kernel
theorem d_M_operator_100 : decode prog_14_method_88_code 100 = .ok (.aload_n 0, 1) := by decide +kernel
theorem d_M_operator_101 : decode prog_14_method_88_code 101 = .ok (.iconst 1, 1) := by decide +kernel
theorem d_M_operator_102 : decode prog_14_method_88_code 102 = .ok (.invokevirtual 483, 3) := by decide +kernel
theorem d_M_operator_105 : decode prog_14_method_88_code 105 = .ok (.ifCond .ne 5, 3) := by decide +kernel
theorem d_M_operator_110 : decode prog_14_method_88_code 110 = .ok (.aload_n 0, 1) := by decide +kernel
theorem d_M_operator_111 : decode prog_14_method_88_code 111 = .ok (.dup, 1) := by decide +kernel
theorem d_M_operator_112 : decode prog_14_method_88_code 112 = .ok (.getfield 439, 3) := by decide +kernel
theorem d_M_operator_115 : decode prog_14_method_88_code 115 = .ok (.iconst 1, 1) := by decide +kernel
theorem d_M_operator_116 : decode prog_14_method_88_code 116 = .ok (.isub, 1) := by decide +kernel
theorem d_M_operator_117 : decode prog_14_method_88_code 117 = .ok (.putfield 439, 3) := by decide +kernel
theorem d_M_operator_120 : decode prog_14_method_88_code 120 = .ok (.aload_n 0, 1) := by decide +kernel
theorem d_M_operator_121 : decode prog_14_method_88_code 121 = .ok (.dup, 1) := by decide +kernel
theorem d_M_operator_122 : decode prog_14_method_88_code 122 = .ok (.getfield 436, 3) := by decide +kernel
theorem d_M_operator_125 : decode prog_14_method_88_code 125 = .ok (.iconst 1, 1) := by decide +kernel
theorem d_M_operator_126 : decode prog_14_method_88_code 126 = .ok (.isub, 1) := by decide +kernel
theorem d_M_operator_127 : decode prog_14_method_88_code 127 = .ok (.putfield 436, 3) := by decide +kernel
theorem d_M_operator_130 : decode prog_14_method_88_code 130 = .ok (.aload_n 0, 1) := by decide +kernel
theorem d_M_operator_131 : decode prog_14_method_88_code 131 = .ok (.invokevirtual 373, 3) := by decide +kernel
theorem d_M_operator_134 : decode prog_14_method_88_code 134 = .ok (.ifCond .eq 15, 3) := by decide +kernel
theorem d_M_operator_149 : decode prog_14_method_88_code 149 = .ok (.iconst 0, 1) := by decide +kernel
theorem d_M_operator_150 : decode prog_14_method_88_code 150 = .ok (.ireturn, 1) := by decide +kernel
theorem d_M_operator_137 : decode prog_14_method_88_code 137 = .ok (.aload_n 0, 1) := by decide +kernel
theorem d_M_operator_138 : decode prog_14_method_88_code 138 = .ok (.iconst 3, 1) := by decide +kernel
theorem d_M_operator_139 : decode prog_14_method_88_code 139 = .ok (.invokevirtual 483, 3) := by decide +kernel
theorem d_M_operator_142 : decode prog_14_method_88_code 142 = .ok (.ifCond .eq 7, 3) := by decide +kernel
theorem d_M_operator_145 : decode prog_14_method_88_code 145 = .ok (.iconst 1, 1) := by decide +kernel
theorem d_M_operator_146 : decode prog_14_method_88_code 146 = .ok (.goto 4, 3) := by decide +kernel
theorem d_M_operator_108 : decode prog_14_method_88_code 108 = .ok (.iconst 0, 1) := by decide +kernel
theorem d_M_operator_109 : decode prog_14_method_88_code 109 = .ok (.ireturn, 1) := by decide +kernel
theorem w1069 : Cond.methodLink "SeriesVaultModel" 486 ⟨"SeriesVaultModel", "isOpen", "()Z"⟩ ∈ aW := aw_of (tb_11 (List.mem_of_getElem? (i := 51) rfl)) rfl
theorem w1070 : Cond.code ⟨"SeriesVaultModel", "isOpen", "()Z"⟩ prog_14_method_87_code 3 (some FieldType.boolean) ∈ aW := aw_of (tb_11 (List.mem_of_getElem? (i := 54) rfl)) rfl
theorem w1071 : Cond.instanceMethod ⟨"SeriesVaultModel", "isOpen", "()Z"⟩ ∈ aW := aw_of (tb_11 (List.mem_of_getElem? (i := 53) rfl)) rfl
theorem w1072 : Cond.selects "SeriesVaultModel" ⟨"SeriesVaultModel", "isOpen", "()Z"⟩ ⟨"SeriesVaultModel", "isOpen", "()Z"⟩ ∈ aW := aw_pr (List.mem_map.mpr ⟨_, pv_8 (List.mem_of_getElem? (i := 13) rfl), rfl⟩) rfl
set_option maxHeartbeats 4000000 in
set_option maxRecDepth 100000 in
theorem k_operator (l : Launch) (D : va_G) (dA : Nat → ClassId) (sz : Nat) (h : Nat) (ad : Nat → Nat) (x : MS) (hoi : x.oI 1) : Met l ⟨"SeriesVaultModel", "operator", "()Z"⟩ [Cond.code ⟨"SeriesVaultModel", "operator", "()Z"⟩ prog_14_method_88_code 2 (some FieldType.boolean)] { frames := 7, cells := 0, slots := 0, locals := 154 } (pC D dA [.ref h] (MW dA h ad x) sz) (va_Qi (fun (r9 : Int32) (u9 : MS) => r9 = bI (x.opr).1 ∧ u9 = (x.opr).2) (fun (u9 : MS) t9 => bW D (va_A (MW dA h ad x) sz) (MW dA h ad u9) t9) (va_A (MW dA h ad x) sz)) 0 0 (va_A (MW dA h ad x) sz) := by
  refine mkC (y := ⟨"SeriesVaultModel", "operator", "()Z"⟩) (cc := prog_14_method_88_code) (maxL := 2) (av := [.ref h]) (ws := MW dA h ad x) (sz := sz) (Qc := fun A => va_Qi (fun (r9 : Int32) (u9 : MS) => r9 = bI (x.opr).1 ∧ u9 = (x.opr).2) (fun (u9 : MS) t9 => bW D A (MW dA h ad u9) t9) A) (by decide) (Nat.le_of_ble_eq_true rfl) ?_
  intro A p e s m below meth c ls hsz hB
  obtain ⟨hx, hb, hr, hml, hown, hin, hlk, hE, hK, hP, hD, hS, hA, hN, hl⟩ := hB
  have hown : s.vm.findClass "SeriesVaultModel" = some m.cls := hown
  have hl : lv_has ls 2 [(0, .ref h)] := hl
  obtain ⟨H, hH⟩ : ∃ z, z = s.heap := ⟨_, rfl⟩
  have hP : va_P D vwCl (MW dA h ad x) H := by rw [hH]; exact hP
  have hS : va_S A s.heap H [] := by rw [hH]; exact hS
  rw [← hH]
  have hlx := hoi.1
  have hs26 := sI_26 hoi.2.2.2.1
  have hrk := rk_le x.kind
  refine lv_aload_n hx hb d_M_operator_0 rfl (lv_at hl 0 rfl) ?_
  refine gF (v := .int x.kind) hx hb hown hE hK hP 0 rfl rfl layM 44 (by decide) w469 rfl d_M_operator_1 ?_
  have hPc := hP.sub (ws' := []) [] rfl
  have hDc := hD.sub (ws' := []) [] (by decide) rfl
  refine jnI (rnS (As := [.int x.kind]) (rest := []) hx hb hml hown hE hK (hN _ _ hS) hPc hDc (k_rank l D dA H.size x.kind) w1047 w1046 w1048 w328 rfl rfl ⟨⟨by decide, by decide⟩, rfl⟩ ⟨(Nat.le_of_ble_eq_true rfl), (Nat.le_of_ble_eq_true rfl)⟩ rfl hl.1 rfl (Nat.le_of_ble_eq_true rfl) d_M_operator_4 ⟨(Nat.le_of_ble_eq_true rfl), (Nat.le_of_ble_eq_true rfl)⟩) hP hD hS hA [] [0, 1, 2, 3, 4, 5, 6, 7, 8, 9, 10, 11, 12, 13, 14, 15, 16, 17, 18, 19, 20, 21, 22, 23, 24, 25, 26, 27, 28, 29, 30, 31, 32, 33, 34, 35, 36, 37, 38] (wr := MW dA h ad x) rfl rfl (by decide) (by decide) (fun r1 u9 H locs hp9 hP hD hS => ?_)
  have hP : va_P D vwCl (MW dA h ad x) H := hP
  have hD : va_D A (MW dA h ad x) := hD
  replace hp9 : nI (rkN x.kind) = r1 := Eq.symm hp9
  subst hp9
  refine lv_istore_n hx hb d_M_operator_7 rfl hl (by decide) rfl (fun ls hl => ?_)
  have hl : lv_has ls 2 [(1, .int (nI (rkN x.kind))), (0, .ref h)] := hl
  refine lv_iload_n hx hb d_M_operator_8 rfl (lv_at hl 0 rfl) ?_
  refine lv_iconst (v := 1) hx hb d_M_operator_9 (by decide) ?_
  refine lv_icmp_eq hx hb d_M_operator_10 (tgt := 18) rfl (fun g3 => ?_) (fun g3 => ?_)
  · have g3 := (nI_eq (a := rkN x.kind) (b := 1) (by omega) (by omega)).mp g3
    refine lv_aload_n hx hb d_M_operator_18 rfl (lv_at hl 1 rfl) ?_
    refine lv_iload_n hx hb d_M_operator_19 rfl (lv_at hl 0 rfl) ?_
    refine jfI (rnV (As := [.int (nI (rkN x.kind))]) (rest := []) hx hb hml hown hE hK (hN _ _ hS) hP hD (k_doneTo l D dA H.size h ad x (rkN x.kind) (oI_dI hoi) (show 1 ≤ (rkN x.kind) from by omega) (show (rkN x.kind) ≤ 3 from by omega)) (q0 := 0) rfl rfl w1058 w1057 w1059 w1060 w328 rfl rfl ⟨⟨by decide, by decide⟩, rfl⟩ ⟨(Nat.le_of_ble_eq_true rfl), (Nat.le_of_ble_eq_true rfl)⟩ rfl hl.1 rfl (Nat.le_of_ble_eq_true rfl) d_M_operator_20 ⟨(Nat.le_of_ble_eq_true rfl), (Nat.le_of_ble_eq_true rfl)⟩) hP hD hS hA (fun r4 u5 H locs hp9 hP hD hS => ?_)
    obtain ⟨y6, h9u⟩ : ∃ z9, z9 = u5 := ⟨_, rfl⟩
    subst h9u
    have hP : va_P D vwCl (MW dA h ad y6) H := hP
    have hD : va_D A (MW dA h ad y6) := hD
    obtain ⟨hp9, f_e_7⟩ := hp9
    replace hp9 : bI (x.dt (rkN x.kind)).1 = r4 := Eq.symm hp9
    subst hp9
    refine lv_if_ne hx hb d_M_operator_23 (tgt := 28) rfl (fun g8 => ?_) (fun g8 => ?_)
    · have g8 := bI_n0 g8
      obtain ⟨o1, o2, o3, o4⟩ := dt_oI (v := y6) (by omega) hoi (Prod.ext g8 f_e_7.symm)
      have k0 : 0 ≤ y6.kind := by rw [o3.1]; exact (rkN_c (Or.inl g3)).2.1
      have s26 := sI_26 o1.2.2.2.1
      refine lv_aload_n hx hb d_M_operator_28 rfl (lv_at hl 1 rfl) ?_
      refine gF (v := .ref (ad 66)) hx hb hown hE hK hP 0 rfl rfl layM 66 (by decide) w532 rfl d_M_operator_29 ?_
      refine lv_aload_n hx hb d_M_operator_32 rfl (lv_at hl 1 rfl) ?_
      refine gF (v := .int (nI y6.signCount)) hx hb hown hE hK hP 0 rfl rfl layM 68 (by decide) w477 rfl d_M_operator_33 ?_
      refine lv_aload_n hx hb d_M_operator_36 rfl (lv_at hl 1 rfl) ?_
      refine gF (v := .int y6.kind) hx hb hown hE hK hP 0 rfl rfl layM 44 (by decide) w469 rfl d_M_operator_37 ?_
      refine tpi (y := nI (i2n y6.kind)) (i2n_nI k0) ?_
      refine nistN (v := i2n y6.kind) hx hb hK hP hD hS 33 1 rfl rfl (y6.signCount) (by omega) (by decide) d_M_operator_40 (fun H locs hP hD hS => ?_)
      have hP : va_P D vwCl (MW dA h ad (MS.s_signs y6 (va_up y6.signs y6.signCount (i2n y6.kind)))) H := hP
      have hD : va_D A (MW dA h ad (MS.s_signs y6 (va_up y6.signs y6.signCount (i2n y6.kind)))) := hD
      refine lv_aload_n hx hb d_M_operator_41 rfl (lv_at hl 1 rfl) ?_
      refine gF (v := .ref (ad 67)) hx hb hown hE hK hP 0 rfl rfl layM 67 (by decide) w533 rfl d_M_operator_42 ?_
      refine lv_aload_n hx hb d_M_operator_45 rfl (lv_at hl 1 rfl) ?_
      refine gF (v := .int (nI y6.signCount)) hx hb hown hE hK hP 0 rfl rfl layM 68 (by decide) w477 rfl d_M_operator_46 ?_
      refine lv_aload_n hx hb d_M_operator_49 rfl (lv_at hl 1 rfl) ?_
      refine gF (v := .int (nI y6.frm)) hx hb hown hE hK hP 0 rfl rfl layM 45 (by decide) w464 rfl d_M_operator_50 ?_
      refine nistN (v := y6.frm) hx hb hK hP hD hS 34 1 rfl rfl (y6.signCount) (by omega) (by decide) d_M_operator_53 (fun H locs hP hD hS => ?_)
      have hP : va_P D vwCl (MW dA h ad (MS.s_signPlaces (MS.s_signs y6 (va_up y6.signs y6.signCount (i2n y6.kind))) (va_up y6.signPlaces y6.signCount y6.frm))) H := hP
      have hD : va_D A (MW dA h ad (MS.s_signPlaces (MS.s_signs y6 (va_up y6.signs y6.signCount (i2n y6.kind))) (va_up y6.signPlaces y6.signCount y6.frm))) := hD
      refine lv_aload_n hx hb d_M_operator_54 rfl (lv_at hl 1 rfl) ?_
      refine lv_dup hx hb d_M_operator_55 rfl ?_
      refine gF (v := .int (nI y6.signCount)) hx hb hown hE hK hP 0 rfl rfl layM 68 (by decide) w477 rfl d_M_operator_56 ?_
      refine lv_iconst (v := 1) hx hb d_M_operator_59 (by decide) ?_
      refine lv_iadd hx hb d_M_operator_60 (tpi (y := nI (y6.signCount + 1)) (nI_add (y6.signCount) (1)) ?_)
      refine pF (v := .int (nI (y6.signCount + 1))) hx hb hown hE hK hP hD hS 0 rfl rfl layM tyM tokM nmM 68 (by decide) w477 rfl rfl rfl (Nat.le_of_ble_eq_true rfl) d_M_operator_61 (fun H locs hP hD hS => ?_)
      have hP : va_P D vwCl (MW dA h ad (MS.s_signCount (MS.s_signPlaces (MS.s_signs y6 (va_up y6.signs y6.signCount (i2n y6.kind))) (va_up y6.signPlaces y6.signCount y6.frm)) (y6.signCount + 1))) H := hP
      have hD : va_D A (MW dA h ad (MS.s_signCount (MS.s_signPlaces (MS.s_signs y6 (va_up y6.signs y6.signCount (i2n y6.kind))) (va_up y6.signPlaces y6.signCount y6.frm)) (y6.signCount + 1))) := hD
      refine lv_aload_n hx hb d_M_operator_64 rfl (lv_at hl 1 rfl) ?_
      refine lv_iconst (v := 1) hx hb d_M_operator_65 (by decide) ?_
      refine pF (v := .int (bI true)) hx hb hown hE hK hP hD hS 0 rfl rfl layM tyM tokM nmM 70 (by decide) w470 rfl (bI_nar true) (bI_fit true) (Nat.le_of_ble_eq_true rfl) d_M_operator_66 (fun H locs hP hD hS => ?_)
      have hP : va_P D vwCl (MW dA h ad (MS.s_wants (MS.s_signCount (MS.s_signPlaces (MS.s_signs y6 (va_up y6.signs y6.signCount (i2n y6.kind))) (va_up y6.signPlaces y6.signCount y6.frm)) (y6.signCount + 1)) true)) H := hP
      have hD : va_D A (MW dA h ad (MS.s_wants (MS.s_signCount (MS.s_signPlaces (MS.s_signs y6 (va_up y6.signs y6.signCount (i2n y6.kind))) (va_up y6.signPlaces y6.signCount y6.frm)) (y6.signCount + 1)) true)) := hD
      refine lv_aload_n hx hb d_M_operator_69 rfl (lv_at hl 1 rfl) ?_
      refine jfI (rnV (As := []) (rest := []) hx hb hml hown hE hK (hN _ _ hS) hP hD (k_next l D dA H.size h ad (MS.s_wants (MS.s_signCount (MS.s_signPlaces (MS.s_signs y6 (va_up y6.signs y6.signCount (i2n y6.kind))) (va_up y6.signPlaces y6.signCount y6.frm)) (y6.signCount + 1)) true) o1.1.1 o1.1.2.2.1 o1.1.2.2.2) (q0 := 0) rfl rfl w480 w479 w481 w482 w328 rfl rfl ⟨⟨by decide, by decide⟩, rfl⟩ ⟨(Nat.le_of_ble_eq_true rfl), (Nat.le_of_ble_eq_true rfl)⟩ rfl hl.1 rfl (Nat.le_of_ble_eq_true rfl) d_M_operator_70 ⟨(Nat.le_of_ble_eq_true rfl), (Nat.le_of_ble_eq_true rfl)⟩) hP hD hS hA (fun r9 u10 H locs hp9 hP hD hS => ?_)
      obtain ⟨y11, h9u⟩ : ∃ z9, z9 = u10 := ⟨_, rfl⟩
      subst h9u
      have hP : va_P D vwCl (MW dA h ad y11) H := hP
      have hD : va_D A (MW dA h ad y11) := hD
      obtain ⟨hp9, f_e_12⟩ := hp9
      replace hp9 : bI ((MS.s_wants (MS.s_signCount (MS.s_signPlaces (MS.s_signs y6 (va_up y6.signs y6.signCount (i2n y6.kind))) (va_up y6.signPlaces y6.signCount y6.frm)) (y6.signCount + 1)) true).nx).1 = r9 := Eq.symm hp9
      subst hp9
      exact rfZ hx hb hr (bI_nar (((MS.s_wants (MS.s_signCount (MS.s_signPlaces (MS.s_signs y6 (va_up y6.signs y6.signCount (i2n y6.kind))) (va_up y6.signPlaces y6.signCount y6.frm)) (y6.signCount + 1)) true).nx).1)) hlk hS y11 (by have e9 : x.opr = x.opr1 (rkN x.kind) := if_pos (Or.inl g3); have e8 : x.opr1 (rkN x.kind) = y6.psh.nx := (if_pos g8).trans (by rw [f_e_7]); rw [e9, e8]; exact ⟨rfl, f_e_12⟩) hP hD (Nat.le_of_ble_eq_true rfl) (Nat.le_of_ble_eq_true rfl) d_M_operator_73
    · have g8 := bI_0 g8
      refine lv_iconst (v := 0) hx hb d_M_operator_26 (by decide) ?_
      exact rfZ hx hb hr (bI_nar false) hlk hS y6 (by have e9 : x.opr = x.opr1 (rkN x.kind) := if_pos (Or.inl g3); have e8 : x.opr1 (rkN x.kind) = (false, (x.dt (rkN x.kind)).2) := if_neg (by rw [g8]; decide); rw [e9, e8]; exact ⟨rfl, f_e_7⟩) hP hD (Nat.le_of_ble_eq_true rfl) (Nat.le_of_ble_eq_true rfl) d_M_operator_27
  · have g3 := mt (nI_eq (a := rkN x.kind) (b := 1) (by omega) (by omega)).mpr g3
    refine lv_iload_n hx hb d_M_operator_13 rfl (lv_at hl 0 rfl) ?_
    refine lv_iconst (v := 2) hx hb d_M_operator_14 (by decide) ?_
    refine lv_icmp_ne hx hb d_M_operator_15 (tgt := 74) rfl (fun g13 => ?_) (fun g13 => ?_)
    · have g13 := mt (nI_eq (a := rkN x.kind) (b := 2) (by omega) (by omega)).mpr g13
      refine lv_aload_n hx hb d_M_operator_74 rfl (lv_at hl 1 rfl) ?_
      refine gF (v := .int x.kind) hx hb hown hE hK hP 0 rfl rfl layM 44 (by decide) w469 rfl d_M_operator_75 ?_
      refine lv_bipush (v := 41) hx hb d_M_operator_78 (by decide) ?_
      refine lv_icmp_ne hx hb d_M_operator_80 (tgt := 90) rfl (fun g14 => ?_) (fun g14 => ?_)
      · have g14 := g14
        refine lv_aload_n hx hb d_M_operator_90 rfl (lv_at hl 1 rfl) ?_
        refine lv_iconst (v := 2) hx hb d_M_operator_91 (by decide) ?_
        refine lv_aload_n hx hb d_M_operator_92 rfl (lv_at hl 1 rfl) ?_
        refine gF (v := .int (nI x.frm)) hx hb hown hE hK hP 0 rfl rfl layM 45 (by decide) w464 rfl d_M_operator_93 ?_
        refine jfI (rnV (As := [.int 2, .int (nI x.frm)]) (rest := []) hx hb hml hown hE hK (hN _ _ hS) hP hD (k_flaw_0 l D dA H.size h ad x 2 (nI x.frm) hlx.2.2.2) (q0 := 0) rfl rfl w431 w430 w432 w433 w328 rfl rfl ⟨⟨by decide, by decide⟩, rfl⟩ ⟨(Nat.le_of_ble_eq_true rfl), (Nat.le_of_ble_eq_true rfl)⟩ rfl hl.1 rfl (Nat.le_of_ble_eq_true rfl) d_M_operator_96 ⟨(Nat.le_of_ble_eq_true rfl), (Nat.le_of_ble_eq_true rfl)⟩) hP hD hS hA (fun r15 u16 H locs hp9 hP hD hS => ?_)
        have hP : va_P D vwCl (MW dA h ad (MS.s_faultPlace (MS.s_faultCode x 2) (nI x.frm))) H := hP
        have hD : va_D A (MW dA h ad (MS.s_faultPlace (MS.s_faultCode x 2) (nI x.frm))) := hD
        replace hp9 : bI false = r15 := Eq.symm hp9
        subst hp9
        exact rfZ hx hb hr (bI_nar false) hlk hS (MS.s_faultPlace (MS.s_faultCode x 2) (nI x.frm)) (by have e9 : x.opr = (false, x.flS 2 x.frm) := (if_neg (fun z9 => z9.elim g3 g13)).trans (if_neg (fun z9 => g14 z9.1)); rw [e9]; exact ⟨rfl, rfl⟩) hP hD (Nat.le_of_ble_eq_true rfl) (Nat.le_of_ble_eq_true rfl) d_M_operator_99
      · have g14 := g14
        refine lv_aload_n hx hb d_M_operator_83 rfl (lv_at hl 1 rfl) ?_
        refine jfI (rnV (As := []) (rest := []) hx hb hml hown hE hK (hN _ _ hS) hP hD (k_isOpen l D dA H.size h ad x (show x.signCount ≤ 32 from by omega) (fun k hk => Nat.lt_of_le_of_lt (sI_lt hoi.2.2.2.1 hk) (by decide))) (q0 := 0) rfl rfl w1070 w1069 w1071 w1072 w328 rfl rfl ⟨⟨by decide, by decide⟩, rfl⟩ ⟨(Nat.le_of_ble_eq_true rfl), (Nat.le_of_ble_eq_true rfl)⟩ rfl hl.1 rfl (Nat.le_of_ble_eq_true rfl) d_M_operator_84 ⟨(Nat.le_of_ble_eq_true rfl), (Nat.le_of_ble_eq_true rfl)⟩) hP hD hS hA (fun r17 u18 H locs hp9 hP hD hS => ?_)
        have hP : va_P D vwCl (MW dA h ad x) H := hP
        have hD : va_D A (MW dA h ad x) := hD
        replace hp9 : bI x.opnB = r17 := Eq.symm hp9
        subst hp9
        refine lv_if_ne hx hb d_M_operator_87 (tgt := 100) rfl (fun g19 => ?_) (fun g19 => ?_)
        · have g19 := bI_n0 g19
          refine lv_aload_n hx hb d_M_operator_100 rfl (lv_at hl 1 rfl) ?_
          refine lv_iconst (v := 1) hx hb d_M_operator_101 (by decide) ?_
          refine jfI (rnV (As := [.int 1]) (rest := []) hx hb hml hown hE hK (hN _ _ hS) hP hD (k_doneTo l D dA H.size h ad x 1 (oI_dI hoi) (by decide) (by decide)) (q0 := 0) rfl rfl w1058 w1057 w1059 w1060 w328 rfl rfl ⟨⟨by decide, by decide⟩, rfl⟩ ⟨(Nat.le_of_ble_eq_true rfl), (Nat.le_of_ble_eq_true rfl)⟩ rfl hl.1 rfl (Nat.le_of_ble_eq_true rfl) d_M_operator_102 ⟨(Nat.le_of_ble_eq_true rfl), (Nat.le_of_ble_eq_true rfl)⟩) hP hD hS hA (fun r20 u21 H locs hp9 hP hD hS => ?_)
          obtain ⟨y22, h9u⟩ : ∃ z9, z9 = u21 := ⟨_, rfl⟩
          subst h9u
          have hP : va_P D vwCl (MW dA h ad y22) H := hP
          have hD : va_D A (MW dA h ad y22) := hD
          obtain ⟨hp9, f_e_23⟩ := hp9
          replace hp9 : bI (x.dt 1).1 = r20 := Eq.symm hp9
          subst hp9
          refine lv_if_ne hx hb d_M_operator_105 (tgt := 110) rfl (fun g24 => ?_) (fun g24 => ?_)
          · have g24 := bI_n0 g24
            have hd1 : x.dt 1 = (true, y22) := Prod.ext g24 f_e_23.symm
            obtain ⟨o1, o2, o3, o4⟩ := dt_oI (by decide) hoi hd1
            have oy := dt_opn (by decide) (oI_dI hoi) rfl g19 hd1
            obtain ⟨k, k1, -⟩ := anyB_x oy
            have t4 := top_0 o1.2.2.2.1 (by omega) (o4.resolve_left (by omega))
            obtain ⟨s1, s2⟩ := pop4_sI o1.2.2.2.1 (by omega) t4
            have s26 := sI_26 o1.2.2.2.1
            refine lv_aload_n hx hb d_M_operator_110 rfl (lv_at hl 1 rfl) ?_
            refine lv_dup hx hb d_M_operator_111 rfl ?_
            refine gF (v := .int (nI y22.signCount)) hx hb hown hE hK hP 0 rfl rfl layM 68 (by decide) w477 rfl d_M_operator_112 ?_
            refine lv_iconst (v := 1) hx hb d_M_operator_115 (by decide) ?_
            refine lv_isub hx hb d_M_operator_116 (tpi (y := nI (y22.signCount - 1)) (pk_sub (a := y22.signCount) (b := 1) (by omega)) ?_)
            refine pF (v := .int (nI (y22.signCount - 1))) hx hb hown hE hK hP hD hS 0 rfl rfl layM tyM tokM nmM 68 (by decide) w477 rfl rfl rfl (Nat.le_of_ble_eq_true rfl) d_M_operator_117 (fun H locs hP hD hS => ?_)
            have hP : va_P D vwCl (MW dA h ad (MS.s_signCount y22 (y22.signCount - 1))) H := hP
            have hD : va_D A (MW dA h ad (MS.s_signCount y22 (y22.signCount - 1))) := hD
            refine lv_aload_n hx hb d_M_operator_120 rfl (lv_at hl 1 rfl) ?_
            refine lv_dup hx hb d_M_operator_121 rfl ?_
            refine gF (v := .int (nI y22.opn)) hx hb hown hE hK hP 0 rfl rfl layM 69 (by decide) w478 rfl d_M_operator_122 ?_
            refine lv_iconst (v := 1) hx hb d_M_operator_125 (by decide) ?_
            refine lv_isub hx hb d_M_operator_126 (tpi (y := nI (y22.opn - 1)) (pk_sub (a := y22.opn) (b := 1) (by omega)) ?_)
            refine pF (v := .int (nI (y22.opn - 1))) hx hb hown hE hK hP hD hS 0 rfl rfl layM tyM tokM nmM 69 (by decide) w478 rfl rfl rfl (Nat.le_of_ble_eq_true rfl) d_M_operator_127 (fun H locs hP hD hS => ?_)
            have hP : va_P D vwCl (MW dA h ad (MS.s_opn (MS.s_signCount y22 (y22.signCount - 1)) (y22.opn - 1))) H := hP
            have hD : va_D A (MW dA h ad (MS.s_opn (MS.s_signCount y22 (y22.signCount - 1)) (y22.opn - 1))) := hD
            refine lv_aload_n hx hb d_M_operator_130 rfl (lv_at hl 1 rfl) ?_
            refine jfI (rnV (As := []) (rest := []) hx hb hml hown hE hK (hN _ _ hS) hP hD (k_next l D dA H.size h ad (MS.s_opn (MS.s_signCount y22 (y22.signCount - 1)) (y22.opn - 1)) o1.1.1 o1.1.2.2.1 o1.1.2.2.2) (q0 := 0) rfl rfl w480 w479 w481 w482 w328 rfl rfl ⟨⟨by decide, by decide⟩, rfl⟩ ⟨(Nat.le_of_ble_eq_true rfl), (Nat.le_of_ble_eq_true rfl)⟩ rfl hl.1 rfl (Nat.le_of_ble_eq_true rfl) d_M_operator_131 ⟨(Nat.le_of_ble_eq_true rfl), (Nat.le_of_ble_eq_true rfl)⟩) hP hD hS hA (fun r25 u26 H locs hp9 hP hD hS => ?_)
            obtain ⟨y27, h9u⟩ : ∃ z9, z9 = u26 := ⟨_, rfl⟩
            subst h9u
            have hP : va_P D vwCl (MW dA h ad y27) H := hP
            have hD : va_D A (MW dA h ad y27) := hD
            obtain ⟨hp9, f_e_28⟩ := hp9
            replace hp9 : bI ((MS.s_opn (MS.s_signCount y22 (y22.signCount - 1)) (y22.opn - 1)).nx).1 = r25 := Eq.symm hp9
            subst hp9
            refine lv_if_eq hx hb d_M_operator_134 (tgt := 149) rfl (fun g29 => ?_) (fun g29 => ?_)
            · have g29 := bI_0 g29
              refine lv_iconst (v := 0) hx hb d_M_operator_149 (by decide) ?_
              exact rfZ hx hb hr (bI_nar false) hlk hS y27 (by have e9 : x.opr = x.opr2 := (if_neg (fun z9 => z9.elim g3 g13)).trans (if_pos ⟨g14, g19⟩); have e8 : x.opr2 = MS.od3 y22.pop4.nx := (if_pos g24).trans (by rw [f_e_23]); rw [e9, e8, od3_f (show y22.pop4.nx.1 = false from g29)]; exact ⟨rfl, f_e_28⟩) hP hD (Nat.le_of_ble_eq_true rfl) (Nat.le_of_ble_eq_true rfl) d_M_operator_150
            · have g29 := bI_n0 g29
              have d9 : y27.dI := by rw [f_e_28]; exact pop4_nx o1 s1 g29
              refine lv_aload_n hx hb d_M_operator_137 rfl (lv_at hl 1 rfl) ?_
              refine lv_iconst (v := 3) hx hb d_M_operator_138 (by decide) ?_
              refine jfI (rnV (As := [.int 3]) (rest := []) hx hb hml hown hE hK (hN _ _ hS) hP hD (k_doneTo l D dA H.size h ad y27 3 d9 (by decide) (by decide)) (q0 := 0) rfl rfl w1058 w1057 w1059 w1060 w328 rfl rfl ⟨⟨by decide, by decide⟩, rfl⟩ ⟨(Nat.le_of_ble_eq_true rfl), (Nat.le_of_ble_eq_true rfl)⟩ rfl hl.1 rfl (Nat.le_of_ble_eq_true rfl) d_M_operator_139 ⟨(Nat.le_of_ble_eq_true rfl), (Nat.le_of_ble_eq_true rfl)⟩) hP hD hS hA (fun r30 u31 H locs hp9 hP hD hS => ?_)
              obtain ⟨y32, h9u⟩ : ∃ z9, z9 = u31 := ⟨_, rfl⟩
              subst h9u
              have hP : va_P D vwCl (MW dA h ad y32) H := hP
              have hD : va_D A (MW dA h ad y32) := hD
              obtain ⟨hp9, f_e_33⟩ := hp9
              replace hp9 : bI (y27.dt 3).1 = r30 := Eq.symm hp9
              subst hp9
              refine lv_if_eq hx hb d_M_operator_142 (tgt := 149) rfl (fun g34 => ?_) (fun g34 => ?_)
              · have g34 := bI_0 g34
                refine lv_iconst (v := 0) hx hb d_M_operator_149 (by decide) ?_
                exact rfZ hx hb hr (bI_nar false) hlk hS y32 (by have e9 : x.opr = x.opr2 := (if_neg (fun z9 => z9.elim g3 g13)).trans (if_pos ⟨g14, g19⟩); have e8 : x.opr2 = MS.od3 y22.pop4.nx := (if_pos g24).trans (by rw [f_e_23]); rw [e9, e8, od3_t (show y22.pop4.nx.1 = true from g29) f_e_28]; exact ⟨by rw [g34]; rfl, f_e_33⟩) hP hD (Nat.le_of_ble_eq_true rfl) (Nat.le_of_ble_eq_true rfl) d_M_operator_150
              · have g34 := bI_n0 g34
                refine lv_iconst (v := 1) hx hb d_M_operator_145 (by decide) ?_
                refine lv_goto hx hb d_M_operator_146 (tgt := 150) rfl ?_
                exact rfZ hx hb hr (bI_nar true) hlk hS y32 (by have e9 : x.opr = x.opr2 := (if_neg (fun z9 => z9.elim g3 g13)).trans (if_pos ⟨g14, g19⟩); have e8 : x.opr2 = MS.od3 y22.pop4.nx := (if_pos g24).trans (by rw [f_e_23]); rw [e9, e8, od3_t (show y22.pop4.nx.1 = true from g29) f_e_28]; exact ⟨by rw [g34]; rfl, f_e_33⟩) hP hD (Nat.le_of_ble_eq_true rfl) (Nat.le_of_ble_eq_true rfl) d_M_operator_150
          · have g24 := bI_0 g24
            refine lv_iconst (v := 0) hx hb d_M_operator_108 (by decide) ?_
            exact rfZ hx hb hr (bI_nar false) hlk hS y22 (by have e9 : x.opr = x.opr2 := (if_neg (fun z9 => z9.elim g3 g13)).trans (if_pos ⟨g14, g19⟩); have e8 : x.opr2 = (false, (x.dt 1).2) := if_neg (by rw [g24]; decide); rw [e9, e8]; exact ⟨rfl, f_e_23⟩) hP hD (Nat.le_of_ble_eq_true rfl) (Nat.le_of_ble_eq_true rfl) d_M_operator_109
        · have g19 := bI_0 g19
          refine lv_aload_n hx hb d_M_operator_90 rfl (lv_at hl 1 rfl) ?_
          refine lv_iconst (v := 2) hx hb d_M_operator_91 (by decide) ?_
          refine lv_aload_n hx hb d_M_operator_92 rfl (lv_at hl 1 rfl) ?_
          refine gF (v := .int (nI x.frm)) hx hb hown hE hK hP 0 rfl rfl layM 45 (by decide) w464 rfl d_M_operator_93 ?_
          refine jfI (rnV (As := [.int 2, .int (nI x.frm)]) (rest := []) hx hb hml hown hE hK (hN _ _ hS) hP hD (k_flaw_0 l D dA H.size h ad x 2 (nI x.frm) hlx.2.2.2) (q0 := 0) rfl rfl w431 w430 w432 w433 w328 rfl rfl ⟨⟨by decide, by decide⟩, rfl⟩ ⟨(Nat.le_of_ble_eq_true rfl), (Nat.le_of_ble_eq_true rfl)⟩ rfl hl.1 rfl (Nat.le_of_ble_eq_true rfl) d_M_operator_96 ⟨(Nat.le_of_ble_eq_true rfl), (Nat.le_of_ble_eq_true rfl)⟩) hP hD hS hA (fun r35 u36 H locs hp9 hP hD hS => ?_)
          have hP : va_P D vwCl (MW dA h ad (MS.s_faultPlace (MS.s_faultCode x 2) (nI x.frm))) H := hP
          have hD : va_D A (MW dA h ad (MS.s_faultPlace (MS.s_faultCode x 2) (nI x.frm))) := hD
          replace hp9 : bI false = r35 := Eq.symm hp9
          subst hp9
          exact rfZ hx hb hr (bI_nar false) hlk hS (MS.s_faultPlace (MS.s_faultCode x 2) (nI x.frm)) (by have e9 : x.opr = (false, x.flS 2 x.frm) := (if_neg (fun z9 => z9.elim g3 g13)).trans (if_neg (fun z9 => by have z8 := z9.2; rw [g19] at z8; cases z8)); rw [e9]; exact ⟨rfl, rfl⟩) hP hD (Nat.le_of_ble_eq_true rfl) (Nat.le_of_ble_eq_true rfl) d_M_operator_99
    · have g13 := (nI_eq (a := rkN x.kind) (b := 2) (by omega) (by omega)).mp g13
      refine lv_aload_n hx hb d_M_operator_18 rfl (lv_at hl 1 rfl) ?_
      refine lv_iload_n hx hb d_M_operator_19 rfl (lv_at hl 0 rfl) ?_
      refine jfI (rnV (As := [.int (nI (rkN x.kind))]) (rest := []) hx hb hml hown hE hK (hN _ _ hS) hP hD (k_doneTo l D dA H.size h ad x (rkN x.kind) (oI_dI hoi) (show 1 ≤ (rkN x.kind) from by omega) (show (rkN x.kind) ≤ 3 from by omega)) (q0 := 0) rfl rfl w1058 w1057 w1059 w1060 w328 rfl rfl ⟨⟨by decide, by decide⟩, rfl⟩ ⟨(Nat.le_of_ble_eq_true rfl), (Nat.le_of_ble_eq_true rfl)⟩ rfl hl.1 rfl (Nat.le_of_ble_eq_true rfl) d_M_operator_20 ⟨(Nat.le_of_ble_eq_true rfl), (Nat.le_of_ble_eq_true rfl)⟩) hP hD hS hA (fun r37 u38 H locs hp9 hP hD hS => ?_)
      obtain ⟨y39, h9u⟩ : ∃ z9, z9 = u38 := ⟨_, rfl⟩
      subst h9u
      have hP : va_P D vwCl (MW dA h ad y39) H := hP
      have hD : va_D A (MW dA h ad y39) := hD
      obtain ⟨hp9, f_e_40⟩ := hp9
      replace hp9 : bI (x.dt (rkN x.kind)).1 = r37 := Eq.symm hp9
      subst hp9
      refine lv_if_ne hx hb d_M_operator_23 (tgt := 28) rfl (fun g41 => ?_) (fun g41 => ?_)
      · have g41 := bI_n0 g41
        obtain ⟨o1, o2, o3, o4⟩ := dt_oI (v := y39) (by omega) hoi (Prod.ext g41 f_e_40.symm)
        have k0 : 0 ≤ y39.kind := by rw [o3.1]; exact (rkN_c (Or.inr g13)).2.1
        have s26 := sI_26 o1.2.2.2.1
        refine lv_aload_n hx hb d_M_operator_28 rfl (lv_at hl 1 rfl) ?_
        refine gF (v := .ref (ad 66)) hx hb hown hE hK hP 0 rfl rfl layM 66 (by decide) w532 rfl d_M_operator_29 ?_
        refine lv_aload_n hx hb d_M_operator_32 rfl (lv_at hl 1 rfl) ?_
        refine gF (v := .int (nI y39.signCount)) hx hb hown hE hK hP 0 rfl rfl layM 68 (by decide) w477 rfl d_M_operator_33 ?_
        refine lv_aload_n hx hb d_M_operator_36 rfl (lv_at hl 1 rfl) ?_
        refine gF (v := .int y39.kind) hx hb hown hE hK hP 0 rfl rfl layM 44 (by decide) w469 rfl d_M_operator_37 ?_
        refine tpi (y := nI (i2n y39.kind)) (i2n_nI k0) ?_
        refine nistN (v := i2n y39.kind) hx hb hK hP hD hS 33 1 rfl rfl (y39.signCount) (by omega) (by decide) d_M_operator_40 (fun H locs hP hD hS => ?_)
        have hP : va_P D vwCl (MW dA h ad (MS.s_signs y39 (va_up y39.signs y39.signCount (i2n y39.kind)))) H := hP
        have hD : va_D A (MW dA h ad (MS.s_signs y39 (va_up y39.signs y39.signCount (i2n y39.kind)))) := hD
        refine lv_aload_n hx hb d_M_operator_41 rfl (lv_at hl 1 rfl) ?_
        refine gF (v := .ref (ad 67)) hx hb hown hE hK hP 0 rfl rfl layM 67 (by decide) w533 rfl d_M_operator_42 ?_
        refine lv_aload_n hx hb d_M_operator_45 rfl (lv_at hl 1 rfl) ?_
        refine gF (v := .int (nI y39.signCount)) hx hb hown hE hK hP 0 rfl rfl layM 68 (by decide) w477 rfl d_M_operator_46 ?_
        refine lv_aload_n hx hb d_M_operator_49 rfl (lv_at hl 1 rfl) ?_
        refine gF (v := .int (nI y39.frm)) hx hb hown hE hK hP 0 rfl rfl layM 45 (by decide) w464 rfl d_M_operator_50 ?_
        refine nistN (v := y39.frm) hx hb hK hP hD hS 34 1 rfl rfl (y39.signCount) (by omega) (by decide) d_M_operator_53 (fun H locs hP hD hS => ?_)
        have hP : va_P D vwCl (MW dA h ad (MS.s_signPlaces (MS.s_signs y39 (va_up y39.signs y39.signCount (i2n y39.kind))) (va_up y39.signPlaces y39.signCount y39.frm))) H := hP
        have hD : va_D A (MW dA h ad (MS.s_signPlaces (MS.s_signs y39 (va_up y39.signs y39.signCount (i2n y39.kind))) (va_up y39.signPlaces y39.signCount y39.frm))) := hD
        refine lv_aload_n hx hb d_M_operator_54 rfl (lv_at hl 1 rfl) ?_
        refine lv_dup hx hb d_M_operator_55 rfl ?_
        refine gF (v := .int (nI y39.signCount)) hx hb hown hE hK hP 0 rfl rfl layM 68 (by decide) w477 rfl d_M_operator_56 ?_
        refine lv_iconst (v := 1) hx hb d_M_operator_59 (by decide) ?_
        refine lv_iadd hx hb d_M_operator_60 (tpi (y := nI (y39.signCount + 1)) (nI_add (y39.signCount) (1)) ?_)
        refine pF (v := .int (nI (y39.signCount + 1))) hx hb hown hE hK hP hD hS 0 rfl rfl layM tyM tokM nmM 68 (by decide) w477 rfl rfl rfl (Nat.le_of_ble_eq_true rfl) d_M_operator_61 (fun H locs hP hD hS => ?_)
        have hP : va_P D vwCl (MW dA h ad (MS.s_signCount (MS.s_signPlaces (MS.s_signs y39 (va_up y39.signs y39.signCount (i2n y39.kind))) (va_up y39.signPlaces y39.signCount y39.frm)) (y39.signCount + 1))) H := hP
        have hD : va_D A (MW dA h ad (MS.s_signCount (MS.s_signPlaces (MS.s_signs y39 (va_up y39.signs y39.signCount (i2n y39.kind))) (va_up y39.signPlaces y39.signCount y39.frm)) (y39.signCount + 1))) := hD
        refine lv_aload_n hx hb d_M_operator_64 rfl (lv_at hl 1 rfl) ?_
        refine lv_iconst (v := 1) hx hb d_M_operator_65 (by decide) ?_
        refine pF (v := .int (bI true)) hx hb hown hE hK hP hD hS 0 rfl rfl layM tyM tokM nmM 70 (by decide) w470 rfl (bI_nar true) (bI_fit true) (Nat.le_of_ble_eq_true rfl) d_M_operator_66 (fun H locs hP hD hS => ?_)
        have hP : va_P D vwCl (MW dA h ad (MS.s_wants (MS.s_signCount (MS.s_signPlaces (MS.s_signs y39 (va_up y39.signs y39.signCount (i2n y39.kind))) (va_up y39.signPlaces y39.signCount y39.frm)) (y39.signCount + 1)) true)) H := hP
        have hD : va_D A (MW dA h ad (MS.s_wants (MS.s_signCount (MS.s_signPlaces (MS.s_signs y39 (va_up y39.signs y39.signCount (i2n y39.kind))) (va_up y39.signPlaces y39.signCount y39.frm)) (y39.signCount + 1)) true)) := hD
        refine lv_aload_n hx hb d_M_operator_69 rfl (lv_at hl 1 rfl) ?_
        refine jfI (rnV (As := []) (rest := []) hx hb hml hown hE hK (hN _ _ hS) hP hD (k_next l D dA H.size h ad (MS.s_wants (MS.s_signCount (MS.s_signPlaces (MS.s_signs y39 (va_up y39.signs y39.signCount (i2n y39.kind))) (va_up y39.signPlaces y39.signCount y39.frm)) (y39.signCount + 1)) true) o1.1.1 o1.1.2.2.1 o1.1.2.2.2) (q0 := 0) rfl rfl w480 w479 w481 w482 w328 rfl rfl ⟨⟨by decide, by decide⟩, rfl⟩ ⟨(Nat.le_of_ble_eq_true rfl), (Nat.le_of_ble_eq_true rfl)⟩ rfl hl.1 rfl (Nat.le_of_ble_eq_true rfl) d_M_operator_70 ⟨(Nat.le_of_ble_eq_true rfl), (Nat.le_of_ble_eq_true rfl)⟩) hP hD hS hA (fun r42 u43 H locs hp9 hP hD hS => ?_)
        obtain ⟨y44, h9u⟩ : ∃ z9, z9 = u43 := ⟨_, rfl⟩
        subst h9u
        have hP : va_P D vwCl (MW dA h ad y44) H := hP
        have hD : va_D A (MW dA h ad y44) := hD
        obtain ⟨hp9, f_e_45⟩ := hp9
        replace hp9 : bI ((MS.s_wants (MS.s_signCount (MS.s_signPlaces (MS.s_signs y39 (va_up y39.signs y39.signCount (i2n y39.kind))) (va_up y39.signPlaces y39.signCount y39.frm)) (y39.signCount + 1)) true).nx).1 = r42 := Eq.symm hp9
        subst hp9
        exact rfZ hx hb hr (bI_nar (((MS.s_wants (MS.s_signCount (MS.s_signPlaces (MS.s_signs y39 (va_up y39.signs y39.signCount (i2n y39.kind))) (va_up y39.signPlaces y39.signCount y39.frm)) (y39.signCount + 1)) true).nx).1)) hlk hS y44 (by have e9 : x.opr = x.opr1 (rkN x.kind) := if_pos (Or.inr g13); have e8 : x.opr1 (rkN x.kind) = y39.psh.nx := (if_pos g41).trans (by rw [f_e_40]); rw [e9, e8]; exact ⟨rfl, f_e_45⟩) hP hD (Nat.le_of_ble_eq_true rfl) (Nat.le_of_ble_eq_true rfl) d_M_operator_73
      · have g41 := bI_0 g41
        refine lv_iconst (v := 0) hx hb d_M_operator_26 (by decide) ?_
        exact rfZ hx hb hr (bI_nar false) hlk hS y39 (by have e9 : x.opr = x.opr1 (rkN x.kind) := if_pos (Or.inr g13); have e8 : x.opr1 (rkN x.kind) = (false, (x.dt (rkN x.kind)).2) := if_neg (by rw [g41]; decide); rw [e9, e8]; exact ⟨rfl, f_e_40⟩) hP hD (Nat.le_of_ble_eq_true rfl) (Nat.le_of_ble_eq_true rfl) d_M_operator_27
