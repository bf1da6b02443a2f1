theorem d_M_record_0 : decode prog_14_method_11_code 0 = .ok (.aload_n 0, 1) := by decide +kernel
theorem d_M_record_1 : decode prog_14_method_11_code 1 = .ok (.getfield 191, 3) := by decide +kernel
theorem d_M_record_4 : decode prog_14_method_11_code 4 = .ok (.iload 7, 2) := by decide +kernel
theorem d_M_record_6 : decode prog_14_method_11_code 6 = .ok (.iadd, 1) := by decide +kernel
theorem d_M_record_7 : decode prog_14_method_11_code 7 = .ok (.bipush 126, 2) := by decide +kernel
theorem d_M_record_9 : decode prog_14_method_11_code 9 = .ok (.if_icmp .le 27, 3) := by decide +kernel
theorem d_M_record_36 : decode prog_14_method_11_code 36 = .ok (.aload_n 0, 1) := by decide +kernel
theorem d_M_record_37 : decode prog_14_method_11_code 37 = .ok (.getfield 67, 3) := by decide +kernel
theorem d_M_record_40 : decode prog_14_method_11_code 40 = .ok (.aload_n 0, 1) := by decide +kernel
theorem d_M_record_41 : decode prog_14_method_11_code 41 = .ok (.getfield 182, 3) := by decide +kernel
theorem d_M_record_44 : decode prog_14_method_11_code 44 = .ok (.iload_n 1, 1) := by decide +kernel
theorem d_M_record_45 : decode prog_14_method_11_code 45 = .ok (.i2b, 1) := by decide +kernel
theorem d_M_record_46 : decode prog_14_method_11_code 46 = .ok (.bastore, 1) := by decide +kernel
theorem d_M_record_47 : decode prog_14_method_11_code 47 = .ok (.aload_n 0, 1) := by decide +kernel
theorem d_M_record_48 : decode prog_14_method_11_code 48 = .ok (.getfield 70, 3) := by decide +kernel
theorem d_M_record_51 : decode prog_14_method_11_code 51 = .ok (.aload_n 0, 1) := by decide +kernel
theorem d_M_record_52 : decode prog_14_method_11_code 52 = .ok (.getfield 182, 3) := by decide +kernel
theorem d_M_record_55 : decode prog_14_method_11_code 55 = .ok (.iload_n 2, 1) := by decide +kernel
theorem d_M_record_56 : decode prog_14_method_11_code 56 = .ok (.iastore, 1) := by decide +kernel
theorem d_M_record_57 : decode prog_14_method_11_code 57 = .ok (.aload_n 0, 1) := by decide +kernel
theorem d_M_record_58 : decode prog_14_method_11_code 58 = .ok (.getfield 73, 3) := by decide +kernel
theorem d_M_record_61 : decode prog_14_method_11_code 61 = .ok (.aload_n 0, 1) := by decide +kernel
theorem d_M_record_62 : decode prog_14_method_11_code 62 = .ok (.getfield 182, 3) := by decide +kernel
theorem d_M_record_65 : decode prog_14_method_11_code 65 = .ok (.lload_n 3, 1) := by decide +kernel
theorem d_M_record_66 : decode prog_14_method_11_code 66 = .ok (.lastore, 1) := by decide +kernel
theorem d_M_record_67 : decode prog_14_method_11_code 67 = .ok (.aload_n 0, 1) := by decide +kernel
theorem d_M_record_68 : decode prog_14_method_11_code 68 = .ok (.getfield 76, 3) := by decide +kernel
theorem d_M_record_71 : decode prog_14_method_11_code 71 = .ok (.aload_n 0, 1) := by decide +kernel
theorem d_M_record_72 : decode prog_14_method_11_code 72 = .ok (.getfield 182, 3) := by decide +kernel
theorem d_M_record_75 : decode prog_14_method_11_code 75 = .ok (.lload 5, 2) := by decide +kernel
theorem d_M_record_77 : decode prog_14_method_11_code 77 = .ok (.lastore, 1) := by decide +kernel
theorem d_M_record_78 : decode prog_14_method_11_code 78 = .ok (.aload_n 0, 1) := by decide +kernel
theorem d_M_record_79 : decode prog_14_method_11_code 79 = .ok (.getfield 79, 3) := by decide +kernel
theorem d_M_record_82 : decode prog_14_method_11_code 82 = .ok (.aload_n 0, 1) := by decide +kernel
theorem d_M_record_83 : decode prog_14_method_11_code 83 = .ok (.getfield 182, 3) := by decide +kernel
theorem d_M_record_86 : decode prog_14_method_11_code 86 = .ok (.iload 7, 2) := by decide +kernel
theorem d_M_record_88 : decode prog_14_method_11_code 88 = .ok (.iastore, 1) := by decide +kernel
theorem d_M_record_89 : decode prog_14_method_11_code 89 = .ok (.aload_n 0, 1) := by decide +kernel
theorem d_M_record_90 : decode prog_14_method_11_code 90 = .ok (.getfield 82, 3) := by decide +kernel
theorem d_M_record_93 : decode prog_14_method_11_code 93 = .ok (.aload_n 0, 1) := by decide +kernel
theorem d_M_record_94 : decode prog_14_method_11_code 94 = .ok (.getfield 182, 3) := by decide +kernel
theorem d_M_record_97 : decode prog_14_method_11_code 97 = .ok (.aload_n 0, 1) := by decide +kernel
theorem d_M_record_98 : decode prog_14_method_11_code 98 = .ok (.getfield 188, 3) := by decide +kernel
theorem d_M_record_101 : decode prog_14_method_11_code 101 = .ok (.iastore, 1) := by decide +kernel
theorem d_M_record_102 : decode prog_14_method_11_code 102 = .ok (.aload_n 0, 1) := by decide +kernel
theorem d_M_record_103 : decode prog_14_method_11_code 103 = .ok (.dup, 1) := by decide +kernel
theorem d_M_record_104 : decode prog_14_method_11_code 104 = .ok (.getfield 182, 3) := by decide +kernel
theorem d_M_record_107 : decode prog_14_method_11_code 107 = .ok (.iconst 1, 1) := by decide +kernel
theorem d_M_record_108 : decode prog_14_method_11_code 108 = .ok (.iadd, 1) := by decide +kernel
theorem d_M_record_109 : decode prog_14_method_11_code 109 = .ok (.putfield 182, 3) := by decide +kernel
theorem d_M_record_112 : decode prog_14_method_11_code 112 = .ok (.aload_n 0, 1) := by decide +kernel
theorem d_M_record_113 : decode prog_14_method_11_code 113 = .ok (.dup, 1) := by decide +kernel
theorem d_M_record_114 : decode prog_14_method_11_code 114 = .ok (.getfield 191, 3) := by decide +kernel
theorem d_M_record_117 : decode prog_14_method_11_code 117 = .ok (.iload 7, 2) := by decide +kernel
theorem d_M_record_119 : decode prog_14_method_11_code 119 = .ok (.iadd, 1) := by decide +kernel
theorem d_M_record_120 : decode prog_14_method_11_code 120 = .ok (.putfield 191, 3) := by decide +kernel
theorem d_M_record_123 : decode prog_14_method_11_code 123 = .ok (.aload_n 0, 1) := by decide +kernel
theorem d_M_record_124 : decode prog_14_method_11_code 124 = .ok (.iconst 1, 1) := by decide +kernel
theorem d_M_record_125 : decode prog_14_method_11_code 125 = .ok (.putfield 194, 3) := by decide +kernel
theorem d_M_record_128 : decode prog_14_method_11_code 128 = .ok (.iconst 1, 1) := by decide +kernel
theorem d_M_record_129 : decode prog_14_method_11_code 129 = .ok (.ireturn, 1) := by decide +kernel
theorem d_M_record_12 : decode prog_14_method_11_code 12 = .ok (.aload_n 0, 1) := by decide +kernel
theorem d_M_record_13 : decode prog_14_method_11_code 13 = .ok (.invokevirtual 204, 3) := by decide +kernel
theorem d_M_record_16 : decode prog_14_method_11_code 16 = .ok (.ifCond .ne 5, 3) := by decide +kernel
theorem d_M_record_21 : decode prog_14_method_11_code 21 = .ok (.aload_n 0, 1) := by decide +kernel
theorem d_M_record_22 : decode prog_14_method_11_code 22 = .ok (.dup, 1) := by decide +kernel
theorem d_M_record_23 : decode prog_14_method_11_code 23 = .ok (.getfield 188, 3) := by decide +kernel
theorem d_M_record_26 : decode prog_14_method_11_code 26 = .ok (.iconst 1, 1) := by decide +kernel
theorem d_M_record_27 : decode prog_14_method_11_code 27 = .ok (.iadd, 1) := by decide +kernel
theorem d_M_record_28 : decode prog_14_method_11_code 28 = .ok (.putfield 188, 3) := by decide +kernel
theorem d_M_record_31 : decode prog_14_method_11_code 31 = .ok (.aload_n 0, 1) := by decide +kernel
theorem d_M_record_32 : decode prog_14_method_11_code 32 = .ok (.iconst 0, 1) := by decide +kernel
theorem d_M_record_33 : decode prog_14_method_11_code 33 = .ok (.putfield 191, 3) := by decide +kernel
set_option maxHeartbeats 4000000 in
set_option maxRecDepth 100000 in
theorem k_record (l : Launch) (D : va_G) (dA : Nat → ClassId) (sz : Nat) (h : Nat) (ad : Nat → Nat) (x : MS) (kd : Int32) (w : Nat) (a : Int64) (b : Int64) (n : Nat) (hkd : kd.toInt8.toInt32 = kd) (h1 : x.records < 32000) (h2 : x.used + n < 2 ^ 31) (h3 : x.block < 2 ^ 30) (hw : x.used + n ≤ 126 ∨ x.fresh = false ∨ ¬ x.cutLeft = 0) : Met l ⟨"SeriesVaultModel", "record", "(IIJJI)Z"⟩ [Cond.code ⟨"SeriesVaultModel", "record", "(IIJJI)Z"⟩ prog_14_method_11_code 8 (some FieldType.boolean)] { frames := 3, cells := 0, slots := 0, locals := 40 } (pC D dA [.ref h, .int kd, .int (nI w), .long a, .long b, .int (nI n)] (MW dA h ad x) sz) (va_Qi (fun (r9 : Int32) (u9 : Unit) => r9 = bI true) (fun (u9 : Unit) t9 => bW D (va_A (MW dA h ad x) sz) (MW dA h ad (MS.s_fresh (MS.s_used (MS.s_block (MS.s_kept (MS.s_records (MS.s_recordBlocks (MS.s_units (MS.s_seconds (MS.s_firsts (MS.s_recordSeries (MS.s_kinds (MS.s_written (MS.s_cutLeft x (x.rCut n)) (x.rWr n)) (va_up x.kinds x.records kd)) (va_up x.recordSeries x.records w)) (va_up x.firsts x.records a)) (va_up x.seconds x.records b)) (va_up x.units x.records n)) (va_up x.recordBlocks x.records (x.rBlock n))) (x.records + 1)) (x.rKept n)) (x.rBlock n)) (x.rUsed n)) true)) t9) (va_A (MW dA h ad x) sz)) 0 0 (va_A (MW dA h ad x) sz) := by
  refine mkC (y := ⟨"SeriesVaultModel", "record", "(IIJJI)Z"⟩) (cc := prog_14_method_11_code) (maxL := 8) (av := [.ref h, .int kd, .int (nI w), .long a, .long b, .int (nI n)]) (ws := MW dA h ad x) (sz := sz) (Qc := fun A => va_Qi (fun (r9 : Int32) (u9 : Unit) => r9 = bI true) (fun (u9 : Unit) t9 => bW D A (MW dA h ad (MS.s_fresh (MS.s_used (MS.s_block (MS.s_kept (MS.s_records (MS.s_recordBlocks (MS.s_units (MS.s_seconds (MS.s_firsts (MS.s_recordSeries (MS.s_kinds (MS.s_written (MS.s_cutLeft x (x.rCut n)) (x.rWr n)) (va_up x.kinds x.records kd)) (va_up x.recordSeries x.records w)) (va_up x.firsts x.records a)) (va_up x.seconds x.records b)) (va_up x.units x.records n)) (va_up x.recordBlocks x.records (x.rBlock n))) (x.records + 1)) (x.rKept n)) (x.rBlock n)) (x.rUsed n)) true)) t9) A) (by decide) (Nat.le_of_ble_eq_true rfl) ?_
  intro A p e s m below meth c ls hsz hB
  obtain ⟨hx, hb, hr, hml, hown, hin, hlk, hE, hK, hP, hD, hS, hA, hN, hl⟩ := hB
  have hown : s.vm.findClass "SeriesVaultModel" = some m.cls := hown
  have hl : lv_has ls 8 [(0, .ref h), (1, .int kd), (2, .int (nI w)), (3, .long a), (5, .long b), (7, .int (nI n))] := hl
  obtain ⟨H, hH⟩ : ∃ z, z = s.heap := ⟨_, rfl⟩
  have hP : va_P D vwCl (MW dA h ad x) H := by rw [hH]; exact hP
  have hS : va_S A s.heap H [] := by rw [hH]; exact hS
  rw [← hH]
  refine lv_aload_n hx hb d_M_record_0 rfl (lv_at hl 0 rfl) ?_
  refine gF (v := .int (nI x.used)) hx hb hown hE hK hP 0 rfl rfl layM 40 (by decide) w424 rfl d_M_record_1 ?_
  refine lv_iload hx hb d_M_record_4 (lv_at hl 5 rfl) ?_
  refine lv_iadd hx hb d_M_record_6 (tpi (y := nI (x.used + n)) (nI_add (x.used) (n)) ?_)
  refine lv_bipush (v := 126) hx hb d_M_record_7 (by decide) ?_
  refine lv_icmp_le hx hb d_M_record_9 (tgt := 36) rfl (fun g1 => ?_) (fun g1 => ?_)
  · have g1 := (nI_leI (a := x.used + n) (b := 126) (by omega) (by omega)).mp g1
    refine lv_aload_n hx hb d_M_record_36 rfl (lv_at hl 0 rfl) ?_
    refine gF (v := .ref (ad 31)) hx hb hown hE hK hP 0 rfl rfl layM 31 (by decide) w511 rfl d_M_record_37 ?_
    refine lv_aload_n hx hb d_M_record_40 rfl (lv_at hl 0 rfl) ?_
    refine gF (v := .int (nI x.records)) hx hb hown hE hK hP 0 rfl rfl layM 37 (by decide) w338 rfl d_M_record_41 ?_
    refine lv_iload_n hx hb d_M_record_44 rfl (lv_at hl 1 rfl) ?_
    refine lv_i2b hx hb d_M_record_45 rfl ?_
    refine nbst hx hb hK hP hD hS 14 0 rfl rfl (x.records) (by omega) (by decide) kd (by rw [pk_vb]; exact hkd) d_M_record_46 (fun H locs hP hD hS => ?_)
    have hP : va_P D vwCl (MW dA h ad (MS.s_kinds x (va_up x.kinds x.records kd))) H := hP
    have hD : va_D A (MW dA h ad (MS.s_kinds x (va_up x.kinds x.records kd))) := hD
    refine lv_aload_n hx hb d_M_record_47 rfl (lv_at hl 0 rfl) ?_
    refine gF (v := .ref (ad 32)) hx hb hown hE hK hP 0 rfl rfl layM 32 (by decide) w512 rfl d_M_record_48 ?_
    refine lv_aload_n hx hb d_M_record_51 rfl (lv_at hl 0 rfl) ?_
    refine gF (v := .int (nI x.records)) hx hb hown hE hK hP 0 rfl rfl layM 37 (by decide) w338 rfl d_M_record_52 ?_
    refine lv_iload_n hx hb d_M_record_55 rfl (lv_at hl 2 rfl) ?_
    refine nistN (v := w) hx hb hK hP hD hS 15 1 rfl rfl (x.records) (by omega) (by decide) d_M_record_56 (fun H locs hP hD hS => ?_)
    have hP : va_P D vwCl (MW dA h ad (MS.s_recordSeries (MS.s_kinds x (va_up x.kinds x.records kd)) (va_up x.recordSeries x.records w))) H := hP
    have hD : va_D A (MW dA h ad (MS.s_recordSeries (MS.s_kinds x (va_up x.kinds x.records kd)) (va_up x.recordSeries x.records w))) := hD
    refine lv_aload_n hx hb d_M_record_57 rfl (lv_at hl 0 rfl) ?_
    refine gF (v := .ref (ad 33)) hx hb hown hE hK hP 0 rfl rfl layM 33 (by decide) w513 rfl d_M_record_58 ?_
    refine lv_aload_n hx hb d_M_record_61 rfl (lv_at hl 0 rfl) ?_
    refine gF (v := .int (nI x.records)) hx hb hown hE hK hP 0 rfl rfl layM 37 (by decide) w338 rfl d_M_record_62 ?_
    refine lv_lload_n hx hb d_M_record_65 rfl (lv_at hl 3 rfl) ?_
    refine nlst hx hb hK hP hD hS 16 2 rfl rfl (x.records) (by omega) (by decide) d_M_record_66 (fun H locs hP hD hS => ?_)
    have hP : va_P D vwCl (MW dA h ad (MS.s_firsts (MS.s_recordSeries (MS.s_kinds x (va_up x.kinds x.records kd)) (va_up x.recordSeries x.records w)) (va_up x.firsts x.records a))) H := hP
    have hD : va_D A (MW dA h ad (MS.s_firsts (MS.s_recordSeries (MS.s_kinds x (va_up x.kinds x.records kd)) (va_up x.recordSeries x.records w)) (va_up x.firsts x.records a))) := hD
    refine lv_aload_n hx hb d_M_record_67 rfl (lv_at hl 0 rfl) ?_
    refine gF (v := .ref (ad 34)) hx hb hown hE hK hP 0 rfl rfl layM 34 (by decide) w514 rfl d_M_record_68 ?_
    refine lv_aload_n hx hb d_M_record_71 rfl (lv_at hl 0 rfl) ?_
    refine gF (v := .int (nI x.records)) hx hb hown hE hK hP 0 rfl rfl layM 37 (by decide) w338 rfl d_M_record_72 ?_
    refine lv_lload hx hb d_M_record_75 (lv_at hl 4 rfl) ?_
    refine nlst hx hb hK hP hD hS 17 2 rfl rfl (x.records) (by omega) (by decide) d_M_record_77 (fun H locs hP hD hS => ?_)
    have hP : va_P D vwCl (MW dA h ad (MS.s_seconds (MS.s_firsts (MS.s_recordSeries (MS.s_kinds x (va_up x.kinds x.records kd)) (va_up x.recordSeries x.records w)) (va_up x.firsts x.records a)) (va_up x.seconds x.records b))) H := hP
    have hD : va_D A (MW dA h ad (MS.s_seconds (MS.s_firsts (MS.s_recordSeries (MS.s_kinds x (va_up x.kinds x.records kd)) (va_up x.recordSeries x.records w)) (va_up x.firsts x.records a)) (va_up x.seconds x.records b))) := hD
    refine lv_aload_n hx hb d_M_record_78 rfl (lv_at hl 0 rfl) ?_
    refine gF (v := .ref (ad 35)) hx hb hown hE hK hP 0 rfl rfl layM 35 (by decide) w515 rfl d_M_record_79 ?_
    refine lv_aload_n hx hb d_M_record_82 rfl (lv_at hl 0 rfl) ?_
    refine gF (v := .int (nI x.records)) hx hb hown hE hK hP 0 rfl rfl layM 37 (by decide) w338 rfl d_M_record_83 ?_
    refine lv_iload hx hb d_M_record_86 (lv_at hl 5 rfl) ?_
    refine nistN (v := n) hx hb hK hP hD hS 18 1 rfl rfl (x.records) (by omega) (by decide) d_M_record_88 (fun H locs hP hD hS => ?_)
    have hP : va_P D vwCl (MW dA h ad (MS.s_units (MS.s_seconds (MS.s_firsts (MS.s_recordSeries (MS.s_kinds x (va_up x.kinds x.records kd)) (va_up x.recordSeries x.records w)) (va_up x.firsts x.records a)) (va_up x.seconds x.records b)) (va_up x.units x.records n))) H := hP
    have hD : va_D A (MW dA h ad (MS.s_units (MS.s_seconds (MS.s_firsts (MS.s_recordSeries (MS.s_kinds x (va_up x.kinds x.records kd)) (va_up x.recordSeries x.records w)) (va_up x.firsts x.records a)) (va_up x.seconds x.records b)) (va_up x.units x.records n))) := hD
    refine lv_aload_n hx hb d_M_record_89 rfl (lv_at hl 0 rfl) ?_
    refine gF (v := .ref (ad 36)) hx hb hown hE hK hP 0 rfl rfl layM 36 (by decide) w516 rfl d_M_record_90 ?_
    refine lv_aload_n hx hb d_M_record_93 rfl (lv_at hl 0 rfl) ?_
    refine gF (v := .int (nI x.records)) hx hb hown hE hK hP 0 rfl rfl layM 37 (by decide) w338 rfl d_M_record_94 ?_
    refine lv_aload_n hx hb d_M_record_97 rfl (lv_at hl 0 rfl) ?_
    refine gF (v := .int (nI x.block)) hx hb hown hE hK hP 0 rfl rfl layM 39 (by decide) w423 rfl d_M_record_98 ?_
    refine nistN (v := x.block) hx hb hK hP hD hS 19 1 rfl rfl (x.records) (by omega) (by decide) d_M_record_101 (fun H locs hP hD hS => ?_)
    have hP : va_P D vwCl (MW dA h ad (MS.s_recordBlocks (MS.s_units (MS.s_seconds (MS.s_firsts (MS.s_recordSeries (MS.s_kinds x (va_up x.kinds x.records kd)) (va_up x.recordSeries x.records w)) (va_up x.firsts x.records a)) (va_up x.seconds x.records b)) (va_up x.units x.records n)) (va_up x.recordBlocks x.records x.block))) H := hP
    have hD : va_D A (MW dA h ad (MS.s_recordBlocks (MS.s_units (MS.s_seconds (MS.s_firsts (MS.s_recordSeries (MS.s_kinds x (va_up x.kinds x.records kd)) (va_up x.recordSeries x.records w)) (va_up x.firsts x.records a)) (va_up x.seconds x.records b)) (va_up x.units x.records n)) (va_up x.recordBlocks x.records x.block))) := hD
    refine lv_aload_n hx hb d_M_record_102 rfl (lv_at hl 0 rfl) ?_
    refine lv_dup hx hb d_M_record_103 rfl ?_
    refine gF (v := .int (nI x.records)) hx hb hown hE hK hP 0 rfl rfl layM 37 (by decide) w338 rfl d_M_record_104 ?_
    refine lv_iconst (v := 1) hx hb d_M_record_107 (by decide) ?_
    refine lv_iadd hx hb d_M_record_108 (tpi (y := nI (x.records + 1)) (nI_add (x.records) (1)) ?_)
    refine pF (v := .int (nI (x.records + 1))) hx hb hown hE hK hP hD hS 0 rfl rfl layM tyM tokM nmM 37 (by decide) w338 rfl rfl rfl (Nat.le_of_ble_eq_true rfl) d_M_record_109 (fun H locs hP hD hS => ?_)
    have hP : va_P D vwCl (MW dA h ad (MS.s_records (MS.s_recordBlocks (MS.s_units (MS.s_seconds (MS.s_firsts (MS.s_recordSeries (MS.s_kinds x (va_up x.kinds x.records kd)) (va_up x.recordSeries x.records w)) (va_up x.firsts x.records a)) (va_up x.seconds x.records b)) (va_up x.units x.records n)) (va_up x.recordBlocks x.records x.block)) (x.records + 1))) H := hP
    have hD : va_D A (MW dA h ad (MS.s_records (MS.s_recordBlocks (MS.s_units (MS.s_seconds (MS.s_firsts (MS.s_recordSeries (MS.s_kinds x (va_up x.kinds x.records kd)) (va_up x.recordSeries x.records w)) (va_up x.firsts x.records a)) (va_up x.seconds x.records b)) (va_up x.units x.records n)) (va_up x.recordBlocks x.records x.block)) (x.records + 1))) := hD
    refine lv_aload_n hx hb d_M_record_112 rfl (lv_at hl 0 rfl) ?_
    refine lv_dup hx hb d_M_record_113 rfl ?_
    refine gF (v := .int (nI x.used)) hx hb hown hE hK hP 0 rfl rfl layM 40 (by decide) w424 rfl d_M_record_114 ?_
    refine lv_iload hx hb d_M_record_117 (lv_at hl 5 rfl) ?_
    refine lv_iadd hx hb d_M_record_119 (tpi (y := nI (x.used + n)) (nI_add (x.used) (n)) ?_)
    refine pF (v := .int (nI (x.used + n))) hx hb hown hE hK hP hD hS 0 rfl rfl layM tyM tokM nmM 40 (by decide) w424 rfl rfl rfl (Nat.le_of_ble_eq_true rfl) d_M_record_120 (fun H locs hP hD hS => ?_)
    have hP : va_P D vwCl (MW dA h ad (MS.s_used (MS.s_records (MS.s_recordBlocks (MS.s_units (MS.s_seconds (MS.s_firsts (MS.s_recordSeries (MS.s_kinds x (va_up x.kinds x.records kd)) (va_up x.recordSeries x.records w)) (va_up x.firsts x.records a)) (va_up x.seconds x.records b)) (va_up x.units x.records n)) (va_up x.recordBlocks x.records x.block)) (x.records + 1)) (x.used + n))) H := hP
    have hD : va_D A (MW dA h ad (MS.s_used (MS.s_records (MS.s_recordBlocks (MS.s_units (MS.s_seconds (MS.s_firsts (MS.s_recordSeries (MS.s_kinds x (va_up x.kinds x.records kd)) (va_up x.recordSeries x.records w)) (va_up x.firsts x.records a)) (va_up x.seconds x.records b)) (va_up x.units x.records n)) (va_up x.recordBlocks x.records x.block)) (x.records + 1)) (x.used + n))) := hD
    refine lv_aload_n hx hb d_M_record_123 rfl (lv_at hl 0 rfl) ?_
    refine lv_iconst (v := 1) hx hb d_M_record_124 (by decide) ?_
    refine pF (v := .int (bI true)) hx hb hown hE hK hP hD hS 0 rfl rfl layM tyM tokM nmM 41 (by decide) w337 rfl (bI_nar true) (bI_fit true) (Nat.le_of_ble_eq_true rfl) d_M_record_125 (fun H locs hP hD hS => ?_)
    have hP : va_P D vwCl (MW dA h ad (MS.s_fresh (MS.s_used (MS.s_records (MS.s_recordBlocks (MS.s_units (MS.s_seconds (MS.s_firsts (MS.s_recordSeries (MS.s_kinds x (va_up x.kinds x.records kd)) (va_up x.recordSeries x.records w)) (va_up x.firsts x.records a)) (va_up x.seconds x.records b)) (va_up x.units x.records n)) (va_up x.recordBlocks x.records x.block)) (x.records + 1)) (x.used + n)) true)) H := hP
    have hD : va_D A (MW dA h ad (MS.s_fresh (MS.s_used (MS.s_records (MS.s_recordBlocks (MS.s_units (MS.s_seconds (MS.s_firsts (MS.s_recordSeries (MS.s_kinds x (va_up x.kinds x.records kd)) (va_up x.recordSeries x.records w)) (va_up x.firsts x.records a)) (va_up x.seconds x.records b)) (va_up x.units x.records n)) (va_up x.recordBlocks x.records x.block)) (x.records + 1)) (x.used + n)) true)) := hD
    refine lv_iconst (v := 1) hx hb d_M_record_128 (by decide) ?_
    have e9 : (MS.s_fresh (MS.s_used (MS.s_records (MS.s_recordBlocks (MS.s_units (MS.s_seconds (MS.s_firsts (MS.s_recordSeries (MS.s_kinds x (va_up x.kinds x.records kd)) (va_up x.recordSeries x.records w)) (va_up x.firsts x.records a)) (va_up x.seconds x.records b)) (va_up x.units x.records n)) (va_up x.recordBlocks x.records x.block)) (x.records + 1)) (x.used + n)) true : MS) = MS.s_fresh (MS.s_used (MS.s_block (MS.s_kept (MS.s_records (MS.s_recordBlocks (MS.s_units (MS.s_seconds (MS.s_firsts (MS.s_recordSeries (MS.s_kinds (MS.s_written (MS.s_cutLeft x (x.rCut n)) (x.rWr n)) (va_up x.kinds x.records kd)) (va_up x.recordSeries x.records w)) (va_up x.firsts x.records a)) (va_up x.seconds x.records b)) (va_up x.units x.records n)) (va_up x.recordBlocks x.records (x.rBlock n))) (x.records + 1)) (x.rKept n)) (x.rBlock n)) (x.rUsed n)) true := by rw [show (va_up x.recordBlocks x.records (x.rBlock n)) = (va_up x.recordBlocks x.records x.block) from by simp [MS.rBlock, MS.rUsed, MS.rCut, MS.rWr, MS.rKept, *], show (x.rBlock n) = x.block from by simp [MS.rBlock, MS.rUsed, MS.rCut, MS.rWr, MS.rKept, *], show (x.rKept n) = x.kept from by simp [MS.rBlock, MS.rUsed, MS.rCut, MS.rWr, MS.rKept, *], show (x.rUsed n) = (x.used + n) from by simp [MS.rBlock, MS.rUsed, MS.rCut, MS.rWr, MS.rKept, *], show (x.rCut n) = x.cutLeft from by simp [MS.rBlock, MS.rUsed, MS.rCut, MS.rWr, MS.rKept, *], show (x.rWr n) = x.written from by simp [MS.rBlock, MS.rUsed, MS.rCut, MS.rWr, MS.rKept, *]] <;> rfl
    exact rfZ hx hb hr (bI_nar true) hlk hS () rfl (cvP e9 hP) (cvD e9 hD) (Nat.le_of_ble_eq_true rfl) (Nat.le_of_ble_eq_true rfl) d_M_record_129
  · have g1 := mt (nI_leI (a := x.used + n) (b := 126) (by omega) (by omega)).mpr g1
    refine lv_aload_n hx hb d_M_record_12 rfl (lv_at hl 0 rfl) ?_
    rcases (show x.fresh = false ∨ (x.fresh = true ∧ ¬ x.cutLeft = 0) from by cases hf9 : x.fresh <;> simp_all) with z1 | ⟨z1, z2⟩
    · refine jfI (rnV (As := []) (rest := []) hx hb hml hown hE hK (hN _ _ hS) hP hD (k_synced_0 l D dA H.size h ad x z1) (q0 := 0) rfl rfl w341 w340 w342 w343 w328 rfl rfl ⟨⟨by decide, by decide⟩, rfl⟩ ⟨(Nat.le_of_ble_eq_true rfl), (Nat.le_of_ble_eq_true rfl)⟩ rfl hl.1 rfl (Nat.le_of_ble_eq_true rfl) d_M_record_13 ⟨(Nat.le_of_ble_eq_true rfl), (Nat.le_of_ble_eq_true rfl)⟩) hP hD hS hA (fun r2 u3 H locs hp9 hP hD hS => ?_)
      have hP : va_P D vwCl (MW dA h ad (MS.s_fresh (MS.s_kept x x.records) false)) H := hP
      have hD : va_D A (MW dA h ad (MS.s_fresh (MS.s_kept x x.records) false)) := hD
      replace hp9 : bI true = r2 := Eq.symm hp9
      subst hp9
      refine lv_if_ne hx hb d_M_record_16 (tgt := 21) rfl (fun _ => ?_) (fun h9 => absurd h9 (by decide))
      refine lv_aload_n hx hb d_M_record_21 rfl (lv_at hl 0 rfl) ?_
      refine lv_dup hx hb d_M_record_22 rfl ?_
      refine gF (v := .int (nI x.block)) hx hb hown hE hK hP 0 rfl rfl layM 39 (by decide) w423 rfl d_M_record_23 ?_
      refine lv_iconst (v := 1) hx hb d_M_record_26 (by decide) ?_
      refine lv_iadd hx hb d_M_record_27 (tpi (y := nI (x.block + 1)) (nI_add (x.block) (1)) ?_)
      refine pF (v := .int (nI (x.block + 1))) hx hb hown hE hK hP hD hS 0 rfl rfl layM tyM tokM nmM 39 (by decide) w423 rfl rfl rfl (Nat.le_of_ble_eq_true rfl) d_M_record_28 (fun H locs hP hD hS => ?_)
      have hP : va_P D vwCl (MW dA h ad (MS.s_fresh (MS.s_block (MS.s_kept x x.records) (x.block + 1)) false)) H := hP
      have hD : va_D A (MW dA h ad (MS.s_fresh (MS.s_block (MS.s_kept x x.records) (x.block + 1)) false)) := hD
      refine lv_aload_n hx hb d_M_record_31 rfl (lv_at hl 0 rfl) ?_
      refine lv_iconst (v := 0) hx hb d_M_record_32 (by decide) ?_
      refine pF (v := .int (nI 0)) hx hb hown hE hK hP hD hS 0 rfl rfl layM tyM tokM nmM 40 (by decide) w424 rfl rfl rfl (Nat.le_of_ble_eq_true rfl) d_M_record_33 (fun H locs hP hD hS => ?_)
      have hP : va_P D vwCl (MW dA h ad (MS.s_fresh (MS.s_used (MS.s_block (MS.s_kept x x.records) (x.block + 1)) 0) false)) H := hP
      have hD : va_D A (MW dA h ad (MS.s_fresh (MS.s_used (MS.s_block (MS.s_kept x x.records) (x.block + 1)) 0) false)) := hD
      refine lv_aload_n hx hb d_M_record_36 rfl (lv_at hl 0 rfl) ?_
      refine gF (v := .ref (ad 31)) hx hb hown hE hK hP 0 rfl rfl layM 31 (by decide) w511 rfl d_M_record_37 ?_
      refine lv_aload_n hx hb d_M_record_40 rfl (lv_at hl 0 rfl) ?_
      refine gF (v := .int (nI x.records)) hx hb hown hE hK hP 0 rfl rfl layM 37 (by decide) w338 rfl d_M_record_41 ?_
      refine lv_iload_n hx hb d_M_record_44 rfl (lv_at hl 1 rfl) ?_
      refine lv_i2b hx hb d_M_record_45 rfl ?_
      refine nbst hx hb hK hP hD hS 14 0 rfl rfl (x.records) (by omega) (by decide) kd (by rw [pk_vb]; exact hkd) d_M_record_46 (fun H locs hP hD hS => ?_)
      have hP : va_P D vwCl (MW dA h ad (MS.s_fresh (MS.s_used (MS.s_block (MS.s_kept (MS.s_kinds x (va_up x.kinds x.records kd)) x.records) (x.block + 1)) 0) false)) H := hP
      have hD : va_D A (MW dA h ad (MS.s_fresh (MS.s_used (MS.s_block (MS.s_kept (MS.s_kinds x (va_up x.kinds x.records kd)) x.records) (x.block + 1)) 0) false)) := hD
      refine lv_aload_n hx hb d_M_record_47 rfl (lv_at hl 0 rfl) ?_
      refine gF (v := .ref (ad 32)) hx hb hown hE hK hP 0 rfl rfl layM 32 (by decide) w512 rfl d_M_record_48 ?_
      refine lv_aload_n hx hb d_M_record_51 rfl (lv_at hl 0 rfl) ?_
      refine gF (v := .int (nI x.records)) hx hb hown hE hK hP 0 rfl rfl layM 37 (by decide) w338 rfl d_M_record_52 ?_
      refine lv_iload_n hx hb d_M_record_55 rfl (lv_at hl 2 rfl) ?_
      refine nistN (v := w) hx hb hK hP hD hS 15 1 rfl rfl (x.records) (by omega) (by decide) d_M_record_56 (fun H locs hP hD hS => ?_)
      have hP : va_P D vwCl (MW dA h ad (MS.s_fresh (MS.s_used (MS.s_block (MS.s_kept (MS.s_recordSeries (MS.s_kinds x (va_up x.kinds x.records kd)) (va_up x.recordSeries x.records w)) x.records) (x.block + 1)) 0) false)) H := hP
      have hD : va_D A (MW dA h ad (MS.s_fresh (MS.s_used (MS.s_block (MS.s_kept (MS.s_recordSeries (MS.s_kinds x (va_up x.kinds x.records kd)) (va_up x.recordSeries x.records w)) x.records) (x.block + 1)) 0) false)) := hD
      refine lv_aload_n hx hb d_M_record_57 rfl (lv_at hl 0 rfl) ?_
      refine gF (v := .ref (ad 33)) hx hb hown hE hK hP 0 rfl rfl layM 33 (by decide) w513 rfl d_M_record_58 ?_
      refine lv_aload_n hx hb d_M_record_61 rfl (lv_at hl 0 rfl) ?_
      refine gF (v := .int (nI x.records)) hx hb hown hE hK hP 0 rfl rfl layM 37 (by decide) w338 rfl d_M_record_62 ?_
      refine lv_lload_n hx hb d_M_record_65 rfl (lv_at hl 3 rfl) ?_
      refine nlst hx hb hK hP hD hS 16 2 rfl rfl (x.records) (by omega) (by decide) d_M_record_66 (fun H locs hP hD hS => ?_)
      have hP : va_P D vwCl (MW dA h ad (MS.s_fresh (MS.s_used (MS.s_block (MS.s_kept (MS.s_firsts (MS.s_recordSeries (MS.s_kinds x (va_up x.kinds x.records kd)) (va_up x.recordSeries x.records w)) (va_up x.firsts x.records a)) x.records) (x.block + 1)) 0) false)) H := hP
      have hD : va_D A (MW dA h ad (MS.s_fresh (MS.s_used (MS.s_block (MS.s_kept (MS.s_firsts (MS.s_recordSeries (MS.s_kinds x (va_up x.kinds x.records kd)) (va_up x.recordSeries x.records w)) (va_up x.firsts x.records a)) x.records) (x.block + 1)) 0) false)) := hD
      refine lv_aload_n hx hb d_M_record_67 rfl (lv_at hl 0 rfl) ?_
      refine gF (v := .ref (ad 34)) hx hb hown hE hK hP 0 rfl rfl layM 34 (by decide) w514 rfl d_M_record_68 ?_
      refine lv_aload_n hx hb d_M_record_71 rfl (lv_at hl 0 rfl) ?_
      refine gF (v := .int (nI x.records)) hx hb hown hE hK hP 0 rfl rfl layM 37 (by decide) w338 rfl d_M_record_72 ?_
      refine lv_lload hx hb d_M_record_75 (lv_at hl 4 rfl) ?_
      refine nlst hx hb hK hP hD hS 17 2 rfl rfl (x.records) (by omega) (by decide) d_M_record_77 (fun H locs hP hD hS => ?_)
      have hP : va_P D vwCl (MW dA h ad (MS.s_fresh (MS.s_used (MS.s_block (MS.s_kept (MS.s_seconds (MS.s_firsts (MS.s_recordSeries (MS.s_kinds x (va_up x.kinds x.records kd)) (va_up x.recordSeries x.records w)) (va_up x.firsts x.records a)) (va_up x.seconds x.records b)) x.records) (x.block + 1)) 0) false)) H := hP
      have hD : va_D A (MW dA h ad (MS.s_fresh (MS.s_used (MS.s_block (MS.s_kept (MS.s_seconds (MS.s_firsts (MS.s_recordSeries (MS.s_kinds x (va_up x.kinds x.records kd)) (va_up x.recordSeries x.records w)) (va_up x.firsts x.records a)) (va_up x.seconds x.records b)) x.records) (x.block + 1)) 0) false)) := hD
      refine lv_aload_n hx hb d_M_record_78 rfl (lv_at hl 0 rfl) ?_
      refine gF (v := .ref (ad 35)) hx hb hown hE hK hP 0 rfl rfl layM 35 (by decide) w515 rfl d_M_record_79 ?_
      refine lv_aload_n hx hb d_M_record_82 rfl (lv_at hl 0 rfl) ?_
      refine gF (v := .int (nI x.records)) hx hb hown hE hK hP 0 rfl rfl layM 37 (by decide) w338 rfl d_M_record_83 ?_
      refine lv_iload hx hb d_M_record_86 (lv_at hl 5 rfl) ?_
      refine nistN (v := n) hx hb hK hP hD hS 18 1 rfl rfl (x.records) (by omega) (by decide) d_M_record_88 (fun H locs hP hD hS => ?_)
      have hP : va_P D vwCl (MW dA h ad (MS.s_fresh (MS.s_used (MS.s_block (MS.s_kept (MS.s_units (MS.s_seconds (MS.s_firsts (MS.s_recordSeries (MS.s_kinds x (va_up x.kinds x.records kd)) (va_up x.recordSeries x.records w)) (va_up x.firsts x.records a)) (va_up x.seconds x.records b)) (va_up x.units x.records n)) x.records) (x.block + 1)) 0) false)) H := hP
      have hD : va_D A (MW dA h ad (MS.s_fresh (MS.s_used (MS.s_block (MS.s_kept (MS.s_units (MS.s_seconds (MS.s_firsts (MS.s_recordSeries (MS.s_kinds x (va_up x.kinds x.records kd)) (va_up x.recordSeries x.records w)) (va_up x.firsts x.records a)) (va_up x.seconds x.records b)) (va_up x.units x.records n)) x.records) (x.block + 1)) 0) false)) := hD
      refine lv_aload_n hx hb d_M_record_89 rfl (lv_at hl 0 rfl) ?_
      refine gF (v := .ref (ad 36)) hx hb hown hE hK hP 0 rfl rfl layM 36 (by decide) w516 rfl d_M_record_90 ?_
      refine lv_aload_n hx hb d_M_record_93 rfl (lv_at hl 0 rfl) ?_
      refine gF (v := .int (nI x.records)) hx hb hown hE hK hP 0 rfl rfl layM 37 (by decide) w338 rfl d_M_record_94 ?_
      refine lv_aload_n hx hb d_M_record_97 rfl (lv_at hl 0 rfl) ?_
      refine gF (v := .int (nI (x.block + 1))) hx hb hown hE hK hP 0 rfl rfl layM 39 (by decide) w423 rfl d_M_record_98 ?_
      refine nistN (v := x.block + 1) hx hb hK hP hD hS 19 1 rfl rfl (x.records) (by omega) (by decide) d_M_record_101 (fun H locs hP hD hS => ?_)
      have hP : va_P D vwCl (MW dA h ad (MS.s_fresh (MS.s_used (MS.s_block (MS.s_kept (MS.s_recordBlocks (MS.s_units (MS.s_seconds (MS.s_firsts (MS.s_recordSeries (MS.s_kinds x (va_up x.kinds x.records kd)) (va_up x.recordSeries x.records w)) (va_up x.firsts x.records a)) (va_up x.seconds x.records b)) (va_up x.units x.records n)) (va_up x.recordBlocks x.records (x.block + 1))) x.records) (x.block + 1)) 0) false)) H := hP
      have hD : va_D A (MW dA h ad (MS.s_fresh (MS.s_used (MS.s_block (MS.s_kept (MS.s_recordBlocks (MS.s_units (MS.s_seconds (MS.s_firsts (MS.s_recordSeries (MS.s_kinds x (va_up x.kinds x.records kd)) (va_up x.recordSeries x.records w)) (va_up x.firsts x.records a)) (va_up x.seconds x.records b)) (va_up x.units x.records n)) (va_up x.recordBlocks x.records (x.block + 1))) x.records) (x.block + 1)) 0) false)) := hD
      refine lv_aload_n hx hb d_M_record_102 rfl (lv_at hl 0 rfl) ?_
      refine lv_dup hx hb d_M_record_103 rfl ?_
      refine gF (v := .int (nI x.records)) hx hb hown hE hK hP 0 rfl rfl layM 37 (by decide) w338 rfl d_M_record_104 ?_
      refine lv_iconst (v := 1) hx hb d_M_record_107 (by decide) ?_
      refine lv_iadd hx hb d_M_record_108 (tpi (y := nI (x.records + 1)) (nI_add (x.records) (1)) ?_)
      refine pF (v := .int (nI (x.records + 1))) hx hb hown hE hK hP hD hS 0 rfl rfl layM tyM tokM nmM 37 (by decide) w338 rfl rfl rfl (Nat.le_of_ble_eq_true rfl) d_M_record_109 (fun H locs hP hD hS => ?_)
      have hP : va_P D vwCl (MW dA h ad (MS.s_fresh (MS.s_used (MS.s_block (MS.s_kept (MS.s_records (MS.s_recordBlocks (MS.s_units (MS.s_seconds (MS.s_firsts (MS.s_recordSeries (MS.s_kinds x (va_up x.kinds x.records kd)) (va_up x.recordSeries x.records w)) (va_up x.firsts x.records a)) (va_up x.seconds x.records b)) (va_up x.units x.records n)) (va_up x.recordBlocks x.records (x.block + 1))) (x.records + 1)) x.records) (x.block + 1)) 0) false)) H := hP
      have hD : va_D A (MW dA h ad (MS.s_fresh (MS.s_used (MS.s_block (MS.s_kept (MS.s_records (MS.s_recordBlocks (MS.s_units (MS.s_seconds (MS.s_firsts (MS.s_recordSeries (MS.s_kinds x (va_up x.kinds x.records kd)) (va_up x.recordSeries x.records w)) (va_up x.firsts x.records a)) (va_up x.seconds x.records b)) (va_up x.units x.records n)) (va_up x.recordBlocks x.records (x.block + 1))) (x.records + 1)) x.records) (x.block + 1)) 0) false)) := hD
      refine lv_aload_n hx hb d_M_record_112 rfl (lv_at hl 0 rfl) ?_
      refine lv_dup hx hb d_M_record_113 rfl ?_
      refine gF (v := .int 0) hx hb hown hE hK hP 0 rfl rfl layM 40 (by decide) w424 rfl d_M_record_114 ?_
      refine lv_iload hx hb d_M_record_117 (lv_at hl 5 rfl) ?_
      refine lv_iadd hx hb d_M_record_119 (tpi (y := nI (n)) ((nI_add 0 (n)).trans (congrArg nI (Nat.zero_add _))) ?_)
      refine pF (v := .int (nI n)) hx hb hown hE hK hP hD hS 0 rfl rfl layM tyM tokM nmM 40 (by decide) w424 rfl rfl rfl (Nat.le_of_ble_eq_true rfl) d_M_record_120 (fun H locs hP hD hS => ?_)
      have hP : va_P D vwCl (MW dA h ad (MS.s_fresh (MS.s_used (MS.s_block (MS.s_kept (MS.s_records (MS.s_recordBlocks (MS.s_units (MS.s_seconds (MS.s_firsts (MS.s_recordSeries (MS.s_kinds x (va_up x.kinds x.records kd)) (va_up x.recordSeries x.records w)) (va_up x.firsts x.records a)) (va_up x.seconds x.records b)) (va_up x.units x.records n)) (va_up x.recordBlocks x.records (x.block + 1))) (x.records + 1)) x.records) (x.block + 1)) n) false)) H := hP
      have hD : va_D A (MW dA h ad (MS.s_fresh (MS.s_used (MS.s_block (MS.s_kept (MS.s_records (MS.s_recordBlocks (MS.s_units (MS.s_seconds (MS.s_firsts (MS.s_recordSeries (MS.s_kinds x (va_up x.kinds x.records kd)) (va_up x.recordSeries x.records w)) (va_up x.firsts x.records a)) (va_up x.seconds x.records b)) (va_up x.units x.records n)) (va_up x.recordBlocks x.records (x.block + 1))) (x.records + 1)) x.records) (x.block + 1)) n) false)) := hD
      refine lv_aload_n hx hb d_M_record_123 rfl (lv_at hl 0 rfl) ?_
      refine lv_iconst (v := 1) hx hb d_M_record_124 (by decide) ?_
      refine pF (v := .int (bI true)) hx hb hown hE hK hP hD hS 0 rfl rfl layM tyM tokM nmM 41 (by decide) w337 rfl (bI_nar true) (bI_fit true) (Nat.le_of_ble_eq_true rfl) d_M_record_125 (fun H locs hP hD hS => ?_)
      have hP : va_P D vwCl (MW dA h ad (MS.s_fresh (MS.s_used (MS.s_block (MS.s_kept (MS.s_records (MS.s_recordBlocks (MS.s_units (MS.s_seconds (MS.s_firsts (MS.s_recordSeries (MS.s_kinds x (va_up x.kinds x.records kd)) (va_up x.recordSeries x.records w)) (va_up x.firsts x.records a)) (va_up x.seconds x.records b)) (va_up x.units x.records n)) (va_up x.recordBlocks x.records (x.block + 1))) (x.records + 1)) x.records) (x.block + 1)) n) true)) H := hP
      have hD : va_D A (MW dA h ad (MS.s_fresh (MS.s_used (MS.s_block (MS.s_kept (MS.s_records (MS.s_recordBlocks (MS.s_units (MS.s_seconds (MS.s_firsts (MS.s_recordSeries (MS.s_kinds x (va_up x.kinds x.records kd)) (va_up x.recordSeries x.records w)) (va_up x.firsts x.records a)) (va_up x.seconds x.records b)) (va_up x.units x.records n)) (va_up x.recordBlocks x.records (x.block + 1))) (x.records + 1)) x.records) (x.block + 1)) n) true)) := hD
      refine lv_iconst (v := 1) hx hb d_M_record_128 (by decide) ?_
      have e9 : (MS.s_fresh (MS.s_used (MS.s_block (MS.s_kept (MS.s_records (MS.s_recordBlocks (MS.s_units (MS.s_seconds (MS.s_firsts (MS.s_recordSeries (MS.s_kinds x (va_up x.kinds x.records kd)) (va_up x.recordSeries x.records w)) (va_up x.firsts x.records a)) (va_up x.seconds x.records b)) (va_up x.units x.records n)) (va_up x.recordBlocks x.records (x.block + 1))) (x.records + 1)) x.records) (x.block + 1)) n) true : MS) = MS.s_fresh (MS.s_used (MS.s_block (MS.s_kept (MS.s_records (MS.s_recordBlocks (MS.s_units (MS.s_seconds (MS.s_firsts (MS.s_recordSeries (MS.s_kinds (MS.s_written (MS.s_cutLeft x (x.rCut n)) (x.rWr n)) (va_up x.kinds x.records kd)) (va_up x.recordSeries x.records w)) (va_up x.firsts x.records a)) (va_up x.seconds x.records b)) (va_up x.units x.records n)) (va_up x.recordBlocks x.records (x.rBlock n))) (x.records + 1)) (x.rKept n)) (x.rBlock n)) (x.rUsed n)) true := by rw [show (va_up x.recordBlocks x.records (x.rBlock n)) = (va_up x.recordBlocks x.records (x.block + 1)) from by simp [MS.rBlock, MS.rUsed, MS.rCut, MS.rWr, MS.rKept, *], show (x.rBlock n) = (x.block + 1) from by simp [MS.rBlock, MS.rUsed, MS.rCut, MS.rWr, MS.rKept, *], show (x.rKept n) = x.records from by simp [MS.rBlock, MS.rUsed, MS.rCut, MS.rWr, MS.rKept, *], show (x.rUsed n) = n from by simp [MS.rBlock, MS.rUsed, MS.rCut, MS.rWr, MS.rKept, *], show (x.rCut n) = x.cutLeft from by simp [MS.rBlock, MS.rUsed, MS.rCut, MS.rWr, MS.rKept, *], show (x.rWr n) = x.written from by simp [MS.rBlock, MS.rUsed, MS.rCut, MS.rWr, MS.rKept, *]] <;> rfl
      exact rfZ hx hb hr (bI_nar true) hlk hS () rfl (cvP e9 hP) (cvD e9 hD) (Nat.le_of_ble_eq_true rfl) (Nat.le_of_ble_eq_true rfl) d_M_record_129
    · refine jfI (rnV (As := []) (rest := []) hx hb hml hown hE hK (hN _ _ hS) hP hD (k_synced_1 l D dA H.size h ad x z1 z2) (q0 := 0) rfl rfl w341 w340 w342 w343 w328 rfl rfl ⟨⟨by decide, by decide⟩, rfl⟩ ⟨(Nat.le_of_ble_eq_true rfl), (Nat.le_of_ble_eq_true rfl)⟩ rfl hl.1 rfl (Nat.le_of_ble_eq_true rfl) d_M_record_13 ⟨(Nat.le_of_ble_eq_true rfl), (Nat.le_of_ble_eq_true rfl)⟩) hP hD hS hA (fun r4 u5 H locs hp9 hP hD hS => ?_)
      have hP : va_P D vwCl (MW dA h ad (MS.s_fresh (MS.s_kept (MS.s_written (MS.s_cutLeft x (cutF x.cutLeft)) (x.written + 1)) x.records) false)) H := hP
      have hD : va_D A (MW dA h ad (MS.s_fresh (MS.s_kept (MS.s_written (MS.s_cutLeft x (cutF x.cutLeft)) (x.written + 1)) x.records) false)) := hD
      replace hp9 : bI true = r4 := Eq.symm hp9
      subst hp9
      refine lv_if_ne hx hb d_M_record_16 (tgt := 21) rfl (fun _ => ?_) (fun h9 => absurd h9 (by decide))
      refine lv_aload_n hx hb d_M_record_21 rfl (lv_at hl 0 rfl) ?_
      refine lv_dup hx hb d_M_record_22 rfl ?_
      refine gF (v := .int (nI x.block)) hx hb hown hE hK hP 0 rfl rfl layM 39 (by decide) w423 rfl d_M_record_23 ?_
      refine lv_iconst (v := 1) hx hb d_M_record_26 (by decide) ?_
      refine lv_iadd hx hb d_M_record_27 (tpi (y := nI (x.block + 1)) (nI_add (x.block) (1)) ?_)
      refine pF (v := .int (nI (x.block + 1))) hx hb hown hE hK hP hD hS 0 rfl rfl layM tyM tokM nmM 39 (by decide) w423 rfl rfl rfl (Nat.le_of_ble_eq_true rfl) d_M_record_28 (fun H locs hP hD hS => ?_)
      have hP : va_P D vwCl (MW dA h ad (MS.s_fresh (MS.s_block (MS.s_kept (MS.s_written (MS.s_cutLeft x (cutF x.cutLeft)) (x.written + 1)) x.records) (x.block + 1)) false)) H := hP
      have hD : va_D A (MW dA h ad (MS.s_fresh (MS.s_block (MS.s_kept (MS.s_written (MS.s_cutLeft x (cutF x.cutLeft)) (x.written + 1)) x.records) (x.block + 1)) false)) := hD
      refine lv_aload_n hx hb d_M_record_31 rfl (lv_at hl 0 rfl) ?_
      refine lv_iconst (v := 0) hx hb d_M_record_32 (by decide) ?_
      refine pF (v := .int (nI 0)) hx hb hown hE hK hP hD hS 0 rfl rfl layM tyM tokM nmM 40 (by decide) w424 rfl rfl rfl (Nat.le_of_ble_eq_true rfl) d_M_record_33 (fun H locs hP hD hS => ?_)
      have hP : va_P D vwCl (MW dA h ad (MS.s_fresh (MS.s_used (MS.s_block (MS.s_kept (MS.s_written (MS.s_cutLeft x (cutF x.cutLeft)) (x.written + 1)) x.records) (x.block + 1)) 0) false)) H := hP
      have hD : va_D A (MW dA h ad (MS.s_fresh (MS.s_used (MS.s_block (MS.s_kept (MS.s_written (MS.s_cutLeft x (cutF x.cutLeft)) (x.written + 1)) x.records) (x.block + 1)) 0) false)) := hD
      refine lv_aload_n hx hb d_M_record_36 rfl (lv_at hl 0 rfl) ?_
      refine gF (v := .ref (ad 31)) hx hb hown hE hK hP 0 rfl rfl layM 31 (by decide) w511 rfl d_M_record_37 ?_
      refine lv_aload_n hx hb d_M_record_40 rfl (lv_at hl 0 rfl) ?_
      refine gF (v := .int (nI x.records)) hx hb hown hE hK hP 0 rfl rfl layM 37 (by decide) w338 rfl d_M_record_41 ?_
      refine lv_iload_n hx hb d_M_record_44 rfl (lv_at hl 1 rfl) ?_
      refine lv_i2b hx hb d_M_record_45 rfl ?_
      refine nbst hx hb hK hP hD hS 14 0 rfl rfl (x.records) (by omega) (by decide) kd (by rw [pk_vb]; exact hkd) d_M_record_46 (fun H locs hP hD hS => ?_)
      have hP : va_P D vwCl (MW dA h ad (MS.s_fresh (MS.s_used (MS.s_block (MS.s_kept (MS.s_kinds (MS.s_written (MS.s_cutLeft x (cutF x.cutLeft)) (x.written + 1)) (va_up x.kinds x.records kd)) x.records) (x.block + 1)) 0) false)) H := hP
      have hD : va_D A (MW dA h ad (MS.s_fresh (MS.s_used (MS.s_block (MS.s_kept (MS.s_kinds (MS.s_written (MS.s_cutLeft x (cutF x.cutLeft)) (x.written + 1)) (va_up x.kinds x.records kd)) x.records) (x.block + 1)) 0) false)) := hD
      refine lv_aload_n hx hb d_M_record_47 rfl (lv_at hl 0 rfl) ?_
      refine gF (v := .ref (ad 32)) hx hb hown hE hK hP 0 rfl rfl layM 32 (by decide) w512 rfl d_M_record_48 ?_
      refine lv_aload_n hx hb d_M_record_51 rfl (lv_at hl 0 rfl) ?_
      refine gF (v := .int (nI x.records)) hx hb hown hE hK hP 0 rfl rfl layM 37 (by decide) w338 rfl d_M_record_52 ?_
      refine lv_iload_n hx hb d_M_record_55 rfl (lv_at hl 2 rfl) ?_
      refine nistN (v := w) hx hb hK hP hD hS 15 1 rfl rfl (x.records) (by omega) (by decide) d_M_record_56 (fun H locs hP hD hS => ?_)
      have hP : va_P D vwCl (MW dA h ad (MS.s_fresh (MS.s_used (MS.s_block (MS.s_kept (MS.s_recordSeries (MS.s_kinds (MS.s_written (MS.s_cutLeft x (cutF x.cutLeft)) (x.written + 1)) (va_up x.kinds x.records kd)) (va_up x.recordSeries x.records w)) x.records) (x.block + 1)) 0) false)) H := hP
      have hD : va_D A (MW dA h ad (MS.s_fresh (MS.s_used (MS.s_block (MS.s_kept (MS.s_recordSeries (MS.s_kinds (MS.s_written (MS.s_cutLeft x (cutF x.cutLeft)) (x.written + 1)) (va_up x.kinds x.records kd)) (va_up x.recordSeries x.records w)) x.records) (x.block + 1)) 0) false)) := hD
      refine lv_aload_n hx hb d_M_record_57 rfl (lv_at hl 0 rfl) ?_
      refine gF (v := .ref (ad 33)) hx hb hown hE hK hP 0 rfl rfl layM 33 (by decide) w513 rfl d_M_record_58 ?_
      refine lv_aload_n hx hb d_M_record_61 rfl (lv_at hl 0 rfl) ?_
      refine gF (v := .int (nI x.records)) hx hb hown hE hK hP 0 rfl rfl layM 37 (by decide) w338 rfl d_M_record_62 ?_
      refine lv_lload_n hx hb d_M_record_65 rfl (lv_at hl 3 rfl) ?_
      refine nlst hx hb hK hP hD hS 16 2 rfl rfl (x.records) (by omega) (by decide) d_M_record_66 (fun H locs hP hD hS => ?_)
      have hP : va_P D vwCl (MW dA h ad (MS.s_fresh (MS.s_used (MS.s_block (MS.s_kept (MS.s_firsts (MS.s_recordSeries (MS.s_kinds (MS.s_written (MS.s_cutLeft x (cutF x.cutLeft)) (x.written + 1)) (va_up x.kinds x.records kd)) (va_up x.recordSeries x.records w)) (va_up x.firsts x.records a)) x.records) (x.block + 1)) 0) false)) H := hP
      have hD : va_D A (MW dA h ad (MS.s_fresh (MS.s_used (MS.s_block (MS.s_kept (MS.s_firsts (MS.s_recordSeries (MS.s_kinds (MS.s_written (MS.s_cutLeft x (cutF x.cutLeft)) (x.written + 1)) (va_up x.kinds x.records kd)) (va_up x.recordSeries x.records w)) (va_up x.firsts x.records a)) x.records) (x.block + 1)) 0) false)) := hD
      refine lv_aload_n hx hb d_M_record_67 rfl (lv_at hl 0 rfl) ?_
      refine gF (v := .ref (ad 34)) hx hb hown hE hK hP 0 rfl rfl layM 34 (by decide) w514 rfl d_M_record_68 ?_
      refine lv_aload_n hx hb d_M_record_71 rfl (lv_at hl 0 rfl) ?_
      refine gF (v := .int (nI x.records)) hx hb hown hE hK hP 0 rfl rfl layM 37 (by decide) w338 rfl d_M_record_72 ?_
      refine lv_lload hx hb d_M_record_75 (lv_at hl 4 rfl) ?_
      refine nlst hx hb hK hP hD hS 17 2 rfl rfl (x.records) (by omega) (by decide) d_M_record_77 (fun H locs hP hD hS => ?_)
      have hP : va_P D vwCl (MW dA h ad (MS.s_fresh (MS.s_used (MS.s_block (MS.s_kept (MS.s_seconds (MS.s_firsts (MS.s_recordSeries (MS.s_kinds (MS.s_written (MS.s_cutLeft x (cutF x.cutLeft)) (x.written + 1)) (va_up x.kinds x.records kd)) (va_up x.recordSeries x.records w)) (va_up x.firsts x.records a)) (va_up x.seconds x.records b)) x.records) (x.block + 1)) 0) false)) H := hP
      have hD : va_D A (MW dA h ad (MS.s_fresh (MS.s_used (MS.s_block (MS.s_kept (MS.s_seconds (MS.s_firsts (MS.s_recordSeries (MS.s_kinds (MS.s_written (MS.s_cutLeft x (cutF x.cutLeft)) (x.written + 1)) (va_up x.kinds x.records kd)) (va_up x.recordSeries x.records w)) (va_up x.firsts x.records a)) (va_up x.seconds x.records b)) x.records) (x.block + 1)) 0) false)) := hD
      refine lv_aload_n hx hb d_M_record_78 rfl (lv_at hl 0 rfl) ?_
      refine gF (v := .ref (ad 35)) hx hb hown hE hK hP 0 rfl rfl layM 35 (by decide) w515 rfl d_M_record_79 ?_
      refine lv_aload_n hx hb d_M_record_82 rfl (lv_at hl 0 rfl) ?_
      refine gF (v := .int (nI x.records)) hx hb hown hE hK hP 0 rfl rfl layM 37 (by decide) w338 rfl d_M_record_83 ?_
      refine lv_iload hx hb d_M_record_86 (lv_at hl 5 rfl) ?_
      refine nistN (v := n) hx hb hK hP hD hS 18 1 rfl rfl (x.records) (by omega) (by decide) d_M_record_88 (fun H locs hP hD hS => ?_)
      have hP : va_P D vwCl (MW dA h ad (MS.s_fresh (MS.s_used (MS.s_block (MS.s_kept (MS.s_units (MS.s_seconds (MS.s_firsts (MS.s_recordSeries (MS.s_kinds (MS.s_written (MS.s_cutLeft x (cutF x.cutLeft)) (x.written + 1)) (va_up x.kinds x.records kd)) (va_up x.recordSeries x.records w)) (va_up x.firsts x.records a)) (va_up x.seconds x.records b)) (va_up x.units x.records n)) x.records) (x.block + 1)) 0) false)) H := hP
      have hD : va_D A (MW dA h ad (MS.s_fresh (MS.s_used (MS.s_block (MS.s_kept (MS.s_units (MS.s_seconds (MS.s_firsts (MS.s_recordSeries (MS.s_kinds (MS.s_written (MS.s_cutLeft x (cutF x.cutLeft)) (x.written + 1)) (va_up x.kinds x.records kd)) (va_up x.recordSeries x.records w)) (va_up x.firsts x.records a)) (va_up x.seconds x.records b)) (va_up x.units x.records n)) x.records) (x.block + 1)) 0) false)) := hD
      refine lv_aload_n hx hb d_M_record_89 rfl (lv_at hl 0 rfl) ?_
      refine gF (v := .ref (ad 36)) hx hb hown hE hK hP 0 rfl rfl layM 36 (by decide) w516 rfl d_M_record_90 ?_
      refine lv_aload_n hx hb d_M_record_93 rfl (lv_at hl 0 rfl) ?_
      refine gF (v := .int (nI x.records)) hx hb hown hE hK hP 0 rfl rfl layM 37 (by decide) w338 rfl d_M_record_94 ?_
      refine lv_aload_n hx hb d_M_record_97 rfl (lv_at hl 0 rfl) ?_
      refine gF (v := .int (nI (x.block + 1))) hx hb hown hE hK hP 0 rfl rfl layM 39 (by decide) w423 rfl d_M_record_98 ?_
      refine nistN (v := x.block + 1) hx hb hK hP hD hS 19 1 rfl rfl (x.records) (by omega) (by decide) d_M_record_101 (fun H locs hP hD hS => ?_)
      have hP : va_P D vwCl (MW dA h ad (MS.s_fresh (MS.s_used (MS.s_block (MS.s_kept (MS.s_recordBlocks (MS.s_units (MS.s_seconds (MS.s_firsts (MS.s_recordSeries (MS.s_kinds (MS.s_written (MS.s_cutLeft x (cutF x.cutLeft)) (x.written + 1)) (va_up x.kinds x.records kd)) (va_up x.recordSeries x.records w)) (va_up x.firsts x.records a)) (va_up x.seconds x.records b)) (va_up x.units x.records n)) (va_up x.recordBlocks x.records (x.block + 1))) x.records) (x.block + 1)) 0) false)) H := hP
      have hD : va_D A (MW dA h ad (MS.s_fresh (MS.s_used (MS.s_block (MS.s_kept (MS.s_recordBlocks (MS.s_units (MS.s_seconds (MS.s_firsts (MS.s_recordSeries (MS.s_kinds (MS.s_written (MS.s_cutLeft x (cutF x.cutLeft)) (x.written + 1)) (va_up x.kinds x.records kd)) (va_up x.recordSeries x.records w)) (va_up x.firsts x.records a)) (va_up x.seconds x.records b)) (va_up x.units x.records n)) (va_up x.recordBlocks x.records (x.block + 1))) x.records) (x.block + 1)) 0) false)) := hD
      refine lv_aload_n hx hb d_M_record_102 rfl (lv_at hl 0 rfl) ?_
      refine lv_dup hx hb d_M_record_103 rfl ?_
      refine gF (v := .int (nI x.records)) hx hb hown hE hK hP 0 rfl rfl layM 37 (by decide) w338 rfl d_M_record_104 ?_
      refine lv_iconst (v := 1) hx hb d_M_record_107 (by decide) ?_
      refine lv_iadd hx hb d_M_record_108 (tpi (y := nI (x.records + 1)) (nI_add (x.records) (1)) ?_)
      refine pF (v := .int (nI (x.records + 1))) hx hb hown hE hK hP hD hS 0 rfl rfl layM tyM tokM nmM 37 (by decide) w338 rfl rfl rfl (Nat.le_of_ble_eq_true rfl) d_M_record_109 (fun H locs hP hD hS => ?_)
      have hP : va_P D vwCl (MW dA h ad (MS.s_fresh (MS.s_used (MS.s_block (MS.s_kept (MS.s_records (MS.s_recordBlocks (MS.s_units (MS.s_seconds (MS.s_firsts (MS.s_recordSeries (MS.s_kinds (MS.s_written (MS.s_cutLeft x (cutF x.cutLeft)) (x.written + 1)) (va_up x.kinds x.records kd)) (va_up x.recordSeries x.records w)) (va_up x.firsts x.records a)) (va_up x.seconds x.records b)) (va_up x.units x.records n)) (va_up x.recordBlocks x.records (x.block + 1))) (x.records + 1)) x.records) (x.block + 1)) 0) false)) H := hP
      have hD : va_D A (MW dA h ad (MS.s_fresh (MS.s_used (MS.s_block (MS.s_kept (MS.s_records (MS.s_recordBlocks (MS.s_units (MS.s_seconds (MS.s_firsts (MS.s_recordSeries (MS.s_kinds (MS.s_written (MS.s_cutLeft x (cutF x.cutLeft)) (x.written + 1)) (va_up x.kinds x.records kd)) (va_up x.recordSeries x.records w)) (va_up x.firsts x.records a)) (va_up x.seconds x.records b)) (va_up x.units x.records n)) (va_up x.recordBlocks x.records (x.block + 1))) (x.records + 1)) x.records) (x.block + 1)) 0) false)) := hD
      refine lv_aload_n hx hb d_M_record_112 rfl (lv_at hl 0 rfl) ?_
      refine lv_dup hx hb d_M_record_113 rfl ?_
      refine gF (v := .int 0) hx hb hown hE hK hP 0 rfl rfl layM 40 (by decide) w424 rfl d_M_record_114 ?_
      refine lv_iload hx hb d_M_record_117 (lv_at hl 5 rfl) ?_
      refine lv_iadd hx hb d_M_record_119 (tpi (y := nI (n)) ((nI_add 0 (n)).trans (congrArg nI (Nat.zero_add _))) ?_)
      refine pF (v := .int (nI n)) hx hb hown hE hK hP hD hS 0 rfl rfl layM tyM tokM nmM 40 (by decide) w424 rfl rfl rfl (Nat.le_of_ble_eq_true rfl) d_M_record_120 (fun H locs hP hD hS => ?_)
      have hP : va_P D vwCl (MW dA h ad (MS.s_fresh (MS.s_used (MS.s_block (MS.s_kept (MS.s_records (MS.s_recordBlocks (MS.s_units (MS.s_seconds (MS.s_firsts (MS.s_recordSeries (MS.s_kinds (MS.s_written (MS.s_cutLeft x (cutF x.cutLeft)) (x.written + 1)) (va_up x.kinds x.records kd)) (va_up x.recordSeries x.records w)) (va_up x.firsts x.records a)) (va_up x.seconds x.records b)) (va_up x.units x.records n)) (va_up x.recordBlocks x.records (x.block + 1))) (x.records + 1)) x.records) (x.block + 1)) n) false)) H := hP
      have hD : va_D A (MW dA h ad (MS.s_fresh (MS.s_used (MS.s_block (MS.s_kept (MS.s_records (MS.s_recordBlocks (MS.s_units (MS.s_seconds (MS.s_firsts (MS.s_recordSeries (MS.s_kinds (MS.s_written (MS.s_cutLeft x (cutF x.cutLeft)) (x.written + 1)) (va_up x.kinds x.records kd)) (va_up x.recordSeries x.records w)) (va_up x.firsts x.records a)) (va_up x.seconds x.records b)) (va_up x.units x.records n)) (va_up x.recordBlocks x.records (x.block + 1))) (x.records + 1)) x.records) (x.block + 1)) n) false)) := hD
      refine lv_aload_n hx hb d_M_record_123 rfl (lv_at hl 0 rfl) ?_
      refine lv_iconst (v := 1) hx hb d_M_record_124 (by decide) ?_
      refine pF (v := .int (bI true)) hx hb hown hE hK hP hD hS 0 rfl rfl layM tyM tokM nmM 41 (by decide) w337 rfl (bI_nar true) (bI_fit true) (Nat.le_of_ble_eq_true rfl) d_M_record_125 (fun H locs hP hD hS => ?_)
      have hP : va_P D vwCl (MW dA h ad (MS.s_fresh (MS.s_used (MS.s_block (MS.s_kept (MS.s_records (MS.s_recordBlocks (MS.s_units (MS.s_seconds (MS.s_firsts (MS.s_recordSeries (MS.s_kinds (MS.s_written (MS.s_cutLeft x (cutF x.cutLeft)) (x.written + 1)) (va_up x.kinds x.records kd)) (va_up x.recordSeries x.records w)) (va_up x.firsts x.records a)) (va_up x.seconds x.records b)) (va_up x.units x.records n)) (va_up x.recordBlocks x.records (x.block + 1))) (x.records + 1)) x.records) (x.block + 1)) n) true)) H := hP
      have hD : va_D A (MW dA h ad (MS.s_fresh (MS.s_used (MS.s_block (MS.s_kept (MS.s_records (MS.s_recordBlocks (MS.s_units (MS.s_seconds (MS.s_firsts (MS.s_recordSeries (MS.s_kinds (MS.s_written (MS.s_cutLeft x (cutF x.cutLeft)) (x.written + 1)) (va_up x.kinds x.records kd)) (va_up x.recordSeries x.records w)) (va_up x.firsts x.records a)) (va_up x.seconds x.records b)) (va_up x.units x.records n)) (va_up x.recordBlocks x.records (x.block + 1))) (x.records + 1)) x.records) (x.block + 1)) n) true)) := hD
      refine lv_iconst (v := 1) hx hb d_M_record_128 (by decide) ?_
      have e9 : (MS.s_fresh (MS.s_used (MS.s_block (MS.s_kept (MS.s_records (MS.s_recordBlocks (MS.s_units (MS.s_seconds (MS.s_firsts (MS.s_recordSeries (MS.s_kinds (MS.s_written (MS.s_cutLeft x (cutF x.cutLeft)) (x.written + 1)) (va_up x.kinds x.records kd)) (va_up x.recordSeries x.records w)) (va_up x.firsts x.records a)) (va_up x.seconds x.records b)) (va_up x.units x.records n)) (va_up x.recordBlocks x.records (x.block + 1))) (x.records + 1)) x.records) (x.block + 1)) n) true : MS) = MS.s_fresh (MS.s_used (MS.s_block (MS.s_kept (MS.s_records (MS.s_recordBlocks (MS.s_units (MS.s_seconds (MS.s_firsts (MS.s_recordSeries (MS.s_kinds (MS.s_written (MS.s_cutLeft x (x.rCut n)) (x.rWr n)) (va_up x.kinds x.records kd)) (va_up x.recordSeries x.records w)) (va_up x.firsts x.records a)) (va_up x.seconds x.records b)) (va_up x.units x.records n)) (va_up x.recordBlocks x.records (x.rBlock n))) (x.records + 1)) (x.rKept n)) (x.rBlock n)) (x.rUsed n)) true := by rw [show (va_up x.recordBlocks x.records (x.rBlock n)) = (va_up x.recordBlocks x.records (x.block + 1)) from by simp [MS.rBlock, MS.rUsed, MS.rCut, MS.rWr, MS.rKept, *], show (x.rBlock n) = (x.block + 1) from by simp [MS.rBlock, MS.rUsed, MS.rCut, MS.rWr, MS.rKept, *], show (x.rKept n) = x.records from by simp [MS.rBlock, MS.rUsed, MS.rCut, MS.rWr, MS.rKept, *], show (x.rUsed n) = n from by simp [MS.rBlock, MS.rUsed, MS.rCut, MS.rWr, MS.rKept, *], show (x.rCut n) = (cutF x.cutLeft) from by simp [MS.rBlock, MS.rUsed, MS.rCut, MS.rWr, MS.rKept, *], show (x.rWr n) = (x.written + 1) from by simp [MS.rBlock, MS.rUsed, MS.rCut, MS.rWr, MS.rKept, *]] <;> rfl
      exact rfZ hx hb hr (bI_nar true) hlk hS () rfl (cvP e9 hP) (cvD e9 hD) (Nat.le_of_ble_eq_true rfl) (Nat.le_of_ble_eq_true rfl) d_M_record_129
theorem d_M_record_19 : decode prog_14_method_11_code 19 = .ok (.iconst 0, 1) := by decide +kernel
theorem d_M_record_20 : decode prog_14_method_11_code 20 = .ok (.ireturn, 1) := by decide +kernel
set_option maxHeartbeats 4000000 in
set_option maxRecDepth 100000 in
theorem k_record_x (l : Launch) (D : va_G) (dA : Nat → ClassId) (sz : Nat) (h : Nat) (ad : Nat → Nat) (x : MS) (kd : Int32) (w : Nat) (a : Int64) (b : Int64) (n : Nat) (h2 : x.used + n < 2 ^ 31) (h4 : 126 < x.used + n) (hf : x.fresh = true) (hc : x.cutLeft = 0) : Met l ⟨"SeriesVaultModel", "record", "(IIJJI)Z"⟩ [Cond.code ⟨"SeriesVaultModel", "record", "(IIJJI)Z"⟩ prog_14_method_11_code 8 (some FieldType.boolean)] { frames := 3, cells := 0, slots := 0, locals := 40 } (pC D dA [.ref h, .int kd, .int (nI w), .long a, .long b, .int (nI n)] (MW dA h ad x) sz) (va_Qi (fun (r9 : Int32) (u9 : Unit) => r9 = bI false) (fun (u9 : Unit) t9 => bW D (va_A (MW dA h ad x) sz) (MW dA h ad (MS.s_cutLeft (MS.s_on x false) (-1))) t9) (va_A (MW dA h ad x) sz)) 0 0 (va_A (MW dA h ad x) sz) := by
  refine mkC (y := ⟨"SeriesVaultModel", "record", "(IIJJI)Z"⟩) (cc := prog_14_method_11_code) (maxL := 8) (av := [.ref h, .int kd, .int (nI w), .long a, .long b, .int (nI n)]) (ws := MW dA h ad x) (sz := sz) (Qc := fun A => va_Qi (fun (r9 : Int32) (u9 : Unit) => r9 = bI false) (fun (u9 : Unit) t9 => bW D A (MW dA h ad (MS.s_cutLeft (MS.s_on x false) (-1))) t9) A) (by decide) (Nat.le_of_ble_eq_true rfl) ?_
  intro A p e s m below meth c ls hsz hB
  obtain ⟨hx, hb, hr, hml, hown, hin, hlk, hE, hK, hP, hD, hS, hA, hN, hl⟩ := hB
  have hown : s.vm.findClass "SeriesVaultModel" = some m.cls := hown
  have hl : lv_has ls 8 [(0, .ref h), (1, .int kd), (2, .int (nI w)), (3, .long a), (5, .long b), (7, .int (nI n))] := hl
  obtain ⟨H, hH⟩ : ∃ z, z = s.heap := ⟨_, rfl⟩
  have hP : va_P D vwCl (MW dA h ad x) H := by rw [hH]; exact hP
  have hS : va_S A s.heap H [] := by rw [hH]; exact hS
  rw [← hH]
  refine lv_aload_n hx hb d_M_record_0 rfl (lv_at hl 0 rfl) ?_
  refine gF (v := .int (nI x.used)) hx hb hown hE hK hP 0 rfl rfl layM 40 (by decide) w424 rfl d_M_record_1 ?_
  refine lv_iload hx hb d_M_record_4 (lv_at hl 5 rfl) ?_
  refine lv_iadd hx hb d_M_record_6 (tpi (y := nI (x.used + n)) (nI_add (x.used) (n)) ?_)
  refine lv_bipush (v := 126) hx hb d_M_record_7 (by decide) ?_
  refine lv_icmp_le hx hb d_M_record_9 (tgt := 36) rfl (fun h9 => absurd h9 (mt (nI_leI (a := x.used + n) (b := 126) (by omega) (by omega)).mp (Nat.not_le.mpr h4))) (fun _ => ?_)
  refine lv_aload_n hx hb d_M_record_12 rfl (lv_at hl 0 rfl) ?_
  refine jfI (rnV (As := []) (rest := []) hx hb hml hown hE hK (hN _ _ hS) hP hD (k_synced_x l D dA H.size h ad x hf hc) (q0 := 0) rfl rfl w341 w340 w342 w343 w328 rfl rfl ⟨⟨by decide, by decide⟩, rfl⟩ ⟨(Nat.le_of_ble_eq_true rfl), (Nat.le_of_ble_eq_true rfl)⟩ rfl hl.1 rfl (Nat.le_of_ble_eq_true rfl) d_M_record_13 ⟨(Nat.le_of_ble_eq_true rfl), (Nat.le_of_ble_eq_true rfl)⟩) hP hD hS hA (fun r1 u2 H locs hp9 hP hD hS => ?_)
  have hP : va_P D vwCl (MW dA h ad (MS.s_cutLeft (MS.s_on x false) (-1))) H := hP
  have hD : va_D A (MW dA h ad (MS.s_cutLeft (MS.s_on x false) (-1))) := hD
  replace hp9 : bI false = r1 := Eq.symm hp9
  subst hp9
  refine lv_if_ne hx hb d_M_record_16 (tgt := 21) rfl (fun h9 => absurd (by decide) h9) (fun _ => ?_)
  refine lv_iconst (v := 0) hx hb d_M_record_19 (by decide) ?_
  exact rfZ hx hb hr (bI_nar false) hlk hS () rfl hP hD (Nat.le_of_ble_eq_true rfl) (Nat.le_of_ble_eq_true rfl) d_M_record_20
theorem d_M_come_0 : decode prog_14_method_16_code 0 = .ok (.aload_n 0, 1) := by decide +kernel
theorem d_M_come_1 : decode prog_14_method_16_code 1 = .ok (.getfield 36, 3) := by decide +kernel
theorem d_M_come_4 : decode prog_14_method_16_code 4 = .ok (.iload_n 1, 1) := by decide +kernel
theorem d_M_come_5 : decode prog_14_method_16_code 5 = .ok (.lload_n 2, 1) := by decide +kernel
theorem d_M_come_6 : decode prog_14_method_16_code 6 = .ok (.lastore, 1) := by decide +kernel
theorem d_M_come_7 : decode prog_14_method_16_code 7 = .ok (.lload_n 2, 1) := by decide +kernel
theorem d_M_come_8 : decode prog_14_method_16_code 8 = .ok (.aload_n 0, 1) := by decide +kernel
theorem d_M_come_9 : decode prog_14_method_16_code 9 = .ok (.getfield 172, 3) := by decide +kernel
theorem d_M_come_12 : decode prog_14_method_16_code 12 = .ok (.lcmp, 1) := by decide +kernel
theorem d_M_come_13 : decode prog_14_method_16_code 13 = .ok (.ifCond .ge 4, 3) := by decide +kernel
theorem d_M_come_16 : decode prog_14_method_16_code 16 = .ok (.return_, 1) := by decide +kernel
set_option maxHeartbeats 4000000 in
set_option maxRecDepth 100000 in
theorem k_come_0 (l : Launch) (D : va_G) (dA : Nat → ClassId) (sz : Nat) (h : Nat) (ad : Nat → Nat) (x : MS) (w : Nat) (a : Int64) (b : Int64) (hw : w < 256) (ht : a < x.horizon) : Met l ⟨"SeriesVaultModel", "come", "(IJJ)V"⟩ [Cond.code ⟨"SeriesVaultModel", "come", "(IJJ)V"⟩ prog_14_method_16_code 6 none] { frames := 1, cells := 0, slots := 0, locals := 0 } (pC D dA [.ref h, .int (nI w), .long a, .long b] (MW dA h ad x) sz) (va_Qv (fun (u9 : Unit) => True) (fun (u9 : Unit) t9 => bW D (va_A (MW dA h ad x) sz) (MW dA h ad (MS.s_lasts x (va_up x.lasts w a))) t9) (va_A (MW dA h ad x) sz)) 0 0 (va_A (MW dA h ad x) sz) := by
  refine mkC (y := ⟨"SeriesVaultModel", "come", "(IJJ)V"⟩) (cc := prog_14_method_16_code) (maxL := 6) (av := [.ref h, .int (nI w), .long a, .long b]) (ws := MW dA h ad x) (sz := sz) (Qc := fun A => va_Qv (fun (u9 : Unit) => True) (fun (u9 : Unit) t9 => bW D A (MW dA h ad (MS.s_lasts x (va_up x.lasts w a))) t9) A) (by decide) (Nat.le_of_ble_eq_true rfl) ?_
  intro A p e s m below meth c ls hsz hB
  obtain ⟨hx, hb, hr, hml, hown, hin, hlk, hE, hK, hP, hD, hS, hA, hN, hl⟩ := hB
  have hown : s.vm.findClass "SeriesVaultModel" = some m.cls := hown
  have hl : lv_has ls 6 [(0, .ref h), (1, .int (nI w)), (2, .long a), (4, .long b)] := hl
  obtain ⟨H, hH⟩ : ∃ z, z = s.heap := ⟨_, rfl⟩
  have hP : va_P D vwCl (MW dA h ad x) H := by rw [hH]; exact hP
  have hS : va_S A s.heap H [] := by rw [hH]; exact hS
  rw [← hH]
  refine lv_aload_n hx hb d_M_come_0 rfl (lv_at hl 0 rfl) ?_
  refine gF (v := .ref (ad 13)) hx hb hown hE hK hP 0 rfl rfl layM 13 (by decide) w501 rfl d_M_come_1 ?_
  refine lv_iload_n hx hb d_M_come_4 rfl (lv_at hl 1 rfl) ?_
  refine lv_lload_n hx hb d_M_come_5 rfl (lv_at hl 2 rfl) ?_
  refine nlst hx hb hK hP hD hS 4 2 rfl rfl (w) (by omega) (by decide) d_M_come_6 (fun H locs hP hD hS => ?_)
  have hP : va_P D vwCl (MW dA h ad (MS.s_lasts x (va_up x.lasts w a))) H := hP
  have hD : va_D A (MW dA h ad (MS.s_lasts x (va_up x.lasts w a))) := hD
  refine lv_lload_n hx hb d_M_come_7 rfl (lv_at hl 2 rfl) ?_
  refine lv_aload_n hx hb d_M_come_8 rfl (lv_at hl 0 rfl) ?_
  refine gF (v := .long x.horizon) hx hb hown hE hK hP 0 rfl rfl layM 24 (by decide) w421 rfl d_M_come_9 ?_
  refine W.lcmp hx hb d_M_come_12 ?_
  refine lv_if_ge hx hb d_M_come_13 (tgt := 17) rfl (fun h9 => absurd h9 (mt (lg_cmp_ge _ _).mp (Int64.not_le.mpr ht))) (fun _ => ?_)
  exact rfV hx hb hr hlk hS () trivial hP hD (Nat.le_of_ble_eq_true rfl) (Nat.le_of_ble_eq_true rfl) d_M_come_16
theorem d_M_come_17 : decode prog_14_method_16_code 17 = .ok (.aload_n 0, 1) := by decide +kernel
theorem d_M_come_18 : decode prog_14_method_16_code 18 = .ok (.getfield 43, 3) := by decide +kernel
theorem d_M_come_21 : decode prog_14_method_16_code 21 = .ok (.aload_n 0, 1) := by decide +kernel
theorem d_M_come_22 : decode prog_14_method_16_code 22 = .ok (.getfield 169, 3) := by decide +kernel
theorem d_M_come_25 : decode prog_14_method_16_code 25 = .ok (.iload_n 1, 1) := by decide +kernel
theorem d_M_come_26 : decode prog_14_method_16_code 26 = .ok (.iastore, 1) := by decide +kernel
theorem d_M_come_27 : decode prog_14_method_16_code 27 = .ok (.aload_n 0, 1) := by decide +kernel
theorem d_M_come_28 : decode prog_14_method_16_code 28 = .ok (.getfield 46, 3) := by decide +kernel
theorem d_M_come_31 : decode prog_14_method_16_code 31 = .ok (.aload_n 0, 1) := by decide +kernel
theorem d_M_come_32 : decode prog_14_method_16_code 32 = .ok (.getfield 169, 3) := by decide +kernel
theorem d_M_come_35 : decode prog_14_method_16_code 35 = .ok (.lload_n 2, 1) := by decide +kernel
theorem d_M_come_36 : decode prog_14_method_16_code 36 = .ok (.lastore, 1) := by decide +kernel
theorem d_M_come_37 : decode prog_14_method_16_code 37 = .ok (.aload_n 0, 1) := by decide +kernel
theorem d_M_come_38 : decode prog_14_method_16_code 38 = .ok (.getfield 49, 3) := by decide +kernel
theorem d_M_come_41 : decode prog_14_method_16_code 41 = .ok (.aload_n 0, 1) := by decide +kernel
theorem d_M_come_42 : decode prog_14_method_16_code 42 = .ok (.getfield 169, 3) := by decide +kernel
theorem d_M_come_45 : decode prog_14_method_16_code 45 = .ok (.lload 4, 2) := by decide +kernel
theorem d_M_come_47 : decode prog_14_method_16_code 47 = .ok (.lastore, 1) := by decide +kernel
theorem d_M_come_48 : decode prog_14_method_16_code 48 = .ok (.aload_n 0, 1) := by decide +kernel
theorem d_M_come_49 : decode prog_14_method_16_code 49 = .ok (.getfield 52, 3) := by decide +kernel
theorem d_M_come_52 : decode prog_14_method_16_code 52 = .ok (.aload_n 0, 1) := by decide +kernel
theorem d_M_come_53 : decode prog_14_method_16_code 53 = .ok (.getfield 169, 3) := by decide +kernel
theorem d_M_come_56 : decode prog_14_method_16_code 56 = .ok (.iconst (-1), 1) := by decide +kernel
theorem d_M_come_57 : decode prog_14_method_16_code 57 = .ok (.iastore, 1) := by decide +kernel
theorem d_M_come_58 : decode prog_14_method_16_code 58 = .ok (.aload_n 0, 1) := by decide +kernel
theorem d_M_come_59 : decode prog_14_method_16_code 59 = .ok (.getfield 55, 3) := by decide +kernel
theorem d_M_come_62 : decode prog_14_method_16_code 62 = .ok (.aload_n 0, 1) := by decide +kernel
theorem d_M_come_63 : decode prog_14_method_16_code 63 = .ok (.getfield 169, 3) := by decide +kernel
theorem d_M_come_66 : decode prog_14_method_16_code 66 = .ok (.iconst (-1), 1) := by decide +kernel
theorem d_M_come_67 : decode prog_14_method_16_code 67 = .ok (.iastore, 1) := by decide +kernel
theorem d_M_come_68 : decode prog_14_method_16_code 68 = .ok (.aload_n 0, 1) := by decide +kernel
theorem d_M_come_69 : decode prog_14_method_16_code 69 = .ok (.getfield 58, 3) := by decide +kernel
theorem d_M_come_72 : decode prog_14_method_16_code 72 = .ok (.aload_n 0, 1) := by decide +kernel
theorem d_M_come_73 : decode prog_14_method_16_code 73 = .ok (.getfield 169, 3) := by decide +kernel
theorem d_M_come_76 : decode prog_14_method_16_code 76 = .ok (.iconst (-1), 1) := by decide +kernel
theorem d_M_come_77 : decode prog_14_method_16_code 77 = .ok (.iastore, 1) := by decide +kernel
theorem d_M_come_78 : decode prog_14_method_16_code 78 = .ok (.aload_n 0, 1) := by decide +kernel
theorem d_M_come_79 : decode prog_14_method_16_code 79 = .ok (.dup, 1) := by decide +kernel
theorem d_M_come_80 : decode prog_14_method_16_code 80 = .ok (.getfield 169, 3) := by decide +kernel
theorem d_M_come_83 : decode prog_14_method_16_code 83 = .ok (.iconst 1, 1) := by decide +kernel
theorem d_M_come_84 : decode prog_14_method_16_code 84 = .ok (.iadd, 1) := by decide +kernel
theorem d_M_come_85 : decode prog_14_method_16_code 85 = .ok (.putfield 169, 3) := by decide +kernel
theorem d_M_come_88 : decode prog_14_method_16_code 88 = .ok (.return_, 1) := by decide +kernel
set_option maxHeartbeats 4000000 in
set_option maxRecDepth 100000 in
theorem k_come (l : Launch) (D : va_G) (dA : Nat → ClassId) (sz : Nat) (h : Nat) (ad : Nat → Nat) (x : MS) (w : Nat) (a : Int64) (b : Int64) (hw : w < 256) (ht : ¬ a < x.horizon) (h1 : x.points < 12000) : Met l ⟨"SeriesVaultModel", "come", "(IJJ)V"⟩ [Cond.code ⟨"SeriesVaultModel", "come", "(IJJ)V"⟩ prog_14_method_16_code 6 none] { frames := 1, cells := 0, slots := 0, locals := 0 } (pC D dA [.ref h, .int (nI w), .long a, .long b] (MW dA h ad x) sz) (va_Qv (fun (u9 : Unit) => True) (fun (u9 : Unit) t9 => bW D (va_A (MW dA h ad x) sz) (MW dA h ad (MS.s_points (MS.s_baseHidden (MS.s_hidden (MS.s_places (MS.s_pointValues (MS.s_pointTimes (MS.s_pointSeries (MS.s_lasts x (va_up x.lasts w a)) (va_up x.pointSeries x.points w)) (va_up x.pointTimes x.points a)) (va_up x.pointValues x.points b)) (va_up x.places x.points (-1))) (va_up x.hidden x.points (-1))) (va_up x.baseHidden x.points (-1))) (x.points + 1))) t9) (va_A (MW dA h ad x) sz)) 0 0 (va_A (MW dA h ad x) sz) := by
  refine mkC (y := ⟨"SeriesVaultModel", "come", "(IJJ)V"⟩) (cc := prog_14_method_16_code) (maxL := 6) (av := [.ref h, .int (nI w), .long a, .long b]) (ws := MW dA h ad x) (sz := sz) (Qc := fun A => va_Qv (fun (u9 : Unit) => True) (fun (u9 : Unit) t9 => bW D A (MW dA h ad (MS.s_points (MS.s_baseHidden (MS.s_hidden (MS.s_places (MS.s_pointValues (MS.s_pointTimes (MS.s_pointSeries (MS.s_lasts x (va_up x.lasts w a)) (va_up x.pointSeries x.points w)) (va_up x.pointTimes x.points a)) (va_up x.pointValues x.points b)) (va_up x.places x.points (-1))) (va_up x.hidden x.points (-1))) (va_up x.baseHidden x.points (-1))) (x.points + 1))) t9) A) (by decide) (Nat.le_of_ble_eq_true rfl) ?_
  intro A p e s m below meth c ls hsz hB
  obtain ⟨hx, hb, hr, hml, hown, hin, hlk, hE, hK, hP, hD, hS, hA, hN, hl⟩ := hB
  have hown : s.vm.findClass "SeriesVaultModel" = some m.cls := hown
  have hl : lv_has ls 6 [(0, .ref h), (1, .int (nI w)), (2, .long a), (4, .long b)] := hl
  obtain ⟨H, hH⟩ : ∃ z, z = s.heap := ⟨_, rfl⟩
  have hP : va_P D vwCl (MW dA h ad x) H := by rw [hH]; exact hP
  have hS : va_S A s.heap H [] := by rw [hH]; exact hS
  rw [← hH]
  refine lv_aload_n hx hb d_M_come_0 rfl (lv_at hl 0 rfl) ?_
  refine gF (v := .ref (ad 13)) hx hb hown hE hK hP 0 rfl rfl layM 13 (by decide) w501 rfl d_M_come_1 ?_
  refine lv_iload_n hx hb d_M_come_4 rfl (lv_at hl 1 rfl) ?_
  refine lv_lload_n hx hb d_M_come_5 rfl (lv_at hl 2 rfl) ?_
  refine nlst hx hb hK hP hD hS 4 2 rfl rfl (w) (by omega) (by decide) d_M_come_6 (fun H locs hP hD hS => ?_)
  have hP : va_P D vwCl (MW dA h ad (MS.s_lasts x (va_up x.lasts w a))) H := hP
  have hD : va_D A (MW dA h ad (MS.s_lasts x (va_up x.lasts w a))) := hD
  refine lv_lload_n hx hb d_M_come_7 rfl (lv_at hl 2 rfl) ?_
  refine lv_aload_n hx hb d_M_come_8 rfl (lv_at hl 0 rfl) ?_
  refine gF (v := .long x.horizon) hx hb hown hE hK hP 0 rfl rfl layM 24 (by decide) w421 rfl d_M_come_9 ?_
  refine W.lcmp hx hb d_M_come_12 ?_
  refine lv_if_ge hx hb d_M_come_13 (tgt := 17) rfl (fun _ => ?_) (fun h9 => absurd ((lg_cmp_ge _ _).mpr (Int64.not_lt.mp ht)) h9)
  refine lv_aload_n hx hb d_M_come_17 rfl (lv_at hl 0 rfl) ?_
  refine gF (v := .ref (ad 17)) hx hb hown hE hK hP 0 rfl rfl layM 17 (by decide) w503 rfl d_M_come_18 ?_
  refine lv_aload_n hx hb d_M_come_21 rfl (lv_at hl 0 rfl) ?_
  refine gF (v := .int (nI x.points)) hx hb hown hE hK hP 0 rfl rfl layM 23 (by decide) w420 rfl d_M_come_22 ?_
  refine lv_iload_n hx hb d_M_come_25 rfl (lv_at hl 1 rfl) ?_
  refine nistN (v := w) hx hb hK hP hD hS 6 1 rfl rfl (x.points) (by omega) (by decide) d_M_come_26 (fun H locs hP hD hS => ?_)
  have hP : va_P D vwCl (MW dA h ad (MS.s_pointSeries (MS.s_lasts x (va_up x.lasts w a)) (va_up x.pointSeries x.points w))) H := hP
  have hD : va_D A (MW dA h ad (MS.s_pointSeries (MS.s_lasts x (va_up x.lasts w a)) (va_up x.pointSeries x.points w))) := hD
  refine lv_aload_n hx hb d_M_come_27 rfl (lv_at hl 0 rfl) ?_
  refine gF (v := .ref (ad 18)) hx hb hown hE hK hP 0 rfl rfl layM 18 (by decide) w504 rfl d_M_come_28 ?_
  refine lv_aload_n hx hb d_M_come_31 rfl (lv_at hl 0 rfl) ?_
  refine gF (v := .int (nI x.points)) hx hb hown hE hK hP 0 rfl rfl layM 23 (by decide) w420 rfl d_M_come_32 ?_
  refine lv_lload_n hx hb d_M_come_35 rfl (lv_at hl 2 rfl) ?_
  refine nlst hx hb hK hP hD hS 7 2 rfl rfl (x.points) (by omega) (by decide) d_M_come_36 (fun H locs hP hD hS => ?_)
  have hP : va_P D vwCl (MW dA h ad (MS.s_pointTimes (MS.s_pointSeries (MS.s_lasts x (va_up x.lasts w a)) (va_up x.pointSeries x.points w)) (va_up x.pointTimes x.points a))) H := hP
  have hD : va_D A (MW dA h ad (MS.s_pointTimes (MS.s_pointSeries (MS.s_lasts x (va_up x.lasts w a)) (va_up x.pointSeries x.points w)) (va_up x.pointTimes x.points a))) := hD
  refine lv_aload_n hx hb d_M_come_37 rfl (lv_at hl 0 rfl) ?_
  refine gF (v := .ref (ad 19)) hx hb hown hE hK hP 0 rfl rfl layM 19 (by decide) w505 rfl d_M_come_38 ?_
  refine lv_aload_n hx hb d_M_come_41 rfl (lv_at hl 0 rfl) ?_
  refine gF (v := .int (nI x.points)) hx hb hown hE hK hP 0 rfl rfl layM 23 (by decide) w420 rfl d_M_come_42 ?_
  refine lv_lload hx hb d_M_come_45 (lv_at hl 3 rfl) ?_
  refine nlst hx hb hK hP hD hS 8 2 rfl rfl (x.points) (by omega) (by decide) d_M_come_47 (fun H locs hP hD hS => ?_)
  have hP : va_P D vwCl (MW dA h ad (MS.s_pointValues (MS.s_pointTimes (MS.s_pointSeries (MS.s_lasts x (va_up x.lasts w a)) (va_up x.pointSeries x.points w)) (va_up x.pointTimes x.points a)) (va_up x.pointValues x.points b))) H := hP
  have hD : va_D A (MW dA h ad (MS.s_pointValues (MS.s_pointTimes (MS.s_pointSeries (MS.s_lasts x (va_up x.lasts w a)) (va_up x.pointSeries x.points w)) (va_up x.pointTimes x.points a)) (va_up x.pointValues x.points b))) := hD
  refine lv_aload_n hx hb d_M_come_48 rfl (lv_at hl 0 rfl) ?_
  refine gF (v := .ref (ad 20)) hx hb hown hE hK hP 0 rfl rfl layM 20 (by decide) w506 rfl d_M_come_49 ?_
  refine lv_aload_n hx hb d_M_come_52 rfl (lv_at hl 0 rfl) ?_
  refine gF (v := .int (nI x.points)) hx hb hown hE hK hP 0 rfl rfl layM 23 (by decide) w420 rfl d_M_come_53 ?_
  refine lv_iconst (v := (-1)) hx hb d_M_come_56 (by decide) ?_
  refine nist hx hb hK hP hD hS 9 1 rfl rfl (x.points) (by omega) (by decide) d_M_come_57 (fun H locs hP hD hS => ?_)
  have hP : va_P D vwCl (MW dA h ad (MS.s_places (MS.s_pointValues (MS.s_pointTimes (MS.s_pointSeries (MS.s_lasts x (va_up x.lasts w a)) (va_up x.pointSeries x.points w)) (va_up x.pointTimes x.points a)) (va_up x.pointValues x.points b)) (va_up x.places x.points (-1)))) H := hP
  have hD : va_D A (MW dA h ad (MS.s_places (MS.s_pointValues (MS.s_pointTimes (MS.s_pointSeries (MS.s_lasts x (va_up x.lasts w a)) (va_up x.pointSeries x.points w)) (va_up x.pointTimes x.points a)) (va_up x.pointValues x.points b)) (va_up x.places x.points (-1)))) := hD
  refine lv_aload_n hx hb d_M_come_58 rfl (lv_at hl 0 rfl) ?_
  refine gF (v := .ref (ad 21)) hx hb hown hE hK hP 0 rfl rfl layM 21 (by decide) w507 rfl d_M_come_59 ?_
  refine lv_aload_n hx hb d_M_come_62 rfl (lv_at hl 0 rfl) ?_
  refine gF (v := .int (nI x.points)) hx hb hown hE hK hP 0 rfl rfl layM 23 (by decide) w420 rfl d_M_come_63 ?_
  refine lv_iconst (v := (-1)) hx hb d_M_come_66 (by decide) ?_
  refine nist hx hb hK hP hD hS 10 1 rfl rfl (x.points) (by omega) (by decide) d_M_come_67 (fun H locs hP hD hS => ?_)
  have hP : va_P D vwCl (MW dA h ad (MS.s_hidden (MS.s_places (MS.s_pointValues (MS.s_pointTimes (MS.s_pointSeries (MS.s_lasts x (va_up x.lasts w a)) (va_up x.pointSeries x.points w)) (va_up x.pointTimes x.points a)) (va_up x.pointValues x.points b)) (va_up x.places x.points (-1))) (va_up x.hidden x.points (-1)))) H := hP
  have hD : va_D A (MW dA h ad (MS.s_hidden (MS.s_places (MS.s_pointValues (MS.s_pointTimes (MS.s_pointSeries (MS.s_lasts x (va_up x.lasts w a)) (va_up x.pointSeries x.points w)) (va_up x.pointTimes x.points a)) (va_up x.pointValues x.points b)) (va_up x.places x.points (-1))) (va_up x.hidden x.points (-1)))) := hD
  refine lv_aload_n hx hb d_M_come_68 rfl (lv_at hl 0 rfl) ?_
  refine gF (v := .ref (ad 22)) hx hb hown hE hK hP 0 rfl rfl layM 22 (by decide) w508 rfl d_M_come_69 ?_
  refine lv_aload_n hx hb d_M_come_72 rfl (lv_at hl 0 rfl) ?_
  refine gF (v := .int (nI x.points)) hx hb hown hE hK hP 0 rfl rfl layM 23 (by decide) w420 rfl d_M_come_73 ?_
  refine lv_iconst (v := (-1)) hx hb d_M_come_76 (by decide) ?_
  refine nist hx hb hK hP hD hS 11 1 rfl rfl (x.points) (by omega) (by decide) d_M_come_77 (fun H locs hP hD hS => ?_)
  have hP : va_P D vwCl (MW dA h ad (MS.s_baseHidden (MS.s_hidden (MS.s_places (MS.s_pointValues (MS.s_pointTimes (MS.s_pointSeries (MS.s_lasts x (va_up x.lasts w a)) (va_up x.pointSeries x.points w)) (va_up x.pointTimes x.points a)) (va_up x.pointValues x.points b)) (va_up x.places x.points (-1))) (va_up x.hidden x.points (-1))) (va_up x.baseHidden x.points (-1)))) H := hP
  have hD : va_D A (MW dA h ad (MS.s_baseHidden (MS.s_hidden (MS.s_places (MS.s_pointValues (MS.s_pointTimes (MS.s_pointSeries (MS.s_lasts x (va_up x.lasts w a)) (va_up x.pointSeries x.points w)) (va_up x.pointTimes x.points a)) (va_up x.pointValues x.points b)) (va_up x.places x.points (-1))) (va_up x.hidden x.points (-1))) (va_up x.baseHidden x.points (-1)))) := hD
  refine lv_aload_n hx hb d_M_come_78 rfl (lv_at hl 0 rfl) ?_
  refine lv_dup hx hb d_M_come_79 rfl ?_
  refine gF (v := .int (nI x.points)) hx hb hown hE hK hP 0 rfl rfl layM 23 (by decide) w420 rfl d_M_come_80 ?_
  refine lv_iconst (v := 1) hx hb d_M_come_83 (by decide) ?_
  refine lv_iadd hx hb d_M_come_84 (tpi (y := nI (x.points + 1)) (nI_add (x.points) (1)) ?_)
  refine pF (v := .int (nI (x.points + 1))) hx hb hown hE hK hP hD hS 0 rfl rfl layM tyM tokM nmM 23 (by decide) w420 rfl rfl rfl (Nat.le_of_ble_eq_true rfl) d_M_come_85 (fun H locs hP hD hS => ?_)
  have hP : va_P D vwCl (MW dA h ad (MS.s_points (MS.s_baseHidden (MS.s_hidden (MS.s_places (MS.s_pointValues (MS.s_pointTimes (MS.s_pointSeries (MS.s_lasts x (va_up x.lasts w a)) (va_up x.pointSeries x.points w)) (va_up x.pointTimes x.points a)) (va_up x.pointValues x.points b)) (va_up x.places x.points (-1))) (va_up x.hidden x.points (-1))) (va_up x.baseHidden x.points (-1))) (x.points + 1))) H := hP
  have hD : va_D A (MW dA h ad (MS.s_points (MS.s_baseHidden (MS.s_hidden (MS.s_places (MS.s_pointValues (MS.s_pointTimes (MS.s_pointSeries (MS.s_lasts x (va_up x.lasts w a)) (va_up x.pointSeries x.points w)) (va_up x.pointTimes x.points a)) (va_up x.pointValues x.points b)) (va_up x.places x.points (-1))) (va_up x.hidden x.points (-1))) (va_up x.baseHidden x.points (-1))) (x.points + 1))) := hD
  exact rfV hx hb hr hlk hS () trivial hP hD (Nat.le_of_ble_eq_true rfl) (Nat.le_of_ble_eq_true rfl) d_M_come_88
theorem seen_mapT {x : MS} {k : Nat} {c : Nat → Bool} {g1 g2 : Nat → Int32} : (MS.s_hidden (MS.s_places x (mapT k c g2 x.places)) (mapT k c g1 x.hidden)).seen k = x.seen k := by
  unfold MS.seen
  show (!decide (mapT k c g2 x.places k ≤ -2) && (!decide (0 ≤ mapT k c g1 x.hidden k) && _)) = _
  rw [mapT_at _ _ _ (Nat.le_refl k), mapT_at _ _ _ (Nat.le_refl k)]
def MS.gH (x : MS) (z : Nat) : Int32 := if x.places z < 0 then (-1) else nI x.deletes
def MS.gP (x : MS) (z : Nat) : Int32 := if x.places z < 0 then (-2) else x.places z
theorem d_M_go_0 : decode prog_14_method_17_code 0 = .ok (.iconst 0, 1) := by decide +kernel
theorem d_M_go_1 : decode prog_14_method_17_code 1 = .ok (.istore 6, 2) := by decide +kernel
theorem d_M_go_3 : decode prog_14_method_17_code 3 = .ok (.iconst 0, 1) := by decide +kernel
theorem d_M_go_4 : decode prog_14_method_17_code 4 = .ok (.istore 7, 2) := by decide +kernel
theorem d_M_go_6 : decode prog_14_method_17_code 6 = .ok (.iload 7, 2) := by decide +kernel
theorem d_M_go_8 : decode prog_14_method_17_code 8 = .ok (.aload_n 0, 1) := by decide +kernel
theorem d_M_go_9 : decode prog_14_method_17_code 9 = .ok (.getfield 169, 3) := by decide +kernel
theorem d_M_go_12 : decode prog_14_method_17_code 12 = .ok (.if_icmp .ge 114, 3) := by decide +kernel
theorem d_M_go_126 : decode prog_14_method_17_code 126 = .ok (.aload_n 0, 1) := by decide +kernel
theorem d_M_go_127 : decode prog_14_method_17_code 127 = .ok (.dup, 1) := by decide +kernel
theorem d_M_go_128 : decode prog_14_method_17_code 128 = .ok (.getfield 211, 3) := by decide +kernel
theorem d_M_go_131 : decode prog_14_method_17_code 131 = .ok (.iconst 1, 1) := by decide +kernel
theorem d_M_go_132 : decode prog_14_method_17_code 132 = .ok (.iadd, 1) := by decide +kernel
theorem d_M_go_133 : decode prog_14_method_17_code 133 = .ok (.putfield 211, 3) := by decide +kernel
theorem d_M_go_136 : decode prog_14_method_17_code 136 = .ok (.iload 6, 2) := by decide +kernel
theorem d_M_go_138 : decode prog_14_method_17_code 138 = .ok (.ireturn, 1) := by decide +kernel
theorem d_M_go_15 : decode prog_14_method_17_code 15 = .ok (.aload_n 0, 1) := by decide +kernel
theorem d_M_go_16 : decode prog_14_method_17_code 16 = .ok (.getfield 43, 3) := by decide +kernel
theorem d_M_go_19 : decode prog_14_method_17_code 19 = .ok (.iload 7, 2) := by decide +kernel
theorem d_M_go_21 : decode prog_14_method_17_code 21 = .ok (.iaload, 1) := by decide +kernel
theorem d_M_go_22 : decode prog_14_method_17_code 22 = .ok (.iload_n 1, 1) := by decide +kernel
theorem d_M_go_23 : decode prog_14_method_17_code 23 = .ok (.if_icmp .ne 97, 3) := by decide +kernel
theorem d_M_go_120 : decode prog_14_method_17_code 120 = .ok (.iinc 7 1, 3) := by decide +kernel
theorem d_M_go_123 : decode prog_14_method_17_code 123 = .ok (.goto (-117), 3) := by decide +kernel
theorem d_M_go_26 : decode prog_14_method_17_code 26 = .ok (.aload_n 0, 1) := by decide +kernel
theorem d_M_go_27 : decode prog_14_method_17_code 27 = .ok (.iload 7, 2) := by decide +kernel
theorem d_M_go_29 : decode prog_14_method_17_code 29 = .ok (.invokevirtual 207, 3) := by decide +kernel
theorem d_M_go_32 : decode prog_14_method_17_code 32 = .ok (.ifCond .eq 88, 3) := by decide +kernel
theorem d_M_go_35 : decode prog_14_method_17_code 35 = .ok (.aload_n 0, 1) := by decide +kernel
theorem d_M_go_36 : decode prog_14_method_17_code 36 = .ok (.getfield 46, 3) := by decide +kernel
theorem d_M_go_39 : decode prog_14_method_17_code 39 = .ok (.iload 7, 2) := by decide +kernel
theorem d_M_go_41 : decode prog_14_method_17_code 41 = .ok (.laload, 1) := by decide +kernel
theorem d_M_go_42 : decode prog_14_method_17_code 42 = .ok (.lload_n 2, 1) := by decide +kernel
theorem d_M_go_43 : decode prog_14_method_17_code 43 = .ok (.lcmp, 1) := by decide +kernel
theorem d_M_go_44 : decode prog_14_method_17_code 44 = .ok (.ifCond .lt 76, 3) := by decide +kernel
theorem d_M_go_47 : decode prog_14_method_17_code 47 = .ok (.aload_n 0, 1) := by decide +kernel
theorem d_M_go_48 : decode prog_14_method_17_code 48 = .ok (.getfield 46, 3) := by decide +kernel
theorem d_M_go_51 : decode prog_14_method_17_code 51 = .ok (.iload 7, 2) := by decide +kernel
theorem d_M_go_53 : decode prog_14_method_17_code 53 = .ok (.laload, 1) := by decide +kernel
theorem d_M_go_54 : decode prog_14_method_17_code 54 = .ok (.lload 4, 2) := by decide +kernel
theorem d_M_go_56 : decode prog_14_method_17_code 56 = .ok (.lcmp, 1) := by decide +kernel
theorem d_M_go_57 : decode prog_14_method_17_code 57 = .ok (.ifCond .le 6, 3) := by decide +kernel
theorem d_M_go_63 : decode prog_14_method_17_code 63 = .ok (.iinc 6 1, 3) := by decide +kernel
theorem d_M_go_66 : decode prog_14_method_17_code 66 = .ok (.aload_n 0, 1) := by decide +kernel
theorem d_M_go_67 : decode prog_14_method_17_code 67 = .ok (.getfield 55, 3) := by decide +kernel
theorem d_M_go_70 : decode prog_14_method_17_code 70 = .ok (.iload 7, 2) := by decide +kernel
theorem d_M_go_72 : decode prog_14_method_17_code 72 = .ok (.aload_n 0, 1) := by decide +kernel
theorem d_M_go_73 : decode prog_14_method_17_code 73 = .ok (.getfield 52, 3) := by decide +kernel
theorem d_M_go_76 : decode prog_14_method_17_code 76 = .ok (.iload 7, 2) := by decide +kernel
theorem d_M_go_78 : decode prog_14_method_17_code 78 = .ok (.iaload, 1) := by decide +kernel
theorem d_M_go_79 : decode prog_14_method_17_code 79 = .ok (.ifCond .lt 10, 3) := by decide +kernel
theorem d_M_go_89 : decode prog_14_method_17_code 89 = .ok (.iconst (-1), 1) := by decide +kernel
theorem d_M_go_90 : decode prog_14_method_17_code 90 = .ok (.iastore, 1) := by decide +kernel
theorem d_M_go_91 : decode prog_14_method_17_code 91 = .ok (.aload_n 0, 1) := by decide +kernel
theorem d_M_go_92 : decode prog_14_method_17_code 92 = .ok (.getfield 52, 3) := by decide +kernel
theorem d_M_go_95 : decode prog_14_method_17_code 95 = .ok (.iload 7, 2) := by decide +kernel
theorem d_M_go_97 : decode prog_14_method_17_code 97 = .ok (.aload_n 0, 1) := by decide +kernel
theorem d_M_go_98 : decode prog_14_method_17_code 98 = .ok (.getfield 52, 3) := by decide +kernel
theorem d_M_go_101 : decode prog_14_method_17_code 101 = .ok (.iload 7, 2) := by decide +kernel
theorem d_M_go_103 : decode prog_14_method_17_code 103 = .ok (.iaload, 1) := by decide +kernel
theorem d_M_go_104 : decode prog_14_method_17_code 104 = .ok (.ifCond .lt 13, 3) := by decide +kernel
theorem d_M_go_117 : decode prog_14_method_17_code 117 = .ok (.bipush (-2), 2) := by decide +kernel
theorem d_M_go_119 : decode prog_14_method_17_code 119 = .ok (.iastore, 1) := by decide +kernel
theorem d_M_go_82 : decode prog_14_method_17_code 82 = .ok (.aload_n 0, 1) := by decide +kernel
theorem d_M_go_83 : decode prog_14_method_17_code 83 = .ok (.getfield 211, 3) := by decide +kernel
theorem d_M_go_86 : decode prog_14_method_17_code 86 = .ok (.goto 4, 3) := by decide +kernel
theorem d_M_go_107 : decode prog_14_method_17_code 107 = .ok (.aload_n 0, 1) := by decide +kernel
theorem d_M_go_108 : decode prog_14_method_17_code 108 = .ok (.getfield 52, 3) := by decide +kernel
theorem d_M_go_111 : decode prog_14_method_17_code 111 = .ok (.iload 7, 2) := by decide +kernel
theorem d_M_go_113 : decode prog_14_method_17_code 113 = .ok (.iaload, 1) := by decide +kernel
theorem d_M_go_114 : decode prog_14_method_17_code 114 = .ok (.goto 5, 3) := by decide +kernel
theorem d_M_go_60 : decode prog_14_method_17_code 60 = .ok (.goto 60, 3) := by decide +kernel
theorem w865 : Cond.fieldLink "SeriesVaultModel" 211 "SeriesVaultModel" "deletes" "I" ∈ aW := aw_of (tb_8 (List.mem_of_getElem? (i := 204) rfl)) rfl
set_option maxHeartbeats 4000000 in
set_option maxRecDepth 100000 in
theorem k_go (l : Launch) (D : va_G) (dA : Nat → ClassId) (sz : Nat) (h : Nat) (ad : Nat → Nat) (x : MS) (w : Nat) (a : Int64) (b : Int64) (h1 : x.points ≤ 12000) (h2 : x.deletes < 2 ^ 30) (hw : w < 256) (hs : ∀ q : Nat, q < x.points → x.pointSeries q < 256) : Met l ⟨"SeriesVaultModel", "go", "(IJJ)I"⟩ [Cond.code ⟨"SeriesVaultModel", "go", "(IJJ)I"⟩ prog_14_method_17_code 8 (some FieldType.int)] { frames := 2, cells := 0, slots := 0, locals := 21 } (pC D dA [.ref h, .int (nI w), .long a, .long b] (MW dA h ad x) sz) (va_Qi (fun (r9 : Int32) (u9 : Unit) => r9 = nI (cnt x.points (x.hit w a b))) (fun (u9 : Unit) t9 => bW D (va_A (MW dA h ad x) sz) (MW dA h ad (MS.s_deletes (MS.s_hidden (MS.s_places x (mapT x.points (x.hit w a b) x.gP x.places)) (mapT x.points (x.hit w a b) x.gH x.hidden)) (x.deletes + 1))) t9) (va_A (MW dA h ad x) sz)) 0 0 (va_A (MW dA h ad x) sz) := by
  refine mkC (y := ⟨"SeriesVaultModel", "go", "(IJJ)I"⟩) (cc := prog_14_method_17_code) (maxL := 8) (av := [.ref h, .int (nI w), .long a, .long b]) (ws := MW dA h ad x) (sz := sz) (Qc := fun A => va_Qi (fun (r9 : Int32) (u9 : Unit) => r9 = nI (cnt x.points (x.hit w a b))) (fun (u9 : Unit) t9 => bW D A (MW dA h ad (MS.s_deletes (MS.s_hidden (MS.s_places x (mapT x.points (x.hit w a b) x.gP x.places)) (mapT x.points (x.hit w a b) x.gH x.hidden)) (x.deletes + 1))) t9) A) (by decide) (Nat.le_of_ble_eq_true rfl) ?_
  intro A p e s m below meth c ls hsz hB
  obtain ⟨hx, hb, hr, hml, hown, hin, hlk, hE, hK, hP, hD, hS, hA, hN, hl⟩ := hB
  have hown : s.vm.findClass "SeriesVaultModel" = some m.cls := hown
  have hl : lv_has ls 8 [(0, .ref h), (1, .int (nI w)), (2, .long a), (4, .long b)] := hl
  obtain ⟨H, hH⟩ : ∃ z, z = s.heap := ⟨_, rfl⟩
  have hP : va_P D vwCl (MW dA h ad x) H := by rw [hH]; exact hP
  have hS : va_S A s.heap H [] := by rw [hH]; exact hS
  rw [← hH]
  refine lv_iconst (v := 0) hx hb d_M_go_0 (by decide) ?_
  refine lv_istore hx hb d_M_go_1 hl (by decide) rfl (fun ls hl => ?_)
  have hl : lv_has ls 8 [(6, .int 0), (0, .ref h), (1, .int (nI w)), (2, .long a), (4, .long b)] := hl
  refine lv_iconst (v := 0) hx hb d_M_go_3 (by decide) ?_
  refine lv_istore hx hb d_M_go_4 hl (by decide) rfl (fun ls hl => ?_)
  have hl : lv_has ls 8 [(7, .int 0), (6, .int 0), (0, .ref h), (1, .int (nI w)), (2, .long a), (4, .long b)] := hl
  have L6 : ∀ (k9 : Nat) (q : Nat) (n : Nat) (i1 : q ≤ x.points) (i2 : n = cnt q (x.hit w a b)) (hk9 : x.points - q = k9), ∀ (H : Heap) (locs : List Loc) (ls : Array Slot) (hP : va_P D vwCl (MW dA h ad (MS.s_hidden (MS.s_places x (mapT q (x.hit w a b) x.gP x.places)) (mapT q (x.hit w a b) x.gH x.hidden))) H) (hD : va_D A (MW dA h ad (MS.s_hidden (MS.s_places x (mapT q (x.hit w a b) x.gP x.places)) (mapT q (x.hit w a b) x.gH x.hidden)))) (hS : va_S A s.heap H locs) (hl : lv_has ls 8 [(7, .int (nI q)), (6, .int (nI n)), (0, .ref h), (1, .int (nI w)), (2, .long a), (4, .long b)]), W p l e ({ frames := 2, cells := 0, slots := 0, locals := 21 } : Room) s m ([.ref h, .int (nI w), .long a, .long b] : List Value).toArray below meth c H locs 0 0 (MQ below (va_Qi (fun (r9 : Int32) (u9 : Unit) => r9 = nI (cnt x.points (x.hit w a b))) (fun (u9 : Unit) t9 => bW D A (MW dA h ad (MS.s_deletes (MS.s_hidden (MS.s_places x (mapT x.points (x.hit w a b) x.gP x.places)) (mapT x.points (x.hit w a b) x.gH x.hidden)) (x.deletes + 1))) t9) A) ([.ref h, .int (nI w), .long a, .long b] : List Value).toArray s 0 0 A) (F0 m 6 ls []) := by
    intro k9
    induction k9 using Nat.strongRecOn with
    | ind k9 ih6 =>
      intro q n i1 i2 hk9 H locs ls hP hD hS hl
      refine lv_iload hx hb d_M_go_6 (lv_at hl 0 rfl) ?_
      refine lv_aload_n hx hb d_M_go_8 rfl (lv_at hl 2 rfl) ?_
      refine gF (v := .int (nI x.points)) hx hb hown hE hK hP 0 rfl rfl layM 23 (by decide) w420 rfl d_M_go_9 ?_
      refine lv_icmp_ge hx hb d_M_go_12 (tgt := 126) rfl (fun g1 => ?_) (fun g1 => ?_)
      · have g1 := (nI_leI (a := x.points) (b := q) (by omega) (by omega)).mp g1
        refine lv_aload_n hx hb d_M_go_126 rfl (lv_at hl 2 rfl) ?_
        refine lv_dup hx hb d_M_go_127 rfl ?_
        refine gF (v := .int (nI x.deletes)) hx hb hown hE hK hP 0 rfl rfl layM 30 (by decide) w865 rfl d_M_go_128 ?_
        refine lv_iconst (v := 1) hx hb d_M_go_131 (by decide) ?_
        refine lv_iadd hx hb d_M_go_132 (tpi (y := nI (x.deletes + 1)) (nI_add (x.deletes) (1)) ?_)
        refine pF (v := .int (nI (x.deletes + 1))) hx hb hown hE hK hP hD hS 0 rfl rfl layM tyM tokM nmM 30 (by decide) w865 rfl rfl rfl (Nat.le_of_ble_eq_true rfl) d_M_go_133 (fun H locs hP hD hS => ?_)
        have hP : va_P D vwCl (MW dA h ad (MS.s_deletes (MS.s_hidden (MS.s_places x (mapT q (x.hit w a b) x.gP x.places)) (mapT q (x.hit w a b) x.gH x.hidden)) (x.deletes + 1))) H := hP
        have hD : va_D A (MW dA h ad (MS.s_deletes (MS.s_hidden (MS.s_places x (mapT q (x.hit w a b) x.gP x.places)) (mapT q (x.hit w a b) x.gH x.hidden)) (x.deletes + 1))) := hD
        refine lv_iload hx hb d_M_go_136 (lv_at hl 1 rfl) ?_
        have e9 : (MS.s_deletes (MS.s_hidden (MS.s_places x (mapT q (x.hit w a b) x.gP x.places)) (mapT q (x.hit w a b) x.gH x.hidden)) (x.deletes + 1) : MS) = MS.s_deletes (MS.s_hidden (MS.s_places x (mapT x.points (x.hit w a b) x.gP x.places)) (mapT x.points (x.hit w a b) x.gH x.hidden)) (x.deletes + 1) := by rw [show (mapT x.points (x.hit w a b) x.gH x.hidden) = (mapT q (x.hit w a b) x.gH x.hidden) from by (rw [show q = x.points by omega]), show (mapT x.points (x.hit w a b) x.gP x.places) = (mapT q (x.hit w a b) x.gP x.places) from by (rw [show q = x.points by omega])] <;> rfl
        exact rfI hx hb hr hlk hS () (by rw [i2, show q = x.points by omega]) (cvP e9 hP) (cvD e9 hD) (Nat.le_of_ble_eq_true rfl) (Nat.le_of_ble_eq_true rfl) d_M_go_138
      · have g1 := mt (nI_leI (a := x.points) (b := q) (by omega) (by omega)).mpr g1
        refine lv_aload_n hx hb d_M_go_15 rfl (lv_at hl 2 rfl) ?_
        refine gF (v := .ref (ad 17)) hx hb hown hE hK hP 0 rfl rfl layM 17 (by decide) w503 rfl d_M_go_16 ?_
        refine lv_iload hx hb d_M_go_19 (lv_at hl 0 rfl) ?_
        refine nild (f := (fun z9 => nI (x.pointSeries z9))) hx hb hK hP 6 1 rfl rfl (q) (by omega) (by decide) d_M_go_21 ?_
        refine lv_iload_n hx hb d_M_go_22 rfl (lv_at hl 3 rfl) ?_
        have b1 := hs q (by omega)
        refine lv_icmp_ne hx hb d_M_go_23 (tgt := 120) rfl (fun g2 => ?_) (fun g2 => ?_)
        · have g2 := mt (nI_eq (a := x.pointSeries q) (b := w) (by omega) (by omega)).mpr g2
          refine lv_iinc (k := 0) (v := nI (q + 1)) hx hb d_M_go_120 hl rfl (iincN (q) 1 1 (by decide)) (by decide) rfl (fun ls hl => ?_)
          have hl : lv_has ls 8 [(7, .int (nI (q + 1))), (6, .int (nI n)), (0, .ref h), (1, .int (nI w)), (2, .long a), (4, .long b)] := hl
          refine lv_goto hx hb d_M_go_123 (tgt := 6) rfl ?_
          have e9 : (MS.s_hidden (MS.s_places x (mapT q (x.hit w a b) x.gP x.places)) (mapT q (x.hit w a b) x.gH x.hidden) : MS) = MS.s_hidden (MS.s_places x (mapT (q + 1) (x.hit w a b) x.gP x.places)) (mapT (q + 1) (x.hit w a b) x.gH x.hidden) := by rw [show (mapT (q + 1) (x.hit w a b) x.gH x.hidden) = (mapT q (x.hit w a b) x.gH x.hidden) from (by first | exact mapT_0 _ _ _ | exact mapT_f (by simp [MS.hit, *]) | exact mapT_t (by simp [MS.hit, *]) (by simp [MS.gH, MS.gP, *])), show (mapT (q + 1) (x.hit w a b) x.gP x.places) = (mapT q (x.hit w a b) x.gP x.places) from (by first | exact mapT_0 _ _ _ | exact mapT_f (by simp [MS.hit, *]) | exact mapT_t (by simp [MS.hit, *]) (by simp [MS.gH, MS.gP, *]))] <;> rfl
          exact ih6 _ (by omega) (q + 1) n (by omega) (by simp [cnt, MS.hit, *]) rfl H _ ls (cvP e9 hP) (cvD e9 hD) hS (lv_sub hl [0, 1, 2, 3, 4, 5] rfl)
        · have g2 := (nI_eq (a := x.pointSeries q) (b := w) (by omega) (by omega)).mp g2
          refine lv_aload_n hx hb d_M_go_26 rfl (lv_at hl 2 rfl) ?_
          refine lv_iload hx hb d_M_go_27 (lv_at hl 0 rfl) ?_
          refine jfI (rnV (As := [.int (nI q)]) (rest := []) hx hb hml hown hE hK (hN _ _ hS) hP hD (k_isSeen l D dA H.size h ad (MS.s_hidden (MS.s_places x (mapT q (x.hit w a b) x.gP x.places)) (mapT q (x.hit w a b) x.gH x.hidden)) q (show q < 12000 from by omega)) (q0 := 0) rfl rfl w861 w860 w862 w863 w328 rfl rfl ⟨⟨by decide, by decide⟩, rfl⟩ ⟨(Nat.le_of_ble_eq_true rfl), (Nat.le_of_ble_eq_true rfl)⟩ rfl hl.1 rfl (Nat.le_of_ble_eq_true rfl) d_M_go_29 ⟨(Nat.le_of_ble_eq_true rfl), (Nat.le_of_ble_eq_true rfl)⟩) hP hD hS hA (fun r3 u4 H locs hp9 hP hD hS => ?_)
          have hP : va_P D vwCl (MW dA h ad (MS.s_hidden (MS.s_places x (mapT q (x.hit w a b) x.gP x.places)) (mapT q (x.hit w a b) x.gH x.hidden))) H := hP
          have hD : va_D A (MW dA h ad (MS.s_hidden (MS.s_places x (mapT q (x.hit w a b) x.gP x.places)) (mapT q (x.hit w a b) x.gH x.hidden))) := hD
          replace hp9 : bI ((MS.s_hidden (MS.s_places x (mapT q (x.hit w a b) x.gP x.places)) (mapT q (x.hit w a b) x.gH x.hidden)).seen q) = r3 := Eq.symm hp9
          subst hp9
          rw [seen_mapT]
          refine lv_if_eq hx hb d_M_go_32 (tgt := 120) rfl (fun g5 => ?_) (fun g5 => ?_)
          · have g5 := bI_0 g5
            refine lv_iinc (k := 0) (v := nI (q + 1)) hx hb d_M_go_120 hl rfl (iincN (q) 1 1 (by decide)) (by decide) rfl (fun ls hl => ?_)
            have hl : lv_has ls 8 [(7, .int (nI (q + 1))), (6, .int (nI n)), (0, .ref h), (1, .int (nI w)), (2, .long a), (4, .long b)] := hl
            refine lv_goto hx hb d_M_go_123 (tgt := 6) rfl ?_
            have e9 : (MS.s_hidden (MS.s_places x (mapT q (x.hit w a b) x.gP x.places)) (mapT q (x.hit w a b) x.gH x.hidden) : MS) = MS.s_hidden (MS.s_places x (mapT (q + 1) (x.hit w a b) x.gP x.places)) (mapT (q + 1) (x.hit w a b) x.gH x.hidden) := by rw [show (mapT (q + 1) (x.hit w a b) x.gH x.hidden) = (mapT q (x.hit w a b) x.gH x.hidden) from (by first | exact mapT_0 _ _ _ | exact mapT_f (by simp [MS.hit, *]) | exact mapT_t (by simp [MS.hit, *]) (by simp [MS.gH, MS.gP, *])), show (mapT (q + 1) (x.hit w a b) x.gP x.places) = (mapT q (x.hit w a b) x.gP x.places) from (by first | exact mapT_0 _ _ _ | exact mapT_f (by simp [MS.hit, *]) | exact mapT_t (by simp [MS.hit, *]) (by simp [MS.gH, MS.gP, *]))] <;> rfl
            exact ih6 _ (by omega) (q + 1) n (by omega) (by simp [cnt, MS.hit, *]) rfl H _ ls (cvP e9 hP) (cvD e9 hD) hS (lv_sub hl [0, 1, 2, 3, 4, 5] rfl)
          · have g5 := bI_n0 g5
            refine lv_aload_n hx hb d_M_go_35 rfl (lv_at hl 2 rfl) ?_
            refine gF (v := .ref (ad 18)) hx hb hown hE hK hP 0 rfl rfl layM 18 (by decide) w504 rfl d_M_go_36 ?_
            refine lv_iload hx hb d_M_go_39 (lv_at hl 0 rfl) ?_
            refine nlld (f := x.pointTimes) hx hb hK hP 7 2 rfl rfl (q) (by omega) (by decide) d_M_go_41 ?_
            refine lv_lload_n hx hb d_M_go_42 rfl (lv_at hl 4 rfl) ?_
            refine W.lcmp hx hb d_M_go_43 ?_
            refine lv_if_lt hx hb d_M_go_44 (tgt := 120) rfl (fun g6 => ?_) (fun g6 => ?_)
            · have g6 := (lg_cmp_lt _ _).mp g6
              refine lv_iinc (k := 0) (v := nI (q + 1)) hx hb d_M_go_120 hl rfl (iincN (q) 1 1 (by decide)) (by decide) rfl (fun ls hl => ?_)
              have hl : lv_has ls 8 [(7, .int (nI (q + 1))), (6, .int (nI n)), (0, .ref h), (1, .int (nI w)), (2, .long a), (4, .long b)] := hl
              refine lv_goto hx hb d_M_go_123 (tgt := 6) rfl ?_
              have e9 : (MS.s_hidden (MS.s_places x (mapT q (x.hit w a b) x.gP x.places)) (mapT q (x.hit w a b) x.gH x.hidden) : MS) = MS.s_hidden (MS.s_places x (mapT (q + 1) (x.hit w a b) x.gP x.places)) (mapT (q + 1) (x.hit w a b) x.gH x.hidden) := by rw [show (mapT (q + 1) (x.hit w a b) x.gH x.hidden) = (mapT q (x.hit w a b) x.gH x.hidden) from (by first | exact mapT_0 _ _ _ | exact mapT_f (by simp [MS.hit, *]) | exact mapT_t (by simp [MS.hit, *]) (by simp [MS.gH, MS.gP, *])), show (mapT (q + 1) (x.hit w a b) x.gP x.places) = (mapT q (x.hit w a b) x.gP x.places) from (by first | exact mapT_0 _ _ _ | exact mapT_f (by simp [MS.hit, *]) | exact mapT_t (by simp [MS.hit, *]) (by simp [MS.gH, MS.gP, *]))] <;> rfl
              exact ih6 _ (by omega) (q + 1) n (by omega) (by simp [cnt, MS.hit, *]) rfl H _ ls (cvP e9 hP) (cvD e9 hD) hS (lv_sub hl [0, 1, 2, 3, 4, 5] rfl)
            · have g6 := mt (lg_cmp_lt _ _).mpr g6
              refine lv_aload_n hx hb d_M_go_47 rfl (lv_at hl 2 rfl) ?_
              refine gF (v := .ref (ad 18)) hx hb hown hE hK hP 0 rfl rfl layM 18 (by decide) w504 rfl d_M_go_48 ?_
              refine lv_iload hx hb d_M_go_51 (lv_at hl 0 rfl) ?_
              refine nlld (f := x.pointTimes) hx hb hK hP 7 2 rfl rfl (q) (by omega) (by decide) d_M_go_53 ?_
              refine lv_lload hx hb d_M_go_54 (lv_at hl 5 rfl) ?_
              refine W.lcmp hx hb d_M_go_56 ?_
              refine lv_if_le hx hb d_M_go_57 (tgt := 63) rfl (fun g7 => ?_) (fun g7 => ?_)
              · have g7 := (lg_cmp_le _ _).mp g7
                refine lv_iinc (k := 1) (v := nI (n + 1)) hx hb d_M_go_63 hl rfl (iincN (n) 1 1 (by decide)) (by decide) rfl (fun ls hl => ?_)
                have hl : lv_has ls 8 [(6, .int (nI (n + 1))), (7, .int (nI q)), (0, .ref h), (1, .int (nI w)), (2, .long a), (4, .long b)] := hl
                refine lv_aload_n hx hb d_M_go_66 rfl (lv_at hl 2 rfl) ?_
                refine gF (v := .ref (ad 21)) hx hb hown hE hK hP 0 rfl rfl layM 21 (by decide) w507 rfl d_M_go_67 ?_
                refine lv_iload hx hb d_M_go_70 (lv_at hl 1 rfl) ?_
                refine lv_aload_n hx hb d_M_go_72 rfl (lv_at hl 2 rfl) ?_
                refine gF (v := .ref (ad 20)) hx hb hown hE hK hP 0 rfl rfl layM 20 (by decide) w506 rfl d_M_go_73 ?_
                refine lv_iload hx hb d_M_go_76 (lv_at hl 1 rfl) ?_
                refine nild (f := (mapT q (x.hit w a b) x.gP x.places)) hx hb hK hP 9 1 rfl rfl (q) (by omega) (by decide) d_M_go_78 ?_
                refine tpi (y := (x.places q)) (mapT_at _ _ _ (Nat.le_refl q)) ?_
                refine lv_if_lt hx hb d_M_go_79 (tgt := 89) rfl (fun g8 => ?_) (fun g8 => ?_)
                · have g8 := g8
                  refine lv_iconst (v := (-1)) hx hb d_M_go_89 (by decide) ?_
                  refine nist hx hb hK hP hD hS 10 1 rfl rfl (q) (by omega) (by decide) d_M_go_90 (fun H locs hP hD hS => ?_)
                  have hP : va_P D vwCl (MW dA h ad (MS.s_hidden (MS.s_places x (mapT q (x.hit w a b) x.gP x.places)) (va_up (mapT q (x.hit w a b) x.gH x.hidden) q (-1)))) H := hP
                  have hD : va_D A (MW dA h ad (MS.s_hidden (MS.s_places x (mapT q (x.hit w a b) x.gP x.places)) (va_up (mapT q (x.hit w a b) x.gH x.hidden) q (-1)))) := hD
                  refine lv_aload_n hx hb d_M_go_91 rfl (lv_at hl 2 rfl) ?_
                  refine gF (v := .ref (ad 20)) hx hb hown hE hK hP 0 rfl rfl layM 20 (by decide) w506 rfl d_M_go_92 ?_
                  refine lv_iload hx hb d_M_go_95 (lv_at hl 1 rfl) ?_
                  refine lv_aload_n hx hb d_M_go_97 rfl (lv_at hl 2 rfl) ?_
                  refine gF (v := .ref (ad 20)) hx hb hown hE hK hP 0 rfl rfl layM 20 (by decide) w506 rfl d_M_go_98 ?_
                  refine lv_iload hx hb d_M_go_101 (lv_at hl 1 rfl) ?_
                  refine nild (f := (mapT q (x.hit w a b) x.gP x.places)) hx hb hK hP 9 1 rfl rfl (q) (by omega) (by decide) d_M_go_103 ?_
                  refine tpi (y := (x.places q)) (mapT_at _ _ _ (Nat.le_refl q)) ?_
                  refine lv_if_lt hx hb d_M_go_104 (tgt := 117) rfl (fun _ => ?_) (fun h9 => absurd g8 h9)
                  refine lv_bipush (v := (-2)) hx hb d_M_go_117 (by decide) ?_
                  refine nist hx hb hK hP hD hS 9 1 rfl rfl (q) (by omega) (by decide) d_M_go_119 (fun H locs hP hD hS => ?_)
                  have hP : va_P D vwCl (MW dA h ad (MS.s_hidden (MS.s_places x (va_up (mapT q (x.hit w a b) x.gP x.places) q (-2))) (va_up (mapT q (x.hit w a b) x.gH x.hidden) q (-1)))) H := hP
                  have hD : va_D A (MW dA h ad (MS.s_hidden (MS.s_places x (va_up (mapT q (x.hit w a b) x.gP x.places) q (-2))) (va_up (mapT q (x.hit w a b) x.gH x.hidden) q (-1)))) := hD
                  refine lv_iinc (k := 1) (v := nI (q + 1)) hx hb d_M_go_120 hl rfl (iincN (q) 1 1 (by decide)) (by decide) rfl (fun ls hl => ?_)
                  have hl : lv_has ls 8 [(7, .int (nI (q + 1))), (6, .int (nI (n + 1))), (0, .ref h), (1, .int (nI w)), (2, .long a), (4, .long b)] := hl
                  refine lv_goto hx hb d_M_go_123 (tgt := 6) rfl ?_
                  have e9 : (MS.s_hidden (MS.s_places x (va_up (mapT q (x.hit w a b) x.gP x.places) q (-2))) (va_up (mapT q (x.hit w a b) x.gH x.hidden) q (-1)) : MS) = MS.s_hidden (MS.s_places x (mapT (q + 1) (x.hit w a b) x.gP x.places)) (mapT (q + 1) (x.hit w a b) x.gH x.hidden) := by rw [show (mapT (q + 1) (x.hit w a b) x.gH x.hidden) = (va_up (mapT q (x.hit w a b) x.gH x.hidden) q (-1)) from (by first | exact mapT_0 _ _ _ | exact mapT_f (by simp [MS.hit, *]) | exact mapT_t (by simp [MS.hit, *]) (by simp [MS.gH, MS.gP, *])), show (mapT (q + 1) (x.hit w a b) x.gP x.places) = (va_up (mapT q (x.hit w a b) x.gP x.places) q (-2)) from (by first | exact mapT_0 _ _ _ | exact mapT_f (by simp [MS.hit, *]) | exact mapT_t (by simp [MS.hit, *]) (by simp [MS.gH, MS.gP, *]))] <;> rfl
                  exact ih6 _ (by omega) (q + 1) (n + 1) (by omega) (by simp [cnt, MS.hit, *]) rfl H _ ls (cvP e9 hP) (cvD e9 hD) hS (lv_sub hl [0, 1, 2, 3, 4, 5] rfl)
                · have g8 := g8
                  refine lv_aload_n hx hb d_M_go_82 rfl (lv_at hl 2 rfl) ?_
                  refine gF (v := .int (nI x.deletes)) hx hb hown hE hK hP 0 rfl rfl layM 30 (by decide) w865 rfl d_M_go_83 ?_
                  refine lv_goto hx hb d_M_go_86 (tgt := 90) rfl ?_
                  refine nist hx hb hK hP hD hS 10 1 rfl rfl (q) (by omega) (by decide) d_M_go_90 (fun H locs hP hD hS => ?_)
                  have hP : va_P D vwCl (MW dA h ad (MS.s_hidden (MS.s_places x (mapT q (x.hit w a b) x.gP x.places)) (va_up (mapT q (x.hit w a b) x.gH x.hidden) q (nI x.deletes)))) H := hP
                  have hD : va_D A (MW dA h ad (MS.s_hidden (MS.s_places x (mapT q (x.hit w a b) x.gP x.places)) (va_up (mapT q (x.hit w a b) x.gH x.hidden) q (nI x.deletes)))) := hD
                  refine lv_aload_n hx hb d_M_go_91 rfl (lv_at hl 2 rfl) ?_
                  refine gF (v := .ref (ad 20)) hx hb hown hE hK hP 0 rfl rfl layM 20 (by decide) w506 rfl d_M_go_92 ?_
                  refine lv_iload hx hb d_M_go_95 (lv_at hl 1 rfl) ?_
                  refine lv_aload_n hx hb d_M_go_97 rfl (lv_at hl 2 rfl) ?_
                  refine gF (v := .ref (ad 20)) hx hb hown hE hK hP 0 rfl rfl layM 20 (by decide) w506 rfl d_M_go_98 ?_
                  refine lv_iload hx hb d_M_go_101 (lv_at hl 1 rfl) ?_
                  refine nild (f := (mapT q (x.hit w a b) x.gP x.places)) hx hb hK hP 9 1 rfl rfl (q) (by omega) (by decide) d_M_go_103 ?_
                  refine tpi (y := (x.places q)) (mapT_at _ _ _ (Nat.le_refl q)) ?_
                  refine lv_if_lt hx hb d_M_go_104 (tgt := 117) rfl (fun h9 => absurd h9 g8) (fun _ => ?_)
                  refine lv_aload_n hx hb d_M_go_107 rfl (lv_at hl 2 rfl) ?_
                  refine gF (v := .ref (ad 20)) hx hb hown hE hK hP 0 rfl rfl layM 20 (by decide) w506 rfl d_M_go_108 ?_
                  refine lv_iload hx hb d_M_go_111 (lv_at hl 1 rfl) ?_
                  refine nild (f := (mapT q (x.hit w a b) x.gP x.places)) hx hb hK hP 9 1 rfl rfl (q) (by omega) (by decide) d_M_go_113 ?_
                  refine tpi (y := (x.places q)) (mapT_at _ _ _ (Nat.le_refl q)) ?_
                  refine lv_goto hx hb d_M_go_114 (tgt := 119) rfl ?_
                  refine nist hx hb hK hP hD hS 9 1 rfl rfl (q) (by omega) (by decide) d_M_go_119 (fun H locs hP hD hS => ?_)
                  have hP : va_P D vwCl (MW dA h ad (MS.s_hidden (MS.s_places x (va_up (mapT q (x.hit w a b) x.gP x.places) q (x.places q))) (va_up (mapT q (x.hit w a b) x.gH x.hidden) q (nI x.deletes)))) H := hP
                  have hD : va_D A (MW dA h ad (MS.s_hidden (MS.s_places x (va_up (mapT q (x.hit w a b) x.gP x.places) q (x.places q))) (va_up (mapT q (x.hit w a b) x.gH x.hidden) q (nI x.deletes)))) := hD
                  refine lv_iinc (k := 1) (v := nI (q + 1)) hx hb d_M_go_120 hl rfl (iincN (q) 1 1 (by decide)) (by decide) rfl (fun ls hl => ?_)
                  have hl : lv_has ls 8 [(7, .int (nI (q + 1))), (6, .int (nI (n + 1))), (0, .ref h), (1, .int (nI w)), (2, .long a), (4, .long b)] := hl
                  refine lv_goto hx hb d_M_go_123 (tgt := 6) rfl ?_
                  have e9 : (MS.s_hidden (MS.s_places x (va_up (mapT q (x.hit w a b) x.gP x.places) q (x.places q))) (va_up (mapT q (x.hit w a b) x.gH x.hidden) q (nI x.deletes)) : MS) = MS.s_hidden (MS.s_places x (mapT (q + 1) (x.hit w a b) x.gP x.places)) (mapT (q + 1) (x.hit w a b) x.gH x.hidden) := by rw [show (mapT (q + 1) (x.hit w a b) x.gH x.hidden) = (va_up (mapT q (x.hit w a b) x.gH x.hidden) q (nI x.deletes)) from (by first | exact mapT_0 _ _ _ | exact mapT_f (by simp [MS.hit, *]) | exact mapT_t (by simp [MS.hit, *]) (by simp [MS.gH, MS.gP, *])), show (mapT (q + 1) (x.hit w a b) x.gP x.places) = (va_up (mapT q (x.hit w a b) x.gP x.places) q (x.places q)) from (by first | exact mapT_0 _ _ _ | exact mapT_f (by simp [MS.hit, *]) | exact mapT_t (by simp [MS.hit, *]) (by simp [MS.gH, MS.gP, *]))] <;> rfl
                  exact ih6 _ (by omega) (q + 1) (n + 1) (by omega) (by simp [cnt, MS.hit, *]) rfl H _ ls (cvP e9 hP) (cvD e9 hD) hS (lv_sub hl [0, 1, 2, 3, 4, 5] rfl)
              · have g7 := mt (lg_cmp_le _ _).mpr g7
                refine lv_goto hx hb d_M_go_60 (tgt := 120) rfl ?_
                refine lv_iinc (k := 0) (v := nI (q + 1)) hx hb d_M_go_120 hl rfl (iincN (q) 1 1 (by decide)) (by decide) rfl (fun ls hl => ?_)
                have hl : lv_has ls 8 [(7, .int (nI (q + 1))), (6, .int (nI n)), (0, .ref h), (1, .int (nI w)), (2, .long a), (4, .long b)] := hl
                refine lv_goto hx hb d_M_go_123 (tgt := 6) rfl ?_
                have e9 : (MS.s_hidden (MS.s_places x (mapT q (x.hit w a b) x.gP x.places)) (mapT q (x.hit w a b) x.gH x.hidden) : MS) = MS.s_hidden (MS.s_places x (mapT (q + 1) (x.hit w a b) x.gP x.places)) (mapT (q + 1) (x.hit w a b) x.gH x.hidden) := by rw [show (mapT (q + 1) (x.hit w a b) x.gH x.hidden) = (mapT q (x.hit w a b) x.gH x.hidden) from (by first | exact mapT_0 _ _ _ | exact mapT_f (by simp [MS.hit, *]) | exact mapT_t (by simp [MS.hit, *]) (by simp [MS.gH, MS.gP, *])), show (mapT (q + 1) (x.hit w a b) x.gP x.places) = (mapT q (x.hit w a b) x.gP x.places) from (by first | exact mapT_0 _ _ _ | exact mapT_f (by simp [MS.hit, *]) | exact mapT_t (by simp [MS.hit, *]) (by simp [MS.gH, MS.gP, *]))] <;> rfl
                exact ih6 _ (by omega) (q + 1) n (by omega) (by simp [cnt, MS.hit, *]) rfl H _ ls (cvP e9 hP) (cvD e9 hD) hS (lv_sub hl [0, 1, 2, 3, 4, 5] rfl)
  have e9 : (x : MS) = MS.s_hidden (MS.s_places x (mapT 0 (x.hit w a b) x.gP x.places)) (mapT 0 (x.hit w a b) x.gH x.hidden) := by rw [show (mapT 0 (x.hit w a b) x.gH x.hidden) = x.hidden from (by first | exact mapT_0 _ _ _ | exact mapT_f (by simp [MS.hit, *]) | exact mapT_t (by simp [MS.hit, *]) (by simp [MS.gH, MS.gP, *])), show (mapT 0 (x.hit w a b) x.gP x.places) = x.places from (by first | exact mapT_0 _ _ _ | exact mapT_f (by simp [MS.hit, *]) | exact mapT_t (by simp [MS.hit, *]) (by simp [MS.gH, MS.gP, *]))] <;> rfl
  exact L6 _ 0 0 (by omega) rfl rfl H _ ls (cvP e9 hP) (cvD e9 hD) hS (lv_sub hl [0, 1, 2, 3, 4, 5] rfl)
