section
theorem d_M_end_13 : decode prog_14_method_4_code 13 = .ok (.iconst 1, 1) := by decide +kernel
theorem d_M_end_14 : decode prog_14_method_4_code 14 = .ok (.goto 4, 3) := by decide +kernel
theorem d_M_end_33 : decode prog_14_method_4_code 33 = .ok (.aload_n 0, 1) := by decide +kernel
theorem d_M_end_34 : decode prog_14_method_4_code 34 = .ok (.getfield 148, 3) := by decide +kernel
set_option maxHeartbeats 4000000 in
set_option maxRecDepth 100000 in
theorem c_M_end_x (l : Launch) (D : va_G) (dA : Nat → ClassId) (sz : Nat) (a : Nat) (fs : List Value) (n : Int32) (tl : Int32) (h0 : n < 0 ∨ tl < n) (h_fs_length : fs[2]? = some (.int tl)) (hl_fs : fs.length = 79) : Met l ⟨"SeriesVaultModel", "end", "(I)V"⟩ [Cond.code ⟨"SeriesVaultModel", "end", "(I)V"⟩ prog_14_method_4_code 2 none] { frames := 1, cells := 0, slots := 0, locals := 0 } (pC D dA [.ref a, .int n] [(a, .inr (9, fs))] sz) (va_Qv (fun (_ : Unit) => True) (fun (u9 : Unit) t9 => bW D (va_A [(a, .inr (9, fs))] sz) [(a, .inr (9, ((fs.set 0 (.int 1)).set 2 (.int tl))))] t9) (va_A [(a, .inr (9, fs))] sz)) 0 0 (va_A [(a, .inr (9, fs))] sz) := by
  refine mkC (Qc := fun A => va_Qv (fun (_ : Unit) => True) (fun (u9 : Unit) t9 => bW D A [(a, .inr (9, ((fs.set 0 (.int 1)).set 2 (.int tl))))] t9) A) (by decide) (Nat.le_of_ble_eq_true rfl) ?_
  intro A p e s m below meth c ls hsz hB
  obtain ⟨hx, hb, hr, hml, hown, hin, hlk, hE, hK, hP, hD, hS, hA, hN, hl⟩ := hB
  have hown : s.vm.findClass "SeriesVaultModel" = some m.cls := hown
  have hin : meth.name = "end" := hin
  have hl : lv_has ls 2 [(0, .ref a), (1, .int n)] := hl
  obtain ⟨H, hH⟩ : ∃ z, z = s.heap := ⟨_, rfl⟩
  have hP : va_P D vwCl [(a, .inr (9, fs))] H := by rw [hH]; exact hP
  have hS : va_S A s.heap H [] := by rw [hH]; exact hS
  rw [← hH]
  refine lv_aload_n hx hb d_M_end_0 rfl (lv_at hl 0 rfl) ?_
  refine lv_iload_n hx hb d_M_end_1 rfl (lv_at hl 1 rfl) ?_
  refine lv_if_lt hx hb d_M_end_2 (tgt := 13) rfl (fun hc => ?_) (fun hc => ?_)
  · refine lv_iconst (v := 1) hx hb d_M_end_13 (by decide) ?_
    refine lv_goto hx hb d_M_end_14 (tgt := 18) rfl ?_
    refine pF hx hb hown hE hK hP hD hS 0 rfl rfl layM tyM tokM nmM 0 (by decide) w319 rfl rfl rfl (by simp [hl_fs]) d_M_end_18 (fun H locs hP hD hS => ?_)
    have hP : va_P D vwCl [(a, .inr (9, (fs.set 0 (.int 1))))] H := hP
    have hD : va_D A [(a, .inr (9, (fs.set 0 (.int 1))))] := hD
    refine lv_aload_n hx hb d_M_end_21 rfl (lv_at hl 0 rfl) ?_
    refine lv_aload_n hx hb d_M_end_22 rfl (lv_at hl 0 rfl) ?_
    refine gF (v := .int 1) hx hb hown hE hK hP 0 rfl rfl layM 0 (by decide) w319 (by simp [hl_fs]) d_M_end_23 ?_
    refine lv_if_ne hx hb d_M_end_26 (tgt := 33) rfl (fun _ => ?_) (fun h9 => absurd h9 (by decide))
    refine lv_aload_n hx hb d_M_end_33 rfl (lv_at hl 0 rfl) ?_
    refine gF (v := .int tl) hx hb hown hE hK hP 0 rfl rfl layM 2 (by decide) w320 (by simp [h_fs_length]) d_M_end_34 ?_
    refine pF hx hb hown hE hK hP hD hS 0 rfl rfl layM tyM tokM nmM 2 (by decide) w320 rfl rfl rfl (by simp [hl_fs]) d_M_end_37 (fun H locs hP hD hS => ?_)
    have hP : va_P D vwCl [(a, .inr (9, ((fs.set 0 (.int 1)).set 2 (.int tl))))] H := hP
    have hD : va_D A [(a, .inr (9, ((fs.set 0 (.int 1)).set 2 (.int tl))))] := hD
    exact rtV hx hb hr hlk hP hD hS () trivial [0] rfl rfl (by decide) (Nat.le_of_ble_eq_true rfl) (Nat.le_of_ble_eq_true rfl) d_M_end_40
  · refine lv_iload_n hx hb d_M_end_5 rfl (lv_at hl 1 rfl) ?_
    refine lv_aload_n hx hb d_M_end_6 rfl (lv_at hl 0 rfl) ?_
    refine gF (v := .int tl) hx hb hown hE hK hP 0 rfl rfl layM 2 (by decide) w320 h_fs_length d_M_end_7 ?_
    refine lv_icmp_le hx hb d_M_end_10 (tgt := 17) rfl (fun h9 => absurd h9 (Int32.not_le.mpr (h0.resolve_left hc))) (fun _ => ?_)
    refine lv_iconst (v := 1) hx hb d_M_end_13 (by decide) ?_
    refine lv_goto hx hb d_M_end_14 (tgt := 18) rfl ?_
    refine pF hx hb hown hE hK hP hD hS 0 rfl rfl layM tyM tokM nmM 0 (by decide) w319 rfl rfl rfl (by simp [hl_fs]) d_M_end_18 (fun H locs hP hD hS => ?_)
    have hP : va_P D vwCl [(a, .inr (9, (fs.set 0 (.int 1))))] H := hP
    have hD : va_D A [(a, .inr (9, (fs.set 0 (.int 1))))] := hD
    refine lv_aload_n hx hb d_M_end_21 rfl (lv_at hl 0 rfl) ?_
    refine lv_aload_n hx hb d_M_end_22 rfl (lv_at hl 0 rfl) ?_
    refine gF (v := .int 1) hx hb hown hE hK hP 0 rfl rfl layM 0 (by decide) w319 (by simp [hl_fs]) d_M_end_23 ?_
    refine lv_if_ne hx hb d_M_end_26 (tgt := 33) rfl (fun _ => ?_) (fun h9 => absurd h9 (by decide))
    refine lv_aload_n hx hb d_M_end_33 rfl (lv_at hl 0 rfl) ?_
    refine gF (v := .int tl) hx hb hown hE hK hP 0 rfl rfl layM 2 (by decide) w320 (by simp [h_fs_length]) d_M_end_34 ?_
    refine pF hx hb hown hE hK hP hD hS 0 rfl rfl layM tyM tokM nmM 2 (by decide) w320 rfl rfl rfl (by simp [hl_fs]) d_M_end_37 (fun H locs hP hD hS => ?_)
    have hP : va_P D vwCl [(a, .inr (9, ((fs.set 0 (.int 1)).set 2 (.int tl))))] H := hP
    have hD : va_D A [(a, .inr (9, ((fs.set 0 (.int 1)).set 2 (.int tl))))] := hD
    exact rtV hx hb hr hlk hP hD hS () trivial [0] rfl rfl (by decide) (Nat.le_of_ble_eq_true rfl) (Nat.le_of_ble_eq_true rfl) d_M_end_40
theorem d_M_format_0 : decode prog_14_method_6_code 0 = .ok (.aload_n 0, 1) := by decide +kernel
theorem d_M_format_1 : decode prog_14_method_6_code 1 = .ok (.iload_n 1, 1) := by decide +kernel
theorem d_M_format_2 : decode prog_14_method_6_code 2 = .ok (.bipush 16, 2) := by decide +kernel
theorem d_M_format_4 : decode prog_14_method_6_code 4 = .ok (.if_icmp .lt 23, 3) := by decide +kernel
theorem d_M_format_7 : decode prog_14_method_6_code 7 = .ok (.iload_n 1, 1) := by decide +kernel
theorem d_M_format_8 : decode prog_14_method_6_code 8 = .ok (.sipush 256, 3) := by decide +kernel
theorem d_M_format_11 : decode prog_14_method_6_code 11 = .ok (.if_icmp .gt 16, 3) := by decide +kernel
theorem d_M_format_14 : decode prog_14_method_6_code 14 = .ok (.iload_n 2, 1) := by decide +kernel
theorem d_M_format_15 : decode prog_14_method_6_code 15 = .ok (.iconst 2, 1) := by decide +kernel
theorem d_M_format_16 : decode prog_14_method_6_code 16 = .ok (.if_icmp .lt 11, 3) := by decide +kernel
theorem d_M_format_19 : decode prog_14_method_6_code 19 = .ok (.iload_n 2, 1) := by decide +kernel
theorem d_M_format_20 : decode prog_14_method_6_code 20 = .ok (.iload_n 1, 1) := by decide +kernel
theorem d_M_format_21 : decode prog_14_method_6_code 21 = .ok (.bipush 8, 2) := by decide +kernel
theorem d_M_format_23 : decode prog_14_method_6_code 23 = .ok (.isub, 1) := by decide +kernel
theorem d_M_format_24 : decode prog_14_method_6_code 24 = .ok (.if_icmp .le 7, 3) := by decide +kernel
theorem d_M_format_31 : decode prog_14_method_6_code 31 = .ok (.iconst 0, 1) := by decide +kernel
theorem d_M_format_32 : decode prog_14_method_6_code 32 = .ok (.putfield 145, 3) := by decide +kernel
theorem d_M_format_35 : decode prog_14_method_6_code 35 = .ok (.aload_n 0, 1) := by decide +kernel
theorem d_M_format_36 : decode prog_14_method_6_code 36 = .ok (.getfield 145, 3) := by decide +kernel
theorem d_M_format_39 : decode prog_14_method_6_code 39 = .ok (.ifCond .le 4, 3) := by decide +kernel
theorem d_M_format_43 : decode prog_14_method_6_code 43 = .ok (.aload_n 0, 1) := by decide +kernel
theorem d_M_format_44 : decode prog_14_method_6_code 44 = .ok (.iload_n 1, 1) := by decide +kernel
theorem d_M_format_45 : decode prog_14_method_6_code 45 = .ok (.putfield 14, 3) := by decide +kernel
theorem d_M_format_48 : decode prog_14_method_6_code 48 = .ok (.aload_n 0, 1) := by decide +kernel
theorem d_M_format_49 : decode prog_14_method_6_code 49 = .ok (.iload_n 2, 1) := by decide +kernel
theorem d_M_format_50 : decode prog_14_method_6_code 50 = .ok (.putfield 18, 3) := by decide +kernel
theorem d_M_format_53 : decode prog_14_method_6_code 53 = .ok (.aload_n 0, 1) := by decide +kernel
theorem d_M_format_54 : decode prog_14_method_6_code 54 = .ok (.iconst 1, 1) := by decide +kernel
theorem d_M_format_55 : decode prog_14_method_6_code 55 = .ok (.putfield 21, 3) := by decide +kernel
theorem d_M_format_58 : decode prog_14_method_6_code 58 = .ok (.aload_n 0, 1) := by decide +kernel
theorem d_M_format_59 : decode prog_14_method_6_code 59 = .ok (.iconst (-1), 1) := by decide +kernel
theorem d_M_format_60 : decode prog_14_method_6_code 60 = .ok (.putfield 25, 3) := by decide +kernel
theorem d_M_format_63 : decode prog_14_method_6_code 63 = .ok (.aload_n 0, 1) := by decide +kernel
theorem d_M_format_64 : decode prog_14_method_6_code 64 = .ok (.iconst 0, 1) := by decide +kernel
theorem d_M_format_65 : decode prog_14_method_6_code 65 = .ok (.putfield 157, 3) := by decide +kernel
theorem d_M_format_68 : decode prog_14_method_6_code 68 = .ok (.aload_n 0, 1) := by decide +kernel
theorem d_M_format_69 : decode prog_14_method_6_code 69 = .ok (.iconst 0, 1) := by decide +kernel
theorem d_M_format_70 : decode prog_14_method_6_code 70 = .ok (.putfield 160, 3) := by decide +kernel
theorem d_M_format_73 : decode prog_14_method_6_code 73 = .ok (.aload_n 0, 1) := by decide +kernel
theorem d_M_format_74 : decode prog_14_method_6_code 74 = .ok (.iconst 0, 1) := by decide +kernel
theorem d_M_format_75 : decode prog_14_method_6_code 75 = .ok (.putfield 163, 3) := by decide +kernel
theorem d_M_format_78 : decode prog_14_method_6_code 78 = .ok (.aload_n 0, 1) := by decide +kernel
theorem d_M_format_79 : decode prog_14_method_6_code 79 = .ok (.iconst 0, 1) := by decide +kernel
theorem d_M_format_80 : decode prog_14_method_6_code 80 = .ok (.putfield 166, 3) := by decide +kernel
theorem d_M_format_83 : decode prog_14_method_6_code 83 = .ok (.aload_n 0, 1) := by decide +kernel
theorem d_M_format_84 : decode prog_14_method_6_code 84 = .ok (.iconst 0, 1) := by decide +kernel
theorem d_M_format_85 : decode prog_14_method_6_code 85 = .ok (.putfield 169, 3) := by decide +kernel
theorem d_M_format_88 : decode prog_14_method_6_code 88 = .ok (.aload_n 0, 1) := by decide +kernel
theorem d_M_format_89 : decode prog_14_method_6_code 89 = .ok (.lconst 0, 1) := by decide +kernel
theorem d_M_format_90 : decode prog_14_method_6_code 90 = .ok (.putfield 172, 3) := by decide +kernel
theorem d_M_format_93 : decode prog_14_method_6_code 93 = .ok (.aload_n 0, 1) := by decide +kernel
theorem d_M_format_94 : decode prog_14_method_6_code 94 = .ok (.lconst 0, 1) := by decide +kernel
theorem d_M_format_95 : decode prog_14_method_6_code 95 = .ok (.putfield 176, 3) := by decide +kernel
theorem d_M_format_98 : decode prog_14_method_6_code 98 = .ok (.aload_n 0, 1) := by decide +kernel
theorem d_M_format_99 : decode prog_14_method_6_code 99 = .ok (.iconst 0, 1) := by decide +kernel
theorem d_M_format_100 : decode prog_14_method_6_code 100 = .ok (.putfield 179, 3) := by decide +kernel
theorem d_M_format_103 : decode prog_14_method_6_code 103 = .ok (.aload_n 0, 1) := by decide +kernel
theorem d_M_format_104 : decode prog_14_method_6_code 104 = .ok (.iconst 0, 1) := by decide +kernel
theorem d_M_format_105 : decode prog_14_method_6_code 105 = .ok (.putfield 182, 3) := by decide +kernel
theorem d_M_format_108 : decode prog_14_method_6_code 108 = .ok (.aload_n 0, 1) := by decide +kernel
theorem d_M_format_109 : decode prog_14_method_6_code 109 = .ok (.iconst 0, 1) := by decide +kernel
theorem d_M_format_110 : decode prog_14_method_6_code 110 = .ok (.putfield 185, 3) := by decide +kernel
theorem d_M_format_113 : decode prog_14_method_6_code 113 = .ok (.aload_n 0, 1) := by decide +kernel
theorem d_M_format_114 : decode prog_14_method_6_code 114 = .ok (.iconst 0, 1) := by decide +kernel
theorem d_M_format_115 : decode prog_14_method_6_code 115 = .ok (.putfield 188, 3) := by decide +kernel
theorem d_M_format_118 : decode prog_14_method_6_code 118 = .ok (.aload_n 0, 1) := by decide +kernel
theorem d_M_format_119 : decode prog_14_method_6_code 119 = .ok (.iconst 0, 1) := by decide +kernel
theorem d_M_format_120 : decode prog_14_method_6_code 120 = .ok (.putfield 191, 3) := by decide +kernel
theorem d_M_format_123 : decode prog_14_method_6_code 123 = .ok (.aload_n 0, 1) := by decide +kernel
theorem d_M_format_124 : decode prog_14_method_6_code 124 = .ok (.iconst 0, 1) := by decide +kernel
theorem d_M_format_125 : decode prog_14_method_6_code 125 = .ok (.putfield 194, 3) := by decide +kernel
theorem d_M_format_128 : decode prog_14_method_6_code 128 = .ok (.aload_n 0, 1) := by decide +kernel
theorem d_M_format_129 : decode prog_14_method_6_code 129 = .ok (.iconst 0, 1) := by decide +kernel
theorem d_M_format_130 : decode prog_14_method_6_code 130 = .ok (.putfield 197, 3) := by decide +kernel
theorem d_M_format_133 : decode prog_14_method_6_code 133 = .ok (.return_, 1) := by decide +kernel
theorem w416 : Cond.fieldLink "SeriesVaultModel" 14 "SeriesVaultModel" "blocks" "I" ∈ aW := aw_of (tb_8 (List.mem_of_getElem? (i := 179) rfl)) rfl
theorem w417 : Cond.fieldLink "SeriesVaultModel" 18 "SeriesVaultModel" "journal" "I" ∈ aW := aw_of (tb_8 (List.mem_of_getElem? (i := 180) rfl)) rfl
theorem w418 : Cond.fieldLink "SeriesVaultModel" 163 "SeriesVaultModel" "baseSeries" "I" ∈ aW := aw_of (tb_8 (List.mem_of_getElem? (i := 188) rfl)) rfl
theorem w419 : Cond.fieldLink "SeriesVaultModel" 166 "SeriesVaultModel" "catalogBlocks" "I" ∈ aW := aw_of (tb_8 (List.mem_of_getElem? (i := 190) rfl)) rfl
theorem w420 : Cond.fieldLink "SeriesVaultModel" 169 "SeriesVaultModel" "points" "I" ∈ aW := aw_of (tb_8 (List.mem_of_getElem? (i := 197) rfl)) rfl
theorem w421 : Cond.fieldLink "SeriesVaultModel" 172 "SeriesVaultModel" "horizon" "J" ∈ aW := aw_of (tb_8 (List.mem_of_getElem? (i := 198) rfl)) rfl
theorem w422 : Cond.fieldLink "SeriesVaultModel" 176 "SeriesVaultModel" "baseHorizon" "J" ∈ aW := aw_of (tb_8 (List.mem_of_getElem? (i := 199) rfl)) rfl
theorem w423 : Cond.fieldLink "SeriesVaultModel" 188 "SeriesVaultModel" "block" "I" ∈ aW := aw_of (tb_8 (List.mem_of_getElem? (i := 213) rfl)) rfl
theorem w424 : Cond.fieldLink "SeriesVaultModel" 191 "SeriesVaultModel" "used" "I" ∈ aW := aw_of (tb_8 (List.mem_of_getElem? (i := 214) rfl)) rfl
set_option maxHeartbeats 4000000 in
set_option maxRecDepth 100000 in
theorem c_M_format (l : Launch) (D : va_G) (dA : Nat → ClassId) (sz : Nat) (a : Nat) (fs : List Value) (n : Int32) (j : Int32) (h1 : ¬ n < 16) (h2 : ¬ 256 < n) (h3 : ¬ j < 2) (h4 : j ≤ n - 8) (hl_fs : fs.length = 79) : Met l ⟨"SeriesVaultModel", "format", "(II)V"⟩ [Cond.code ⟨"SeriesVaultModel", "format", "(II)V"⟩ prog_14_method_6_code 3 none] { frames := 1, cells := 0, slots := 0, locals := 0 } (pC D dA [.ref a, .int n, .int j] [(a, .inr (9, fs))] sz) (va_Qv (fun (_ : Unit) => True) (fun (u9 : Unit) t9 => bW D (va_A [(a, .inr (9, fs))] sz) [(a, .inr (9, (((((((((((((((((((fs.set 0 (.int 0)).set 5 (.int n)).set 6 (.int j)).set 7 (.int 1)).set 8 (.int (-1))).set 9 (.int 0)).set 12 (.int 0)).set 14 (.int 0)).set 16 (.int 0)).set 23 (.int 0)).set 24 (.long 0)).set 25 (.long 0)).set 28 (.int 0)).set 37 (.int 0)).set 38 (.int 0)).set 39 (.int 0)).set 40 (.int 0)).set 41 (.int 0)).set 71 (.int 0))))] t9) (va_A [(a, .inr (9, fs))] sz)) 0 0 (va_A [(a, .inr (9, fs))] sz) := by
  refine mkC (Qc := fun A => va_Qv (fun (_ : Unit) => True) (fun (u9 : Unit) t9 => bW D A [(a, .inr (9, (((((((((((((((((((fs.set 0 (.int 0)).set 5 (.int n)).set 6 (.int j)).set 7 (.int 1)).set 8 (.int (-1))).set 9 (.int 0)).set 12 (.int 0)).set 14 (.int 0)).set 16 (.int 0)).set 23 (.int 0)).set 24 (.long 0)).set 25 (.long 0)).set 28 (.int 0)).set 37 (.int 0)).set 38 (.int 0)).set 39 (.int 0)).set 40 (.int 0)).set 41 (.int 0)).set 71 (.int 0))))] t9) A) (by decide) (Nat.le_of_ble_eq_true rfl) ?_
  intro A p e s m below meth c ls hsz hB
  obtain ⟨hx, hb, hr, hml, hown, hin, hlk, hE, hK, hP, hD, hS, hA, hN, hl⟩ := hB
  have hown : s.vm.findClass "SeriesVaultModel" = some m.cls := hown
  have hin : meth.name = "format" := hin
  have hl : lv_has ls 3 [(0, .ref a), (1, .int n), (2, .int j)] := hl
  obtain ⟨H, hH⟩ : ∃ z, z = s.heap := ⟨_, rfl⟩
  have hP : va_P D vwCl [(a, .inr (9, fs))] H := by rw [hH]; exact hP
  have hS : va_S A s.heap H [] := by rw [hH]; exact hS
  rw [← hH]
  refine lv_aload_n hx hb d_M_format_0 rfl (lv_at hl 0 rfl) ?_
  refine lv_iload_n hx hb d_M_format_1 rfl (lv_at hl 1 rfl) ?_
  refine lv_bipush (v := 16) hx hb d_M_format_2 (by decide) ?_
  refine lv_icmp_lt hx hb d_M_format_4 (tgt := 27) rfl (fun h9 => absurd h9 h1) (fun _ => ?_)
  refine lv_iload_n hx hb d_M_format_7 rfl (lv_at hl 1 rfl) ?_
  refine lv_sipush (v := 256) hx hb d_M_format_8 (by decide) ?_
  refine lv_icmp_gt hx hb d_M_format_11 (tgt := 27) rfl (fun h9 => absurd h9 h2) (fun _ => ?_)
  refine lv_iload_n hx hb d_M_format_14 rfl (lv_at hl 2 rfl) ?_
  refine lv_iconst (v := 2) hx hb d_M_format_15 (by decide) ?_
  refine lv_icmp_lt hx hb d_M_format_16 (tgt := 27) rfl (fun h9 => absurd h9 h3) (fun _ => ?_)
  refine lv_iload_n hx hb d_M_format_19 rfl (lv_at hl 2 rfl) ?_
  refine lv_iload_n hx hb d_M_format_20 rfl (lv_at hl 1 rfl) ?_
  refine lv_bipush (v := 8) hx hb d_M_format_21 (by decide) ?_
  refine lv_isub hx hb d_M_format_23 ?_
  refine lv_icmp_le hx hb d_M_format_24 (tgt := 31) rfl (fun _ => ?_) (fun h9 => absurd h4 h9)
  refine lv_iconst (v := 0) hx hb d_M_format_31 (by decide) ?_
  refine pF hx hb hown hE hK hP hD hS 0 rfl rfl layM tyM tokM nmM 0 (by decide) w319 rfl rfl rfl (by simp [hl_fs]) d_M_format_32 (fun H locs hP hD hS => ?_)
  have hP : va_P D vwCl [(a, .inr (9, (fs.set 0 (.int 0))))] H := hP
  have hD : va_D A [(a, .inr (9, (fs.set 0 (.int 0))))] := hD
  refine lv_aload_n hx hb d_M_format_35 rfl (lv_at hl 0 rfl) ?_
  refine gF (v := .int 0) hx hb hown hE hK hP 0 rfl rfl layM 0 (by decide) w319 (by simp [hl_fs]) d_M_format_36 ?_
  refine lv_if_le hx hb d_M_format_39 (tgt := 43) rfl (fun _ => ?_) (fun h9 => absurd (by decide) h9)
  refine lv_aload_n hx hb d_M_format_43 rfl (lv_at hl 0 rfl) ?_
  refine lv_iload_n hx hb d_M_format_44 rfl (lv_at hl 1 rfl) ?_
  refine pF hx hb hown hE hK hP hD hS 0 rfl rfl layM tyM tokM nmM 5 (by decide) w416 rfl rfl rfl (by simp [hl_fs]) d_M_format_45 (fun H locs hP hD hS => ?_)
  have hP : va_P D vwCl [(a, .inr (9, ((fs.set 0 (.int 0)).set 5 (.int n))))] H := hP
  have hD : va_D A [(a, .inr (9, ((fs.set 0 (.int 0)).set 5 (.int n))))] := hD
  refine lv_aload_n hx hb d_M_format_48 rfl (lv_at hl 0 rfl) ?_
  refine lv_iload_n hx hb d_M_format_49 rfl (lv_at hl 2 rfl) ?_
  refine pF hx hb hown hE hK hP hD hS 0 rfl rfl layM tyM tokM nmM 6 (by decide) w417 rfl rfl rfl (by simp [hl_fs]) d_M_format_50 (fun H locs hP hD hS => ?_)
  have hP : va_P D vwCl [(a, .inr (9, (((fs.set 0 (.int 0)).set 5 (.int n)).set 6 (.int j))))] H := hP
  have hD : va_D A [(a, .inr (9, (((fs.set 0 (.int 0)).set 5 (.int n)).set 6 (.int j))))] := hD
  refine lv_aload_n hx hb d_M_format_53 rfl (lv_at hl 0 rfl) ?_
  refine lv_iconst (v := 1) hx hb d_M_format_54 (by decide) ?_
  refine pF hx hb hown hE hK hP hD hS 0 rfl rfl layM tyM tokM nmM 7 (by decide) w324 rfl rfl rfl (by simp [hl_fs]) d_M_format_55 (fun H locs hP hD hS => ?_)
  have hP : va_P D vwCl [(a, .inr (9, ((((fs.set 0 (.int 0)).set 5 (.int n)).set 6 (.int j)).set 7 (.int 1))))] H := hP
  have hD : va_D A [(a, .inr (9, ((((fs.set 0 (.int 0)).set 5 (.int n)).set 6 (.int j)).set 7 (.int 1))))] := hD
  refine lv_aload_n hx hb d_M_format_58 rfl (lv_at hl 0 rfl) ?_
  refine lv_iconst (v := (-1)) hx hb d_M_format_59 (by decide) ?_
  refine pF hx hb hown hE hK hP hD hS 0 rfl rfl layM tyM tokM nmM 8 (by decide) w325 rfl rfl rfl (by simp [hl_fs]) d_M_format_60 (fun H locs hP hD hS => ?_)
  have hP : va_P D vwCl [(a, .inr (9, (((((fs.set 0 (.int 0)).set 5 (.int n)).set 6 (.int j)).set 7 (.int 1)).set 8 (.int (-1)))))] H := hP
  have hD : va_D A [(a, .inr (9, (((((fs.set 0 (.int 0)).set 5 (.int n)).set 6 (.int j)).set 7 (.int 1)).set 8 (.int (-1)))))] := hD
  refine lv_aload_n hx hb d_M_format_63 rfl (lv_at hl 0 rfl) ?_
  refine lv_iconst (v := 0) hx hb d_M_format_64 (by decide) ?_
  refine pF hx hb hown hE hK hP hD hS 0 rfl rfl layM tyM tokM nmM 9 (by decide) w323 rfl rfl rfl (by simp [hl_fs]) d_M_format_65 (fun H locs hP hD hS => ?_)
  have hP : va_P D vwCl [(a, .inr (9, ((((((fs.set 0 (.int 0)).set 5 (.int n)).set 6 (.int j)).set 7 (.int 1)).set 8 (.int (-1))).set 9 (.int 0))))] H := hP
  have hD : va_D A [(a, .inr (9, ((((((fs.set 0 (.int 0)).set 5 (.int n)).set 6 (.int j)).set 7 (.int 1)).set 8 (.int (-1))).set 9 (.int 0))))] := hD
  refine lv_aload_n hx hb d_M_format_68 rfl (lv_at hl 0 rfl) ?_
  refine lv_iconst (v := 0) hx hb d_M_format_69 (by decide) ?_
  refine pF hx hb hown hE hK hP hD hS 0 rfl rfl layM tyM tokM nmM 12 (by decide) w332 rfl rfl rfl (by simp [hl_fs]) d_M_format_70 (fun H locs hP hD hS => ?_)
  have hP : va_P D vwCl [(a, .inr (9, (((((((fs.set 0 (.int 0)).set 5 (.int n)).set 6 (.int j)).set 7 (.int 1)).set 8 (.int (-1))).set 9 (.int 0)).set 12 (.int 0))))] H := hP
  have hD : va_D A [(a, .inr (9, (((((((fs.set 0 (.int 0)).set 5 (.int n)).set 6 (.int j)).set 7 (.int 1)).set 8 (.int (-1))).set 9 (.int 0)).set 12 (.int 0))))] := hD
  refine lv_aload_n hx hb d_M_format_73 rfl (lv_at hl 0 rfl) ?_
  refine lv_iconst (v := 0) hx hb d_M_format_74 (by decide) ?_
  refine pF hx hb hown hE hK hP hD hS 0 rfl rfl layM tyM tokM nmM 14 (by decide) w418 rfl rfl rfl (by simp [hl_fs]) d_M_format_75 (fun H locs hP hD hS => ?_)
  have hP : va_P D vwCl [(a, .inr (9, ((((((((fs.set 0 (.int 0)).set 5 (.int n)).set 6 (.int j)).set 7 (.int 1)).set 8 (.int (-1))).set 9 (.int 0)).set 12 (.int 0)).set 14 (.int 0))))] H := hP
  have hD : va_D A [(a, .inr (9, ((((((((fs.set 0 (.int 0)).set 5 (.int n)).set 6 (.int j)).set 7 (.int 1)).set 8 (.int (-1))).set 9 (.int 0)).set 12 (.int 0)).set 14 (.int 0))))] := hD
  refine lv_aload_n hx hb d_M_format_78 rfl (lv_at hl 0 rfl) ?_
  refine lv_iconst (v := 0) hx hb d_M_format_79 (by decide) ?_
  refine pF hx hb hown hE hK hP hD hS 0 rfl rfl layM tyM tokM nmM 16 (by decide) w419 rfl rfl rfl (by simp [hl_fs]) d_M_format_80 (fun H locs hP hD hS => ?_)
  have hP : va_P D vwCl [(a, .inr (9, (((((((((fs.set 0 (.int 0)).set 5 (.int n)).set 6 (.int j)).set 7 (.int 1)).set 8 (.int (-1))).set 9 (.int 0)).set 12 (.int 0)).set 14 (.int 0)).set 16 (.int 0))))] H := hP
  have hD : va_D A [(a, .inr (9, (((((((((fs.set 0 (.int 0)).set 5 (.int n)).set 6 (.int j)).set 7 (.int 1)).set 8 (.int (-1))).set 9 (.int 0)).set 12 (.int 0)).set 14 (.int 0)).set 16 (.int 0))))] := hD
  refine lv_aload_n hx hb d_M_format_83 rfl (lv_at hl 0 rfl) ?_
  refine lv_iconst (v := 0) hx hb d_M_format_84 (by decide) ?_
  refine pF hx hb hown hE hK hP hD hS 0 rfl rfl layM tyM tokM nmM 23 (by decide) w420 rfl rfl rfl (by simp [hl_fs]) d_M_format_85 (fun H locs hP hD hS => ?_)
  have hP : va_P D vwCl [(a, .inr (9, ((((((((((fs.set 0 (.int 0)).set 5 (.int n)).set 6 (.int j)).set 7 (.int 1)).set 8 (.int (-1))).set 9 (.int 0)).set 12 (.int 0)).set 14 (.int 0)).set 16 (.int 0)).set 23 (.int 0))))] H := hP
  have hD : va_D A [(a, .inr (9, ((((((((((fs.set 0 (.int 0)).set 5 (.int n)).set 6 (.int j)).set 7 (.int 1)).set 8 (.int (-1))).set 9 (.int 0)).set 12 (.int 0)).set 14 (.int 0)).set 16 (.int 0)).set 23 (.int 0))))] := hD
  refine lv_aload_n hx hb d_M_format_88 rfl (lv_at hl 0 rfl) ?_
  refine lv_lconst (v := 0) hx hb d_M_format_89 (by decide) ?_
  refine pF hx hb hown hE hK hP hD hS 0 rfl rfl layM tyM tokM nmM 24 (by decide) w421 rfl rfl rfl (by simp [hl_fs]) d_M_format_90 (fun H locs hP hD hS => ?_)
  have hP : va_P D vwCl [(a, .inr (9, (((((((((((fs.set 0 (.int 0)).set 5 (.int n)).set 6 (.int j)).set 7 (.int 1)).set 8 (.int (-1))).set 9 (.int 0)).set 12 (.int 0)).set 14 (.int 0)).set 16 (.int 0)).set 23 (.int 0)).set 24 (.long 0))))] H := hP
  have hD : va_D A [(a, .inr (9, (((((((((((fs.set 0 (.int 0)).set 5 (.int n)).set 6 (.int j)).set 7 (.int 1)).set 8 (.int (-1))).set 9 (.int 0)).set 12 (.int 0)).set 14 (.int 0)).set 16 (.int 0)).set 23 (.int 0)).set 24 (.long 0))))] := hD
  refine lv_aload_n hx hb d_M_format_93 rfl (lv_at hl 0 rfl) ?_
  refine lv_lconst (v := 0) hx hb d_M_format_94 (by decide) ?_
  refine pF hx hb hown hE hK hP hD hS 0 rfl rfl layM tyM tokM nmM 25 (by decide) w422 rfl rfl rfl (by simp [hl_fs]) d_M_format_95 (fun H locs hP hD hS => ?_)
  have hP : va_P D vwCl [(a, .inr (9, ((((((((((((fs.set 0 (.int 0)).set 5 (.int n)).set 6 (.int j)).set 7 (.int 1)).set 8 (.int (-1))).set 9 (.int 0)).set 12 (.int 0)).set 14 (.int 0)).set 16 (.int 0)).set 23 (.int 0)).set 24 (.long 0)).set 25 (.long 0))))] H := hP
  have hD : va_D A [(a, .inr (9, ((((((((((((fs.set 0 (.int 0)).set 5 (.int n)).set 6 (.int j)).set 7 (.int 1)).set 8 (.int (-1))).set 9 (.int 0)).set 12 (.int 0)).set 14 (.int 0)).set 16 (.int 0)).set 23 (.int 0)).set 24 (.long 0)).set 25 (.long 0))))] := hD
  refine lv_aload_n hx hb d_M_format_98 rfl (lv_at hl 0 rfl) ?_
  refine lv_iconst (v := 0) hx hb d_M_format_99 (by decide) ?_
  refine pF hx hb hown hE hK hP hD hS 0 rfl rfl layM tyM tokM nmM 28 (by decide) w344 rfl rfl rfl (by simp [hl_fs]) d_M_format_100 (fun H locs hP hD hS => ?_)
  have hP : va_P D vwCl [(a, .inr (9, (((((((((((((fs.set 0 (.int 0)).set 5 (.int n)).set 6 (.int j)).set 7 (.int 1)).set 8 (.int (-1))).set 9 (.int 0)).set 12 (.int 0)).set 14 (.int 0)).set 16 (.int 0)).set 23 (.int 0)).set 24 (.long 0)).set 25 (.long 0)).set 28 (.int 0))))] H := hP
  have hD : va_D A [(a, .inr (9, (((((((((((((fs.set 0 (.int 0)).set 5 (.int n)).set 6 (.int j)).set 7 (.int 1)).set 8 (.int (-1))).set 9 (.int 0)).set 12 (.int 0)).set 14 (.int 0)).set 16 (.int 0)).set 23 (.int 0)).set 24 (.long 0)).set 25 (.long 0)).set 28 (.int 0))))] := hD
  refine lv_aload_n hx hb d_M_format_103 rfl (lv_at hl 0 rfl) ?_
  refine lv_iconst (v := 0) hx hb d_M_format_104 (by decide) ?_
  refine pF hx hb hown hE hK hP hD hS 0 rfl rfl layM tyM tokM nmM 37 (by decide) w338 rfl rfl rfl (by simp [hl_fs]) d_M_format_105 (fun H locs hP hD hS => ?_)
  have hP : va_P D vwCl [(a, .inr (9, ((((((((((((((fs.set 0 (.int 0)).set 5 (.int n)).set 6 (.int j)).set 7 (.int 1)).set 8 (.int (-1))).set 9 (.int 0)).set 12 (.int 0)).set 14 (.int 0)).set 16 (.int 0)).set 23 (.int 0)).set 24 (.long 0)).set 25 (.long 0)).set 28 (.int 0)).set 37 (.int 0))))] H := hP
  have hD : va_D A [(a, .inr (9, ((((((((((((((fs.set 0 (.int 0)).set 5 (.int n)).set 6 (.int j)).set 7 (.int 1)).set 8 (.int (-1))).set 9 (.int 0)).set 12 (.int 0)).set 14 (.int 0)).set 16 (.int 0)).set 23 (.int 0)).set 24 (.long 0)).set 25 (.long 0)).set 28 (.int 0)).set 37 (.int 0))))] := hD
  refine lv_aload_n hx hb d_M_format_108 rfl (lv_at hl 0 rfl) ?_
  refine lv_iconst (v := 0) hx hb d_M_format_109 (by decide) ?_
  refine pF hx hb hown hE hK hP hD hS 0 rfl rfl layM tyM tokM nmM 38 (by decide) w339 rfl rfl rfl (by simp [hl_fs]) d_M_format_110 (fun H locs hP hD hS => ?_)
  have hP : va_P D vwCl [(a, .inr (9, (((((((((((((((fs.set 0 (.int 0)).set 5 (.int n)).set 6 (.int j)).set 7 (.int 1)).set 8 (.int (-1))).set 9 (.int 0)).set 12 (.int 0)).set 14 (.int 0)).set 16 (.int 0)).set 23 (.int 0)).set 24 (.long 0)).set 25 (.long 0)).set 28 (.int 0)).set 37 (.int 0)).set 38 (.int 0))))] H := hP
  have hD : va_D A [(a, .inr (9, (((((((((((((((fs.set 0 (.int 0)).set 5 (.int n)).set 6 (.int j)).set 7 (.int 1)).set 8 (.int (-1))).set 9 (.int 0)).set 12 (.int 0)).set 14 (.int 0)).set 16 (.int 0)).set 23 (.int 0)).set 24 (.long 0)).set 25 (.long 0)).set 28 (.int 0)).set 37 (.int 0)).set 38 (.int 0))))] := hD
  refine lv_aload_n hx hb d_M_format_113 rfl (lv_at hl 0 rfl) ?_
  refine lv_iconst (v := 0) hx hb d_M_format_114 (by decide) ?_
  refine pF hx hb hown hE hK hP hD hS 0 rfl rfl layM tyM tokM nmM 39 (by decide) w423 rfl rfl rfl (by simp [hl_fs]) d_M_format_115 (fun H locs hP hD hS => ?_)
  have hP : va_P D vwCl [(a, .inr (9, ((((((((((((((((fs.set 0 (.int 0)).set 5 (.int n)).set 6 (.int j)).set 7 (.int 1)).set 8 (.int (-1))).set 9 (.int 0)).set 12 (.int 0)).set 14 (.int 0)).set 16 (.int 0)).set 23 (.int 0)).set 24 (.long 0)).set 25 (.long 0)).set 28 (.int 0)).set 37 (.int 0)).set 38 (.int 0)).set 39 (.int 0))))] H := hP
  have hD : va_D A [(a, .inr (9, ((((((((((((((((fs.set 0 (.int 0)).set 5 (.int n)).set 6 (.int j)).set 7 (.int 1)).set 8 (.int (-1))).set 9 (.int 0)).set 12 (.int 0)).set 14 (.int 0)).set 16 (.int 0)).set 23 (.int 0)).set 24 (.long 0)).set 25 (.long 0)).set 28 (.int 0)).set 37 (.int 0)).set 38 (.int 0)).set 39 (.int 0))))] := hD
  refine lv_aload_n hx hb d_M_format_118 rfl (lv_at hl 0 rfl) ?_
  refine lv_iconst (v := 0) hx hb d_M_format_119 (by decide) ?_
  refine pF hx hb hown hE hK hP hD hS 0 rfl rfl layM tyM tokM nmM 40 (by decide) w424 rfl rfl rfl (by simp [hl_fs]) d_M_format_120 (fun H locs hP hD hS => ?_)
  have hP : va_P D vwCl [(a, .inr (9, (((((((((((((((((fs.set 0 (.int 0)).set 5 (.int n)).set 6 (.int j)).set 7 (.int 1)).set 8 (.int (-1))).set 9 (.int 0)).set 12 (.int 0)).set 14 (.int 0)).set 16 (.int 0)).set 23 (.int 0)).set 24 (.long 0)).set 25 (.long 0)).set 28 (.int 0)).set 37 (.int 0)).set 38 (.int 0)).set 39 (.int 0)).set 40 (.int 0))))] H := hP
  have hD : va_D A [(a, .inr (9, (((((((((((((((((fs.set 0 (.int 0)).set 5 (.int n)).set 6 (.int j)).set 7 (.int 1)).set 8 (.int (-1))).set 9 (.int 0)).set 12 (.int 0)).set 14 (.int 0)).set 16 (.int 0)).set 23 (.int 0)).set 24 (.long 0)).set 25 (.long 0)).set 28 (.int 0)).set 37 (.int 0)).set 38 (.int 0)).set 39 (.int 0)).set 40 (.int 0))))] := hD
  refine lv_aload_n hx hb d_M_format_123 rfl (lv_at hl 0 rfl) ?_
  refine lv_iconst (v := 0) hx hb d_M_format_124 (by decide) ?_
  refine pF hx hb hown hE hK hP hD hS 0 rfl rfl layM tyM tokM nmM 41 (by decide) w337 rfl rfl rfl (by simp [hl_fs]) d_M_format_125 (fun H locs hP hD hS => ?_)
  have hP : va_P D vwCl [(a, .inr (9, ((((((((((((((((((fs.set 0 (.int 0)).set 5 (.int n)).set 6 (.int j)).set 7 (.int 1)).set 8 (.int (-1))).set 9 (.int 0)).set 12 (.int 0)).set 14 (.int 0)).set 16 (.int 0)).set 23 (.int 0)).set 24 (.long 0)).set 25 (.long 0)).set 28 (.int 0)).set 37 (.int 0)).set 38 (.int 0)).set 39 (.int 0)).set 40 (.int 0)).set 41 (.int 0))))] H := hP
  have hD : va_D A [(a, .inr (9, ((((((((((((((((((fs.set 0 (.int 0)).set 5 (.int n)).set 6 (.int j)).set 7 (.int 1)).set 8 (.int (-1))).set 9 (.int 0)).set 12 (.int 0)).set 14 (.int 0)).set 16 (.int 0)).set 23 (.int 0)).set 24 (.long 0)).set 25 (.long 0)).set 28 (.int 0)).set 37 (.int 0)).set 38 (.int 0)).set 39 (.int 0)).set 40 (.int 0)).set 41 (.int 0))))] := hD
  refine lv_aload_n hx hb d_M_format_128 rfl (lv_at hl 0 rfl) ?_
  refine lv_iconst (v := 0) hx hb d_M_format_129 (by decide) ?_
  refine pF hx hb hown hE hK hP hD hS 0 rfl rfl layM tyM tokM nmM 71 (by decide) w326 rfl rfl rfl (by simp [hl_fs]) d_M_format_130 (fun H locs hP hD hS => ?_)
  have hP : va_P D vwCl [(a, .inr (9, (((((((((((((((((((fs.set 0 (.int 0)).set 5 (.int n)).set 6 (.int j)).set 7 (.int 1)).set 8 (.int (-1))).set 9 (.int 0)).set 12 (.int 0)).set 14 (.int 0)).set 16 (.int 0)).set 23 (.int 0)).set 24 (.long 0)).set 25 (.long 0)).set 28 (.int 0)).set 37 (.int 0)).set 38 (.int 0)).set 39 (.int 0)).set 40 (.int 0)).set 41 (.int 0)).set 71 (.int 0))))] H := hP
  have hD : va_D A [(a, .inr (9, (((((((((((((((((((fs.set 0 (.int 0)).set 5 (.int n)).set 6 (.int j)).set 7 (.int 1)).set 8 (.int (-1))).set 9 (.int 0)).set 12 (.int 0)).set 14 (.int 0)).set 16 (.int 0)).set 23 (.int 0)).set 24 (.long 0)).set 25 (.long 0)).set 28 (.int 0)).set 37 (.int 0)).set 38 (.int 0)).set 39 (.int 0)).set 40 (.int 0)).set 41 (.int 0)).set 71 (.int 0))))] := hD
  exact rtV hx hb hr hlk hP hD hS () trivial [0] rfl rfl (by decide) (Nat.le_of_ble_eq_true rfl) (Nat.le_of_ble_eq_true rfl) d_M_format_133
theorem d_M_format_27 : decode prog_14_method_6_code 27 = .ok (.iconst 1, 1) := by decide +kernel
theorem d_M_format_28 : decode prog_14_method_6_code 28 = .ok (.goto 4, 3) := by decide +kernel
theorem d_M_format_42 : decode prog_14_method_6_code 42 = .ok (.return_, 1) := by decide +kernel
set_option maxHeartbeats 4000000 in
set_option maxRecDepth 100000 in
theorem c_M_format_x (l : Launch) (D : va_G) (dA : Nat → ClassId) (sz : Nat) (a : Nat) (fs : List Value) (n : Int32) (j : Int32) (h0 : n < 16 ∨ 256 < n ∨ j < 2 ∨ n - 8 < j) (hl_fs : fs.length = 79) : Met l ⟨"SeriesVaultModel", "format", "(II)V"⟩ [Cond.code ⟨"SeriesVaultModel", "format", "(II)V"⟩ prog_14_method_6_code 3 none] { frames := 1, cells := 0, slots := 0, locals := 0 } (pC D dA [.ref a, .int n, .int j] [(a, .inr (9, fs))] sz) (va_Qv (fun (_ : Unit) => True) (fun (u9 : Unit) t9 => bW D (va_A [(a, .inr (9, fs))] sz) [(a, .inr (9, (fs.set 0 (.int 1))))] t9) (va_A [(a, .inr (9, fs))] sz)) 0 0 (va_A [(a, .inr (9, fs))] sz) := by
  refine mkC (Qc := fun A => va_Qv (fun (_ : Unit) => True) (fun (u9 : Unit) t9 => bW D A [(a, .inr (9, (fs.set 0 (.int 1))))] t9) A) (by decide) (Nat.le_of_ble_eq_true rfl) ?_
  intro A p e s m below meth c ls hsz hB
  obtain ⟨hx, hb, hr, hml, hown, hin, hlk, hE, hK, hP, hD, hS, hA, hN, hl⟩ := hB
  have hown : s.vm.findClass "SeriesVaultModel" = some m.cls := hown
  have hin : meth.name = "format" := hin
  have hl : lv_has ls 3 [(0, .ref a), (1, .int n), (2, .int j)] := hl
  obtain ⟨H, hH⟩ : ∃ z, z = s.heap := ⟨_, rfl⟩
  have hP : va_P D vwCl [(a, .inr (9, fs))] H := by rw [hH]; exact hP
  have hS : va_S A s.heap H [] := by rw [hH]; exact hS
  rw [← hH]
  refine lv_aload_n hx hb d_M_format_0 rfl (lv_at hl 0 rfl) ?_
  refine lv_iload_n hx hb d_M_format_1 rfl (lv_at hl 1 rfl) ?_
  refine lv_bipush (v := 16) hx hb d_M_format_2 (by decide) ?_
  refine lv_icmp_lt hx hb d_M_format_4 (tgt := 27) rfl (fun hc => ?_) (fun hc => ?_)
  · refine lv_iconst (v := 1) hx hb d_M_format_27 (by decide) ?_
    refine lv_goto hx hb d_M_format_28 (tgt := 32) rfl ?_
    refine pF hx hb hown hE hK hP hD hS 0 rfl rfl layM tyM tokM nmM 0 (by decide) w319 rfl rfl rfl (by simp [hl_fs]) d_M_format_32 (fun H locs hP hD hS => ?_)
    have hP : va_P D vwCl [(a, .inr (9, (fs.set 0 (.int 1))))] H := hP
    have hD : va_D A [(a, .inr (9, (fs.set 0 (.int 1))))] := hD
    refine lv_aload_n hx hb d_M_format_35 rfl (lv_at hl 0 rfl) ?_
    refine gF (v := .int 1) hx hb hown hE hK hP 0 rfl rfl layM 0 (by decide) w319 (by simp [hl_fs]) d_M_format_36 ?_
    refine lv_if_le hx hb d_M_format_39 (tgt := 43) rfl (fun h9 => absurd h9 (by decide)) (fun _ => ?_)
    exact rtV hx hb hr hlk hP hD hS () trivial [0] rfl rfl (by decide) (Nat.le_of_ble_eq_true rfl) (Nat.le_of_ble_eq_true rfl) d_M_format_42
  · refine lv_iload_n hx hb d_M_format_7 rfl (lv_at hl 1 rfl) ?_
    refine lv_sipush (v := 256) hx hb d_M_format_8 (by decide) ?_
    refine lv_icmp_gt hx hb d_M_format_11 (tgt := 27) rfl (fun hd => ?_) (fun hd => ?_)
    · refine lv_iconst (v := 1) hx hb d_M_format_27 (by decide) ?_
      refine lv_goto hx hb d_M_format_28 (tgt := 32) rfl ?_
      refine pF hx hb hown hE hK hP hD hS 0 rfl rfl layM tyM tokM nmM 0 (by decide) w319 rfl rfl rfl (by simp [hl_fs]) d_M_format_32 (fun H locs hP hD hS => ?_)
      have hP : va_P D vwCl [(a, .inr (9, (fs.set 0 (.int 1))))] H := hP
      have hD : va_D A [(a, .inr (9, (fs.set 0 (.int 1))))] := hD
      refine lv_aload_n hx hb d_M_format_35 rfl (lv_at hl 0 rfl) ?_
      refine gF (v := .int 1) hx hb hown hE hK hP 0 rfl rfl layM 0 (by decide) w319 (by simp [hl_fs]) d_M_format_36 ?_
      refine lv_if_le hx hb d_M_format_39 (tgt := 43) rfl (fun h9 => absurd h9 (by decide)) (fun _ => ?_)
      exact rtV hx hb hr hlk hP hD hS () trivial [0] rfl rfl (by decide) (Nat.le_of_ble_eq_true rfl) (Nat.le_of_ble_eq_true rfl) d_M_format_42
    · refine lv_iload_n hx hb d_M_format_14 rfl (lv_at hl 2 rfl) ?_
      refine lv_iconst (v := 2) hx hb d_M_format_15 (by decide) ?_
      refine lv_icmp_lt hx hb d_M_format_16 (tgt := 27) rfl (fun he => ?_) (fun he => ?_)
      · refine lv_iconst (v := 1) hx hb d_M_format_27 (by decide) ?_
        refine lv_goto hx hb d_M_format_28 (tgt := 32) rfl ?_
        refine pF hx hb hown hE hK hP hD hS 0 rfl rfl layM tyM tokM nmM 0 (by decide) w319 rfl rfl rfl (by simp [hl_fs]) d_M_format_32 (fun H locs hP hD hS => ?_)
        have hP : va_P D vwCl [(a, .inr (9, (fs.set 0 (.int 1))))] H := hP
        have hD : va_D A [(a, .inr (9, (fs.set 0 (.int 1))))] := hD
        refine lv_aload_n hx hb d_M_format_35 rfl (lv_at hl 0 rfl) ?_
        refine gF (v := .int 1) hx hb hown hE hK hP 0 rfl rfl layM 0 (by decide) w319 (by simp [hl_fs]) d_M_format_36 ?_
        refine lv_if_le hx hb d_M_format_39 (tgt := 43) rfl (fun h9 => absurd h9 (by decide)) (fun _ => ?_)
        exact rtV hx hb hr hlk hP hD hS () trivial [0] rfl rfl (by decide) (Nat.le_of_ble_eq_true rfl) (Nat.le_of_ble_eq_true rfl) d_M_format_42
      · refine lv_iload_n hx hb d_M_format_19 rfl (lv_at hl 2 rfl) ?_
        refine lv_iload_n hx hb d_M_format_20 rfl (lv_at hl 1 rfl) ?_
        refine lv_bipush (v := 8) hx hb d_M_format_21 (by decide) ?_
        refine lv_isub hx hb d_M_format_23 ?_
        refine lv_icmp_le hx hb d_M_format_24 (tgt := 31) rfl (fun h9 => absurd h9 (Int32.not_le.mpr (((h0.resolve_left hc).resolve_left hd).resolve_left he))) (fun _ => ?_)
        refine lv_iconst (v := 1) hx hb d_M_format_27 (by decide) ?_
        refine lv_goto hx hb d_M_format_28 (tgt := 32) rfl ?_
        refine pF hx hb hown hE hK hP hD hS 0 rfl rfl layM tyM tokM nmM 0 (by decide) w319 rfl rfl rfl (by simp [hl_fs]) d_M_format_32 (fun H locs hP hD hS => ?_)
        have hP : va_P D vwCl [(a, .inr (9, (fs.set 0 (.int 1))))] H := hP
        have hD : va_D A [(a, .inr (9, (fs.set 0 (.int 1))))] := hD
        refine lv_aload_n hx hb d_M_format_35 rfl (lv_at hl 0 rfl) ?_
        refine gF (v := .int 1) hx hb hown hE hK hP 0 rfl rfl layM 0 (by decide) w319 (by simp [hl_fs]) d_M_format_36 ?_
        refine lv_if_le hx hb d_M_format_39 (tgt := 43) rfl (fun h9 => absurd h9 (by decide)) (fun _ => ?_)
        exact rtV hx hb hr hlk hP hD hS () trivial [0] rfl rfl (by decide) (Nat.le_of_ble_eq_true rfl) (Nat.le_of_ble_eq_true rfl) d_M_format_42
theorem d_M_wordLength_0 : decode prog_14_method_22_code 0 = .ok (.iconst 0, 1) := by decide +kernel
theorem d_M_wordLength_1 : decode prog_14_method_22_code 1 = .ok (.istore_n 2, 1) := by decide +kernel
theorem d_M_wordLength_2 : decode prog_14_method_22_code 2 = .ok (.iload_n 1, 1) := by decide +kernel
theorem d_M_wordLength_3 : decode prog_14_method_22_code 3 = .ok (.iload_n 2, 1) := by decide +kernel
theorem d_M_wordLength_4 : decode prog_14_method_22_code 4 = .ok (.iadd, 1) := by decide +kernel
theorem d_M_wordLength_5 : decode prog_14_method_22_code 5 = .ok (.aload_n 0, 1) := by decide +kernel
theorem d_M_wordLength_6 : decode prog_14_method_22_code 6 = .ok (.getfield 148, 3) := by decide +kernel
theorem d_M_wordLength_9 : decode prog_14_method_22_code 9 = .ok (.if_icmp .ge 29, 3) := by decide +kernel
theorem d_M_wordLength_38 : decode prog_14_method_22_code 38 = .ok (.iload_n 2, 1) := by decide +kernel
theorem d_M_wordLength_39 : decode prog_14_method_22_code 39 = .ok (.ireturn, 1) := by decide +kernel
set_option maxHeartbeats 4000000 in
set_option maxRecDepth 100000 in
theorem c_M_wordLength_0 (l : Launch) (D : va_G) (dA : Nat → ClassId) (sz : Nat) (a : Nat) (fs : List Value) (h_fs_length : fs[2]? = some (.int 0)) (hl_fs : fs.length = 79) : Met l ⟨"SeriesVaultModel", "wordLength", "(I)I"⟩ [Cond.code ⟨"SeriesVaultModel", "wordLength", "(I)I"⟩ prog_14_method_22_code 3 (some FieldType.int)] { frames := 1, cells := 0, slots := 0, locals := 0 } (pC D dA [.ref a, .int 0] [(a, .inr (9, fs))] sz) (va_Qi (fun (r : Int32) (_ : Unit) => r = 0) (fun (u9 : Unit) t9 => bW D (va_A [(a, .inr (9, fs))] sz) [(a, .inr (9, fs))] t9) (va_A [(a, .inr (9, fs))] sz)) 0 0 (va_A [(a, .inr (9, fs))] sz) := by
  refine mkC (Qc := fun A => va_Qi (fun (r : Int32) (_ : Unit) => r = 0) (fun (u9 : Unit) t9 => bW D A [(a, .inr (9, fs))] t9) A) (by decide) (Nat.le_of_ble_eq_true rfl) ?_
  intro A p e s m below meth c ls hsz hB
  obtain ⟨hx, hb, hr, hml, hown, hin, hlk, hE, hK, hP, hD, hS, hA, hN, hl⟩ := hB
  have hown : s.vm.findClass "SeriesVaultModel" = some m.cls := hown
  have hin : meth.name = "wordLength" := hin
  have hl : lv_has ls 3 [(0, .ref a), (1, .int 0)] := hl
  obtain ⟨H, hH⟩ : ∃ z, z = s.heap := ⟨_, rfl⟩
  have hP : va_P D vwCl [(a, .inr (9, fs))] H := by rw [hH]; exact hP
  have hS : va_S A s.heap H [] := by rw [hH]; exact hS
  rw [← hH]
  refine lv_iconst (v := 0) hx hb d_M_wordLength_0 (by decide) ?_
  refine lv_istore_n hx hb d_M_wordLength_1 rfl hl (by decide) rfl (fun ls hl => ?_)
  have hl : lv_has ls 3 [(2, .int 0), (0, .ref a), (1, .int 0)] := hl
  refine lv_iload_n hx hb d_M_wordLength_2 rfl (lv_at hl 2 rfl) ?_
  refine lv_iload_n hx hb d_M_wordLength_3 rfl (lv_at hl 0 rfl) ?_
  refine lv_iadd hx hb d_M_wordLength_4 (tpi (y := 0) (by decide) ?_)
  refine lv_aload_n hx hb d_M_wordLength_5 rfl (lv_at hl 1 rfl) ?_
  refine gF (v := .int 0) hx hb hown hE hK hP 0 rfl rfl layM 2 (by decide) w320 h_fs_length d_M_wordLength_6 ?_
  refine lv_icmp_ge hx hb d_M_wordLength_9 (tgt := 38) rfl (fun _ => ?_) (fun h9 => absurd (by decide) h9)
  refine lv_iload_n hx hb d_M_wordLength_38 rfl (lv_at hl 0 rfl) ?_
  exact rtI hx hb hr hlk hP hD hS () rfl [0] rfl rfl (by decide) (Nat.le_of_ble_eq_true rfl) (Nat.le_of_ble_eq_true rfl) d_M_wordLength_39
theorem d_M_flaw_0 : decode prog_14_method_21_code 0 = .ok (.aload_n 0, 1) := by decide +kernel
theorem d_M_flaw_1 : decode prog_14_method_21_code 1 = .ok (.getfield 151, 3) := by decide +kernel
theorem d_M_flaw_4 : decode prog_14_method_21_code 4 = .ok (.ifCond .ne 13, 3) := by decide +kernel
theorem d_M_flaw_7 : decode prog_14_method_21_code 7 = .ok (.aload_n 0, 1) := by decide +kernel
theorem d_M_flaw_8 : decode prog_14_method_21_code 8 = .ok (.iload_n 1, 1) := by decide +kernel
theorem d_M_flaw_9 : decode prog_14_method_21_code 9 = .ok (.putfield 151, 3) := by decide +kernel
theorem d_M_flaw_12 : decode prog_14_method_21_code 12 = .ok (.aload_n 0, 1) := by decide +kernel
theorem d_M_flaw_13 : decode prog_14_method_21_code 13 = .ok (.iload_n 2, 1) := by decide +kernel
theorem d_M_flaw_14 : decode prog_14_method_21_code 14 = .ok (.putfield 154, 3) := by decide +kernel
theorem d_M_flaw_17 : decode prog_14_method_21_code 17 = .ok (.iconst 0, 1) := by decide +kernel
theorem d_M_flaw_18 : decode prog_14_method_21_code 18 = .ok (.ireturn, 1) := by decide +kernel
set_option maxHeartbeats 4000000 in
set_option maxRecDepth 100000 in
theorem c_M_flaw (l : Launch) (D : va_G) (dA : Nat → ClassId) (sz : Nat) (a : Nat) (fs : List Value) (c1 : Int32) (p1 : Int32) (h_fs_faultCode : fs[3]? = some (.int 0)) (hl_fs : fs.length = 79) : Met l ⟨"SeriesVaultModel", "flaw", "(II)Z"⟩ [Cond.code ⟨"SeriesVaultModel", "flaw", "(II)Z"⟩ prog_14_method_21_code 3 (some FieldType.boolean)] { frames := 1, cells := 0, slots := 0, locals := 0 } (pC D dA [.ref a, .int c1, .int p1] [(a, .inr (9, fs))] sz) (va_Qi (fun (r : Int32) (_ : Unit) => r = 0) (fun (u9 : Unit) t9 => bW D (va_A [(a, .inr (9, fs))] sz) [(a, .inr (9, ((fs.set 3 (.int c1)).set 4 (.int p1))))] t9) (va_A [(a, .inr (9, fs))] sz)) 0 0 (va_A [(a, .inr (9, fs))] sz) := by
  refine mkC (Qc := fun A => va_Qi (fun (r : Int32) (_ : Unit) => r = 0) (fun (u9 : Unit) t9 => bW D A [(a, .inr (9, ((fs.set 3 (.int c1)).set 4 (.int p1))))] t9) A) (by decide) (Nat.le_of_ble_eq_true rfl) ?_
  intro A p e s m below meth c ls hsz hB
  obtain ⟨hx, hb, hr, hml, hown, hin, hlk, hE, hK, hP, hD, hS, hA, hN, hl⟩ := hB
  have hown : s.vm.findClass "SeriesVaultModel" = some m.cls := hown
  have hin : meth.name = "flaw" := hin
  have hl : lv_has ls 3 [(0, .ref a), (1, .int c1), (2, .int p1)] := hl
  obtain ⟨H, hH⟩ : ∃ z, z = s.heap := ⟨_, rfl⟩
  have hP : va_P D vwCl [(a, .inr (9, fs))] H := by rw [hH]; exact hP
  have hS : va_S A s.heap H [] := by rw [hH]; exact hS
  rw [← hH]
  refine lv_aload_n hx hb d_M_flaw_0 rfl (lv_at hl 0 rfl) ?_
  refine gF (v := .int 0) hx hb hown hE hK hP 0 rfl rfl layM 3 (by decide) w321 h_fs_faultCode d_M_flaw_1 ?_
  refine lv_if_ne hx hb d_M_flaw_4 (tgt := 17) rfl (fun h9 => absurd (by decide) h9) (fun _ => ?_)
  refine lv_aload_n hx hb d_M_flaw_7 rfl (lv_at hl 0 rfl) ?_
  refine lv_iload_n hx hb d_M_flaw_8 rfl (lv_at hl 1 rfl) ?_
  refine pF hx hb hown hE hK hP hD hS 0 rfl rfl layM tyM tokM nmM 3 (by decide) w321 rfl rfl rfl (by simp [hl_fs]) d_M_flaw_9 (fun H locs hP hD hS => ?_)
  have hP : va_P D vwCl [(a, .inr (9, (fs.set 3 (.int c1))))] H := hP
  have hD : va_D A [(a, .inr (9, (fs.set 3 (.int c1))))] := hD
  refine lv_aload_n hx hb d_M_flaw_12 rfl (lv_at hl 0 rfl) ?_
  refine lv_iload_n hx hb d_M_flaw_13 rfl (lv_at hl 2 rfl) ?_
  refine pF hx hb hown hE hK hP hD hS 0 rfl rfl layM tyM tokM nmM 4 (by decide) w322 rfl rfl rfl (by simp [hl_fs]) d_M_flaw_14 (fun H locs hP hD hS => ?_)
  have hP : va_P D vwCl [(a, .inr (9, ((fs.set 3 (.int c1)).set 4 (.int p1))))] H := hP
  have hD : va_D A [(a, .inr (9, ((fs.set 3 (.int c1)).set 4 (.int p1))))] := hD
  refine lv_iconst (v := 0) hx hb d_M_flaw_17 (by decide) ?_
  exact rtZ hx hb hr (by decide) hlk hP hD hS () rfl [0] rfl rfl (by decide) (Nat.le_of_ble_eq_true rfl) (Nat.le_of_ble_eq_true rfl) d_M_flaw_18
theorem d_M_readLabels_0 : decode prog_14_method_24_code 0 = .ok (.aload_n 0, 1) := by decide +kernel
theorem d_M_readLabels_1 : decode prog_14_method_24_code 1 = .ok (.iconst 0, 1) := by decide +kernel
theorem d_M_readLabels_2 : decode prog_14_method_24_code 2 = .ok (.putfield 217, 3) := by decide +kernel
theorem d_M_readLabels_5 : decode prog_14_method_24_code 5 = .ok (.iconst 0, 1) := by decide +kernel
theorem d_M_readLabels_6 : decode prog_14_method_24_code 6 = .ok (.istore_n 1, 1) := by decide +kernel
theorem d_M_readLabels_7 : decode prog_14_method_24_code 7 = .ok (.aload_n 0, 1) := by decide +kernel
theorem d_M_readLabels_8 : decode prog_14_method_24_code 8 = .ok (.iload_n 1, 1) := by decide +kernel
theorem d_M_readLabels_9 : decode prog_14_method_24_code 9 = .ok (.invokevirtual 220, 3) := by decide +kernel
theorem d_M_readLabels_12 : decode prog_14_method_24_code 12 = .ok (.istore_n 2, 1) := by decide +kernel
theorem d_M_readLabels_13 : decode prog_14_method_24_code 13 = .ok (.iload_n 2, 1) := by decide +kernel
theorem d_M_readLabels_14 : decode prog_14_method_24_code 14 = .ok (.ifCond .eq 9, 3) := by decide +kernel
theorem d_M_readLabels_23 : decode prog_14_method_24_code 23 = .ok (.aload_n 0, 1) := by decide +kernel
theorem d_M_readLabels_24 : decode prog_14_method_24_code 24 = .ok (.bipush 7, 2) := by decide +kernel
theorem d_M_readLabels_26 : decode prog_14_method_24_code 26 = .ok (.iload_n 1, 1) := by decide +kernel
theorem d_M_readLabels_27 : decode prog_14_method_24_code 27 = .ok (.iload_n 2, 1) := by decide +kernel
theorem d_M_readLabels_28 : decode prog_14_method_24_code 28 = .ok (.bipush 24, 2) := by decide +kernel
theorem d_M_readLabels_30 : decode prog_14_method_24_code 30 = .ok (.if_icmp .le 8, 3) := by decide +kernel
theorem d_M_readLabels_38 : decode prog_14_method_24_code 38 = .ok (.iconst 0, 1) := by decide +kernel
theorem d_M_readLabels_39 : decode prog_14_method_24_code 39 = .ok (.iadd, 1) := by decide +kernel
theorem d_M_readLabels_40 : decode prog_14_method_24_code 40 = .ok (.invokevirtual 224, 3) := by decide +kernel
theorem d_M_readLabels_43 : decode prog_14_method_24_code 43 = .ok (.ireturn, 1) := by decide +kernel
theorem w425 : Cond.fieldLink "SeriesVaultModel" 217 "SeriesVaultModel" "labelCount" "I" ∈ aW := aw_of (tb_8 (List.mem_of_getElem? (i := 217) rfl)) rfl
theorem w426 : Cond.methodLink "SeriesVaultModel" 220 ⟨"SeriesVaultModel", "wordLength", "(I)I"⟩ ∈ aW := aw_of (tb_9 (List.mem_of_getElem? (i := 200) rfl)) rfl
theorem w427 : Cond.code ⟨"SeriesVaultModel", "wordLength", "(I)I"⟩ prog_14_method_22_code 3 (some FieldType.int) ∈ aW := aw_of (tb_9 (List.mem_of_getElem? (i := 203) rfl)) rfl
theorem w428 : Cond.instanceMethod ⟨"SeriesVaultModel", "wordLength", "(I)I"⟩ ∈ aW := aw_of (tb_9 (List.mem_of_getElem? (i := 202) rfl)) rfl
theorem w429 : Cond.selects "SeriesVaultModel" ⟨"SeriesVaultModel", "wordLength", "(I)I"⟩ ⟨"SeriesVaultModel", "wordLength", "(I)I"⟩ ∈ aW := aw_pr (List.mem_map.mpr ⟨_, pv_5 (List.mem_of_getElem? (i := 4) rfl), rfl⟩) rfl
theorem w430 : Cond.methodLink "SeriesVaultModel" 224 ⟨"SeriesVaultModel", "flaw", "(II)Z"⟩ ∈ aW := aw_of (tb_9 (List.mem_of_getElem? (i := 207) rfl)) rfl
theorem w431 : Cond.code ⟨"SeriesVaultModel", "flaw", "(II)Z"⟩ prog_14_method_21_code 3 (some FieldType.boolean) ∈ aW := aw_of (tb_9 (List.mem_of_getElem? (i := 210) rfl)) rfl
theorem w432 : Cond.instanceMethod ⟨"SeriesVaultModel", "flaw", "(II)Z"⟩ ∈ aW := aw_of (tb_9 (List.mem_of_getElem? (i := 209) rfl)) rfl
theorem w433 : Cond.selects "SeriesVaultModel" ⟨"SeriesVaultModel", "flaw", "(II)Z"⟩ ⟨"SeriesVaultModel", "flaw", "(II)Z"⟩ ∈ aW := aw_pr (List.mem_map.mpr ⟨_, pv_5 (List.mem_of_getElem? (i := 5) rfl), rfl⟩) rfl
set_option maxHeartbeats 4000000 in
set_option maxRecDepth 100000 in
theorem c_M_readLabels_0 (l : Launch) (D : va_G) (dA : Nat → ClassId) (sz : Nat) (a : Nat) (fs : List Value) (h_fs_length : fs[2]? = some (.int 0)) (h_fs_faultCode : fs[3]? = some (.int 0)) (hl_fs : fs.length = 79) : Met l ⟨"SeriesVaultModel", "readLabels", "()Z"⟩ [Cond.code ⟨"SeriesVaultModel", "readLabels", "()Z"⟩ prog_14_method_24_code 6 (some FieldType.boolean)] { frames := 2, cells := 0, slots := 0, locals := 22 } (pC D dA [.ref a] [(a, .inr (9, fs))] sz) (va_Qi (fun (r : Int32) (_ : Unit) => r = 0) (fun (u9 : Unit) t9 => bW D (va_A [(a, .inr (9, fs))] sz) [(a, .inr (9, (((fs.set 43 (.int 0)).set 3 (.int 7)).set 4 (.int 0))))] t9) (va_A [(a, .inr (9, fs))] sz)) 0 0 (va_A [(a, .inr (9, fs))] sz) := by
  refine mkC (Qc := fun A => va_Qi (fun (r : Int32) (_ : Unit) => r = 0) (fun (u9 : Unit) t9 => bW D A [(a, .inr (9, (((fs.set 43 (.int 0)).set 3 (.int 7)).set 4 (.int 0))))] t9) A) (by decide) (Nat.le_of_ble_eq_true rfl) ?_
  intro A p e s m below meth c ls hsz hB
  obtain ⟨hx, hb, hr, hml, hown, hin, hlk, hE, hK, hP, hD, hS, hA, hN, hl⟩ := hB
  have hown : s.vm.findClass "SeriesVaultModel" = some m.cls := hown
  have hin : meth.name = "readLabels" := hin
  have hl : lv_has ls 6 [(0, .ref a)] := hl
  obtain ⟨H, hH⟩ : ∃ z, z = s.heap := ⟨_, rfl⟩
  have hP : va_P D vwCl [(a, .inr (9, fs))] H := by rw [hH]; exact hP
  have hS : va_S A s.heap H [] := by rw [hH]; exact hS
  rw [← hH]
  refine lv_aload_n hx hb d_M_readLabels_0 rfl (lv_at hl 0 rfl) ?_
  refine lv_iconst (v := 0) hx hb d_M_readLabels_1 (by decide) ?_
  refine pF hx hb hown hE hK hP hD hS 0 rfl rfl layM tyM tokM nmM 43 (by decide) w425 rfl rfl rfl (by simp [hl_fs]) d_M_readLabels_2 (fun H locs hP hD hS => ?_)
  have hP : va_P D vwCl [(a, .inr (9, (fs.set 43 (.int 0))))] H := hP
  have hD : va_D A [(a, .inr (9, (fs.set 43 (.int 0))))] := hD
  refine lv_iconst (v := 0) hx hb d_M_readLabels_5 (by decide) ?_
  refine lv_istore_n hx hb d_M_readLabels_6 rfl hl (by decide) rfl (fun ls hl => ?_)
  have hl : lv_has ls 6 [(1, .int 0), (0, .ref a)] := hl
  refine lv_aload_n hx hb d_M_readLabels_7 rfl (lv_at hl 1 rfl) ?_
  refine lv_iload_n hx hb d_M_readLabels_8 rfl (lv_at hl 0 rfl) ?_
  have hPc := hP.sub (ws' := [(a, .inr (9, (fs.set 43 (.int 0))))]) [0] rfl
  have hDc := hD.sub (ws' := [(a, .inr (9, (fs.set 43 (.int 0))))]) [0] (by decide) rfl
  refine jnI (rnV (As := [.int 0]) (rest := []) hx hb hml hown hE hK (hN _ _ hS) hPc hDc (c_M_wordLength_0 l D dA H.size a (fs.set 43 (.int 0)) (by simp [h_fs_length]) (by simp [hl_fs])) (q0 := 0) rfl rfl w427 w426 w428 w429 w328 rfl rfl ⟨⟨by decide, by decide⟩, rfl⟩ ⟨(Nat.le_of_ble_eq_true rfl), (Nat.le_of_ble_eq_true rfl)⟩ rfl hl.1 rfl (Nat.le_of_ble_eq_true rfl) d_M_readLabels_9 ⟨(Nat.le_of_ble_eq_true rfl), (Nat.le_of_ble_eq_true rfl)⟩) hP hD hS hA [0] [] (wr := []) rfl rfl (by decide) (by decide) (fun r1 u9 H locs hp9 hP hD hS => ?_)
  have hP : va_P D vwCl [(a, .inr (9, (fs.set 43 (.int 0))))] H := hP
  have hD : va_D A [(a, .inr (9, (fs.set 43 (.int 0))))] := hD
  have hp9 : 0 = r1 := Eq.symm hp9
  subst hp9
  refine lv_istore_n hx hb d_M_readLabels_12 rfl hl (by decide) rfl (fun ls hl => ?_)
  have hl : lv_has ls 6 [(2, .int 0), (1, .int 0), (0, .ref a)] := hl
  refine lv_iload_n hx hb d_M_readLabels_13 rfl (lv_at hl 0 rfl) ?_
  refine lv_if_eq hx hb d_M_readLabels_14 (tgt := 23) rfl (fun _ => ?_) (fun h9 => absurd (by decide) h9)
  refine lv_aload_n hx hb d_M_readLabels_23 rfl (lv_at hl 2 rfl) ?_
  refine lv_bipush (v := 7) hx hb d_M_readLabels_24 (by decide) ?_
  refine lv_iload_n hx hb d_M_readLabels_26 rfl (lv_at hl 1 rfl) ?_
  refine lv_iload_n hx hb d_M_readLabels_27 rfl (lv_at hl 0 rfl) ?_
  refine lv_bipush (v := 24) hx hb d_M_readLabels_28 (by decide) ?_
  refine lv_icmp_le hx hb d_M_readLabels_30 (tgt := 38) rfl (fun _ => ?_) (fun h9 => absurd (by decide) h9)
  refine lv_iconst (v := 0) hx hb d_M_readLabels_38 (by decide) ?_
  refine lv_iadd hx hb d_M_readLabels_39 (tpi (y := 0) (by decide) ?_)
  have hPc := hP.sub (ws' := [(a, .inr (9, (fs.set 43 (.int 0))))]) [0] rfl
  have hDc := hD.sub (ws' := [(a, .inr (9, (fs.set 43 (.int 0))))]) [0] (by decide) rfl
  refine jnI (rnV (As := [.int 7, .int 0]) (rest := []) hx hb hml hown hE hK (hN _ _ hS) hPc hDc (c_M_flaw l D dA H.size a (fs.set 43 (.int 0)) 7 0 (by simp [h_fs_faultCode]) (by simp [hl_fs])) (q0 := 0) rfl rfl w431 w430 w432 w433 w328 rfl rfl ⟨⟨by decide, by decide⟩, rfl⟩ ⟨(Nat.le_of_ble_eq_true rfl), (Nat.le_of_ble_eq_true rfl)⟩ rfl hl.1 rfl (Nat.le_of_ble_eq_true rfl) d_M_readLabels_40 ⟨(Nat.le_of_ble_eq_true rfl), (Nat.le_of_ble_eq_true rfl)⟩) hP hD hS hA [0] [] (wr := []) rfl rfl (by decide) (by decide) (fun r2 u9 H locs hp9 hP hD hS => ?_)
  have hP : va_P D vwCl [(a, .inr (9, (((fs.set 43 (.int 0)).set 3 (.int 7)).set 4 (.int 0))))] H := hP
  have hD : va_D A [(a, .inr (9, (((fs.set 43 (.int 0)).set 3 (.int 7)).set 4 (.int 0))))] := hD
  have hp9 : 0 = r2 := Eq.symm hp9
  subst hp9
  exact rtZ hx hb hr (by decide) hlk hP hD hS () rfl [0] rfl rfl (by decide) (Nat.le_of_ble_eq_true rfl) (Nat.le_of_ble_eq_true rfl) d_M_readLabels_43
theorem d_M_series_0 : decode prog_14_method_29_code 0 = .ok (.aload_n 0, 1) := by decide +kernel
theorem d_M_series_1 : decode prog_14_method_29_code 1 = .ok (.aload_n 0, 1) := by decide +kernel
theorem d_M_series_2 : decode prog_14_method_29_code 2 = .ok (.getfield 21, 3) := by decide +kernel
theorem d_M_series_5 : decode prog_14_method_29_code 5 = .ok (.ifCond .eq 7, 3) := by decide +kernel
theorem d_M_series_8 : decode prog_14_method_29_code 8 = .ok (.iconst 0, 1) := by decide +kernel
theorem d_M_series_9 : decode prog_14_method_29_code 9 = .ok (.goto 4, 3) := by decide +kernel
theorem d_M_series_13 : decode prog_14_method_29_code 13 = .ok (.putfield 145, 3) := by decide +kernel
theorem d_M_series_16 : decode prog_14_method_29_code 16 = .ok (.aload_n 0, 1) := by decide +kernel
theorem d_M_series_17 : decode prog_14_method_29_code 17 = .ok (.getfield 145, 3) := by decide +kernel
theorem d_M_series_20 : decode prog_14_method_29_code 20 = .ok (.ifCond .le 5, 3) := by decide +kernel
theorem d_M_series_25 : decode prog_14_method_29_code 25 = .ok (.aload_n 0, 1) := by decide +kernel
theorem d_M_series_26 : decode prog_14_method_29_code 26 = .ok (.getfield 151, 3) := by decide +kernel
theorem d_M_series_29 : decode prog_14_method_29_code 29 = .ok (.istore_n 1, 1) := by decide +kernel
theorem d_M_series_30 : decode prog_14_method_29_code 30 = .ok (.aload_n 0, 1) := by decide +kernel
theorem d_M_series_31 : decode prog_14_method_29_code 31 = .ok (.getfield 154, 3) := by decide +kernel
theorem d_M_series_34 : decode prog_14_method_29_code 34 = .ok (.istore_n 2, 1) := by decide +kernel
theorem d_M_series_35 : decode prog_14_method_29_code 35 = .ok (.aload_n 0, 1) := by decide +kernel
theorem d_M_series_36 : decode prog_14_method_29_code 36 = .ok (.iconst 0, 1) := by decide +kernel
theorem d_M_series_37 : decode prog_14_method_29_code 37 = .ok (.putfield 151, 3) := by decide +kernel
theorem d_M_series_40 : decode prog_14_method_29_code 40 = .ok (.aload_n 0, 1) := by decide +kernel
theorem d_M_series_41 : decode prog_14_method_29_code 41 = .ok (.iconst 0, 1) := by decide +kernel
theorem d_M_series_42 : decode prog_14_method_29_code 42 = .ok (.putfield 154, 3) := by decide +kernel
theorem d_M_series_45 : decode prog_14_method_29_code 45 = .ok (.aload_n 0, 1) := by decide +kernel
theorem d_M_series_46 : decode prog_14_method_29_code 46 = .ok (.invokevirtual 234, 3) := by decide +kernel
theorem d_M_series_49 : decode prog_14_method_29_code 49 = .ok (.ifCond .ne 10, 3) := by decide +kernel
theorem d_M_series_52 : decode prog_14_method_29_code 52 = .ok (.aload_n 0, 1) := by decide +kernel
theorem d_M_series_53 : decode prog_14_method_29_code 53 = .ok (.iconst 0, 1) := by decide +kernel
theorem d_M_series_54 : decode prog_14_method_29_code 54 = .ok (.putfield 148, 3) := by decide +kernel
theorem d_M_series_57 : decode prog_14_method_29_code 57 = .ok (.iconst (-1), 1) := by decide +kernel
theorem d_M_series_58 : decode prog_14_method_29_code 58 = .ok (.ireturn, 1) := by decide +kernel
theorem w434 : Cond.methodLink "SeriesVaultModel" 234 ⟨"SeriesVaultModel", "readLabels", "()Z"⟩ ∈ aW := aw_of (tb_9 (List.mem_of_getElem? (i := 196) rfl)) rfl
theorem w435 : Cond.code ⟨"SeriesVaultModel", "readLabels", "()Z"⟩ prog_14_method_24_code 6 (some FieldType.boolean) ∈ aW := aw_of (tb_9 (List.mem_of_getElem? (i := 199) rfl)) rfl
theorem w436 : Cond.instanceMethod ⟨"SeriesVaultModel", "readLabels", "()Z"⟩ ∈ aW := aw_of (tb_9 (List.mem_of_getElem? (i := 198) rfl)) rfl
theorem w437 : Cond.selects "SeriesVaultModel" ⟨"SeriesVaultModel", "readLabels", "()Z"⟩ ⟨"SeriesVaultModel", "readLabels", "()Z"⟩ ∈ aW := aw_pr (List.mem_map.mpr ⟨_, pv_5 (List.mem_of_getElem? (i := 3) rfl), rfl⟩) rfl
set_option maxHeartbeats 4000000 in
set_option maxRecDepth 100000 in
theorem c_M_series_0 (l : Launch) (D : va_G) (dA : Nat → ClassId) (sz : Nat) (a : Nat) (fs : List Value) (h_fs_length : fs[2]? = some (.int 0)) (h_fs_faultCode : fs[3]? = some (.int 0)) (h_fs_faultPlace : fs[4]? = some (.int 0)) (h_fs_on : fs[7]? = some (.int 1)) (hl_fs : fs.length = 79) : Met l ⟨"SeriesVaultModel", "series", "()I"⟩ [Cond.code ⟨"SeriesVaultModel", "series", "()I"⟩ prog_14_method_29_code 5 (some FieldType.int)] { frames := 3, cells := 0, slots := 0, locals := 47 } (pC D dA [.ref a] [(a, .inr (9, fs))] sz) (va_Qi (fun (r : Int32) (_ : Unit) => r = (-1)) (fun (u9 : Unit) t9 => bW D (va_A [(a, .inr (9, fs))] sz) [(a, .inr (9, (((((((fs.set 0 (.int 0)).set 3 (.int 0)).set 4 (.int 0)).set 43 (.int 0)).set 3 (.int 7)).set 4 (.int 0)).set 2 (.int 0))))] t9) (va_A [(a, .inr (9, fs))] sz)) 0 0 (va_A [(a, .inr (9, fs))] sz) := by
  refine mkC (Qc := fun A => va_Qi (fun (r : Int32) (_ : Unit) => r = (-1)) (fun (u9 : Unit) t9 => bW D A [(a, .inr (9, (((((((fs.set 0 (.int 0)).set 3 (.int 0)).set 4 (.int 0)).set 43 (.int 0)).set 3 (.int 7)).set 4 (.int 0)).set 2 (.int 0))))] t9) A) (by decide) (Nat.le_of_ble_eq_true rfl) ?_
  intro A p e s m below meth c ls hsz hB
  obtain ⟨hx, hb, hr, hml, hown, hin, hlk, hE, hK, hP, hD, hS, hA, hN, hl⟩ := hB
  have hown : s.vm.findClass "SeriesVaultModel" = some m.cls := hown
  have hin : meth.name = "series" := hin
  have hl : lv_has ls 5 [(0, .ref a)] := hl
  obtain ⟨H, hH⟩ : ∃ z, z = s.heap := ⟨_, rfl⟩
  have hP : va_P D vwCl [(a, .inr (9, fs))] H := by rw [hH]; exact hP
  have hS : va_S A s.heap H [] := by rw [hH]; exact hS
  rw [← hH]
  refine lv_aload_n hx hb d_M_series_0 rfl (lv_at hl 0 rfl) ?_
  refine lv_aload_n hx hb d_M_series_1 rfl (lv_at hl 0 rfl) ?_
  refine gF (v := .int 1) hx hb hown hE hK hP 0 rfl rfl layM 7 (by decide) w324 h_fs_on d_M_series_2 ?_
  refine lv_if_eq hx hb d_M_series_5 (tgt := 12) rfl (fun h9 => absurd h9 (by decide)) (fun _ => ?_)
  refine lv_iconst (v := 0) hx hb d_M_series_8 (by decide) ?_
  refine lv_goto hx hb d_M_series_9 (tgt := 13) rfl ?_
  refine pF hx hb hown hE hK hP hD hS 0 rfl rfl layM tyM tokM nmM 0 (by decide) w319 rfl rfl rfl (by simp [hl_fs]) d_M_series_13 (fun H locs hP hD hS => ?_)
  have hP : va_P D vwCl [(a, .inr (9, (fs.set 0 (.int 0))))] H := hP
  have hD : va_D A [(a, .inr (9, (fs.set 0 (.int 0))))] := hD
  refine lv_aload_n hx hb d_M_series_16 rfl (lv_at hl 0 rfl) ?_
  refine gF (v := .int 0) hx hb hown hE hK hP 0 rfl rfl layM 0 (by decide) w319 (by simp [hl_fs]) d_M_series_17 ?_
  refine lv_if_le hx hb d_M_series_20 (tgt := 25) rfl (fun _ => ?_) (fun h9 => absurd (by decide) h9)
  refine lv_aload_n hx hb d_M_series_25 rfl (lv_at hl 0 rfl) ?_
  refine gF (v := .int 0) hx hb hown hE hK hP 0 rfl rfl layM 3 (by decide) w321 (by simp [h_fs_faultCode]) d_M_series_26 ?_
  refine lv_istore_n hx hb d_M_series_29 rfl hl (by decide) rfl (fun ls hl => ?_)
  have hl : lv_has ls 5 [(1, .int 0), (0, .ref a)] := hl
  refine lv_aload_n hx hb d_M_series_30 rfl (lv_at hl 1 rfl) ?_
  refine gF (v := .int 0) hx hb hown hE hK hP 0 rfl rfl layM 4 (by decide) w322 (by simp [h_fs_faultPlace]) d_M_series_31 ?_
  refine lv_istore_n hx hb d_M_series_34 rfl hl (by decide) rfl (fun ls hl => ?_)
  have hl : lv_has ls 5 [(2, .int 0), (1, .int 0), (0, .ref a)] := hl
  refine lv_aload_n hx hb d_M_series_35 rfl (lv_at hl 2 rfl) ?_
  refine lv_iconst (v := 0) hx hb d_M_series_36 (by decide) ?_
  refine pF hx hb hown hE hK hP hD hS 0 rfl rfl layM tyM tokM nmM 3 (by decide) w321 rfl rfl rfl (by simp [hl_fs]) d_M_series_37 (fun H locs hP hD hS => ?_)
  have hP : va_P D vwCl [(a, .inr (9, ((fs.set 0 (.int 0)).set 3 (.int 0))))] H := hP
  have hD : va_D A [(a, .inr (9, ((fs.set 0 (.int 0)).set 3 (.int 0))))] := hD
  refine lv_aload_n hx hb d_M_series_40 rfl (lv_at hl 2 rfl) ?_
  refine lv_iconst (v := 0) hx hb d_M_series_41 (by decide) ?_
  refine pF hx hb hown hE hK hP hD hS 0 rfl rfl layM tyM tokM nmM 4 (by decide) w322 rfl rfl rfl (by simp [hl_fs]) d_M_series_42 (fun H locs hP hD hS => ?_)
  have hP : va_P D vwCl [(a, .inr (9, (((fs.set 0 (.int 0)).set 3 (.int 0)).set 4 (.int 0))))] H := hP
  have hD : va_D A [(a, .inr (9, (((fs.set 0 (.int 0)).set 3 (.int 0)).set 4 (.int 0))))] := hD
  refine lv_aload_n hx hb d_M_series_45 rfl (lv_at hl 2 rfl) ?_
  have hPc := hP.sub (ws' := [(a, .inr (9, (((fs.set 0 (.int 0)).set 3 (.int 0)).set 4 (.int 0))))]) [0] rfl
  have hDc := hD.sub (ws' := [(a, .inr (9, (((fs.set 0 (.int 0)).set 3 (.int 0)).set 4 (.int 0))))]) [0] (by decide) rfl
  refine jnI (rnV (As := []) (rest := []) hx hb hml hown hE hK (hN _ _ hS) hPc hDc (c_M_readLabels_0 l D dA H.size a (((fs.set 0 (.int 0)).set 3 (.int 0)).set 4 (.int 0)) (by simp [h_fs_length]) (by simp [hl_fs]) (by simp [hl_fs])) (q0 := 0) rfl rfl w435 w434 w436 w437 w328 rfl rfl ⟨⟨by decide, by decide⟩, rfl⟩ ⟨(Nat.le_of_ble_eq_true rfl), (Nat.le_of_ble_eq_true rfl)⟩ rfl hl.1 rfl (Nat.le_of_ble_eq_true rfl) d_M_series_46 ⟨(Nat.le_of_ble_eq_true rfl), (Nat.le_of_ble_eq_true rfl)⟩) hP hD hS hA [0] [] (wr := []) rfl rfl (by decide) (by decide) (fun r1 u9 H locs hp9 hP hD hS => ?_)
  have hP : va_P D vwCl [(a, .inr (9, ((((((fs.set 0 (.int 0)).set 3 (.int 0)).set 4 (.int 0)).set 43 (.int 0)).set 3 (.int 7)).set 4 (.int 0))))] H := hP
  have hD : va_D A [(a, .inr (9, ((((((fs.set 0 (.int 0)).set 3 (.int 0)).set 4 (.int 0)).set 43 (.int 0)).set 3 (.int 7)).set 4 (.int 0))))] := hD
  have hp9 : 0 = r1 := Eq.symm hp9
  subst hp9
  refine lv_if_ne hx hb d_M_series_49 (tgt := 59) rfl (fun h9 => absurd (by decide) h9) (fun _ => ?_)
  refine lv_aload_n hx hb d_M_series_52 rfl (lv_at hl 2 rfl) ?_
  refine lv_iconst (v := 0) hx hb d_M_series_53 (by decide) ?_
  refine pF hx hb hown hE hK hP hD hS 0 rfl rfl layM tyM tokM nmM 2 (by decide) w320 rfl rfl rfl (by simp [hl_fs]) d_M_series_54 (fun H locs hP hD hS => ?_)
  have hP : va_P D vwCl [(a, .inr (9, (((((((fs.set 0 (.int 0)).set 3 (.int 0)).set 4 (.int 0)).set 43 (.int 0)).set 3 (.int 7)).set 4 (.int 0)).set 2 (.int 0))))] H := hP
  have hD : va_D A [(a, .inr (9, (((((((fs.set 0 (.int 0)).set 3 (.int 0)).set 4 (.int 0)).set 43 (.int 0)).set 3 (.int 7)).set 4 (.int 0)).set 2 (.int 0))))] := hD
  refine lv_iconst (v := (-1)) hx hb d_M_series_57 (by decide) ?_
  exact rtI hx hb hr hlk hP hD hS () rfl [0] rfl rfl (by decide) (Nat.le_of_ble_eq_true rfl) (Nat.le_of_ble_eq_true rfl) d_M_series_58
theorem d_M_free_0 : decode prog_14_method_9_code 0 = .ok (.aload_n 0, 1) := by decide +kernel
theorem d_M_free_1 : decode prog_14_method_9_code 1 = .ok (.getfield 14, 3) := by decide +kernel
theorem d_M_free_4 : decode prog_14_method_9_code 4 = .ok (.iconst 2, 1) := by decide +kernel
theorem d_M_free_5 : decode prog_14_method_9_code 5 = .ok (.isub, 1) := by decide +kernel
theorem d_M_free_6 : decode prog_14_method_9_code 6 = .ok (.aload_n 0, 1) := by decide +kernel
theorem d_M_free_7 : decode prog_14_method_9_code 7 = .ok (.getfield 18, 3) := by decide +kernel
theorem d_M_free_10 : decode prog_14_method_9_code 10 = .ok (.isub, 1) := by decide +kernel
theorem d_M_free_11 : decode prog_14_method_9_code 11 = .ok (.aload_n 0, 1) := by decide +kernel
theorem d_M_free_12 : decode prog_14_method_9_code 12 = .ok (.getfield 166, 3) := by decide +kernel
theorem d_M_free_15 : decode prog_14_method_9_code 15 = .ok (.isub, 1) := by decide +kernel
theorem d_M_free_16 : decode prog_14_method_9_code 16 = .ok (.istore_n 1, 1) := by decide +kernel
theorem d_M_free_17 : decode prog_14_method_9_code 17 = .ok (.iconst 0, 1) := by decide +kernel
theorem d_M_free_18 : decode prog_14_method_9_code 18 = .ok (.istore_n 2, 1) := by decide +kernel
theorem d_M_free_19 : decode prog_14_method_9_code 19 = .ok (.iload_n 2, 1) := by decide +kernel
theorem d_M_free_20 : decode prog_14_method_9_code 20 = .ok (.aload_n 0, 1) := by decide +kernel
theorem d_M_free_21 : decode prog_14_method_9_code 21 = .ok (.getfield 179, 3) := by decide +kernel
theorem d_M_free_24 : decode prog_14_method_9_code 24 = .ok (.if_icmp .ge 18, 3) := by decide +kernel
theorem d_M_free_42 : decode prog_14_method_9_code 42 = .ok (.iload_n 1, 1) := by decide +kernel
theorem d_M_free_43 : decode prog_14_method_9_code 43 = .ok (.ireturn, 1) := by decide +kernel
set_option maxHeartbeats 4000000 in
set_option maxRecDepth 100000 in
theorem c_M_free (l : Launch) (D : va_G) (dA : Nat → ClassId) (sz : Nat) (a : Nat) (fs : List Value) (h_fs_blocks : fs[5]? = some (.int 64)) (h_fs_journal : fs[6]? = some (.int 8)) (h_fs_catalogBlocks : fs[16]? = some (.int 0)) (h_fs_parcelCount : fs[28]? = some (.int 0)) (hl_fs : fs.length = 79) : Met l ⟨"SeriesVaultModel", "free", "()I"⟩ [Cond.code ⟨"SeriesVaultModel", "free", "()I"⟩ prog_14_method_9_code 3 (some FieldType.int)] { frames := 1, cells := 0, slots := 0, locals := 0 } (pC D dA [.ref a] [(a, .inr (9, fs))] sz) (va_Qi (fun (r : Int32) (_ : Unit) => r = 54) (fun (u9 : Unit) t9 => bW D (va_A [(a, .inr (9, fs))] sz) [(a, .inr (9, fs))] t9) (va_A [(a, .inr (9, fs))] sz)) 0 0 (va_A [(a, .inr (9, fs))] sz) := by
  refine mkC (Qc := fun A => va_Qi (fun (r : Int32) (_ : Unit) => r = 54) (fun (u9 : Unit) t9 => bW D A [(a, .inr (9, fs))] t9) A) (by decide) (Nat.le_of_ble_eq_true rfl) ?_
  intro A p e s m below meth c ls hsz hB
  obtain ⟨hx, hb, hr, hml, hown, hin, hlk, hE, hK, hP, hD, hS, hA, hN, hl⟩ := hB
  have hown : s.vm.findClass "SeriesVaultModel" = some m.cls := hown
  have hin : meth.name = "free" := hin
  have hl : lv_has ls 3 [(0, .ref a)] := hl
  obtain ⟨H, hH⟩ : ∃ z, z = s.heap := ⟨_, rfl⟩
  have hP : va_P D vwCl [(a, .inr (9, fs))] H := by rw [hH]; exact hP
  have hS : va_S A s.heap H [] := by rw [hH]; exact hS
  rw [← hH]
  refine lv_aload_n hx hb d_M_free_0 rfl (lv_at hl 0 rfl) ?_
  refine gF (v := .int 64) hx hb hown hE hK hP 0 rfl rfl layM 5 (by decide) w416 h_fs_blocks d_M_free_1 ?_
  refine lv_iconst (v := 2) hx hb d_M_free_4 (by decide) ?_
  refine lv_isub hx hb d_M_free_5 (tpi (y := 62) (by decide) ?_)
  refine lv_aload_n hx hb d_M_free_6 rfl (lv_at hl 0 rfl) ?_
  refine gF (v := .int 8) hx hb hown hE hK hP 0 rfl rfl layM 6 (by decide) w417 h_fs_journal d_M_free_7 ?_
  refine lv_isub hx hb d_M_free_10 (tpi (y := 54) (by decide) ?_)
  refine lv_aload_n hx hb d_M_free_11 rfl (lv_at hl 0 rfl) ?_
  refine gF (v := .int 0) hx hb hown hE hK hP 0 rfl rfl layM 16 (by decide) w419 h_fs_catalogBlocks d_M_free_12 ?_
  refine lv_isub hx hb d_M_free_15 (tpi (y := 54) (by decide) ?_)
  refine lv_istore_n hx hb d_M_free_16 rfl hl (by decide) rfl (fun ls hl => ?_)
  have hl : lv_has ls 3 [(1, .int 54), (0, .ref a)] := hl
  refine lv_iconst (v := 0) hx hb d_M_free_17 (by decide) ?_
  refine lv_istore_n hx hb d_M_free_18 rfl hl (by decide) rfl (fun ls hl => ?_)
  have hl : lv_has ls 3 [(2, .int 0), (1, .int 54), (0, .ref a)] := hl
  refine lv_iload_n hx hb d_M_free_19 rfl (lv_at hl 0 rfl) ?_
  refine lv_aload_n hx hb d_M_free_20 rfl (lv_at hl 2 rfl) ?_
  refine gF (v := .int 0) hx hb hown hE hK hP 0 rfl rfl layM 28 (by decide) w344 h_fs_parcelCount d_M_free_21 ?_
  refine lv_icmp_ge hx hb d_M_free_24 (tgt := 42) rfl (fun _ => ?_) (fun h9 => absurd (by decide) h9)
  refine lv_iload_n hx hb d_M_free_42 rfl (lv_at hl 1 rfl) ?_
  exact rtI hx hb hr hlk hP hD hS () rfl [0] rfl rfl (by decide) (Nat.le_of_ble_eq_true rfl) (Nat.le_of_ble_eq_true rfl) d_M_free_43
theorem d_M_headCount_0 : decode prog_14_method_14_code 0 = .ok (.iconst 0, 1) := by decide +kernel
theorem d_M_headCount_1 : decode prog_14_method_14_code 1 = .ok (.istore_n 1, 1) := by decide +kernel
theorem d_M_headCount_2 : decode prog_14_method_14_code 2 = .ok (.iconst 0, 1) := by decide +kernel
theorem d_M_headCount_3 : decode prog_14_method_14_code 3 = .ok (.istore_n 2, 1) := by decide +kernel
theorem d_M_headCount_4 : decode prog_14_method_14_code 4 = .ok (.iload_n 2, 1) := by decide +kernel
theorem d_M_headCount_5 : decode prog_14_method_14_code 5 = .ok (.aload_n 0, 1) := by decide +kernel
theorem d_M_headCount_6 : decode prog_14_method_14_code 6 = .ok (.getfield 169, 3) := by decide +kernel
theorem d_M_headCount_9 : decode prog_14_method_14_code 9 = .ok (.if_icmp .ge 35, 3) := by decide +kernel
theorem d_M_headCount_44 : decode prog_14_method_14_code 44 = .ok (.iload_n 1, 1) := by decide +kernel
theorem d_M_headCount_45 : decode prog_14_method_14_code 45 = .ok (.ireturn, 1) := by decide +kernel
set_option maxHeartbeats 4000000 in
set_option maxRecDepth 100000 in
theorem c_M_headCount_0 (l : Launch) (D : va_G) (dA : Nat → ClassId) (sz : Nat) (a : Nat) (fs : List Value) (h_fs_points : fs[23]? = some (.int 0)) (hl_fs : fs.length = 79) : Met l ⟨"SeriesVaultModel", "headCount", "()I"⟩ [Cond.code ⟨"SeriesVaultModel", "headCount", "()I"⟩ prog_14_method_14_code 3 (some FieldType.int)] { frames := 1, cells := 0, slots := 0, locals := 0 } (pC D dA [.ref a] [(a, .inr (9, fs))] sz) (va_Qi (fun (r : Int32) (_ : Unit) => r = 0) (fun (u9 : Unit) t9 => bW D (va_A [(a, .inr (9, fs))] sz) [(a, .inr (9, fs))] t9) (va_A [(a, .inr (9, fs))] sz)) 0 0 (va_A [(a, .inr (9, fs))] sz) := by
  refine mkC (Qc := fun A => va_Qi (fun (r : Int32) (_ : Unit) => r = 0) (fun (u9 : Unit) t9 => bW D A [(a, .inr (9, fs))] t9) A) (by decide) (Nat.le_of_ble_eq_true rfl) ?_
  intro A p e s m below meth c ls hsz hB
  obtain ⟨hx, hb, hr, hml, hown, hin, hlk, hE, hK, hP, hD, hS, hA, hN, hl⟩ := hB
  have hown : s.vm.findClass "SeriesVaultModel" = some m.cls := hown
  have hin : meth.name = "headCount" := hin
  have hl : lv_has ls 3 [(0, .ref a)] := hl
  obtain ⟨H, hH⟩ : ∃ z, z = s.heap := ⟨_, rfl⟩
  have hP : va_P D vwCl [(a, .inr (9, fs))] H := by rw [hH]; exact hP
  have hS : va_S A s.heap H [] := by rw [hH]; exact hS
  rw [← hH]
  refine lv_iconst (v := 0) hx hb d_M_headCount_0 (by decide) ?_
  refine lv_istore_n hx hb d_M_headCount_1 rfl hl (by decide) rfl (fun ls hl => ?_)
  have hl : lv_has ls 3 [(1, .int 0), (0, .ref a)] := hl
  refine lv_iconst (v := 0) hx hb d_M_headCount_2 (by decide) ?_
  refine lv_istore_n hx hb d_M_headCount_3 rfl hl (by decide) rfl (fun ls hl => ?_)
  have hl : lv_has ls 3 [(2, .int 0), (1, .int 0), (0, .ref a)] := hl
  refine lv_iload_n hx hb d_M_headCount_4 rfl (lv_at hl 0 rfl) ?_
  refine lv_aload_n hx hb d_M_headCount_5 rfl (lv_at hl 2 rfl) ?_
  refine gF (v := .int 0) hx hb hown hE hK hP 0 rfl rfl layM 23 (by decide) w420 h_fs_points d_M_headCount_6 ?_
  refine lv_icmp_ge hx hb d_M_headCount_9 (tgt := 44) rfl (fun _ => ?_) (fun h9 => absurd (by decide) h9)
  refine lv_iload_n hx hb d_M_headCount_44 rfl (lv_at hl 1 rfl) ?_
  exact rtI hx hb hr hlk hP hD hS () rfl [0] rfl rfl (by decide) (Nat.le_of_ble_eq_true rfl) (Nat.le_of_ble_eq_true rfl) d_M_headCount_45
theorem d_M_scars_0 : decode prog_14_method_15_code 0 = .ok (.iconst 0, 1) := by decide +kernel
theorem d_M_scars_1 : decode prog_14_method_15_code 1 = .ok (.istore_n 1, 1) := by decide +kernel
theorem d_M_scars_2 : decode prog_14_method_15_code 2 = .ok (.iconst 0, 1) := by decide +kernel
theorem d_M_scars_3 : decode prog_14_method_15_code 3 = .ok (.istore_n 2, 1) := by decide +kernel
theorem d_M_scars_4 : decode prog_14_method_15_code 4 = .ok (.iload_n 2, 1) := by decide +kernel
theorem d_M_scars_5 : decode prog_14_method_15_code 5 = .ok (.aload_n 0, 1) := by decide +kernel
theorem d_M_scars_6 : decode prog_14_method_15_code 6 = .ok (.getfield 169, 3) := by decide +kernel
theorem d_M_scars_9 : decode prog_14_method_15_code 9 = .ok (.if_icmp .ge 96, 3) := by decide +kernel
theorem d_M_scars_105 : decode prog_14_method_15_code 105 = .ok (.iload_n 1, 1) := by decide +kernel
theorem d_M_scars_106 : decode prog_14_method_15_code 106 = .ok (.ireturn, 1) := by decide +kernel
set_option maxHeartbeats 4000000 in
set_option maxRecDepth 100000 in
theorem c_M_scars_0 (l : Launch) (D : va_G) (dA : Nat → ClassId) (sz : Nat) (a : Nat) (fs : List Value) (h_fs_points : fs[23]? = some (.int 0)) (hl_fs : fs.length = 79) : Met l ⟨"SeriesVaultModel", "scars", "()I"⟩ [Cond.code ⟨"SeriesVaultModel", "scars", "()I"⟩ prog_14_method_15_code 5 (some FieldType.int)] { frames := 1, cells := 0, slots := 0, locals := 0 } (pC D dA [.ref a] [(a, .inr (9, fs))] sz) (va_Qi (fun (r : Int32) (_ : Unit) => r = 0) (fun (u9 : Unit) t9 => bW D (va_A [(a, .inr (9, fs))] sz) [(a, .inr (9, fs))] t9) (va_A [(a, .inr (9, fs))] sz)) 0 0 (va_A [(a, .inr (9, fs))] sz) := by
  refine mkC (Qc := fun A => va_Qi (fun (r : Int32) (_ : Unit) => r = 0) (fun (u9 : Unit) t9 => bW D A [(a, .inr (9, fs))] t9) A) (by decide) (Nat.le_of_ble_eq_true rfl) ?_
  intro A p e s m below meth c ls hsz hB
  obtain ⟨hx, hb, hr, hml, hown, hin, hlk, hE, hK, hP, hD, hS, hA, hN, hl⟩ := hB
  have hown : s.vm.findClass "SeriesVaultModel" = some m.cls := hown
  have hin : meth.name = "scars" := hin
  have hl : lv_has ls 5 [(0, .ref a)] := hl
  obtain ⟨H, hH⟩ : ∃ z, z = s.heap := ⟨_, rfl⟩
  have hP : va_P D vwCl [(a, .inr (9, fs))] H := by rw [hH]; exact hP
  have hS : va_S A s.heap H [] := by rw [hH]; exact hS
  rw [← hH]
  refine lv_iconst (v := 0) hx hb d_M_scars_0 (by decide) ?_
  refine lv_istore_n hx hb d_M_scars_1 rfl hl (by decide) rfl (fun ls hl => ?_)
  have hl : lv_has ls 5 [(1, .int 0), (0, .ref a)] := hl
  refine lv_iconst (v := 0) hx hb d_M_scars_2 (by decide) ?_
  refine lv_istore_n hx hb d_M_scars_3 rfl hl (by decide) rfl (fun ls hl => ?_)
  have hl : lv_has ls 5 [(2, .int 0), (1, .int 0), (0, .ref a)] := hl
  refine lv_iload_n hx hb d_M_scars_4 rfl (lv_at hl 0 rfl) ?_
  refine lv_aload_n hx hb d_M_scars_5 rfl (lv_at hl 2 rfl) ?_
  refine gF (v := .int 0) hx hb hown hE hK hP 0 rfl rfl layM 23 (by decide) w420 h_fs_points d_M_scars_6 ?_
  refine lv_icmp_ge hx hb d_M_scars_9 (tgt := 105) rfl (fun _ => ?_) (fun h9 => absurd (by decide) h9)
  refine lv_iload_n hx hb d_M_scars_105 rfl (lv_at hl 1 rfl) ?_
  exact rtI hx hb hr hlk hP hD hS () rfl [0] rfl rfl (by decide) (Nat.le_of_ble_eq_true rfl) (Nat.le_of_ble_eq_true rfl) d_M_scars_106
theorem d_M_count_0 : decode prog_14_method_48_code 0 = .ok (.aload_n 0, 1) := by decide +kernel
theorem d_M_count_1 : decode prog_14_method_48_code 1 = .ok (.aload_n 0, 1) := by decide +kernel
theorem d_M_count_2 : decode prog_14_method_48_code 2 = .ok (.getfield 21, 3) := by decide +kernel
theorem d_M_count_5 : decode prog_14_method_48_code 5 = .ok (.ifCond .ne 7, 3) := by decide +kernel
theorem d_M_count_12 : decode prog_14_method_48_code 12 = .ok (.iload_n 1, 1) := by decide +kernel
theorem d_M_count_13 : decode prog_14_method_48_code 13 = .ok (.ifCond .lt 9, 3) := by decide +kernel
theorem d_M_count_16 : decode prog_14_method_48_code 16 = .ok (.iload_n 1, 1) := by decide +kernel
theorem d_M_count_17 : decode prog_14_method_48_code 17 = .ok (.bipush 8, 2) := by decide +kernel
theorem d_M_count_19 : decode prog_14_method_48_code 19 = .ok (.if_icmp .le 7, 3) := by decide +kernel
theorem d_M_count_26 : decode prog_14_method_48_code 26 = .ok (.iconst 0, 1) := by decide +kernel
theorem d_M_count_27 : decode prog_14_method_48_code 27 = .ok (.putfield 145, 3) := by decide +kernel
theorem d_M_count_30 : decode prog_14_method_48_code 30 = .ok (.aload_n 0, 1) := by decide +kernel
theorem d_M_count_31 : decode prog_14_method_48_code 31 = .ok (.getfield 145, 3) := by decide +kernel
theorem d_M_count_34 : decode prog_14_method_48_code 34 = .ok (.ifCond .le 5, 3) := by decide +kernel
theorem d_M_count_39 : decode prog_14_method_48_code 39 = .ok (.iconst 0, 1) := by decide +kernel
theorem d_M_count_40 : decode prog_14_method_48_code 40 = .ok (.istore_n 2, 1) := by decide +kernel
theorem d_M_count_41 : decode prog_14_method_48_code 41 = .ok (.iconst 0, 1) := by decide +kernel
theorem d_M_count_42 : decode prog_14_method_48_code 42 = .ok (.istore_n 3, 1) := by decide +kernel
theorem d_M_count_43 : decode prog_14_method_48_code 43 = .ok (.iload_n 3, 1) := by decide +kernel
theorem d_M_count_44 : decode prog_14_method_48_code 44 = .ok (.aload_n 0, 1) := by decide +kernel
theorem d_M_count_45 : decode prog_14_method_48_code 45 = .ok (.getfield 182, 3) := by decide +kernel
theorem d_M_count_48 : decode prog_14_method_48_code 48 = .ok (.if_icmp .ge 18, 3) := by decide +kernel
theorem d_M_count_66 : decode prog_14_method_48_code 66 = .ok (.iconst 0, 1) := by decide +kernel
theorem d_M_count_67 : decode prog_14_method_48_code 67 = .ok (.istore_n 3, 1) := by decide +kernel
theorem d_M_count_68 : decode prog_14_method_48_code 68 = .ok (.iconst 0, 1) := by decide +kernel
theorem d_M_count_69 : decode prog_14_method_48_code 69 = .ok (.istore 4, 2) := by decide +kernel
theorem d_M_count_71 : decode prog_14_method_48_code 71 = .ok (.iload 4, 2) := by decide +kernel
theorem d_M_count_73 : decode prog_14_method_48_code 73 = .ok (.aload_n 0, 1) := by decide +kernel
theorem d_M_count_74 : decode prog_14_method_48_code 74 = .ok (.getfield 169, 3) := by decide +kernel
theorem d_M_count_77 : decode prog_14_method_48_code 77 = .ok (.if_icmp .ge 26, 3) := by decide +kernel
theorem d_M_count_103 : decode prog_14_method_48_code 103 = .ok (.iload_n 1, 1) := by decide +kernel
theorem d_M_count_104 : decode prog_14_method_48_code 104 = .ok (.ifCond .ne 10, 3) := by decide +kernel
theorem d_M_count_107 : decode prog_14_method_48_code 107 = .ok (.aload_n 0, 1) := by decide +kernel
theorem d_M_count_108 : decode prog_14_method_48_code 108 = .ok (.getfield 160, 3) := by decide +kernel
theorem d_M_count_111 : decode prog_14_method_48_code 111 = .ok (.goto 87, 3) := by decide +kernel
theorem d_M_count_198 : decode prog_14_method_48_code 198 = .ok (.ireturn, 1) := by decide +kernel
set_option maxHeartbeats 4000000 in
set_option maxRecDepth 100000 in
theorem c_M_count_0 (l : Launch) (D : va_G) (dA : Nat → ClassId) (sz : Nat) (a : Nat) (fs : List Value) (h_fs_on : fs[7]? = some (.int 1)) (h_fs_seriesCount : fs[12]? = some (.int 0)) (h_fs_points : fs[23]? = some (.int 0)) (h_fs_records : fs[37]? = some (.int 0)) (hl_fs : fs.length = 79) : Met l ⟨"SeriesVaultModel", "count", "(I)I"⟩ [Cond.code ⟨"SeriesVaultModel", "count", "(I)I"⟩ prog_14_method_48_code 5 (some FieldType.int)] { frames := 1, cells := 0, slots := 0, locals := 0 } (pC D dA [.ref a, .int 0] [(a, .inr (9, fs))] sz) (va_Qi (fun (r : Int32) (_ : Unit) => r = 0) (fun (u9 : Unit) t9 => bW D (va_A [(a, .inr (9, fs))] sz) [(a, .inr (9, (fs.set 0 (.int 0))))] t9) (va_A [(a, .inr (9, fs))] sz)) 0 0 (va_A [(a, .inr (9, fs))] sz) := by
  refine mkC (Qc := fun A => va_Qi (fun (r : Int32) (_ : Unit) => r = 0) (fun (u9 : Unit) t9 => bW D A [(a, .inr (9, (fs.set 0 (.int 0))))] t9) A) (by decide) (Nat.le_of_ble_eq_true rfl) ?_
  intro A p e s m below meth c ls hsz hB
  obtain ⟨hx, hb, hr, hml, hown, hin, hlk, hE, hK, hP, hD, hS, hA, hN, hl⟩ := hB
  have hown : s.vm.findClass "SeriesVaultModel" = some m.cls := hown
  have hin : meth.name = "count" := hin
  have hl : lv_has ls 5 [(0, .ref a), (1, .int 0)] := hl
  obtain ⟨H, hH⟩ : ∃ z, z = s.heap := ⟨_, rfl⟩
  have hP : va_P D vwCl [(a, .inr (9, fs))] H := by rw [hH]; exact hP
  have hS : va_S A s.heap H [] := by rw [hH]; exact hS
  rw [← hH]
  refine lv_aload_n hx hb d_M_count_0 rfl (lv_at hl 0 rfl) ?_
  refine lv_aload_n hx hb d_M_count_1 rfl (lv_at hl 0 rfl) ?_
  refine gF (v := .int 1) hx hb hown hE hK hP 0 rfl rfl layM 7 (by decide) w324 h_fs_on d_M_count_2 ?_
  refine lv_if_ne hx hb d_M_count_5 (tgt := 12) rfl (fun _ => ?_) (fun h9 => absurd h9 (by decide))
  refine lv_iload_n hx hb d_M_count_12 rfl (lv_at hl 1 rfl) ?_
  refine lv_if_lt hx hb d_M_count_13 (tgt := 22) rfl (fun h9 => absurd h9 (by decide)) (fun _ => ?_)
  refine lv_iload_n hx hb d_M_count_16 rfl (lv_at hl 1 rfl) ?_
  refine lv_bipush (v := 8) hx hb d_M_count_17 (by decide) ?_
  refine lv_icmp_le hx hb d_M_count_19 (tgt := 26) rfl (fun _ => ?_) (fun h9 => absurd (by decide) h9)
  refine lv_iconst (v := 0) hx hb d_M_count_26 (by decide) ?_
  refine pF hx hb hown hE hK hP hD hS 0 rfl rfl layM tyM tokM nmM 0 (by decide) w319 rfl rfl rfl (by simp [hl_fs]) d_M_count_27 (fun H locs hP hD hS => ?_)
  have hP : va_P D vwCl [(a, .inr (9, (fs.set 0 (.int 0))))] H := hP
  have hD : va_D A [(a, .inr (9, (fs.set 0 (.int 0))))] := hD
  refine lv_aload_n hx hb d_M_count_30 rfl (lv_at hl 0 rfl) ?_
  refine gF (v := .int 0) hx hb hown hE hK hP 0 rfl rfl layM 0 (by decide) w319 (by simp [hl_fs]) d_M_count_31 ?_
  refine lv_if_le hx hb d_M_count_34 (tgt := 39) rfl (fun _ => ?_) (fun h9 => absurd (by decide) h9)
  refine lv_iconst (v := 0) hx hb d_M_count_39 (by decide) ?_
  refine lv_istore_n hx hb d_M_count_40 rfl hl (by decide) rfl (fun ls hl => ?_)
  have hl : lv_has ls 5 [(2, .int 0), (0, .ref a), (1, .int 0)] := hl
  refine lv_iconst (v := 0) hx hb d_M_count_41 (by decide) ?_
  refine lv_istore_n hx hb d_M_count_42 rfl hl (by decide) rfl (fun ls hl => ?_)
  have hl : lv_has ls 5 [(3, .int 0), (2, .int 0), (0, .ref a), (1, .int 0)] := hl
  refine lv_iload_n hx hb d_M_count_43 rfl (lv_at hl 0 rfl) ?_
  refine lv_aload_n hx hb d_M_count_44 rfl (lv_at hl 2 rfl) ?_
  refine gF (v := .int 0) hx hb hown hE hK hP 0 rfl rfl layM 37 (by decide) w338 (by simp [h_fs_records]) d_M_count_45 ?_
  refine lv_icmp_ge hx hb d_M_count_48 (tgt := 66) rfl (fun _ => ?_) (fun h9 => absurd (by decide) h9)
  refine lv_iconst (v := 0) hx hb d_M_count_66 (by decide) ?_
  refine lv_istore_n hx hb d_M_count_67 rfl hl (by decide) rfl (fun ls hl => ?_)
  have hl : lv_has ls 5 [(3, .int 0), (2, .int 0), (0, .ref a), (1, .int 0)] := hl
  refine lv_iconst (v := 0) hx hb d_M_count_68 (by decide) ?_
  refine lv_istore hx hb d_M_count_69 hl (by decide) rfl (fun ls hl => ?_)
  have hl : lv_has ls 5 [(4, .int 0), (3, .int 0), (2, .int 0), (0, .ref a), (1, .int 0)] := hl
  refine lv_iload hx hb d_M_count_71 (lv_at hl 0 rfl) ?_
  refine lv_aload_n hx hb d_M_count_73 rfl (lv_at hl 3 rfl) ?_
  refine gF (v := .int 0) hx hb hown hE hK hP 0 rfl rfl layM 23 (by decide) w420 (by simp [h_fs_points]) d_M_count_74 ?_
  refine lv_icmp_ge hx hb d_M_count_77 (tgt := 103) rfl (fun _ => ?_) (fun h9 => absurd (by decide) h9)
  refine lv_iload_n hx hb d_M_count_103 rfl (lv_at hl 4 rfl) ?_
  refine lv_if_ne hx hb d_M_count_104 (tgt := 114) rfl (fun h9 => absurd (by decide) h9) (fun _ => ?_)
  refine lv_aload_n hx hb d_M_count_107 rfl (lv_at hl 3 rfl) ?_
  refine gF (v := .int 0) hx hb hown hE hK hP 0 rfl rfl layM 12 (by decide) w332 (by simp [h_fs_seriesCount]) d_M_count_108 ?_
  refine lv_goto hx hb d_M_count_111 (tgt := 198) rfl ?_
  exact rtI hx hb hr hlk hP hD hS () rfl [0] rfl rfl (by decide) (Nat.le_of_ble_eq_true rfl) (Nat.le_of_ble_eq_true rfl) d_M_count_198
theorem d_M_count_114 : decode prog_14_method_48_code 114 = .ok (.iload_n 1, 1) := by decide +kernel
theorem d_M_count_115 : decode prog_14_method_48_code 115 = .ok (.iconst 1, 1) := by decide +kernel
theorem d_M_count_116 : decode prog_14_method_48_code 116 = .ok (.if_icmp .ne 10, 3) := by decide +kernel
theorem d_M_count_119 : decode prog_14_method_48_code 119 = .ok (.aload_n 0, 1) := by decide +kernel
theorem d_M_count_120 : decode prog_14_method_48_code 120 = .ok (.invokevirtual 271, 3) := by decide +kernel
theorem d_M_count_123 : decode prog_14_method_48_code 123 = .ok (.goto 75, 3) := by decide +kernel
theorem w438 : Cond.methodLink "SeriesVaultModel" 271 ⟨"SeriesVaultModel", "headCount", "()I"⟩ ∈ aW := aw_of (tb_10 (List.mem_of_getElem? (i := 32) rfl)) rfl
theorem w439 : Cond.code ⟨"SeriesVaultModel", "headCount", "()I"⟩ prog_14_method_14_code 3 (some FieldType.int) ∈ aW := aw_of (tb_10 (List.mem_of_getElem? (i := 35) rfl)) rfl
theorem w440 : Cond.instanceMethod ⟨"SeriesVaultModel", "headCount", "()I"⟩ ∈ aW := aw_of (tb_10 (List.mem_of_getElem? (i := 34) rfl)) rfl
theorem w441 : Cond.selects "SeriesVaultModel" ⟨"SeriesVaultModel", "headCount", "()I"⟩ ⟨"SeriesVaultModel", "headCount", "()I"⟩ ∈ aW := aw_pr (List.mem_map.mpr ⟨_, pv_6 (List.mem_of_getElem? (i := 1) rfl), rfl⟩) rfl
set_option maxHeartbeats 4000000 in
set_option maxRecDepth 100000 in
theorem c_M_count_1 (l : Launch) (D : va_G) (dA : Nat → ClassId) (sz : Nat) (a : Nat) (fs : List Value) (h_fs_on : fs[7]? = some (.int 1)) (h_fs_points : fs[23]? = some (.int 0)) (h_fs_records : fs[37]? = some (.int 0)) (hl_fs : fs.length = 79) : Met l ⟨"SeriesVaultModel", "count", "(I)I"⟩ [Cond.code ⟨"SeriesVaultModel", "count", "(I)I"⟩ prog_14_method_48_code 5 (some FieldType.int)] { frames := 2, cells := 0, slots := 0, locals := 22 } (pC D dA [.ref a, .int 1] [(a, .inr (9, fs))] sz) (va_Qi (fun (r : Int32) (_ : Unit) => r = 0) (fun (u9 : Unit) t9 => bW D (va_A [(a, .inr (9, fs))] sz) [(a, .inr (9, (fs.set 0 (.int 0))))] t9) (va_A [(a, .inr (9, fs))] sz)) 0 0 (va_A [(a, .inr (9, fs))] sz) := by
  refine mkC (Qc := fun A => va_Qi (fun (r : Int32) (_ : Unit) => r = 0) (fun (u9 : Unit) t9 => bW D A [(a, .inr (9, (fs.set 0 (.int 0))))] t9) A) (by decide) (Nat.le_of_ble_eq_true rfl) ?_
  intro A p e s m below meth c ls hsz hB
  obtain ⟨hx, hb, hr, hml, hown, hin, hlk, hE, hK, hP, hD, hS, hA, hN, hl⟩ := hB
  have hown : s.vm.findClass "SeriesVaultModel" = some m.cls := hown
  have hin : meth.name = "count" := hin
  have hl : lv_has ls 5 [(0, .ref a), (1, .int 1)] := hl
  obtain ⟨H, hH⟩ : ∃ z, z = s.heap := ⟨_, rfl⟩
  have hP : va_P D vwCl [(a, .inr (9, fs))] H := by rw [hH]; exact hP
  have hS : va_S A s.heap H [] := by rw [hH]; exact hS
  rw [← hH]
  refine lv_aload_n hx hb d_M_count_0 rfl (lv_at hl 0 rfl) ?_
  refine lv_aload_n hx hb d_M_count_1 rfl (lv_at hl 0 rfl) ?_
  refine gF (v := .int 1) hx hb hown hE hK hP 0 rfl rfl layM 7 (by decide) w324 h_fs_on d_M_count_2 ?_
  refine lv_if_ne hx hb d_M_count_5 (tgt := 12) rfl (fun _ => ?_) (fun h9 => absurd h9 (by decide))
  refine lv_iload_n hx hb d_M_count_12 rfl (lv_at hl 1 rfl) ?_
  refine lv_if_lt hx hb d_M_count_13 (tgt := 22) rfl (fun h9 => absurd h9 (by decide)) (fun _ => ?_)
  refine lv_iload_n hx hb d_M_count_16 rfl (lv_at hl 1 rfl) ?_
  refine lv_bipush (v := 8) hx hb d_M_count_17 (by decide) ?_
  refine lv_icmp_le hx hb d_M_count_19 (tgt := 26) rfl (fun _ => ?_) (fun h9 => absurd (by decide) h9)
  refine lv_iconst (v := 0) hx hb d_M_count_26 (by decide) ?_
  refine pF hx hb hown hE hK hP hD hS 0 rfl rfl layM tyM tokM nmM 0 (by decide) w319 rfl rfl rfl (by simp [hl_fs]) d_M_count_27 (fun H locs hP hD hS => ?_)
  have hP : va_P D vwCl [(a, .inr (9, (fs.set 0 (.int 0))))] H := hP
  have hD : va_D A [(a, .inr (9, (fs.set 0 (.int 0))))] := hD
  refine lv_aload_n hx hb d_M_count_30 rfl (lv_at hl 0 rfl) ?_
  refine gF (v := .int 0) hx hb hown hE hK hP 0 rfl rfl layM 0 (by decide) w319 (by simp [hl_fs]) d_M_count_31 ?_
  refine lv_if_le hx hb d_M_count_34 (tgt := 39) rfl (fun _ => ?_) (fun h9 => absurd (by decide) h9)
  refine lv_iconst (v := 0) hx hb d_M_count_39 (by decide) ?_
  refine lv_istore_n hx hb d_M_count_40 rfl hl (by decide) rfl (fun ls hl => ?_)
  have hl : lv_has ls 5 [(2, .int 0), (0, .ref a), (1, .int 1)] := hl
  refine lv_iconst (v := 0) hx hb d_M_count_41 (by decide) ?_
  refine lv_istore_n hx hb d_M_count_42 rfl hl (by decide) rfl (fun ls hl => ?_)
  have hl : lv_has ls 5 [(3, .int 0), (2, .int 0), (0, .ref a), (1, .int 1)] := hl
  refine lv_iload_n hx hb d_M_count_43 rfl (lv_at hl 0 rfl) ?_
  refine lv_aload_n hx hb d_M_count_44 rfl (lv_at hl 2 rfl) ?_
  refine gF (v := .int 0) hx hb hown hE hK hP 0 rfl rfl layM 37 (by decide) w338 (by simp [h_fs_records]) d_M_count_45 ?_
  refine lv_icmp_ge hx hb d_M_count_48 (tgt := 66) rfl (fun _ => ?_) (fun h9 => absurd (by decide) h9)
  refine lv_iconst (v := 0) hx hb d_M_count_66 (by decide) ?_
  refine lv_istore_n hx hb d_M_count_67 rfl hl (by decide) rfl (fun ls hl => ?_)
  have hl : lv_has ls 5 [(3, .int 0), (2, .int 0), (0, .ref a), (1, .int 1)] := hl
  refine lv_iconst (v := 0) hx hb d_M_count_68 (by decide) ?_
  refine lv_istore hx hb d_M_count_69 hl (by decide) rfl (fun ls hl => ?_)
  have hl : lv_has ls 5 [(4, .int 0), (3, .int 0), (2, .int 0), (0, .ref a), (1, .int 1)] := hl
  refine lv_iload hx hb d_M_count_71 (lv_at hl 0 rfl) ?_
  refine lv_aload_n hx hb d_M_count_73 rfl (lv_at hl 3 rfl) ?_
  refine gF (v := .int 0) hx hb hown hE hK hP 0 rfl rfl layM 23 (by decide) w420 (by simp [h_fs_points]) d_M_count_74 ?_
  refine lv_icmp_ge hx hb d_M_count_77 (tgt := 103) rfl (fun _ => ?_) (fun h9 => absurd (by decide) h9)
  refine lv_iload_n hx hb d_M_count_103 rfl (lv_at hl 4 rfl) ?_
  refine lv_if_ne hx hb d_M_count_104 (tgt := 114) rfl (fun _ => ?_) (fun h9 => absurd h9 (by decide))
  refine lv_iload_n hx hb d_M_count_114 rfl (lv_at hl 4 rfl) ?_
  refine lv_iconst (v := 1) hx hb d_M_count_115 (by decide) ?_
  refine lv_icmp_ne hx hb d_M_count_116 (tgt := 126) rfl (fun h9 => absurd (by decide) h9) (fun _ => ?_)
  refine lv_aload_n hx hb d_M_count_119 rfl (lv_at hl 3 rfl) ?_
  have hPc := hP.sub (ws' := [(a, .inr (9, (fs.set 0 (.int 0))))]) [0] rfl
  have hDc := hD.sub (ws' := [(a, .inr (9, (fs.set 0 (.int 0))))]) [0] (by decide) rfl
  refine jnI (rnV (As := []) (rest := []) hx hb hml hown hE hK (hN _ _ hS) hPc hDc (c_M_headCount_0 l D dA H.size a (fs.set 0 (.int 0)) (by simp [h_fs_points]) (by simp [hl_fs])) (q0 := 0) rfl rfl w439 w438 w440 w441 w328 rfl rfl ⟨⟨by decide, by decide⟩, rfl⟩ ⟨(Nat.le_of_ble_eq_true rfl), (Nat.le_of_ble_eq_true rfl)⟩ rfl hl.1 rfl (Nat.le_of_ble_eq_true rfl) d_M_count_120 ⟨(Nat.le_of_ble_eq_true rfl), (Nat.le_of_ble_eq_true rfl)⟩) hP hD hS hA [0] [] (wr := []) rfl rfl (by decide) (by decide) (fun r1 u9 H locs hp9 hP hD hS => ?_)
  have hP : va_P D vwCl [(a, .inr (9, (fs.set 0 (.int 0))))] H := hP
  have hD : va_D A [(a, .inr (9, (fs.set 0 (.int 0))))] := hD
  have hp9 : 0 = r1 := Eq.symm hp9
  subst hp9
  refine lv_goto hx hb d_M_count_123 (tgt := 198) rfl ?_
  exact rtI hx hb hr hlk hP hD hS () rfl [0] rfl rfl (by decide) (Nat.le_of_ble_eq_true rfl) (Nat.le_of_ble_eq_true rfl) d_M_count_198
theorem d_M_count_126 : decode prog_14_method_48_code 126 = .ok (.iload_n 1, 1) := by decide +kernel
theorem d_M_count_127 : decode prog_14_method_48_code 127 = .ok (.iconst 2, 1) := by decide +kernel
theorem d_M_count_128 : decode prog_14_method_48_code 128 = .ok (.if_icmp .ne 10, 3) := by decide +kernel
theorem d_M_count_131 : decode prog_14_method_48_code 131 = .ok (.aload_n 0, 1) := by decide +kernel
theorem d_M_count_132 : decode prog_14_method_48_code 132 = .ok (.getfield 179, 3) := by decide +kernel
theorem d_M_count_135 : decode prog_14_method_48_code 135 = .ok (.goto 63, 3) := by decide +kernel
set_option maxHeartbeats 4000000 in
set_option maxRecDepth 100000 in
theorem c_M_count_2 (l : Launch) (D : va_G) (dA : Nat → ClassId) (sz : Nat) (a : Nat) (fs : List Value) (h_fs_on : fs[7]? = some (.int 1)) (h_fs_points : fs[23]? = some (.int 0)) (h_fs_parcelCount : fs[28]? = some (.int 0)) (h_fs_records : fs[37]? = some (.int 0)) (hl_fs : fs.length = 79) : Met l ⟨"SeriesVaultModel", "count", "(I)I"⟩ [Cond.code ⟨"SeriesVaultModel", "count", "(I)I"⟩ prog_14_method_48_code 5 (some FieldType.int)] { frames := 1, cells := 0, slots := 0, locals := 0 } (pC D dA [.ref a, .int 2] [(a, .inr (9, fs))] sz) (va_Qi (fun (r : Int32) (_ : Unit) => r = 0) (fun (u9 : Unit) t9 => bW D (va_A [(a, .inr (9, fs))] sz) [(a, .inr (9, (fs.set 0 (.int 0))))] t9) (va_A [(a, .inr (9, fs))] sz)) 0 0 (va_A [(a, .inr (9, fs))] sz) := by
  refine mkC (Qc := fun A => va_Qi (fun (r : Int32) (_ : Unit) => r = 0) (fun (u9 : Unit) t9 => bW D A [(a, .inr (9, (fs.set 0 (.int 0))))] t9) A) (by decide) (Nat.le_of_ble_eq_true rfl) ?_
  intro A p e s m below meth c ls hsz hB
  obtain ⟨hx, hb, hr, hml, hown, hin, hlk, hE, hK, hP, hD, hS, hA, hN, hl⟩ := hB
  have hown : s.vm.findClass "SeriesVaultModel" = some m.cls := hown
  have hin : meth.name = "count" := hin
  have hl : lv_has ls 5 [(0, .ref a), (1, .int 2)] := hl
  obtain ⟨H, hH⟩ : ∃ z, z = s.heap := ⟨_, rfl⟩
  have hP : va_P D vwCl [(a, .inr (9, fs))] H := by rw [hH]; exact hP
  have hS : va_S A s.heap H [] := by rw [hH]; exact hS
  rw [← hH]
  refine lv_aload_n hx hb d_M_count_0 rfl (lv_at hl 0 rfl) ?_
  refine lv_aload_n hx hb d_M_count_1 rfl (lv_at hl 0 rfl) ?_
  refine gF (v := .int 1) hx hb hown hE hK hP 0 rfl rfl layM 7 (by decide) w324 h_fs_on d_M_count_2 ?_
  refine lv_if_ne hx hb d_M_count_5 (tgt := 12) rfl (fun _ => ?_) (fun h9 => absurd h9 (by decide))
  refine lv_iload_n hx hb d_M_count_12 rfl (lv_at hl 1 rfl) ?_
  refine lv_if_lt hx hb d_M_count_13 (tgt := 22) rfl (fun h9 => absurd h9 (by decide)) (fun _ => ?_)
  refine lv_iload_n hx hb d_M_count_16 rfl (lv_at hl 1 rfl) ?_
  refine lv_bipush (v := 8) hx hb d_M_count_17 (by decide) ?_
  refine lv_icmp_le hx hb d_M_count_19 (tgt := 26) rfl (fun _ => ?_) (fun h9 => absurd (by decide) h9)
  refine lv_iconst (v := 0) hx hb d_M_count_26 (by decide) ?_
  refine pF hx hb hown hE hK hP hD hS 0 rfl rfl layM tyM tokM nmM 0 (by decide) w319 rfl rfl rfl (by simp [hl_fs]) d_M_count_27 (fun H locs hP hD hS => ?_)
  have hP : va_P D vwCl [(a, .inr (9, (fs.set 0 (.int 0))))] H := hP
  have hD : va_D A [(a, .inr (9, (fs.set 0 (.int 0))))] := hD
  refine lv_aload_n hx hb d_M_count_30 rfl (lv_at hl 0 rfl) ?_
  refine gF (v := .int 0) hx hb hown hE hK hP 0 rfl rfl layM 0 (by decide) w319 (by simp [hl_fs]) d_M_count_31 ?_
  refine lv_if_le hx hb d_M_count_34 (tgt := 39) rfl (fun _ => ?_) (fun h9 => absurd (by decide) h9)
  refine lv_iconst (v := 0) hx hb d_M_count_39 (by decide) ?_
  refine lv_istore_n hx hb d_M_count_40 rfl hl (by decide) rfl (fun ls hl => ?_)
  have hl : lv_has ls 5 [(2, .int 0), (0, .ref a), (1, .int 2)] := hl
  refine lv_iconst (v := 0) hx hb d_M_count_41 (by decide) ?_
  refine lv_istore_n hx hb d_M_count_42 rfl hl (by decide) rfl (fun ls hl => ?_)
  have hl : lv_has ls 5 [(3, .int 0), (2, .int 0), (0, .ref a), (1, .int 2)] := hl
  refine lv_iload_n hx hb d_M_count_43 rfl (lv_at hl 0 rfl) ?_
  refine lv_aload_n hx hb d_M_count_44 rfl (lv_at hl 2 rfl) ?_
  refine gF (v := .int 0) hx hb hown hE hK hP 0 rfl rfl layM 37 (by decide) w338 (by simp [h_fs_records]) d_M_count_45 ?_
  refine lv_icmp_ge hx hb d_M_count_48 (tgt := 66) rfl (fun _ => ?_) (fun h9 => absurd (by decide) h9)
  refine lv_iconst (v := 0) hx hb d_M_count_66 (by decide) ?_
  refine lv_istore_n hx hb d_M_count_67 rfl hl (by decide) rfl (fun ls hl => ?_)
  have hl : lv_has ls 5 [(3, .int 0), (2, .int 0), (0, .ref a), (1, .int 2)] := hl
  refine lv_iconst (v := 0) hx hb d_M_count_68 (by decide) ?_
  refine lv_istore hx hb d_M_count_69 hl (by decide) rfl (fun ls hl => ?_)
  have hl : lv_has ls 5 [(4, .int 0), (3, .int 0), (2, .int 0), (0, .ref a), (1, .int 2)] := hl
  refine lv_iload hx hb d_M_count_71 (lv_at hl 0 rfl) ?_
  refine lv_aload_n hx hb d_M_count_73 rfl (lv_at hl 3 rfl) ?_
  refine gF (v := .int 0) hx hb hown hE hK hP 0 rfl rfl layM 23 (by decide) w420 (by simp [h_fs_points]) d_M_count_74 ?_
  refine lv_icmp_ge hx hb d_M_count_77 (tgt := 103) rfl (fun _ => ?_) (fun h9 => absurd (by decide) h9)
  refine lv_iload_n hx hb d_M_count_103 rfl (lv_at hl 4 rfl) ?_
  refine lv_if_ne hx hb d_M_count_104 (tgt := 114) rfl (fun _ => ?_) (fun h9 => absurd h9 (by decide))
  refine lv_iload_n hx hb d_M_count_114 rfl (lv_at hl 4 rfl) ?_
  refine lv_iconst (v := 1) hx hb d_M_count_115 (by decide) ?_
  refine lv_icmp_ne hx hb d_M_count_116 (tgt := 126) rfl (fun _ => ?_) (fun h9 => absurd h9 (by decide))
  refine lv_iload_n hx hb d_M_count_126 rfl (lv_at hl 4 rfl) ?_
  refine lv_iconst (v := 2) hx hb d_M_count_127 (by decide) ?_
  refine lv_icmp_ne hx hb d_M_count_128 (tgt := 138) rfl (fun h9 => absurd (by decide) h9) (fun _ => ?_)
  refine lv_aload_n hx hb d_M_count_131 rfl (lv_at hl 3 rfl) ?_
  refine gF (v := .int 0) hx hb hown hE hK hP 0 rfl rfl layM 28 (by decide) w344 (by simp [h_fs_parcelCount]) d_M_count_132 ?_
  refine lv_goto hx hb d_M_count_135 (tgt := 198) rfl ?_
  exact rtI hx hb hr hlk hP hD hS () rfl [0] rfl rfl (by decide) (Nat.le_of_ble_eq_true rfl) (Nat.le_of_ble_eq_true rfl) d_M_count_198
theorem d_M_count_138 : decode prog_14_method_48_code 138 = .ok (.iload_n 1, 1) := by decide +kernel
theorem d_M_count_139 : decode prog_14_method_48_code 139 = .ok (.iconst 3, 1) := by decide +kernel
theorem d_M_count_140 : decode prog_14_method_48_code 140 = .ok (.if_icmp .ne 10, 3) := by decide +kernel
theorem d_M_count_143 : decode prog_14_method_48_code 143 = .ok (.aload_n 0, 1) := by decide +kernel
theorem d_M_count_144 : decode prog_14_method_48_code 144 = .ok (.invokevirtual 282, 3) := by decide +kernel
theorem d_M_count_147 : decode prog_14_method_48_code 147 = .ok (.goto 51, 3) := by decide +kernel
theorem w442 : Cond.methodLink "SeriesVaultModel" 282 ⟨"SeriesVaultModel", "scars", "()I"⟩ ∈ aW := aw_of (tb_10 (List.mem_of_getElem? (i := 56) rfl)) rfl
theorem w443 : Cond.code ⟨"SeriesVaultModel", "scars", "()I"⟩ prog_14_method_15_code 5 (some FieldType.int) ∈ aW := aw_of (tb_10 (List.mem_of_getElem? (i := 59) rfl)) rfl
theorem w444 : Cond.instanceMethod ⟨"SeriesVaultModel", "scars", "()I"⟩ ∈ aW := aw_of (tb_10 (List.mem_of_getElem? (i := 58) rfl)) rfl
theorem w445 : Cond.selects "SeriesVaultModel" ⟨"SeriesVaultModel", "scars", "()I"⟩ ⟨"SeriesVaultModel", "scars", "()I"⟩ ∈ aW := aw_pr (List.mem_map.mpr ⟨_, pv_6 (List.mem_of_getElem? (i := 5) rfl), rfl⟩) rfl
set_option maxHeartbeats 4000000 in
set_option maxRecDepth 100000 in
theorem c_M_count_3 (l : Launch) (D : va_G) (dA : Nat → ClassId) (sz : Nat) (a : Nat) (fs : List Value) (h_fs_on : fs[7]? = some (.int 1)) (h_fs_points : fs[23]? = some (.int 0)) (h_fs_records : fs[37]? = some (.int 0)) (hl_fs : fs.length = 79) : Met l ⟨"SeriesVaultModel", "count", "(I)I"⟩ [Cond.code ⟨"SeriesVaultModel", "count", "(I)I"⟩ prog_14_method_48_code 5 (some FieldType.int)] { frames := 2, cells := 0, slots := 0, locals := 24 } (pC D dA [.ref a, .int 3] [(a, .inr (9, fs))] sz) (va_Qi (fun (r : Int32) (_ : Unit) => r = 0) (fun (u9 : Unit) t9 => bW D (va_A [(a, .inr (9, fs))] sz) [(a, .inr (9, (fs.set 0 (.int 0))))] t9) (va_A [(a, .inr (9, fs))] sz)) 0 0 (va_A [(a, .inr (9, fs))] sz) := by
  refine mkC (Qc := fun A => va_Qi (fun (r : Int32) (_ : Unit) => r = 0) (fun (u9 : Unit) t9 => bW D A [(a, .inr (9, (fs.set 0 (.int 0))))] t9) A) (by decide) (Nat.le_of_ble_eq_true rfl) ?_
  intro A p e s m below meth c ls hsz hB
  obtain ⟨hx, hb, hr, hml, hown, hin, hlk, hE, hK, hP, hD, hS, hA, hN, hl⟩ := hB
  have hown : s.vm.findClass "SeriesVaultModel" = some m.cls := hown
  have hin : meth.name = "count" := hin
  have hl : lv_has ls 5 [(0, .ref a), (1, .int 3)] := hl
  obtain ⟨H, hH⟩ : ∃ z, z = s.heap := ⟨_, rfl⟩
  have hP : va_P D vwCl [(a, .inr (9, fs))] H := by rw [hH]; exact hP
  have hS : va_S A s.heap H [] := by rw [hH]; exact hS
  rw [← hH]
  refine lv_aload_n hx hb d_M_count_0 rfl (lv_at hl 0 rfl) ?_
  refine lv_aload_n hx hb d_M_count_1 rfl (lv_at hl 0 rfl) ?_
  refine gF (v := .int 1) hx hb hown hE hK hP 0 rfl rfl layM 7 (by decide) w324 h_fs_on d_M_count_2 ?_
  refine lv_if_ne hx hb d_M_count_5 (tgt := 12) rfl (fun _ => ?_) (fun h9 => absurd h9 (by decide))
  refine lv_iload_n hx hb d_M_count_12 rfl (lv_at hl 1 rfl) ?_
  refine lv_if_lt hx hb d_M_count_13 (tgt := 22) rfl (fun h9 => absurd h9 (by decide)) (fun _ => ?_)
  refine lv_iload_n hx hb d_M_count_16 rfl (lv_at hl 1 rfl) ?_
  refine lv_bipush (v := 8) hx hb d_M_count_17 (by decide) ?_
  refine lv_icmp_le hx hb d_M_count_19 (tgt := 26) rfl (fun _ => ?_) (fun h9 => absurd (by decide) h9)
  refine lv_iconst (v := 0) hx hb d_M_count_26 (by decide) ?_
  refine pF hx hb hown hE hK hP hD hS 0 rfl rfl layM tyM tokM nmM 0 (by decide) w319 rfl rfl rfl (by simp [hl_fs]) d_M_count_27 (fun H locs hP hD hS => ?_)
  have hP : va_P D vwCl [(a, .inr (9, (fs.set 0 (.int 0))))] H := hP
  have hD : va_D A [(a, .inr (9, (fs.set 0 (.int 0))))] := hD
  refine lv_aload_n hx hb d_M_count_30 rfl (lv_at hl 0 rfl) ?_
  refine gF (v := .int 0) hx hb hown hE hK hP 0 rfl rfl layM 0 (by decide) w319 (by simp [hl_fs]) d_M_count_31 ?_
  refine lv_if_le hx hb d_M_count_34 (tgt := 39) rfl (fun _ => ?_) (fun h9 => absurd (by decide) h9)
  refine lv_iconst (v := 0) hx hb d_M_count_39 (by decide) ?_
  refine lv_istore_n hx hb d_M_count_40 rfl hl (by decide) rfl (fun ls hl => ?_)
  have hl : lv_has ls 5 [(2, .int 0), (0, .ref a), (1, .int 3)] := hl
  refine lv_iconst (v := 0) hx hb d_M_count_41 (by decide) ?_
  refine lv_istore_n hx hb d_M_count_42 rfl hl (by decide) rfl (fun ls hl => ?_)
  have hl : lv_has ls 5 [(3, .int 0), (2, .int 0), (0, .ref a), (1, .int 3)] := hl
  refine lv_iload_n hx hb d_M_count_43 rfl (lv_at hl 0 rfl) ?_
  refine lv_aload_n hx hb d_M_count_44 rfl (lv_at hl 2 rfl) ?_
  refine gF (v := .int 0) hx hb hown hE hK hP 0 rfl rfl layM 37 (by decide) w338 (by simp [h_fs_records]) d_M_count_45 ?_
  refine lv_icmp_ge hx hb d_M_count_48 (tgt := 66) rfl (fun _ => ?_) (fun h9 => absurd (by decide) h9)
  refine lv_iconst (v := 0) hx hb d_M_count_66 (by decide) ?_
  refine lv_istore_n hx hb d_M_count_67 rfl hl (by decide) rfl (fun ls hl => ?_)
  have hl : lv_has ls 5 [(3, .int 0), (2, .int 0), (0, .ref a), (1, .int 3)] := hl
  refine lv_iconst (v := 0) hx hb d_M_count_68 (by decide) ?_
  refine lv_istore hx hb d_M_count_69 hl (by decide) rfl (fun ls hl => ?_)
  have hl : lv_has ls 5 [(4, .int 0), (3, .int 0), (2, .int 0), (0, .ref a), (1, .int 3)] := hl
  refine lv_iload hx hb d_M_count_71 (lv_at hl 0 rfl) ?_
  refine lv_aload_n hx hb d_M_count_73 rfl (lv_at hl 3 rfl) ?_
  refine gF (v := .int 0) hx hb hown hE hK hP 0 rfl rfl layM 23 (by decide) w420 (by simp [h_fs_points]) d_M_count_74 ?_
  refine lv_icmp_ge hx hb d_M_count_77 (tgt := 103) rfl (fun _ => ?_) (fun h9 => absurd (by decide) h9)
  refine lv_iload_n hx hb d_M_count_103 rfl (lv_at hl 4 rfl) ?_
  refine lv_if_ne hx hb d_M_count_104 (tgt := 114) rfl (fun _ => ?_) (fun h9 => absurd h9 (by decide))
  refine lv_iload_n hx hb d_M_count_114 rfl (lv_at hl 4 rfl) ?_
  refine lv_iconst (v := 1) hx hb d_M_count_115 (by decide) ?_
  refine lv_icmp_ne hx hb d_M_count_116 (tgt := 126) rfl (fun _ => ?_) (fun h9 => absurd h9 (by decide))
  refine lv_iload_n hx hb d_M_count_126 rfl (lv_at hl 4 rfl) ?_
  refine lv_iconst (v := 2) hx hb d_M_count_127 (by decide) ?_
  refine lv_icmp_ne hx hb d_M_count_128 (tgt := 138) rfl (fun _ => ?_) (fun h9 => absurd h9 (by decide))
  refine lv_iload_n hx hb d_M_count_138 rfl (lv_at hl 4 rfl) ?_
  refine lv_iconst (v := 3) hx hb d_M_count_139 (by decide) ?_
  refine lv_icmp_ne hx hb d_M_count_140 (tgt := 150) rfl (fun h9 => absurd (by decide) h9) (fun _ => ?_)
  refine lv_aload_n hx hb d_M_count_143 rfl (lv_at hl 3 rfl) ?_
  have hPc := hP.sub (ws' := [(a, .inr (9, (fs.set 0 (.int 0))))]) [0] rfl
  have hDc := hD.sub (ws' := [(a, .inr (9, (fs.set 0 (.int 0))))]) [0] (by decide) rfl
  refine jnI (rnV (As := []) (rest := []) hx hb hml hown hE hK (hN _ _ hS) hPc hDc (c_M_scars_0 l D dA H.size a (fs.set 0 (.int 0)) (by simp [h_fs_points]) (by simp [hl_fs])) (q0 := 0) rfl rfl w443 w442 w444 w445 w328 rfl rfl ⟨⟨by decide, by decide⟩, rfl⟩ ⟨(Nat.le_of_ble_eq_true rfl), (Nat.le_of_ble_eq_true rfl)⟩ rfl hl.1 rfl (Nat.le_of_ble_eq_true rfl) d_M_count_144 ⟨(Nat.le_of_ble_eq_true rfl), (Nat.le_of_ble_eq_true rfl)⟩) hP hD hS hA [0] [] (wr := []) rfl rfl (by decide) (by decide) (fun r1 u9 H locs hp9 hP hD hS => ?_)
  have hP : va_P D vwCl [(a, .inr (9, (fs.set 0 (.int 0))))] H := hP
  have hD : va_D A [(a, .inr (9, (fs.set 0 (.int 0))))] := hD
  have hp9 : 0 = r1 := Eq.symm hp9
  subst hp9
  refine lv_goto hx hb d_M_count_147 (tgt := 198) rfl ?_
  exact rtI hx hb hr hlk hP hD hS () rfl [0] rfl rfl (by decide) (Nat.le_of_ble_eq_true rfl) (Nat.le_of_ble_eq_true rfl) d_M_count_198
theorem d_M_count_150 : decode prog_14_method_48_code 150 = .ok (.iload_n 1, 1) := by decide +kernel
theorem d_M_count_151 : decode prog_14_method_48_code 151 = .ok (.iconst 4, 1) := by decide +kernel
theorem d_M_count_152 : decode prog_14_method_48_code 152 = .ok (.if_icmp .ne 10, 3) := by decide +kernel
theorem d_M_count_155 : decode prog_14_method_48_code 155 = .ok (.aload_n 0, 1) := by decide +kernel
theorem d_M_count_156 : decode prog_14_method_48_code 156 = .ok (.invokevirtual 325, 3) := by decide +kernel
theorem d_M_count_159 : decode prog_14_method_48_code 159 = .ok (.goto 39, 3) := by decide +kernel
theorem w446 : Cond.methodLink "SeriesVaultModel" 325 ⟨"SeriesVaultModel", "free", "()I"⟩ ∈ aW := aw_of (tb_10 (List.mem_of_getElem? (i := 97) rfl)) rfl
theorem w447 : Cond.code ⟨"SeriesVaultModel", "free", "()I"⟩ prog_14_method_9_code 3 (some FieldType.int) ∈ aW := aw_of (tb_10 (List.mem_of_getElem? (i := 100) rfl)) rfl
theorem w448 : Cond.instanceMethod ⟨"SeriesVaultModel", "free", "()I"⟩ ∈ aW := aw_of (tb_10 (List.mem_of_getElem? (i := 99) rfl)) rfl
theorem w449 : Cond.selects "SeriesVaultModel" ⟨"SeriesVaultModel", "free", "()I"⟩ ⟨"SeriesVaultModel", "free", "()I"⟩ ∈ aW := aw_pr (List.mem_map.mpr ⟨_, pv_6 (List.mem_of_getElem? (i := 9) rfl), rfl⟩) rfl
set_option maxHeartbeats 4000000 in
set_option maxRecDepth 100000 in
theorem c_M_count_4 (l : Launch) (D : va_G) (dA : Nat → ClassId) (sz : Nat) (a : Nat) (fs : List Value) (h_fs_blocks : fs[5]? = some (.int 64)) (h_fs_journal : fs[6]? = some (.int 8)) (h_fs_on : fs[7]? = some (.int 1)) (h_fs_catalogBlocks : fs[16]? = some (.int 0)) (h_fs_points : fs[23]? = some (.int 0)) (h_fs_parcelCount : fs[28]? = some (.int 0)) (h_fs_records : fs[37]? = some (.int 0)) (hl_fs : fs.length = 79) : Met l ⟨"SeriesVaultModel", "count", "(I)I"⟩ [Cond.code ⟨"SeriesVaultModel", "count", "(I)I"⟩ prog_14_method_48_code 5 (some FieldType.int)] { frames := 2, cells := 0, slots := 0, locals := 22 } (pC D dA [.ref a, .int 4] [(a, .inr (9, fs))] sz) (va_Qi (fun (r : Int32) (_ : Unit) => r = 54) (fun (u9 : Unit) t9 => bW D (va_A [(a, .inr (9, fs))] sz) [(a, .inr (9, (fs.set 0 (.int 0))))] t9) (va_A [(a, .inr (9, fs))] sz)) 0 0 (va_A [(a, .inr (9, fs))] sz) := by
  refine mkC (Qc := fun A => va_Qi (fun (r : Int32) (_ : Unit) => r = 54) (fun (u9 : Unit) t9 => bW D A [(a, .inr (9, (fs.set 0 (.int 0))))] t9) A) (by decide) (Nat.le_of_ble_eq_true rfl) ?_
  intro A p e s m below meth c ls hsz hB
  obtain ⟨hx, hb, hr, hml, hown, hin, hlk, hE, hK, hP, hD, hS, hA, hN, hl⟩ := hB
  have hown : s.vm.findClass "SeriesVaultModel" = some m.cls := hown
  have hin : meth.name = "count" := hin
  have hl : lv_has ls 5 [(0, .ref a), (1, .int 4)] := hl
  obtain ⟨H, hH⟩ : ∃ z, z = s.heap := ⟨_, rfl⟩
  have hP : va_P D vwCl [(a, .inr (9, fs))] H := by rw [hH]; exact hP
  have hS : va_S A s.heap H [] := by rw [hH]; exact hS
  rw [← hH]
  refine lv_aload_n hx hb d_M_count_0 rfl (lv_at hl 0 rfl) ?_
  refine lv_aload_n hx hb d_M_count_1 rfl (lv_at hl 0 rfl) ?_
  refine gF (v := .int 1) hx hb hown hE hK hP 0 rfl rfl layM 7 (by decide) w324 h_fs_on d_M_count_2 ?_
  refine lv_if_ne hx hb d_M_count_5 (tgt := 12) rfl (fun _ => ?_) (fun h9 => absurd h9 (by decide))
  refine lv_iload_n hx hb d_M_count_12 rfl (lv_at hl 1 rfl) ?_
  refine lv_if_lt hx hb d_M_count_13 (tgt := 22) rfl (fun h9 => absurd h9 (by decide)) (fun _ => ?_)
  refine lv_iload_n hx hb d_M_count_16 rfl (lv_at hl 1 rfl) ?_
  refine lv_bipush (v := 8) hx hb d_M_count_17 (by decide) ?_
  refine lv_icmp_le hx hb d_M_count_19 (tgt := 26) rfl (fun _ => ?_) (fun h9 => absurd (by decide) h9)
  refine lv_iconst (v := 0) hx hb d_M_count_26 (by decide) ?_
  refine pF hx hb hown hE hK hP hD hS 0 rfl rfl layM tyM tokM nmM 0 (by decide) w319 rfl rfl rfl (by simp [hl_fs]) d_M_count_27 (fun H locs hP hD hS => ?_)
  have hP : va_P D vwCl [(a, .inr (9, (fs.set 0 (.int 0))))] H := hP
  have hD : va_D A [(a, .inr (9, (fs.set 0 (.int 0))))] := hD
  refine lv_aload_n hx hb d_M_count_30 rfl (lv_at hl 0 rfl) ?_
  refine gF (v := .int 0) hx hb hown hE hK hP 0 rfl rfl layM 0 (by decide) w319 (by simp [hl_fs]) d_M_count_31 ?_
  refine lv_if_le hx hb d_M_count_34 (tgt := 39) rfl (fun _ => ?_) (fun h9 => absurd (by decide) h9)
  refine lv_iconst (v := 0) hx hb d_M_count_39 (by decide) ?_
  refine lv_istore_n hx hb d_M_count_40 rfl hl (by decide) rfl (fun ls hl => ?_)
  have hl : lv_has ls 5 [(2, .int 0), (0, .ref a), (1, .int 4)] := hl
  refine lv_iconst (v := 0) hx hb d_M_count_41 (by decide) ?_
  refine lv_istore_n hx hb d_M_count_42 rfl hl (by decide) rfl (fun ls hl => ?_)
  have hl : lv_has ls 5 [(3, .int 0), (2, .int 0), (0, .ref a), (1, .int 4)] := hl
  refine lv_iload_n hx hb d_M_count_43 rfl (lv_at hl 0 rfl) ?_
  refine lv_aload_n hx hb d_M_count_44 rfl (lv_at hl 2 rfl) ?_
  refine gF (v := .int 0) hx hb hown hE hK hP 0 rfl rfl layM 37 (by decide) w338 (by simp [h_fs_records]) d_M_count_45 ?_
  refine lv_icmp_ge hx hb d_M_count_48 (tgt := 66) rfl (fun _ => ?_) (fun h9 => absurd (by decide) h9)
  refine lv_iconst (v := 0) hx hb d_M_count_66 (by decide) ?_
  refine lv_istore_n hx hb d_M_count_67 rfl hl (by decide) rfl (fun ls hl => ?_)
  have hl : lv_has ls 5 [(3, .int 0), (2, .int 0), (0, .ref a), (1, .int 4)] := hl
  refine lv_iconst (v := 0) hx hb d_M_count_68 (by decide) ?_
  refine lv_istore hx hb d_M_count_69 hl (by decide) rfl (fun ls hl => ?_)
  have hl : lv_has ls 5 [(4, .int 0), (3, .int 0), (2, .int 0), (0, .ref a), (1, .int 4)] := hl
  refine lv_iload hx hb d_M_count_71 (lv_at hl 0 rfl) ?_
  refine lv_aload_n hx hb d_M_count_73 rfl (lv_at hl 3 rfl) ?_
  refine gF (v := .int 0) hx hb hown hE hK hP 0 rfl rfl layM 23 (by decide) w420 (by simp [h_fs_points]) d_M_count_74 ?_
  refine lv_icmp_ge hx hb d_M_count_77 (tgt := 103) rfl (fun _ => ?_) (fun h9 => absurd (by decide) h9)
  refine lv_iload_n hx hb d_M_count_103 rfl (lv_at hl 4 rfl) ?_
  refine lv_if_ne hx hb d_M_count_104 (tgt := 114) rfl (fun _ => ?_) (fun h9 => absurd h9 (by decide))
  refine lv_iload_n hx hb d_M_count_114 rfl (lv_at hl 4 rfl) ?_
  refine lv_iconst (v := 1) hx hb d_M_count_115 (by decide) ?_
  refine lv_icmp_ne hx hb d_M_count_116 (tgt := 126) rfl (fun _ => ?_) (fun h9 => absurd h9 (by decide))
  refine lv_iload_n hx hb d_M_count_126 rfl (lv_at hl 4 rfl) ?_
  refine lv_iconst (v := 2) hx hb d_M_count_127 (by decide) ?_
  refine lv_icmp_ne hx hb d_M_count_128 (tgt := 138) rfl (fun _ => ?_) (fun h9 => absurd h9 (by decide))
  refine lv_iload_n hx hb d_M_count_138 rfl (lv_at hl 4 rfl) ?_
  refine lv_iconst (v := 3) hx hb d_M_count_139 (by decide) ?_
  refine lv_icmp_ne hx hb d_M_count_140 (tgt := 150) rfl (fun _ => ?_) (fun h9 => absurd h9 (by decide))
  refine lv_iload_n hx hb d_M_count_150 rfl (lv_at hl 4 rfl) ?_
  refine lv_iconst (v := 4) hx hb d_M_count_151 (by decide) ?_
  refine lv_icmp_ne hx hb d_M_count_152 (tgt := 162) rfl (fun h9 => absurd (by decide) h9) (fun _ => ?_)
  refine lv_aload_n hx hb d_M_count_155 rfl (lv_at hl 3 rfl) ?_
  have hPc := hP.sub (ws' := [(a, .inr (9, (fs.set 0 (.int 0))))]) [0] rfl
  have hDc := hD.sub (ws' := [(a, .inr (9, (fs.set 0 (.int 0))))]) [0] (by decide) rfl
  refine jnI (rnV (As := []) (rest := []) hx hb hml hown hE hK (hN _ _ hS) hPc hDc (c_M_free l D dA H.size a (fs.set 0 (.int 0)) (by simp [h_fs_blocks]) (by simp [h_fs_journal]) (by simp [h_fs_catalogBlocks]) (by simp [h_fs_parcelCount]) (by simp [hl_fs])) (q0 := 0) rfl rfl w447 w446 w448 w449 w328 rfl rfl ⟨⟨by decide, by decide⟩, rfl⟩ ⟨(Nat.le_of_ble_eq_true rfl), (Nat.le_of_ble_eq_true rfl)⟩ rfl hl.1 rfl (Nat.le_of_ble_eq_true rfl) d_M_count_156 ⟨(Nat.le_of_ble_eq_true rfl), (Nat.le_of_ble_eq_true rfl)⟩) hP hD hS hA [0] [] (wr := []) rfl rfl (by decide) (by decide) (fun r1 u9 H locs hp9 hP hD hS => ?_)
  have hP : va_P D vwCl [(a, .inr (9, (fs.set 0 (.int 0))))] H := hP
  have hD : va_D A [(a, .inr (9, (fs.set 0 (.int 0))))] := hD
  have hp9 : 54 = r1 := Eq.symm hp9
  subst hp9
  refine lv_goto hx hb d_M_count_159 (tgt := 198) rfl ?_
  exact rtI hx hb hr hlk hP hD hS () rfl [0] rfl rfl (by decide) (Nat.le_of_ble_eq_true rfl) (Nat.le_of_ble_eq_true rfl) d_M_count_198
theorem d_M_count_162 : decode prog_14_method_48_code 162 = .ok (.iload_n 1, 1) := by decide +kernel
theorem d_M_count_163 : decode prog_14_method_48_code 163 = .ok (.iconst 5, 1) := by decide +kernel
theorem d_M_count_164 : decode prog_14_method_48_code 164 = .ok (.if_icmp .ne 7, 3) := by decide +kernel
theorem d_M_count_167 : decode prog_14_method_48_code 167 = .ok (.iload_n 2, 1) := by decide +kernel
theorem d_M_count_168 : decode prog_14_method_48_code 168 = .ok (.goto 30, 3) := by decide +kernel
set_option maxHeartbeats 4000000 in
set_option maxRecDepth 100000 in
theorem c_M_count_5 (l : Launch) (D : va_G) (dA : Nat → ClassId) (sz : Nat) (a : Nat) (fs : List Value) (h_fs_on : fs[7]? = some (.int 1)) (h_fs_points : fs[23]? = some (.int 0)) (h_fs_records : fs[37]? = some (.int 0)) (hl_fs : fs.length = 79) : Met l ⟨"SeriesVaultModel", "count", "(I)I"⟩ [Cond.code ⟨"SeriesVaultModel", "count", "(I)I"⟩ prog_14_method_48_code 5 (some FieldType.int)] { frames := 1, cells := 0, slots := 0, locals := 0 } (pC D dA [.ref a, .int 5] [(a, .inr (9, fs))] sz) (va_Qi (fun (r : Int32) (_ : Unit) => r = 0) (fun (u9 : Unit) t9 => bW D (va_A [(a, .inr (9, fs))] sz) [(a, .inr (9, (fs.set 0 (.int 0))))] t9) (va_A [(a, .inr (9, fs))] sz)) 0 0 (va_A [(a, .inr (9, fs))] sz) := by
  refine mkC (Qc := fun A => va_Qi (fun (r : Int32) (_ : Unit) => r = 0) (fun (u9 : Unit) t9 => bW D A [(a, .inr (9, (fs.set 0 (.int 0))))] t9) A) (by decide) (Nat.le_of_ble_eq_true rfl) ?_
  intro A p e s m below meth c ls hsz hB
  obtain ⟨hx, hb, hr, hml, hown, hin, hlk, hE, hK, hP, hD, hS, hA, hN, hl⟩ := hB
  have hown : s.vm.findClass "SeriesVaultModel" = some m.cls := hown
  have hin : meth.name = "count" := hin
  have hl : lv_has ls 5 [(0, .ref a), (1, .int 5)] := hl
  obtain ⟨H, hH⟩ : ∃ z, z = s.heap := ⟨_, rfl⟩
  have hP : va_P D vwCl [(a, .inr (9, fs))] H := by rw [hH]; exact hP
  have hS : va_S A s.heap H [] := by rw [hH]; exact hS
  rw [← hH]
  refine lv_aload_n hx hb d_M_count_0 rfl (lv_at hl 0 rfl) ?_
  refine lv_aload_n hx hb d_M_count_1 rfl (lv_at hl 0 rfl) ?_
  refine gF (v := .int 1) hx hb hown hE hK hP 0 rfl rfl layM 7 (by decide) w324 h_fs_on d_M_count_2 ?_
  refine lv_if_ne hx hb d_M_count_5 (tgt := 12) rfl (fun _ => ?_) (fun h9 => absurd h9 (by decide))
  refine lv_iload_n hx hb d_M_count_12 rfl (lv_at hl 1 rfl) ?_
  refine lv_if_lt hx hb d_M_count_13 (tgt := 22) rfl (fun h9 => absurd h9 (by decide)) (fun _ => ?_)
  refine lv_iload_n hx hb d_M_count_16 rfl (lv_at hl 1 rfl) ?_
  refine lv_bipush (v := 8) hx hb d_M_count_17 (by decide) ?_
  refine lv_icmp_le hx hb d_M_count_19 (tgt := 26) rfl (fun _ => ?_) (fun h9 => absurd (by decide) h9)
  refine lv_iconst (v := 0) hx hb d_M_count_26 (by decide) ?_
  refine pF hx hb hown hE hK hP hD hS 0 rfl rfl layM tyM tokM nmM 0 (by decide) w319 rfl rfl rfl (by simp [hl_fs]) d_M_count_27 (fun H locs hP hD hS => ?_)
  have hP : va_P D vwCl [(a, .inr (9, (fs.set 0 (.int 0))))] H := hP
  have hD : va_D A [(a, .inr (9, (fs.set 0 (.int 0))))] := hD
  refine lv_aload_n hx hb d_M_count_30 rfl (lv_at hl 0 rfl) ?_
  refine gF (v := .int 0) hx hb hown hE hK hP 0 rfl rfl layM 0 (by decide) w319 (by simp [hl_fs]) d_M_count_31 ?_
  refine lv_if_le hx hb d_M_count_34 (tgt := 39) rfl (fun _ => ?_) (fun h9 => absurd (by decide) h9)
  refine lv_iconst (v := 0) hx hb d_M_count_39 (by decide) ?_
  refine lv_istore_n hx hb d_M_count_40 rfl hl (by decide) rfl (fun ls hl => ?_)
  have hl : lv_has ls 5 [(2, .int 0), (0, .ref a), (1, .int 5)] := hl
  refine lv_iconst (v := 0) hx hb d_M_count_41 (by decide) ?_
  refine lv_istore_n hx hb d_M_count_42 rfl hl (by decide) rfl (fun ls hl => ?_)
  have hl : lv_has ls 5 [(3, .int 0), (2, .int 0), (0, .ref a), (1, .int 5)] := hl
  refine lv_iload_n hx hb d_M_count_43 rfl (lv_at hl 0 rfl) ?_
  refine lv_aload_n hx hb d_M_count_44 rfl (lv_at hl 2 rfl) ?_
  refine gF (v := .int 0) hx hb hown hE hK hP 0 rfl rfl layM 37 (by decide) w338 (by simp [h_fs_records]) d_M_count_45 ?_
  refine lv_icmp_ge hx hb d_M_count_48 (tgt := 66) rfl (fun _ => ?_) (fun h9 => absurd (by decide) h9)
  refine lv_iconst (v := 0) hx hb d_M_count_66 (by decide) ?_
  refine lv_istore_n hx hb d_M_count_67 rfl hl (by decide) rfl (fun ls hl => ?_)
  have hl : lv_has ls 5 [(3, .int 0), (2, .int 0), (0, .ref a), (1, .int 5)] := hl
  refine lv_iconst (v := 0) hx hb d_M_count_68 (by decide) ?_
  refine lv_istore hx hb d_M_count_69 hl (by decide) rfl (fun ls hl => ?_)
  have hl : lv_has ls 5 [(4, .int 0), (3, .int 0), (2, .int 0), (0, .ref a), (1, .int 5)] := hl
  refine lv_iload hx hb d_M_count_71 (lv_at hl 0 rfl) ?_
  refine lv_aload_n hx hb d_M_count_73 rfl (lv_at hl 3 rfl) ?_
  refine gF (v := .int 0) hx hb hown hE hK hP 0 rfl rfl layM 23 (by decide) w420 (by simp [h_fs_points]) d_M_count_74 ?_
  refine lv_icmp_ge hx hb d_M_count_77 (tgt := 103) rfl (fun _ => ?_) (fun h9 => absurd (by decide) h9)
  refine lv_iload_n hx hb d_M_count_103 rfl (lv_at hl 4 rfl) ?_
  refine lv_if_ne hx hb d_M_count_104 (tgt := 114) rfl (fun _ => ?_) (fun h9 => absurd h9 (by decide))
  refine lv_iload_n hx hb d_M_count_114 rfl (lv_at hl 4 rfl) ?_
  refine lv_iconst (v := 1) hx hb d_M_count_115 (by decide) ?_
  refine lv_icmp_ne hx hb d_M_count_116 (tgt := 126) rfl (fun _ => ?_) (fun h9 => absurd h9 (by decide))
  refine lv_iload_n hx hb d_M_count_126 rfl (lv_at hl 4 rfl) ?_
  refine lv_iconst (v := 2) hx hb d_M_count_127 (by decide) ?_
  refine lv_icmp_ne hx hb d_M_count_128 (tgt := 138) rfl (fun _ => ?_) (fun h9 => absurd h9 (by decide))
  refine lv_iload_n hx hb d_M_count_138 rfl (lv_at hl 4 rfl) ?_
  refine lv_iconst (v := 3) hx hb d_M_count_139 (by decide) ?_
  refine lv_icmp_ne hx hb d_M_count_140 (tgt := 150) rfl (fun _ => ?_) (fun h9 => absurd h9 (by decide))
  refine lv_iload_n hx hb d_M_count_150 rfl (lv_at hl 4 rfl) ?_
  refine lv_iconst (v := 4) hx hb d_M_count_151 (by decide) ?_
  refine lv_icmp_ne hx hb d_M_count_152 (tgt := 162) rfl (fun _ => ?_) (fun h9 => absurd h9 (by decide))
  refine lv_iload_n hx hb d_M_count_162 rfl (lv_at hl 4 rfl) ?_
  refine lv_iconst (v := 5) hx hb d_M_count_163 (by decide) ?_
  refine lv_icmp_ne hx hb d_M_count_164 (tgt := 171) rfl (fun h9 => absurd (by decide) h9) (fun _ => ?_)
  refine lv_iload_n hx hb d_M_count_167 rfl (lv_at hl 2 rfl) ?_
  refine lv_goto hx hb d_M_count_168 (tgt := 198) rfl ?_
  exact rtI hx hb hr hlk hP hD hS () rfl [0] rfl rfl (by decide) (Nat.le_of_ble_eq_true rfl) (Nat.le_of_ble_eq_true rfl) d_M_count_198
theorem d_M_count_171 : decode prog_14_method_48_code 171 = .ok (.iload_n 1, 1) := by decide +kernel
theorem d_M_count_172 : decode prog_14_method_48_code 172 = .ok (.bipush 6, 2) := by decide +kernel
theorem d_M_count_174 : decode prog_14_method_48_code 174 = .ok (.if_icmp .ne 10, 3) := by decide +kernel
theorem d_M_count_177 : decode prog_14_method_48_code 177 = .ok (.aload_n 0, 1) := by decide +kernel
theorem d_M_count_178 : decode prog_14_method_48_code 178 = .ok (.getfield 182, 3) := by decide +kernel
theorem d_M_count_181 : decode prog_14_method_48_code 181 = .ok (.goto 17, 3) := by decide +kernel
set_option maxHeartbeats 4000000 in
set_option maxRecDepth 100000 in
theorem c_M_count_6 (l : Launch) (D : va_G) (dA : Nat → ClassId) (sz : Nat) (a : Nat) (fs : List Value) (h_fs_on : fs[7]? = some (.int 1)) (h_fs_points : fs[23]? = some (.int 0)) (h_fs_records : fs[37]? = some (.int 0)) (hl_fs : fs.length = 79) : Met l ⟨"SeriesVaultModel", "count", "(I)I"⟩ [Cond.code ⟨"SeriesVaultModel", "count", "(I)I"⟩ prog_14_method_48_code 5 (some FieldType.int)] { frames := 1, cells := 0, slots := 0, locals := 0 } (pC D dA [.ref a, .int 6] [(a, .inr (9, fs))] sz) (va_Qi (fun (r : Int32) (_ : Unit) => r = 0) (fun (u9 : Unit) t9 => bW D (va_A [(a, .inr (9, fs))] sz) [(a, .inr (9, (fs.set 0 (.int 0))))] t9) (va_A [(a, .inr (9, fs))] sz)) 0 0 (va_A [(a, .inr (9, fs))] sz) := by
  refine mkC (Qc := fun A => va_Qi (fun (r : Int32) (_ : Unit) => r = 0) (fun (u9 : Unit) t9 => bW D A [(a, .inr (9, (fs.set 0 (.int 0))))] t9) A) (by decide) (Nat.le_of_ble_eq_true rfl) ?_
  intro A p e s m below meth c ls hsz hB
  obtain ⟨hx, hb, hr, hml, hown, hin, hlk, hE, hK, hP, hD, hS, hA, hN, hl⟩ := hB
  have hown : s.vm.findClass "SeriesVaultModel" = some m.cls := hown
  have hin : meth.name = "count" := hin
  have hl : lv_has ls 5 [(0, .ref a), (1, .int 6)] := hl
  obtain ⟨H, hH⟩ : ∃ z, z = s.heap := ⟨_, rfl⟩
  have hP : va_P D vwCl [(a, .inr (9, fs))] H := by rw [hH]; exact hP
  have hS : va_S A s.heap H [] := by rw [hH]; exact hS
  rw [← hH]
  refine lv_aload_n hx hb d_M_count_0 rfl (lv_at hl 0 rfl) ?_
  refine lv_aload_n hx hb d_M_count_1 rfl (lv_at hl 0 rfl) ?_
  refine gF (v := .int 1) hx hb hown hE hK hP 0 rfl rfl layM 7 (by decide) w324 h_fs_on d_M_count_2 ?_
  refine lv_if_ne hx hb d_M_count_5 (tgt := 12) rfl (fun _ => ?_) (fun h9 => absurd h9 (by decide))
  refine lv_iload_n hx hb d_M_count_12 rfl (lv_at hl 1 rfl) ?_
  refine lv_if_lt hx hb d_M_count_13 (tgt := 22) rfl (fun h9 => absurd h9 (by decide)) (fun _ => ?_)
  refine lv_iload_n hx hb d_M_count_16 rfl (lv_at hl 1 rfl) ?_
  refine lv_bipush (v := 8) hx hb d_M_count_17 (by decide) ?_
  refine lv_icmp_le hx hb d_M_count_19 (tgt := 26) rfl (fun _ => ?_) (fun h9 => absurd (by decide) h9)
  refine lv_iconst (v := 0) hx hb d_M_count_26 (by decide) ?_
  refine pF hx hb hown hE hK hP hD hS 0 rfl rfl layM tyM tokM nmM 0 (by decide) w319 rfl rfl rfl (by simp [hl_fs]) d_M_count_27 (fun H locs hP hD hS => ?_)
  have hP : va_P D vwCl [(a, .inr (9, (fs.set 0 (.int 0))))] H := hP
  have hD : va_D A [(a, .inr (9, (fs.set 0 (.int 0))))] := hD
  refine lv_aload_n hx hb d_M_count_30 rfl (lv_at hl 0 rfl) ?_
  refine gF (v := .int 0) hx hb hown hE hK hP 0 rfl rfl layM 0 (by decide) w319 (by simp [hl_fs]) d_M_count_31 ?_
  refine lv_if_le hx hb d_M_count_34 (tgt := 39) rfl (fun _ => ?_) (fun h9 => absurd (by decide) h9)
  refine lv_iconst (v := 0) hx hb d_M_count_39 (by decide) ?_
  refine lv_istore_n hx hb d_M_count_40 rfl hl (by decide) rfl (fun ls hl => ?_)
  have hl : lv_has ls 5 [(2, .int 0), (0, .ref a), (1, .int 6)] := hl
  refine lv_iconst (v := 0) hx hb d_M_count_41 (by decide) ?_
  refine lv_istore_n hx hb d_M_count_42 rfl hl (by decide) rfl (fun ls hl => ?_)
  have hl : lv_has ls 5 [(3, .int 0), (2, .int 0), (0, .ref a), (1, .int 6)] := hl
  refine lv_iload_n hx hb d_M_count_43 rfl (lv_at hl 0 rfl) ?_
  refine lv_aload_n hx hb d_M_count_44 rfl (lv_at hl 2 rfl) ?_
  refine gF (v := .int 0) hx hb hown hE hK hP 0 rfl rfl layM 37 (by decide) w338 (by simp [h_fs_records]) d_M_count_45 ?_
  refine lv_icmp_ge hx hb d_M_count_48 (tgt := 66) rfl (fun _ => ?_) (fun h9 => absurd (by decide) h9)
  refine lv_iconst (v := 0) hx hb d_M_count_66 (by decide) ?_
  refine lv_istore_n hx hb d_M_count_67 rfl hl (by decide) rfl (fun ls hl => ?_)
  have hl : lv_has ls 5 [(3, .int 0), (2, .int 0), (0, .ref a), (1, .int 6)] := hl
  refine lv_iconst (v := 0) hx hb d_M_count_68 (by decide) ?_
  refine lv_istore hx hb d_M_count_69 hl (by decide) rfl (fun ls hl => ?_)
  have hl : lv_has ls 5 [(4, .int 0), (3, .int 0), (2, .int 0), (0, .ref a), (1, .int 6)] := hl
  refine lv_iload hx hb d_M_count_71 (lv_at hl 0 rfl) ?_
  refine lv_aload_n hx hb d_M_count_73 rfl (lv_at hl 3 rfl) ?_
  refine gF (v := .int 0) hx hb hown hE hK hP 0 rfl rfl layM 23 (by decide) w420 (by simp [h_fs_points]) d_M_count_74 ?_
  refine lv_icmp_ge hx hb d_M_count_77 (tgt := 103) rfl (fun _ => ?_) (fun h9 => absurd (by decide) h9)
  refine lv_iload_n hx hb d_M_count_103 rfl (lv_at hl 4 rfl) ?_
  refine lv_if_ne hx hb d_M_count_104 (tgt := 114) rfl (fun _ => ?_) (fun h9 => absurd h9 (by decide))
  refine lv_iload_n hx hb d_M_count_114 rfl (lv_at hl 4 rfl) ?_
  refine lv_iconst (v := 1) hx hb d_M_count_115 (by decide) ?_
  refine lv_icmp_ne hx hb d_M_count_116 (tgt := 126) rfl (fun _ => ?_) (fun h9 => absurd h9 (by decide))
  refine lv_iload_n hx hb d_M_count_126 rfl (lv_at hl 4 rfl) ?_
  refine lv_iconst (v := 2) hx hb d_M_count_127 (by decide) ?_
  refine lv_icmp_ne hx hb d_M_count_128 (tgt := 138) rfl (fun _ => ?_) (fun h9 => absurd h9 (by decide))
  refine lv_iload_n hx hb d_M_count_138 rfl (lv_at hl 4 rfl) ?_
  refine lv_iconst (v := 3) hx hb d_M_count_139 (by decide) ?_
  refine lv_icmp_ne hx hb d_M_count_140 (tgt := 150) rfl (fun _ => ?_) (fun h9 => absurd h9 (by decide))
  refine lv_iload_n hx hb d_M_count_150 rfl (lv_at hl 4 rfl) ?_
  refine lv_iconst (v := 4) hx hb d_M_count_151 (by decide) ?_
  refine lv_icmp_ne hx hb d_M_count_152 (tgt := 162) rfl (fun _ => ?_) (fun h9 => absurd h9 (by decide))
  refine lv_iload_n hx hb d_M_count_162 rfl (lv_at hl 4 rfl) ?_
  refine lv_iconst (v := 5) hx hb d_M_count_163 (by decide) ?_
  refine lv_icmp_ne hx hb d_M_count_164 (tgt := 171) rfl (fun _ => ?_) (fun h9 => absurd h9 (by decide))
  refine lv_iload_n hx hb d_M_count_171 rfl (lv_at hl 4 rfl) ?_
  refine lv_bipush (v := 6) hx hb d_M_count_172 (by decide) ?_
  refine lv_icmp_ne hx hb d_M_count_174 (tgt := 184) rfl (fun h9 => absurd (by decide) h9) (fun _ => ?_)
  refine lv_aload_n hx hb d_M_count_177 rfl (lv_at hl 3 rfl) ?_
  refine gF (v := .int 0) hx hb hown hE hK hP 0 rfl rfl layM 37 (by decide) w338 (by simp [h_fs_records]) d_M_count_178 ?_
  refine lv_goto hx hb d_M_count_181 (tgt := 198) rfl ?_
  exact rtI hx hb hr hlk hP hD hS () rfl [0] rfl rfl (by decide) (Nat.le_of_ble_eq_true rfl) (Nat.le_of_ble_eq_true rfl) d_M_count_198
theorem d_M_count_184 : decode prog_14_method_48_code 184 = .ok (.iload_n 1, 1) := by decide +kernel
theorem d_M_count_185 : decode prog_14_method_48_code 185 = .ok (.bipush 7, 2) := by decide +kernel
theorem d_M_count_187 : decode prog_14_method_48_code 187 = .ok (.if_icmp .ne 10, 3) := by decide +kernel
theorem d_M_count_190 : decode prog_14_method_48_code 190 = .ok (.aload_n 0, 1) := by decide +kernel
theorem d_M_count_191 : decode prog_14_method_48_code 191 = .ok (.getfield 185, 3) := by decide +kernel
theorem d_M_count_194 : decode prog_14_method_48_code 194 = .ok (.goto 4, 3) := by decide +kernel
set_option maxHeartbeats 4000000 in
set_option maxRecDepth 100000 in
theorem c_M_count_7 (l : Launch) (D : va_G) (dA : Nat → ClassId) (sz : Nat) (a : Nat) (fs : List Value) (h_fs_on : fs[7]? = some (.int 1)) (h_fs_points : fs[23]? = some (.int 0)) (h_fs_records : fs[37]? = some (.int 0)) (h_fs_kept : fs[38]? = some (.int 0)) (hl_fs : fs.length = 79) : Met l ⟨"SeriesVaultModel", "count", "(I)I"⟩ [Cond.code ⟨"SeriesVaultModel", "count", "(I)I"⟩ prog_14_method_48_code 5 (some FieldType.int)] { frames := 1, cells := 0, slots := 0, locals := 0 } (pC D dA [.ref a, .int 7] [(a, .inr (9, fs))] sz) (va_Qi (fun (r : Int32) (_ : Unit) => r = 0) (fun (u9 : Unit) t9 => bW D (va_A [(a, .inr (9, fs))] sz) [(a, .inr (9, (fs.set 0 (.int 0))))] t9) (va_A [(a, .inr (9, fs))] sz)) 0 0 (va_A [(a, .inr (9, fs))] sz) := by
  refine mkC (Qc := fun A => va_Qi (fun (r : Int32) (_ : Unit) => r = 0) (fun (u9 : Unit) t9 => bW D A [(a, .inr (9, (fs.set 0 (.int 0))))] t9) A) (by decide) (Nat.le_of_ble_eq_true rfl) ?_
  intro A p e s m below meth c ls hsz hB
  obtain ⟨hx, hb, hr, hml, hown, hin, hlk, hE, hK, hP, hD, hS, hA, hN, hl⟩ := hB
  have hown : s.vm.findClass "SeriesVaultModel" = some m.cls := hown
  have hin : meth.name = "count" := hin
  have hl : lv_has ls 5 [(0, .ref a), (1, .int 7)] := hl
  obtain ⟨H, hH⟩ : ∃ z, z = s.heap := ⟨_, rfl⟩
  have hP : va_P D vwCl [(a, .inr (9, fs))] H := by rw [hH]; exact hP
  have hS : va_S A s.heap H [] := by rw [hH]; exact hS
  rw [← hH]
  refine lv_aload_n hx hb d_M_count_0 rfl (lv_at hl 0 rfl) ?_
  refine lv_aload_n hx hb d_M_count_1 rfl (lv_at hl 0 rfl) ?_
  refine gF (v := .int 1) hx hb hown hE hK hP 0 rfl rfl layM 7 (by decide) w324 h_fs_on d_M_count_2 ?_
  refine lv_if_ne hx hb d_M_count_5 (tgt := 12) rfl (fun _ => ?_) (fun h9 => absurd h9 (by decide))
  refine lv_iload_n hx hb d_M_count_12 rfl (lv_at hl 1 rfl) ?_
  refine lv_if_lt hx hb d_M_count_13 (tgt := 22) rfl (fun h9 => absurd h9 (by decide)) (fun _ => ?_)
  refine lv_iload_n hx hb d_M_count_16 rfl (lv_at hl 1 rfl) ?_
  refine lv_bipush (v := 8) hx hb d_M_count_17 (by decide) ?_
  refine lv_icmp_le hx hb d_M_count_19 (tgt := 26) rfl (fun _ => ?_) (fun h9 => absurd (by decide) h9)
  refine lv_iconst (v := 0) hx hb d_M_count_26 (by decide) ?_
  refine pF hx hb hown hE hK hP hD hS 0 rfl rfl layM tyM tokM nmM 0 (by decide) w319 rfl rfl rfl (by simp [hl_fs]) d_M_count_27 (fun H locs hP hD hS => ?_)
  have hP : va_P D vwCl [(a, .inr (9, (fs.set 0 (.int 0))))] H := hP
  have hD : va_D A [(a, .inr (9, (fs.set 0 (.int 0))))] := hD
  refine lv_aload_n hx hb d_M_count_30 rfl (lv_at hl 0 rfl) ?_
  refine gF (v := .int 0) hx hb hown hE hK hP 0 rfl rfl layM 0 (by decide) w319 (by simp [hl_fs]) d_M_count_31 ?_
  refine lv_if_le hx hb d_M_count_34 (tgt := 39) rfl (fun _ => ?_) (fun h9 => absurd (by decide) h9)
  refine lv_iconst (v := 0) hx hb d_M_count_39 (by decide) ?_
  refine lv_istore_n hx hb d_M_count_40 rfl hl (by decide) rfl (fun ls hl => ?_)
  have hl : lv_has ls 5 [(2, .int 0), (0, .ref a), (1, .int 7)] := hl
  refine lv_iconst (v := 0) hx hb d_M_count_41 (by decide) ?_
  refine lv_istore_n hx hb d_M_count_42 rfl hl (by decide) rfl (fun ls hl => ?_)
  have hl : lv_has ls 5 [(3, .int 0), (2, .int 0), (0, .ref a), (1, .int 7)] := hl
  refine lv_iload_n hx hb d_M_count_43 rfl (lv_at hl 0 rfl) ?_
  refine lv_aload_n hx hb d_M_count_44 rfl (lv_at hl 2 rfl) ?_
  refine gF (v := .int 0) hx hb hown hE hK hP 0 rfl rfl layM 37 (by decide) w338 (by simp [h_fs_records]) d_M_count_45 ?_
  refine lv_icmp_ge hx hb d_M_count_48 (tgt := 66) rfl (fun _ => ?_) (fun h9 => absurd (by decide) h9)
  refine lv_iconst (v := 0) hx hb d_M_count_66 (by decide) ?_
  refine lv_istore_n hx hb d_M_count_67 rfl hl (by decide) rfl (fun ls hl => ?_)
  have hl : lv_has ls 5 [(3, .int 0), (2, .int 0), (0, .ref a), (1, .int 7)] := hl
  refine lv_iconst (v := 0) hx hb d_M_count_68 (by decide) ?_
  refine lv_istore hx hb d_M_count_69 hl (by decide) rfl (fun ls hl => ?_)
  have hl : lv_has ls 5 [(4, .int 0), (3, .int 0), (2, .int 0), (0, .ref a), (1, .int 7)] := hl
  refine lv_iload hx hb d_M_count_71 (lv_at hl 0 rfl) ?_
  refine lv_aload_n hx hb d_M_count_73 rfl (lv_at hl 3 rfl) ?_
  refine gF (v := .int 0) hx hb hown hE hK hP 0 rfl rfl layM 23 (by decide) w420 (by simp [h_fs_points]) d_M_count_74 ?_
  refine lv_icmp_ge hx hb d_M_count_77 (tgt := 103) rfl (fun _ => ?_) (fun h9 => absurd (by decide) h9)
  refine lv_iload_n hx hb d_M_count_103 rfl (lv_at hl 4 rfl) ?_
  refine lv_if_ne hx hb d_M_count_104 (tgt := 114) rfl (fun _ => ?_) (fun h9 => absurd h9 (by decide))
  refine lv_iload_n hx hb d_M_count_114 rfl (lv_at hl 4 rfl) ?_
  refine lv_iconst (v := 1) hx hb d_M_count_115 (by decide) ?_
  refine lv_icmp_ne hx hb d_M_count_116 (tgt := 126) rfl (fun _ => ?_) (fun h9 => absurd h9 (by decide))
  refine lv_iload_n hx hb d_M_count_126 rfl (lv_at hl 4 rfl) ?_
  refine lv_iconst (v := 2) hx hb d_M_count_127 (by decide) ?_
  refine lv_icmp_ne hx hb d_M_count_128 (tgt := 138) rfl (fun _ => ?_) (fun h9 => absurd h9 (by decide))
  refine lv_iload_n hx hb d_M_count_138 rfl (lv_at hl 4 rfl) ?_
  refine lv_iconst (v := 3) hx hb d_M_count_139 (by decide) ?_
  refine lv_icmp_ne hx hb d_M_count_140 (tgt := 150) rfl (fun _ => ?_) (fun h9 => absurd h9 (by decide))
  refine lv_iload_n hx hb d_M_count_150 rfl (lv_at hl 4 rfl) ?_
  refine lv_iconst (v := 4) hx hb d_M_count_151 (by decide) ?_
  refine lv_icmp_ne hx hb d_M_count_152 (tgt := 162) rfl (fun _ => ?_) (fun h9 => absurd h9 (by decide))
  refine lv_iload_n hx hb d_M_count_162 rfl (lv_at hl 4 rfl) ?_
  refine lv_iconst (v := 5) hx hb d_M_count_163 (by decide) ?_
  refine lv_icmp_ne hx hb d_M_count_164 (tgt := 171) rfl (fun _ => ?_) (fun h9 => absurd h9 (by decide))
  refine lv_iload_n hx hb d_M_count_171 rfl (lv_at hl 4 rfl) ?_
  refine lv_bipush (v := 6) hx hb d_M_count_172 (by decide) ?_
  refine lv_icmp_ne hx hb d_M_count_174 (tgt := 184) rfl (fun _ => ?_) (fun h9 => absurd h9 (by decide))
  refine lv_iload_n hx hb d_M_count_184 rfl (lv_at hl 4 rfl) ?_
  refine lv_bipush (v := 7) hx hb d_M_count_185 (by decide) ?_
  refine lv_icmp_ne hx hb d_M_count_187 (tgt := 197) rfl (fun h9 => absurd (by decide) h9) (fun _ => ?_)
  refine lv_aload_n hx hb d_M_count_190 rfl (lv_at hl 3 rfl) ?_
  refine gF (v := .int 0) hx hb hown hE hK hP 0 rfl rfl layM 38 (by decide) w339 (by simp [h_fs_kept]) d_M_count_191 ?_
  refine lv_goto hx hb d_M_count_194 (tgt := 198) rfl ?_
  exact rtI hx hb hr hlk hP hD hS () rfl [0] rfl rfl (by decide) (Nat.le_of_ble_eq_true rfl) (Nat.le_of_ble_eq_true rfl) d_M_count_198
theorem d_M_count_197 : decode prog_14_method_48_code 197 = .ok (.iload_n 3, 1) := by decide +kernel
set_option maxHeartbeats 4000000 in
set_option maxRecDepth 100000 in
theorem c_M_count_8 (l : Launch) (D : va_G) (dA : Nat → ClassId) (sz : Nat) (a : Nat) (fs : List Value) (h_fs_on : fs[7]? = some (.int 1)) (h_fs_points : fs[23]? = some (.int 0)) (h_fs_records : fs[37]? = some (.int 0)) (hl_fs : fs.length = 79) : Met l ⟨"SeriesVaultModel", "count", "(I)I"⟩ [Cond.code ⟨"SeriesVaultModel", "count", "(I)I"⟩ prog_14_method_48_code 5 (some FieldType.int)] { frames := 1, cells := 0, slots := 0, locals := 0 } (pC D dA [.ref a, .int 8] [(a, .inr (9, fs))] sz) (va_Qi (fun (r : Int32) (_ : Unit) => r = 0) (fun (u9 : Unit) t9 => bW D (va_A [(a, .inr (9, fs))] sz) [(a, .inr (9, (fs.set 0 (.int 0))))] t9) (va_A [(a, .inr (9, fs))] sz)) 0 0 (va_A [(a, .inr (9, fs))] sz) := by
  refine mkC (Qc := fun A => va_Qi (fun (r : Int32) (_ : Unit) => r = 0) (fun (u9 : Unit) t9 => bW D A [(a, .inr (9, (fs.set 0 (.int 0))))] t9) A) (by decide) (Nat.le_of_ble_eq_true rfl) ?_
  intro A p e s m below meth c ls hsz hB
  obtain ⟨hx, hb, hr, hml, hown, hin, hlk, hE, hK, hP, hD, hS, hA, hN, hl⟩ := hB
  have hown : s.vm.findClass "SeriesVaultModel" = some m.cls := hown
  have hin : meth.name = "count" := hin
  have hl : lv_has ls 5 [(0, .ref a), (1, .int 8)] := hl
  obtain ⟨H, hH⟩ : ∃ z, z = s.heap := ⟨_, rfl⟩
  have hP : va_P D vwCl [(a, .inr (9, fs))] H := by rw [hH]; exact hP
  have hS : va_S A s.heap H [] := by rw [hH]; exact hS
  rw [← hH]
  refine lv_aload_n hx hb d_M_count_0 rfl (lv_at hl 0 rfl) ?_
  refine lv_aload_n hx hb d_M_count_1 rfl (lv_at hl 0 rfl) ?_
  refine gF (v := .int 1) hx hb hown hE hK hP 0 rfl rfl layM 7 (by decide) w324 h_fs_on d_M_count_2 ?_
  refine lv_if_ne hx hb d_M_count_5 (tgt := 12) rfl (fun _ => ?_) (fun h9 => absurd h9 (by decide))
  refine lv_iload_n hx hb d_M_count_12 rfl (lv_at hl 1 rfl) ?_
  refine lv_if_lt hx hb d_M_count_13 (tgt := 22) rfl (fun h9 => absurd h9 (by decide)) (fun _ => ?_)
  refine lv_iload_n hx hb d_M_count_16 rfl (lv_at hl 1 rfl) ?_
  refine lv_bipush (v := 8) hx hb d_M_count_17 (by decide) ?_
  refine lv_icmp_le hx hb d_M_count_19 (tgt := 26) rfl (fun _ => ?_) (fun h9 => absurd (by decide) h9)
  refine lv_iconst (v := 0) hx hb d_M_count_26 (by decide) ?_
  refine pF hx hb hown hE hK hP hD hS 0 rfl rfl layM tyM tokM nmM 0 (by decide) w319 rfl rfl rfl (by simp [hl_fs]) d_M_count_27 (fun H locs hP hD hS => ?_)
  have hP : va_P D vwCl [(a, .inr (9, (fs.set 0 (.int 0))))] H := hP
  have hD : va_D A [(a, .inr (9, (fs.set 0 (.int 0))))] := hD
  refine lv_aload_n hx hb d_M_count_30 rfl (lv_at hl 0 rfl) ?_
  refine gF (v := .int 0) hx hb hown hE hK hP 0 rfl rfl layM 0 (by decide) w319 (by simp [hl_fs]) d_M_count_31 ?_
  refine lv_if_le hx hb d_M_count_34 (tgt := 39) rfl (fun _ => ?_) (fun h9 => absurd (by decide) h9)
  refine lv_iconst (v := 0) hx hb d_M_count_39 (by decide) ?_
  refine lv_istore_n hx hb d_M_count_40 rfl hl (by decide) rfl (fun ls hl => ?_)
  have hl : lv_has ls 5 [(2, .int 0), (0, .ref a), (1, .int 8)] := hl
  refine lv_iconst (v := 0) hx hb d_M_count_41 (by decide) ?_
  refine lv_istore_n hx hb d_M_count_42 rfl hl (by decide) rfl (fun ls hl => ?_)
  have hl : lv_has ls 5 [(3, .int 0), (2, .int 0), (0, .ref a), (1, .int 8)] := hl
  refine lv_iload_n hx hb d_M_count_43 rfl (lv_at hl 0 rfl) ?_
  refine lv_aload_n hx hb d_M_count_44 rfl (lv_at hl 2 rfl) ?_
  refine gF (v := .int 0) hx hb hown hE hK hP 0 rfl rfl layM 37 (by decide) w338 (by simp [h_fs_records]) d_M_count_45 ?_
  refine lv_icmp_ge hx hb d_M_count_48 (tgt := 66) rfl (fun _ => ?_) (fun h9 => absurd (by decide) h9)
  refine lv_iconst (v := 0) hx hb d_M_count_66 (by decide) ?_
  refine lv_istore_n hx hb d_M_count_67 rfl hl (by decide) rfl (fun ls hl => ?_)
  have hl : lv_has ls 5 [(3, .int 0), (2, .int 0), (0, .ref a), (1, .int 8)] := hl
  refine lv_iconst (v := 0) hx hb d_M_count_68 (by decide) ?_
  refine lv_istore hx hb d_M_count_69 hl (by decide) rfl (fun ls hl => ?_)
  have hl : lv_has ls 5 [(4, .int 0), (3, .int 0), (2, .int 0), (0, .ref a), (1, .int 8)] := hl
  refine lv_iload hx hb d_M_count_71 (lv_at hl 0 rfl) ?_
  refine lv_aload_n hx hb d_M_count_73 rfl (lv_at hl 3 rfl) ?_
  refine gF (v := .int 0) hx hb hown hE hK hP 0 rfl rfl layM 23 (by decide) w420 (by simp [h_fs_points]) d_M_count_74 ?_
  refine lv_icmp_ge hx hb d_M_count_77 (tgt := 103) rfl (fun _ => ?_) (fun h9 => absurd (by decide) h9)
  refine lv_iload_n hx hb d_M_count_103 rfl (lv_at hl 4 rfl) ?_
  refine lv_if_ne hx hb d_M_count_104 (tgt := 114) rfl (fun _ => ?_) (fun h9 => absurd h9 (by decide))
  refine lv_iload_n hx hb d_M_count_114 rfl (lv_at hl 4 rfl) ?_
  refine lv_iconst (v := 1) hx hb d_M_count_115 (by decide) ?_
  refine lv_icmp_ne hx hb d_M_count_116 (tgt := 126) rfl (fun _ => ?_) (fun h9 => absurd h9 (by decide))
  refine lv_iload_n hx hb d_M_count_126 rfl (lv_at hl 4 rfl) ?_
  refine lv_iconst (v := 2) hx hb d_M_count_127 (by decide) ?_
  refine lv_icmp_ne hx hb d_M_count_128 (tgt := 138) rfl (fun _ => ?_) (fun h9 => absurd h9 (by decide))
  refine lv_iload_n hx hb d_M_count_138 rfl (lv_at hl 4 rfl) ?_
  refine lv_iconst (v := 3) hx hb d_M_count_139 (by decide) ?_
  refine lv_icmp_ne hx hb d_M_count_140 (tgt := 150) rfl (fun _ => ?_) (fun h9 => absurd h9 (by decide))
  refine lv_iload_n hx hb d_M_count_150 rfl (lv_at hl 4 rfl) ?_
  refine lv_iconst (v := 4) hx hb d_M_count_151 (by decide) ?_
  refine lv_icmp_ne hx hb d_M_count_152 (tgt := 162) rfl (fun _ => ?_) (fun h9 => absurd h9 (by decide))
  refine lv_iload_n hx hb d_M_count_162 rfl (lv_at hl 4 rfl) ?_
  refine lv_iconst (v := 5) hx hb d_M_count_163 (by decide) ?_
  refine lv_icmp_ne hx hb d_M_count_164 (tgt := 171) rfl (fun _ => ?_) (fun h9 => absurd h9 (by decide))
  refine lv_iload_n hx hb d_M_count_171 rfl (lv_at hl 4 rfl) ?_
  refine lv_bipush (v := 6) hx hb d_M_count_172 (by decide) ?_
  refine lv_icmp_ne hx hb d_M_count_174 (tgt := 184) rfl (fun _ => ?_) (fun h9 => absurd h9 (by decide))
  refine lv_iload_n hx hb d_M_count_184 rfl (lv_at hl 4 rfl) ?_
  refine lv_bipush (v := 7) hx hb d_M_count_185 (by decide) ?_
  refine lv_icmp_ne hx hb d_M_count_187 (tgt := 197) rfl (fun _ => ?_) (fun h9 => absurd h9 (by decide))
  refine lv_iload_n hx hb d_M_count_197 rfl (lv_at hl 1 rfl) ?_
  exact rtI hx hb hr hlk hP hD hS () rfl [0] rfl rfl (by decide) (Nat.le_of_ble_eq_true rfl) (Nat.le_of_ble_eq_true rfl) d_M_count_198
theorem d_M_count_22 : decode prog_14_method_48_code 22 = .ok (.iconst 2, 1) := by decide +kernel
theorem d_M_count_23 : decode prog_14_method_48_code 23 = .ok (.goto 4, 3) := by decide +kernel
theorem d_M_count_37 : decode prog_14_method_48_code 37 = .ok (.iconst 0, 1) := by decide +kernel
theorem d_M_count_38 : decode prog_14_method_48_code 38 = .ok (.ireturn, 1) := by decide +kernel
set_option maxHeartbeats 4000000 in
set_option maxRecDepth 100000 in
theorem c_M_count_x (l : Launch) (D : va_G) (dA : Nat → ClassId) (sz : Nat) (a : Nat) (fs : List Value) (n : Int32) (h0 : n < 0 ∨ 8 < n) (h_fs_on : fs[7]? = some (.int 1)) (hl_fs : fs.length = 79) : Met l ⟨"SeriesVaultModel", "count", "(I)I"⟩ [Cond.code ⟨"SeriesVaultModel", "count", "(I)I"⟩ prog_14_method_48_code 5 (some FieldType.int)] { frames := 1, cells := 0, slots := 0, locals := 0 } (pC D dA [.ref a, .int n] [(a, .inr (9, fs))] sz) (va_Qi (fun (r : Int32) (_ : Unit) => r = 0) (fun (u9 : Unit) t9 => bW D (va_A [(a, .inr (9, fs))] sz) [(a, .inr (9, (fs.set 0 (.int 2))))] t9) (va_A [(a, .inr (9, fs))] sz)) 0 0 (va_A [(a, .inr (9, fs))] sz) := by
  refine mkC (Qc := fun A => va_Qi (fun (r : Int32) (_ : Unit) => r = 0) (fun (u9 : Unit) t9 => bW D A [(a, .inr (9, (fs.set 0 (.int 2))))] t9) A) (by decide) (Nat.le_of_ble_eq_true rfl) ?_
  intro A p e s m below meth c ls hsz hB
  obtain ⟨hx, hb, hr, hml, hown, hin, hlk, hE, hK, hP, hD, hS, hA, hN, hl⟩ := hB
  have hown : s.vm.findClass "SeriesVaultModel" = some m.cls := hown
  have hin : meth.name = "count" := hin
  have hl : lv_has ls 5 [(0, .ref a), (1, .int n)] := hl
  obtain ⟨H, hH⟩ : ∃ z, z = s.heap := ⟨_, rfl⟩
  have hP : va_P D vwCl [(a, .inr (9, fs))] H := by rw [hH]; exact hP
  have hS : va_S A s.heap H [] := by rw [hH]; exact hS
  rw [← hH]
  refine lv_aload_n hx hb d_M_count_0 rfl (lv_at hl 0 rfl) ?_
  refine lv_aload_n hx hb d_M_count_1 rfl (lv_at hl 0 rfl) ?_
  refine gF (v := .int 1) hx hb hown hE hK hP 0 rfl rfl layM 7 (by decide) w324 h_fs_on d_M_count_2 ?_
  refine lv_if_ne hx hb d_M_count_5 (tgt := 12) rfl (fun _ => ?_) (fun h9 => absurd h9 (by decide))
  refine lv_iload_n hx hb d_M_count_12 rfl (lv_at hl 1 rfl) ?_
  refine lv_if_lt hx hb d_M_count_13 (tgt := 22) rfl (fun hc => ?_) (fun hc => ?_)
  · refine lv_iconst (v := 2) hx hb d_M_count_22 (by decide) ?_
    refine lv_goto hx hb d_M_count_23 (tgt := 27) rfl ?_
    refine pF hx hb hown hE hK hP hD hS 0 rfl rfl layM tyM tokM nmM 0 (by decide) w319 rfl rfl rfl (by simp [hl_fs]) d_M_count_27 (fun H locs hP hD hS => ?_)
    have hP : va_P D vwCl [(a, .inr (9, (fs.set 0 (.int 2))))] H := hP
    have hD : va_D A [(a, .inr (9, (fs.set 0 (.int 2))))] := hD
    refine lv_aload_n hx hb d_M_count_30 rfl (lv_at hl 0 rfl) ?_
    refine gF (v := .int 2) hx hb hown hE hK hP 0 rfl rfl layM 0 (by decide) w319 (by simp [hl_fs]) d_M_count_31 ?_
    refine lv_if_le hx hb d_M_count_34 (tgt := 39) rfl (fun h9 => absurd h9 (by decide)) (fun _ => ?_)
    refine lv_iconst (v := 0) hx hb d_M_count_37 (by decide) ?_
    exact rtI hx hb hr hlk hP hD hS () rfl [0] rfl rfl (by decide) (Nat.le_of_ble_eq_true rfl) (Nat.le_of_ble_eq_true rfl) d_M_count_38
  · refine lv_iload_n hx hb d_M_count_16 rfl (lv_at hl 1 rfl) ?_
    refine lv_bipush (v := 8) hx hb d_M_count_17 (by decide) ?_
    refine lv_icmp_le hx hb d_M_count_19 (tgt := 26) rfl (fun h9 => absurd h9 (Int32.not_le.mpr (h0.resolve_left hc))) (fun _ => ?_)
    refine lv_iconst (v := 2) hx hb d_M_count_22 (by decide) ?_
    refine lv_goto hx hb d_M_count_23 (tgt := 27) rfl ?_
    refine pF hx hb hown hE hK hP hD hS 0 rfl rfl layM tyM tokM nmM 0 (by decide) w319 rfl rfl rfl (by simp [hl_fs]) d_M_count_27 (fun H locs hP hD hS => ?_)
    have hP : va_P D vwCl [(a, .inr (9, (fs.set 0 (.int 2))))] H := hP
    have hD : va_D A [(a, .inr (9, (fs.set 0 (.int 2))))] := hD
    refine lv_aload_n hx hb d_M_count_30 rfl (lv_at hl 0 rfl) ?_
    refine gF (v := .int 2) hx hb hown hE hK hP 0 rfl rfl layM 0 (by decide) w319 (by simp [hl_fs]) d_M_count_31 ?_
    refine lv_if_le hx hb d_M_count_34 (tgt := 39) rfl (fun h9 => absurd h9 (by decide)) (fun _ => ?_)
    refine lv_iconst (v := 0) hx hb d_M_count_37 (by decide) ?_
    exact rtI hx hb hr hlk hP hD hS () rfl [0] rfl rfl (by decide) (Nat.le_of_ble_eq_true rfl) (Nat.le_of_ble_eq_true rfl) d_M_count_38
theorem d_M_write_58a_0 : decode prog_14_method_7_code 0 = .ok (.aload_n 0, 1) := by decide +kernel
theorem d_M_write_58a_1 : decode prog_14_method_7_code 1 = .ok (.getfield 25, 3) := by decide +kernel
theorem d_M_write_58a_4 : decode prog_14_method_7_code 4 = .ok (.ifCond .ne 15, 3) := by decide +kernel
theorem d_M_write_58a_19 : decode prog_14_method_7_code 19 = .ok (.aload_n 0, 1) := by decide +kernel
theorem d_M_write_58a_20 : decode prog_14_method_7_code 20 = .ok (.aload_n 0, 1) := by decide +kernel
theorem d_M_write_58a_21 : decode prog_14_method_7_code 21 = .ok (.getfield 25, 3) := by decide +kernel
theorem d_M_write_58a_24 : decode prog_14_method_7_code 24 = .ok (.ifCond .le 12, 3) := by decide +kernel
theorem d_M_write_58a_36 : decode prog_14_method_7_code 36 = .ok (.aload_n 0, 1) := by decide +kernel
theorem d_M_write_58a_37 : decode prog_14_method_7_code 37 = .ok (.getfield 25, 3) := by decide +kernel
theorem d_M_write_58a_40 : decode prog_14_method_7_code 40 = .ok (.putfield 25, 3) := by decide +kernel
theorem d_M_write_58a_43 : decode prog_14_method_7_code 43 = .ok (.aload_n 0, 1) := by decide +kernel
theorem d_M_write_58a_44 : decode prog_14_method_7_code 44 = .ok (.dup, 1) := by decide +kernel
theorem d_M_write_58a_45 : decode prog_14_method_7_code 45 = .ok (.getfield 157, 3) := by decide +kernel
theorem d_M_write_58a_48 : decode prog_14_method_7_code 48 = .ok (.iconst 1, 1) := by decide +kernel
theorem d_M_write_58a_49 : decode prog_14_method_7_code 49 = .ok (.iadd, 1) := by decide +kernel
theorem d_M_write_58a_50 : decode prog_14_method_7_code 50 = .ok (.putfield 157, 3) := by decide +kernel
theorem d_M_write_58a_53 : decode prog_14_method_7_code 53 = .ok (.iconst 1, 1) := by decide +kernel
theorem d_M_write_58a_54 : decode prog_14_method_7_code 54 = .ok (.ireturn, 1) := by decide +kernel
set_option maxHeartbeats 4000000 in
set_option maxRecDepth 100000 in
theorem c_M_write (l : Launch) (D : va_G) (dA : Nat → ClassId) (sz : Nat) (a : Nat) (fs : List Value) (h_fs_cutLeft : fs[8]? = some (.int (-1))) (h_fs_written : fs[9]? = some (.int 0)) (hl_fs : fs.length = 79) : Met l ⟨"SeriesVaultModel", "write", "()Z"⟩ [Cond.code ⟨"SeriesVaultModel", "write", "()Z"⟩ prog_14_method_7_code 1 (some FieldType.boolean)] { frames := 1, cells := 0, slots := 0, locals := 0 } (pC D dA [.ref a] [(a, .inr (9, fs))] sz) (va_Qi (fun (r : Int32) (_ : Unit) => r = 1) (fun (u9 : Unit) t9 => bW D (va_A [(a, .inr (9, fs))] sz) [(a, .inr (9, ((fs.set 8 (.int (-1))).set 9 (.int 1))))] t9) (va_A [(a, .inr (9, fs))] sz)) 0 0 (va_A [(a, .inr (9, fs))] sz) := by
  refine mkC (Qc := fun A => va_Qi (fun (r : Int32) (_ : Unit) => r = 1) (fun (u9 : Unit) t9 => bW D A [(a, .inr (9, ((fs.set 8 (.int (-1))).set 9 (.int 1))))] t9) A) (by decide) (Nat.le_of_ble_eq_true rfl) ?_
  intro A p e s m below meth c ls hsz hB
  obtain ⟨hx, hb, hr, hml, hown, hin, hlk, hE, hK, hP, hD, hS, hA, hN, hl⟩ := hB
  have hown : s.vm.findClass "SeriesVaultModel" = some m.cls := hown
  have hin : meth.name = "write" := hin
  have hl : lv_has ls 1 [(0, .ref a)] := hl
  obtain ⟨H, hH⟩ : ∃ z, z = s.heap := ⟨_, rfl⟩
  have hP : va_P D vwCl [(a, .inr (9, fs))] H := by rw [hH]; exact hP
  have hS : va_S A s.heap H [] := by rw [hH]; exact hS
  rw [← hH]
  refine lv_aload_n hx hb d_M_write_58a_0 rfl (lv_at hl 0 rfl) ?_
  refine gF (v := .int (-1)) hx hb hown hE hK hP 0 rfl rfl layM 8 (by decide) w325 h_fs_cutLeft d_M_write_58a_1 ?_
  refine lv_if_ne hx hb d_M_write_58a_4 (tgt := 19) rfl (fun _ => ?_) (fun h9 => absurd h9 (by decide))
  refine lv_aload_n hx hb d_M_write_58a_19 rfl (lv_at hl 0 rfl) ?_
  refine lv_aload_n hx hb d_M_write_58a_20 rfl (lv_at hl 0 rfl) ?_
  refine gF (v := .int (-1)) hx hb hown hE hK hP 0 rfl rfl layM 8 (by decide) w325 h_fs_cutLeft d_M_write_58a_21 ?_
  refine lv_if_le hx hb d_M_write_58a_24 (tgt := 36) rfl (fun _ => ?_) (fun h9 => absurd (by decide) h9)
  refine lv_aload_n hx hb d_M_write_58a_36 rfl (lv_at hl 0 rfl) ?_
  refine gF (v := .int (-1)) hx hb hown hE hK hP 0 rfl rfl layM 8 (by decide) w325 h_fs_cutLeft d_M_write_58a_37 ?_
  refine pF hx hb hown hE hK hP hD hS 0 rfl rfl layM tyM tokM nmM 8 (by decide) w325 rfl rfl rfl (by simp [hl_fs]) d_M_write_58a_40 (fun H locs hP hD hS => ?_)
  have hP : va_P D vwCl [(a, .inr (9, (fs.set 8 (.int (-1)))))] H := hP
  have hD : va_D A [(a, .inr (9, (fs.set 8 (.int (-1)))))] := hD
  refine lv_aload_n hx hb d_M_write_58a_43 rfl (lv_at hl 0 rfl) ?_
  refine lv_dup hx hb d_M_write_58a_44 rfl ?_
  refine gF (v := .int 0) hx hb hown hE hK hP 0 rfl rfl layM 9 (by decide) w323 (by simp [h_fs_written]) d_M_write_58a_45 ?_
  refine lv_iconst (v := 1) hx hb d_M_write_58a_48 (by decide) ?_
  refine lv_iadd hx hb d_M_write_58a_49 (tpi (y := 1) (by decide) ?_)
  refine pF hx hb hown hE hK hP hD hS 0 rfl rfl layM tyM tokM nmM 9 (by decide) w323 rfl rfl rfl (by simp [hl_fs]) d_M_write_58a_50 (fun H locs hP hD hS => ?_)
  have hP : va_P D vwCl [(a, .inr (9, ((fs.set 8 (.int (-1))).set 9 (.int 1))))] H := hP
  have hD : va_D A [(a, .inr (9, ((fs.set 8 (.int (-1))).set 9 (.int 1))))] := hD
  refine lv_iconst (v := 1) hx hb d_M_write_58a_53 (by decide) ?_
  exact rtZ hx hb hr (by decide) hlk hP hD hS () rfl [0] rfl rfl (by decide) (Nat.le_of_ble_eq_true rfl) (Nat.le_of_ble_eq_true rfl) d_M_write_58a_54
theorem d_M_tidy_0 : decode prog_14_method_19_code 0 = .ok (.iconst 0, 1) := by decide +kernel
theorem d_M_tidy_1 : decode prog_14_method_19_code 1 = .ok (.istore_n 1, 1) := by decide +kernel
theorem d_M_tidy_2 : decode prog_14_method_19_code 2 = .ok (.iconst 0, 1) := by decide +kernel
theorem d_M_tidy_3 : decode prog_14_method_19_code 3 = .ok (.istore_n 2, 1) := by decide +kernel
theorem d_M_tidy_4 : decode prog_14_method_19_code 4 = .ok (.iload_n 2, 1) := by decide +kernel
theorem d_M_tidy_5 : decode prog_14_method_19_code 5 = .ok (.aload_n 0, 1) := by decide +kernel
theorem d_M_tidy_6 : decode prog_14_method_19_code 6 = .ok (.getfield 169, 3) := by decide +kernel
theorem d_M_tidy_9 : decode prog_14_method_19_code 9 = .ok (.if_icmp .ge 98, 3) := by decide +kernel
theorem d_M_tidy_107 : decode prog_14_method_19_code 107 = .ok (.aload_n 0, 1) := by decide +kernel
theorem d_M_tidy_108 : decode prog_14_method_19_code 108 = .ok (.iload_n 1, 1) := by decide +kernel
theorem d_M_tidy_109 : decode prog_14_method_19_code 109 = .ok (.putfield 169, 3) := by decide +kernel
theorem d_M_tidy_112 : decode prog_14_method_19_code 112 = .ok (.return_, 1) := by decide +kernel
set_option maxHeartbeats 4000000 in
set_option maxRecDepth 100000 in
theorem c_M_tidy_0 (l : Launch) (D : va_G) (dA : Nat → ClassId) (sz : Nat) (a : Nat) (fs : List Value) (h_fs_points : fs[23]? = some (.int 0)) (hl_fs : fs.length = 79) : Met l ⟨"SeriesVaultModel", "tidy", "()V"⟩ [Cond.code ⟨"SeriesVaultModel", "tidy", "()V"⟩ prog_14_method_19_code 3 none] { frames := 1, cells := 0, slots := 0, locals := 0 } (pC D dA [.ref a] [(a, .inr (9, fs))] sz) (va_Qv (fun (_ : Unit) => True) (fun (u9 : Unit) t9 => bW D (va_A [(a, .inr (9, fs))] sz) [(a, .inr (9, (fs.set 23 (.int 0))))] t9) (va_A [(a, .inr (9, fs))] sz)) 0 0 (va_A [(a, .inr (9, fs))] sz) := by
  refine mkC (Qc := fun A => va_Qv (fun (_ : Unit) => True) (fun (u9 : Unit) t9 => bW D A [(a, .inr (9, (fs.set 23 (.int 0))))] t9) A) (by decide) (Nat.le_of_ble_eq_true rfl) ?_
  intro A p e s m below meth c ls hsz hB
  obtain ⟨hx, hb, hr, hml, hown, hin, hlk, hE, hK, hP, hD, hS, hA, hN, hl⟩ := hB
  have hown : s.vm.findClass "SeriesVaultModel" = some m.cls := hown
  have hin : meth.name = "tidy" := hin
  have hl : lv_has ls 3 [(0, .ref a)] := hl
  obtain ⟨H, hH⟩ : ∃ z, z = s.heap := ⟨_, rfl⟩
  have hP : va_P D vwCl [(a, .inr (9, fs))] H := by rw [hH]; exact hP
  have hS : va_S A s.heap H [] := by rw [hH]; exact hS
  rw [← hH]
  refine lv_iconst (v := 0) hx hb d_M_tidy_0 (by decide) ?_
  refine lv_istore_n hx hb d_M_tidy_1 rfl hl (by decide) rfl (fun ls hl => ?_)
  have hl : lv_has ls 3 [(1, .int 0), (0, .ref a)] := hl
  refine lv_iconst (v := 0) hx hb d_M_tidy_2 (by decide) ?_
  refine lv_istore_n hx hb d_M_tidy_3 rfl hl (by decide) rfl (fun ls hl => ?_)
  have hl : lv_has ls 3 [(2, .int 0), (1, .int 0), (0, .ref a)] := hl
  refine lv_iload_n hx hb d_M_tidy_4 rfl (lv_at hl 0 rfl) ?_
  refine lv_aload_n hx hb d_M_tidy_5 rfl (lv_at hl 2 rfl) ?_
  refine gF (v := .int 0) hx hb hown hE hK hP 0 rfl rfl layM 23 (by decide) w420 h_fs_points d_M_tidy_6 ?_
  refine lv_icmp_ge hx hb d_M_tidy_9 (tgt := 107) rfl (fun _ => ?_) (fun h9 => absurd (by decide) h9)
  refine lv_aload_n hx hb d_M_tidy_107 rfl (lv_at hl 2 rfl) ?_
  refine lv_iload_n hx hb d_M_tidy_108 rfl (lv_at hl 1 rfl) ?_
  refine pF hx hb hown hE hK hP hD hS 0 rfl rfl layM tyM tokM nmM 23 (by decide) w420 rfl rfl rfl (by simp [hl_fs]) d_M_tidy_109 (fun H locs hP hD hS => ?_)
  have hP : va_P D vwCl [(a, .inr (9, (fs.set 23 (.int 0))))] H := hP
  have hD : va_D A [(a, .inr (9, (fs.set 23 (.int 0))))] := hD
  exact rtV hx hb hr hlk hP hD hS () trivial [0] rfl rfl (by decide) (Nat.le_of_ble_eq_true rfl) (Nat.le_of_ble_eq_true rfl) d_M_tidy_112
theorem d_M_shown_0 : decode prog_14_method_42_code 0 = .ok (.aload_n 0, 1) := by decide +kernel
theorem d_M_shown_1 : decode prog_14_method_42_code 1 = .ok (.aload_n 0, 1) := by decide +kernel
theorem d_M_shown_2 : decode prog_14_method_42_code 2 = .ok (.getfield 172, 3) := by decide +kernel
theorem d_M_shown_5 : decode prog_14_method_42_code 5 = .ok (.putfield 176, 3) := by decide +kernel
theorem d_M_shown_8 : decode prog_14_method_42_code 8 = .ok (.iconst 0, 1) := by decide +kernel
theorem d_M_shown_9 : decode prog_14_method_42_code 9 = .ok (.istore_n 1, 1) := by decide +kernel
theorem d_M_shown_10 : decode prog_14_method_42_code 10 = .ok (.iload_n 1, 1) := by decide +kernel
theorem d_M_shown_11 : decode prog_14_method_42_code 11 = .ok (.aload_n 0, 1) := by decide +kernel
theorem d_M_shown_12 : decode prog_14_method_42_code 12 = .ok (.getfield 169, 3) := by decide +kernel
theorem d_M_shown_15 : decode prog_14_method_42_code 15 = .ok (.if_icmp .ge 21, 3) := by decide +kernel
theorem d_M_shown_36 : decode prog_14_method_42_code 36 = .ok (.return_, 1) := by decide +kernel
set_option maxHeartbeats 4000000 in
set_option maxRecDepth 100000 in
theorem c_M_shown_0 (l : Launch) (D : va_G) (dA : Nat → ClassId) (sz : Nat) (a : Nat) (fs : List Value) (t : Int64) (h_fs_points : fs[23]? = some (.int 0)) (h_fs_horizon : fs[24]? = some (.long t)) (hl_fs : fs.length = 79) : Met l ⟨"SeriesVaultModel", "shown", "()V"⟩ [Cond.code ⟨"SeriesVaultModel", "shown", "()V"⟩ prog_14_method_42_code 2 none] { frames := 1, cells := 0, slots := 0, locals := 0 } (pC D dA [.ref a] [(a, .inr (9, fs))] sz) (va_Qv (fun (_ : Unit) => True) (fun (u9 : Unit) t9 => bW D (va_A [(a, .inr (9, fs))] sz) [(a, .inr (9, (fs.set 25 (.long t))))] t9) (va_A [(a, .inr (9, fs))] sz)) 0 0 (va_A [(a, .inr (9, fs))] sz) := by
  refine mkC (Qc := fun A => va_Qv (fun (_ : Unit) => True) (fun (u9 : Unit) t9 => bW D A [(a, .inr (9, (fs.set 25 (.long t))))] t9) A) (by decide) (Nat.le_of_ble_eq_true rfl) ?_
  intro A p e s m below meth c ls hsz hB
  obtain ⟨hx, hb, hr, hml, hown, hin, hlk, hE, hK, hP, hD, hS, hA, hN, hl⟩ := hB
  have hown : s.vm.findClass "SeriesVaultModel" = some m.cls := hown
  have hin : meth.name = "shown" := hin
  have hl : lv_has ls 2 [(0, .ref a)] := hl
  obtain ⟨H, hH⟩ : ∃ z, z = s.heap := ⟨_, rfl⟩
  have hP : va_P D vwCl [(a, .inr (9, fs))] H := by rw [hH]; exact hP
  have hS : va_S A s.heap H [] := by rw [hH]; exact hS
  rw [← hH]
  refine lv_aload_n hx hb d_M_shown_0 rfl (lv_at hl 0 rfl) ?_
  refine lv_aload_n hx hb d_M_shown_1 rfl (lv_at hl 0 rfl) ?_
  refine gF (v := .long t) hx hb hown hE hK hP 0 rfl rfl layM 24 (by decide) w421 h_fs_horizon d_M_shown_2 ?_
  refine pF hx hb hown hE hK hP hD hS 0 rfl rfl layM tyM tokM nmM 25 (by decide) w422 rfl rfl rfl (by simp [hl_fs]) d_M_shown_5 (fun H locs hP hD hS => ?_)
  have hP : va_P D vwCl [(a, .inr (9, (fs.set 25 (.long t))))] H := hP
  have hD : va_D A [(a, .inr (9, (fs.set 25 (.long t))))] := hD
  refine lv_iconst (v := 0) hx hb d_M_shown_8 (by decide) ?_
  refine lv_istore_n hx hb d_M_shown_9 rfl hl (by decide) rfl (fun ls hl => ?_)
  have hl : lv_has ls 2 [(1, .int 0), (0, .ref a)] := hl
  refine lv_iload_n hx hb d_M_shown_10 rfl (lv_at hl 0 rfl) ?_
  refine lv_aload_n hx hb d_M_shown_11 rfl (lv_at hl 1 rfl) ?_
  refine gF (v := .int 0) hx hb hown hE hK hP 0 rfl rfl layM 23 (by decide) w420 (by simp [h_fs_points]) d_M_shown_12 ?_
  refine lv_icmp_ge hx hb d_M_shown_15 (tgt := 36) rfl (fun _ => ?_) (fun h9 => absurd (by decide) h9)
  exact rtV hx hb hr hlk hP hD hS () trivial [0] rfl rfl (by decide) (Nat.le_of_ble_eq_true rfl) (Nat.le_of_ble_eq_true rfl) d_M_shown_36
theorem d_M_retain_0 : decode prog_14_method_47_code 0 = .ok (.aload_n 0, 1) := by decide +kernel
theorem d_M_retain_1 : decode prog_14_method_47_code 1 = .ok (.aload_n 0, 1) := by decide +kernel
theorem d_M_retain_2 : decode prog_14_method_47_code 2 = .ok (.getfield 21, 3) := by decide +kernel
theorem d_M_retain_5 : decode prog_14_method_47_code 5 = .ok (.ifCond .ne 7, 3) := by decide +kernel
theorem d_M_retain_12 : decode prog_14_method_47_code 12 = .ok (.lload_n 1, 1) := by decide +kernel
theorem d_M_retain_13 : decode prog_14_method_47_code 13 = .ok (.aload_n 0, 1) := by decide +kernel
theorem d_M_retain_14 : decode prog_14_method_47_code 14 = .ok (.getfield 172, 3) := by decide +kernel
theorem d_M_retain_17 : decode prog_14_method_47_code 17 = .ok (.lcmp, 1) := by decide +kernel
theorem d_M_retain_18 : decode prog_14_method_47_code 18 = .ok (.ifCond .lt 11, 3) := by decide +kernel
theorem d_M_retain_29 : decode prog_14_method_47_code 29 = .ok (.iconst 2, 1) := by decide +kernel
theorem d_M_retain_30 : decode prog_14_method_47_code 30 = .ok (.goto 4, 3) := by decide +kernel
theorem d_M_retain_34 : decode prog_14_method_47_code 34 = .ok (.putfield 145, 3) := by decide +kernel
theorem d_M_retain_37 : decode prog_14_method_47_code 37 = .ok (.aload_n 0, 1) := by decide +kernel
theorem d_M_retain_38 : decode prog_14_method_47_code 38 = .ok (.getfield 145, 3) := by decide +kernel
theorem d_M_retain_41 : decode prog_14_method_47_code 41 = .ok (.ifCond .gt 12, 3) := by decide +kernel
theorem d_M_retain_53 : decode prog_14_method_47_code 53 = .ok (.iconst 0, 1) := by decide +kernel
theorem d_M_retain_54 : decode prog_14_method_47_code 54 = .ok (.ireturn, 1) := by decide +kernel
theorem d_M_retain_21 : decode prog_14_method_47_code 21 = .ok (.lload_n 1, 1) := by decide +kernel
theorem d_M_retain_22 : decode prog_14_method_47_code 22 = .ok (.ldc2_w 261, 3) := by decide +kernel
theorem d_M_retain_25 : decode prog_14_method_47_code 25 = .ok (.lcmp, 1) := by decide +kernel
theorem d_M_retain_26 : decode prog_14_method_47_code 26 = .ok (.ifCond .le 7, 3) := by decide +kernel
theorem w450 : Cond.constantLong "SeriesVaultModel" 261 1099511627775 ∈ aW := aw_of (tb_10 (List.mem_of_getElem? (i := 27) rfl)) rfl
set_option maxHeartbeats 4000000 in
set_option maxRecDepth 100000 in
theorem c_M_retain_x (l : Launch) (D : va_G) (dA : Nat → ClassId) (sz : Nat) (a : Nat) (fs : List Value) (t : Int64) (h0 : t < 0 ∨ 1099511627775 < t) (h_fs_on : fs[7]? = some (.int 1)) (h_fs_horizon : fs[24]? = some (.long 0)) (hl_fs : fs.length = 79) : Met l ⟨"SeriesVaultModel", "retain", "(J)I"⟩ [Cond.code ⟨"SeriesVaultModel", "retain", "(J)I"⟩ prog_14_method_47_code 7 (some FieldType.int)] { frames := 1, cells := 0, slots := 0, locals := 0 } (pC D dA [.ref a, .long t] [(a, .inr (9, fs))] sz) (va_Qi (fun (r : Int32) (_ : Unit) => r = 0) (fun (u9 : Unit) t9 => bW D (va_A [(a, .inr (9, fs))] sz) [(a, .inr (9, (fs.set 0 (.int 2))))] t9) (va_A [(a, .inr (9, fs))] sz)) 0 0 (va_A [(a, .inr (9, fs))] sz) := by
  refine mkC (Qc := fun A => va_Qi (fun (r : Int32) (_ : Unit) => r = 0) (fun (u9 : Unit) t9 => bW D A [(a, .inr (9, (fs.set 0 (.int 2))))] t9) A) (by decide) (Nat.le_of_ble_eq_true rfl) ?_
  intro A p e s m below meth c ls hsz hB
  obtain ⟨hx, hb, hr, hml, hown, hin, hlk, hE, hK, hP, hD, hS, hA, hN, hl⟩ := hB
  have hown : s.vm.findClass "SeriesVaultModel" = some m.cls := hown
  have hin : meth.name = "retain" := hin
  have hl : lv_has ls 7 [(0, .ref a), (1, .long t)] := hl
  obtain ⟨H, hH⟩ : ∃ z, z = s.heap := ⟨_, rfl⟩
  have hP : va_P D vwCl [(a, .inr (9, fs))] H := by rw [hH]; exact hP
  have hS : va_S A s.heap H [] := by rw [hH]; exact hS
  rw [← hH]
  refine lv_aload_n hx hb d_M_retain_0 rfl (lv_at hl 0 rfl) ?_
  refine lv_aload_n hx hb d_M_retain_1 rfl (lv_at hl 0 rfl) ?_
  refine gF (v := .int 1) hx hb hown hE hK hP 0 rfl rfl layM 7 (by decide) w324 h_fs_on d_M_retain_2 ?_
  refine lv_if_ne hx hb d_M_retain_5 (tgt := 12) rfl (fun _ => ?_) (fun h9 => absurd h9 (by decide))
  refine lv_lload_n hx hb d_M_retain_12 rfl (lv_at hl 1 rfl) ?_
  refine lv_aload_n hx hb d_M_retain_13 rfl (lv_at hl 0 rfl) ?_
  refine gF (v := .long 0) hx hb hown hE hK hP 0 rfl rfl layM 24 (by decide) w421 h_fs_horizon d_M_retain_14 ?_
  refine W.lcmp hx hb d_M_retain_17 ?_
  refine lv_if_lt hx hb d_M_retain_18 (tgt := 29) rfl (fun hc => ?_) (fun hc => ?_)
  · refine lv_iconst (v := 2) hx hb d_M_retain_29 (by decide) ?_
    refine lv_goto hx hb d_M_retain_30 (tgt := 34) rfl ?_
    refine pF hx hb hown hE hK hP hD hS 0 rfl rfl layM tyM tokM nmM 0 (by decide) w319 rfl rfl rfl (by simp [hl_fs]) d_M_retain_34 (fun H locs hP hD hS => ?_)
    have hP : va_P D vwCl [(a, .inr (9, (fs.set 0 (.int 2))))] H := hP
    have hD : va_D A [(a, .inr (9, (fs.set 0 (.int 2))))] := hD
    refine lv_aload_n hx hb d_M_retain_37 rfl (lv_at hl 0 rfl) ?_
    refine gF (v := .int 2) hx hb hown hE hK hP 0 rfl rfl layM 0 (by decide) w319 (by simp [hl_fs]) d_M_retain_38 ?_
    refine lv_if_gt hx hb d_M_retain_41 (tgt := 53) rfl (fun _ => ?_) (fun h9 => absurd (by decide) h9)
    refine lv_iconst (v := 0) hx hb d_M_retain_53 (by decide) ?_
    exact rtI hx hb hr hlk hP hD hS () rfl [0] rfl rfl (by decide) (Nat.le_of_ble_eq_true rfl) (Nat.le_of_ble_eq_true rfl) d_M_retain_54
  · refine lv_lload_n hx hb d_M_retain_21 rfl (lv_at hl 1 rfl) ?_
    refine lv_ldc2 (v := 1099511627775) hx hb hown (hE.t w450 rfl) d_M_retain_22 ?_
    refine W.lcmp hx hb d_M_retain_25 ?_
    refine lv_if_le hx hb d_M_retain_26 (tgt := 33) rfl (fun h9 => absurd h9 (mt (lg_cmp_le _ _).mp (Int64.not_le.mpr (h0.resolve_left (mt (lg_cmp_lt _ _).mpr hc))))) (fun _ => ?_)
    refine lv_iconst (v := 2) hx hb d_M_retain_29 (by decide) ?_
    refine lv_goto hx hb d_M_retain_30 (tgt := 34) rfl ?_
    refine pF hx hb hown hE hK hP hD hS 0 rfl rfl layM tyM tokM nmM 0 (by decide) w319 rfl rfl rfl (by simp [hl_fs]) d_M_retain_34 (fun H locs hP hD hS => ?_)
    have hP : va_P D vwCl [(a, .inr (9, (fs.set 0 (.int 2))))] H := hP
    have hD : va_D A [(a, .inr (9, (fs.set 0 (.int 2))))] := hD
    refine lv_aload_n hx hb d_M_retain_37 rfl (lv_at hl 0 rfl) ?_
    refine gF (v := .int 2) hx hb hown hE hK hP 0 rfl rfl layM 0 (by decide) w319 (by simp [hl_fs]) d_M_retain_38 ?_
    refine lv_if_gt hx hb d_M_retain_41 (tgt := 53) rfl (fun _ => ?_) (fun h9 => absurd (by decide) h9)
    refine lv_iconst (v := 0) hx hb d_M_retain_53 (by decide) ?_
    exact rtI hx hb hr hlk hP hD hS () rfl [0] rfl rfl (by decide) (Nat.le_of_ble_eq_true rfl) (Nat.le_of_ble_eq_true rfl) d_M_retain_54
theorem d_M_retain_33 : decode prog_14_method_47_code 33 = .ok (.iconst 0, 1) := by decide +kernel
theorem d_M_retain_44 : decode prog_14_method_47_code 44 = .ok (.lload_n 1, 1) := by decide +kernel
theorem d_M_retain_45 : decode prog_14_method_47_code 45 = .ok (.aload_n 0, 1) := by decide +kernel
theorem d_M_retain_46 : decode prog_14_method_47_code 46 = .ok (.getfield 172, 3) := by decide +kernel
theorem d_M_retain_49 : decode prog_14_method_47_code 49 = .ok (.lcmp, 1) := by decide +kernel
theorem d_M_retain_50 : decode prog_14_method_47_code 50 = .ok (.ifCond .ne 5, 3) := by decide +kernel
set_option maxHeartbeats 4000000 in
set_option maxRecDepth 100000 in
theorem c_M_retain_0 (l : Launch) (D : va_G) (dA : Nat → ClassId) (sz : Nat) (a : Nat) (fs : List Value) (h_fs_on : fs[7]? = some (.int 1)) (h_fs_horizon : fs[24]? = some (.long 0)) (hl_fs : fs.length = 79) : Met l ⟨"SeriesVaultModel", "retain", "(J)I"⟩ [Cond.code ⟨"SeriesVaultModel", "retain", "(J)I"⟩ prog_14_method_47_code 7 (some FieldType.int)] { frames := 1, cells := 0, slots := 0, locals := 0 } (pC D dA [.ref a, .long 0] [(a, .inr (9, fs))] sz) (va_Qi (fun (r : Int32) (_ : Unit) => r = 0) (fun (u9 : Unit) t9 => bW D (va_A [(a, .inr (9, fs))] sz) [(a, .inr (9, (fs.set 0 (.int 0))))] t9) (va_A [(a, .inr (9, fs))] sz)) 0 0 (va_A [(a, .inr (9, fs))] sz) := by
  refine mkC (Qc := fun A => va_Qi (fun (r : Int32) (_ : Unit) => r = 0) (fun (u9 : Unit) t9 => bW D A [(a, .inr (9, (fs.set 0 (.int 0))))] t9) A) (by decide) (Nat.le_of_ble_eq_true rfl) ?_
  intro A p e s m below meth c ls hsz hB
  obtain ⟨hx, hb, hr, hml, hown, hin, hlk, hE, hK, hP, hD, hS, hA, hN, hl⟩ := hB
  have hown : s.vm.findClass "SeriesVaultModel" = some m.cls := hown
  have hin : meth.name = "retain" := hin
  have hl : lv_has ls 7 [(0, .ref a), (1, .long 0)] := hl
  obtain ⟨H, hH⟩ : ∃ z, z = s.heap := ⟨_, rfl⟩
  have hP : va_P D vwCl [(a, .inr (9, fs))] H := by rw [hH]; exact hP
  have hS : va_S A s.heap H [] := by rw [hH]; exact hS
  rw [← hH]
  refine lv_aload_n hx hb d_M_retain_0 rfl (lv_at hl 0 rfl) ?_
  refine lv_aload_n hx hb d_M_retain_1 rfl (lv_at hl 0 rfl) ?_
  refine gF (v := .int 1) hx hb hown hE hK hP 0 rfl rfl layM 7 (by decide) w324 h_fs_on d_M_retain_2 ?_
  refine lv_if_ne hx hb d_M_retain_5 (tgt := 12) rfl (fun _ => ?_) (fun h9 => absurd h9 (by decide))
  refine lv_lload_n hx hb d_M_retain_12 rfl (lv_at hl 1 rfl) ?_
  refine lv_aload_n hx hb d_M_retain_13 rfl (lv_at hl 0 rfl) ?_
  refine gF (v := .long 0) hx hb hown hE hK hP 0 rfl rfl layM 24 (by decide) w421 h_fs_horizon d_M_retain_14 ?_
  refine W.lcmp hx hb d_M_retain_17 (tpi (y := 0) (by decide) ?_)
  refine lv_if_lt hx hb d_M_retain_18 (tgt := 29) rfl (fun h9 => absurd h9 (by decide)) (fun _ => ?_)
  refine lv_lload_n hx hb d_M_retain_21 rfl (lv_at hl 1 rfl) ?_
  refine lv_ldc2 (v := 1099511627775) hx hb hown (hE.t w450 rfl) d_M_retain_22 ?_
  refine W.lcmp hx hb d_M_retain_25 (tpi (y := (-1)) (by decide) ?_)
  refine lv_if_le hx hb d_M_retain_26 (tgt := 33) rfl (fun _ => ?_) (fun h9 => absurd (by decide) h9)
  refine lv_iconst (v := 0) hx hb d_M_retain_33 (by decide) ?_
  refine pF hx hb hown hE hK hP hD hS 0 rfl rfl layM tyM tokM nmM 0 (by decide) w319 rfl rfl rfl (by simp [hl_fs]) d_M_retain_34 (fun H locs hP hD hS => ?_)
  have hP : va_P D vwCl [(a, .inr (9, (fs.set 0 (.int 0))))] H := hP
  have hD : va_D A [(a, .inr (9, (fs.set 0 (.int 0))))] := hD
  refine lv_aload_n hx hb d_M_retain_37 rfl (lv_at hl 0 rfl) ?_
  refine gF (v := .int 0) hx hb hown hE hK hP 0 rfl rfl layM 0 (by decide) w319 (by simp [hl_fs]) d_M_retain_38 ?_
  refine lv_if_gt hx hb d_M_retain_41 (tgt := 53) rfl (fun h9 => absurd h9 (by decide)) (fun _ => ?_)
  refine lv_lload_n hx hb d_M_retain_44 rfl (lv_at hl 1 rfl) ?_
  refine lv_aload_n hx hb d_M_retain_45 rfl (lv_at hl 0 rfl) ?_
  refine gF (v := .long 0) hx hb hown hE hK hP 0 rfl rfl layM 24 (by decide) w421 (by simp [h_fs_horizon]) d_M_retain_46 ?_
  refine W.lcmp hx hb d_M_retain_49 (tpi (y := 0) (by decide) ?_)
  refine lv_if_ne hx hb d_M_retain_50 (tgt := 55) rfl (fun h9 => absurd (by decide) h9) (fun _ => ?_)
  refine lv_iconst (v := 0) hx hb d_M_retain_53 (by decide) ?_
  exact rtI hx hb hr hlk hP hD hS () rfl [0] rfl rfl (by decide) (Nat.le_of_ble_eq_true rfl) (Nat.le_of_ble_eq_true rfl) d_M_retain_54
theorem d_M_retain_55 : decode prog_14_method_47_code 55 = .ok (.aload_n 0, 1) := by decide +kernel
theorem d_M_retain_56 : decode prog_14_method_47_code 56 = .ok (.invokevirtual 204, 3) := by decide +kernel
theorem d_M_retain_59 : decode prog_14_method_47_code 59 = .ok (.ifCond .eq 10, 3) := by decide +kernel
theorem d_M_retain_62 : decode prog_14_method_47_code 62 = .ok (.aload_n 0, 1) := by decide +kernel
theorem d_M_retain_63 : decode prog_14_method_47_code 63 = .ok (.invokevirtual 200, 3) := by decide +kernel
theorem d_M_retain_66 : decode prog_14_method_47_code 66 = .ok (.ifCond .ne 10, 3) := by decide +kernel
theorem d_M_retain_76 : decode prog_14_method_47_code 76 = .ok (.iconst 0, 1) := by decide +kernel
theorem d_M_retain_77 : decode prog_14_method_47_code 77 = .ok (.istore_n 3, 1) := by decide +kernel
theorem d_M_retain_78 : decode prog_14_method_47_code 78 = .ok (.iconst 0, 1) := by decide +kernel
theorem d_M_retain_79 : decode prog_14_method_47_code 79 = .ok (.istore 4, 2) := by decide +kernel
theorem d_M_retain_81 : decode prog_14_method_47_code 81 = .ok (.iload 4, 2) := by decide +kernel
theorem d_M_retain_83 : decode prog_14_method_47_code 83 = .ok (.aload_n 0, 1) := by decide +kernel
theorem d_M_retain_84 : decode prog_14_method_47_code 84 = .ok (.getfield 169, 3) := by decide +kernel
theorem d_M_retain_87 : decode prog_14_method_47_code 87 = .ok (.if_icmp .ge 38, 3) := by decide +kernel
theorem d_M_retain_125 : decode prog_14_method_47_code 125 = .ok (.aload_n 0, 1) := by decide +kernel
theorem d_M_retain_126 : decode prog_14_method_47_code 126 = .ok (.lload_n 1, 1) := by decide +kernel
theorem d_M_retain_127 : decode prog_14_method_47_code 127 = .ok (.putfield 172, 3) := by decide +kernel
theorem d_M_retain_130 : decode prog_14_method_47_code 130 = .ok (.iconst 0, 1) := by decide +kernel
theorem d_M_retain_131 : decode prog_14_method_47_code 131 = .ok (.istore 4, 2) := by decide +kernel
theorem d_M_retain_133 : decode prog_14_method_47_code 133 = .ok (.iload 4, 2) := by decide +kernel
theorem d_M_retain_135 : decode prog_14_method_47_code 135 = .ok (.aload_n 0, 1) := by decide +kernel
theorem d_M_retain_136 : decode prog_14_method_47_code 136 = .ok (.getfield 169, 3) := by decide +kernel
theorem d_M_retain_139 : decode prog_14_method_47_code 139 = .ok (.if_icmp .ge 51, 3) := by decide +kernel
theorem d_M_retain_190 : decode prog_14_method_47_code 190 = .ok (.aload_n 0, 1) := by decide +kernel
theorem d_M_retain_191 : decode prog_14_method_47_code 191 = .ok (.getfield 179, 3) := by decide +kernel
theorem d_M_retain_194 : decode prog_14_method_47_code 194 = .ok (.iconst 1, 1) := by decide +kernel
theorem d_M_retain_195 : decode prog_14_method_47_code 195 = .ok (.isub, 1) := by decide +kernel
theorem d_M_retain_196 : decode prog_14_method_47_code 196 = .ok (.istore 4, 2) := by decide +kernel
theorem d_M_retain_198 : decode prog_14_method_47_code 198 = .ok (.iload 4, 2) := by decide +kernel
theorem d_M_retain_200 : decode prog_14_method_47_code 200 = .ok (.ifCond .lt 141, 3) := by decide +kernel
theorem d_M_retain_341 : decode prog_14_method_47_code 341 = .ok (.aload_n 0, 1) := by decide +kernel
theorem d_M_retain_342 : decode prog_14_method_47_code 342 = .ok (.invokevirtual 333, 3) := by decide +kernel
theorem d_M_retain_345 : decode prog_14_method_47_code 345 = .ok (.aload_n 0, 1) := by decide +kernel
theorem d_M_retain_346 : decode prog_14_method_47_code 346 = .ok (.invokevirtual 336, 3) := by decide +kernel
theorem d_M_retain_349 : decode prog_14_method_47_code 349 = .ok (.iload_n 3, 1) := by decide +kernel
theorem d_M_retain_350 : decode prog_14_method_47_code 350 = .ok (.ireturn, 1) := by decide +kernel
theorem w451 : Cond.methodLink "SeriesVaultModel" 200 ⟨"SeriesVaultModel", "write", "()Z"⟩ ∈ aW := aw_of (tb_9 (List.mem_of_getElem? (i := 238) rfl)) rfl
theorem w452 : Cond.code ⟨"SeriesVaultModel", "write", "()Z"⟩ prog_14_method_7_code 1 (some FieldType.boolean) ∈ aW := aw_of (tb_10 (List.mem_of_getElem? (i := 1) rfl)) rfl
theorem w453 : Cond.instanceMethod ⟨"SeriesVaultModel", "write", "()Z"⟩ ∈ aW := aw_of (tb_10 (List.mem_of_getElem? (i := 0) rfl)) rfl
theorem w454 : Cond.selects "SeriesVaultModel" ⟨"SeriesVaultModel", "write", "()Z"⟩ ⟨"SeriesVaultModel", "write", "()Z"⟩ ∈ aW := aw_pr (List.mem_map.mpr ⟨_, pv_5 (List.mem_of_getElem? (i := 12) rfl), rfl⟩) rfl
theorem w455 : Cond.methodLink "SeriesVaultModel" 333 ⟨"SeriesVaultModel", "tidy", "()V"⟩ ∈ aW := aw_of (tb_10 (List.mem_of_getElem? (i := 105) rfl)) rfl
theorem w456 : Cond.code ⟨"SeriesVaultModel", "tidy", "()V"⟩ prog_14_method_19_code 3 none ∈ aW := aw_of (tb_10 (List.mem_of_getElem? (i := 108) rfl)) rfl
theorem w457 : Cond.instanceMethod ⟨"SeriesVaultModel", "tidy", "()V"⟩ ∈ aW := aw_of (tb_10 (List.mem_of_getElem? (i := 107) rfl)) rfl
theorem w458 : Cond.selects "SeriesVaultModel" ⟨"SeriesVaultModel", "tidy", "()V"⟩ ⟨"SeriesVaultModel", "tidy", "()V"⟩ ∈ aW := aw_pr (List.mem_map.mpr ⟨_, pv_6 (List.mem_of_getElem? (i := 11) rfl), rfl⟩) rfl
theorem w459 : Cond.methodLink "SeriesVaultModel" 336 ⟨"SeriesVaultModel", "shown", "()V"⟩ ∈ aW := aw_of (tb_10 (List.mem_of_getElem? (i := 109) rfl)) rfl
theorem w460 : Cond.code ⟨"SeriesVaultModel", "shown", "()V"⟩ prog_14_method_42_code 2 none ∈ aW := aw_of (tb_10 (List.mem_of_getElem? (i := 112) rfl)) rfl
theorem w461 : Cond.instanceMethod ⟨"SeriesVaultModel", "shown", "()V"⟩ ∈ aW := aw_of (tb_10 (List.mem_of_getElem? (i := 111) rfl)) rfl
theorem w462 : Cond.selects "SeriesVaultModel" ⟨"SeriesVaultModel", "shown", "()V"⟩ ⟨"SeriesVaultModel", "shown", "()V"⟩ ∈ aW := aw_pr (List.mem_map.mpr ⟨_, pv_6 (List.mem_of_getElem? (i := 12) rfl), rfl⟩) rfl
set_option maxHeartbeats 4000000 in
set_option maxRecDepth 100000 in
theorem c_M_retain (l : Launch) (D : va_G) (dA : Nat → ClassId) (sz : Nat) (a : Nat) (fs : List Value) (t : Int64) (h1 : ¬ t < 0) (h2 : t ≤ 1099511627775) (h3 : ¬ t = 0) (h_fs_on : fs[7]? = some (.int 1)) (h_fs_cutLeft : fs[8]? = some (.int (-1))) (h_fs_written : fs[9]? = some (.int 0)) (h_fs_points : fs[23]? = some (.int 0)) (h_fs_horizon : fs[24]? = some (.long 0)) (h_fs_parcelCount : fs[28]? = some (.int 0)) (h_fs_records : fs[37]? = some (.int 0)) (h_fs_fresh : fs[41]? = some (.int 0)) (hl_fs : fs.length = 79) : Met l ⟨"SeriesVaultModel", "retain", "(J)I"⟩ [Cond.code ⟨"SeriesVaultModel", "retain", "(J)I"⟩ prog_14_method_47_code 7 (some FieldType.int)] { frames := 2, cells := 0, slots := 0, locals := 22 } (pC D dA [.ref a, .long t] [(a, .inr (9, fs))] sz) (va_Qi (fun (r : Int32) (_ : Unit) => r = 0) (fun (u9 : Unit) t9 => bW D (va_A [(a, .inr (9, fs))] sz) [(a, .inr (9, ((((((((fs.set 0 (.int 0)).set 41 (.int 0)).set 38 (.int 0)).set 8 (.int (-1))).set 9 (.int 1)).set 24 (.long t)).set 23 (.int 0)).set 25 (.long t))))] t9) (va_A [(a, .inr (9, fs))] sz)) 0 0 (va_A [(a, .inr (9, fs))] sz) := by
  refine mkC (Qc := fun A => va_Qi (fun (r : Int32) (_ : Unit) => r = 0) (fun (u9 : Unit) t9 => bW D A [(a, .inr (9, ((((((((fs.set 0 (.int 0)).set 41 (.int 0)).set 38 (.int 0)).set 8 (.int (-1))).set 9 (.int 1)).set 24 (.long t)).set 23 (.int 0)).set 25 (.long t))))] t9) A) (by decide) (Nat.le_of_ble_eq_true rfl) ?_
  intro A p e s m below meth c ls hsz hB
  obtain ⟨hx, hb, hr, hml, hown, hin, hlk, hE, hK, hP, hD, hS, hA, hN, hl⟩ := hB
  have hown : s.vm.findClass "SeriesVaultModel" = some m.cls := hown
  have hin : meth.name = "retain" := hin
  have hl : lv_has ls 7 [(0, .ref a), (1, .long t)] := hl
  obtain ⟨H, hH⟩ : ∃ z, z = s.heap := ⟨_, rfl⟩
  have hP : va_P D vwCl [(a, .inr (9, fs))] H := by rw [hH]; exact hP
  have hS : va_S A s.heap H [] := by rw [hH]; exact hS
  rw [← hH]
  refine lv_aload_n hx hb d_M_retain_0 rfl (lv_at hl 0 rfl) ?_
  refine lv_aload_n hx hb d_M_retain_1 rfl (lv_at hl 0 rfl) ?_
  refine gF (v := .int 1) hx hb hown hE hK hP 0 rfl rfl layM 7 (by decide) w324 h_fs_on d_M_retain_2 ?_
  refine lv_if_ne hx hb d_M_retain_5 (tgt := 12) rfl (fun _ => ?_) (fun h9 => absurd h9 (by decide))
  refine lv_lload_n hx hb d_M_retain_12 rfl (lv_at hl 1 rfl) ?_
  refine lv_aload_n hx hb d_M_retain_13 rfl (lv_at hl 0 rfl) ?_
  refine gF (v := .long 0) hx hb hown hE hK hP 0 rfl rfl layM 24 (by decide) w421 h_fs_horizon d_M_retain_14 ?_
  refine W.lcmp hx hb d_M_retain_17 ?_
  refine lv_if_lt hx hb d_M_retain_18 (tgt := 29) rfl (fun h9 => absurd h9 (mt (lg_cmp_lt _ _).mp (h1))) (fun _ => ?_)
  refine lv_lload_n hx hb d_M_retain_21 rfl (lv_at hl 1 rfl) ?_
  refine lv_ldc2 (v := 1099511627775) hx hb hown (hE.t w450 rfl) d_M_retain_22 ?_
  refine W.lcmp hx hb d_M_retain_25 ?_
  refine lv_if_le hx hb d_M_retain_26 (tgt := 33) rfl (fun _ => ?_) (fun h9 => absurd ((lg_cmp_le _ _).mpr h2) h9)
  refine lv_iconst (v := 0) hx hb d_M_retain_33 (by decide) ?_
  refine pF hx hb hown hE hK hP hD hS 0 rfl rfl layM tyM tokM nmM 0 (by decide) w319 rfl rfl rfl (by simp [hl_fs]) d_M_retain_34 (fun H locs hP hD hS => ?_)
  have hP : va_P D vwCl [(a, .inr (9, (fs.set 0 (.int 0))))] H := hP
  have hD : va_D A [(a, .inr (9, (fs.set 0 (.int 0))))] := hD
  refine lv_aload_n hx hb d_M_retain_37 rfl (lv_at hl 0 rfl) ?_
  refine gF (v := .int 0) hx hb hown hE hK hP 0 rfl rfl layM 0 (by decide) w319 (by simp [hl_fs]) d_M_retain_38 ?_
  refine lv_if_gt hx hb d_M_retain_41 (tgt := 53) rfl (fun h9 => absurd h9 (by decide)) (fun _ => ?_)
  refine lv_lload_n hx hb d_M_retain_44 rfl (lv_at hl 1 rfl) ?_
  refine lv_aload_n hx hb d_M_retain_45 rfl (lv_at hl 0 rfl) ?_
  refine gF (v := .long 0) hx hb hown hE hK hP 0 rfl rfl layM 24 (by decide) w421 (by simp [h_fs_horizon]) d_M_retain_46 ?_
  refine W.lcmp hx hb d_M_retain_49 ?_
  refine lv_if_ne hx hb d_M_retain_50 (tgt := 55) rfl (fun _ => ?_) (fun h9 => absurd h9 (mt (lg_cmp_eq _ _).mp h3))
  refine lv_aload_n hx hb d_M_retain_55 rfl (lv_at hl 0 rfl) ?_
  have hPc := hP.sub (ws' := [(a, .inr (9, (fs.set 0 (.int 0))))]) [0] rfl
  have hDc := hD.sub (ws' := [(a, .inr (9, (fs.set 0 (.int 0))))]) [0] (by decide) rfl
  refine jnI (rnV (As := []) (rest := []) hx hb hml hown hE hK (hN _ _ hS) hPc hDc (c_M_synced l D dA H.size a (fs.set 0 (.int 0)) (by simp [h_fs_records]) (by simp [h_fs_fresh]) (by simp [hl_fs])) (q0 := 0) rfl rfl w341 w340 w342 w343 w328 rfl rfl ⟨⟨by decide, by decide⟩, rfl⟩ ⟨(Nat.le_of_ble_eq_true rfl), (Nat.le_of_ble_eq_true rfl)⟩ rfl hl.1 rfl (Nat.le_of_ble_eq_true rfl) d_M_retain_56 ⟨(Nat.le_of_ble_eq_true rfl), (Nat.le_of_ble_eq_true rfl)⟩) hP hD hS hA [0] [] (wr := []) rfl rfl (by decide) (by decide) (fun r1 u9 H locs hp9 hP hD hS => ?_)
  have hP : va_P D vwCl [(a, .inr (9, (((fs.set 0 (.int 0)).set 41 (.int 0)).set 38 (.int 0))))] H := hP
  have hD : va_D A [(a, .inr (9, (((fs.set 0 (.int 0)).set 41 (.int 0)).set 38 (.int 0))))] := hD
  have hp9 : 1 = r1 := Eq.symm hp9
  subst hp9
  refine lv_if_eq hx hb d_M_retain_59 (tgt := 69) rfl (fun h9 => absurd h9 (by decide)) (fun _ => ?_)
  refine lv_aload_n hx hb d_M_retain_62 rfl (lv_at hl 0 rfl) ?_
  have hPc := hP.sub (ws' := [(a, .inr (9, (((fs.set 0 (.int 0)).set 41 (.int 0)).set 38 (.int 0))))]) [0] rfl
  have hDc := hD.sub (ws' := [(a, .inr (9, (((fs.set 0 (.int 0)).set 41 (.int 0)).set 38 (.int 0))))]) [0] (by decide) rfl
  refine jnI (rnV (As := []) (rest := []) hx hb hml hown hE hK (hN _ _ hS) hPc hDc (c_M_write l D dA H.size a (((fs.set 0 (.int 0)).set 41 (.int 0)).set 38 (.int 0)) (by simp [h_fs_cutLeft]) (by simp [h_fs_written]) (by simp [hl_fs])) (q0 := 0) rfl rfl w452 w451 w453 w454 w328 rfl rfl ⟨⟨by decide, by decide⟩, rfl⟩ ⟨(Nat.le_of_ble_eq_true rfl), (Nat.le_of_ble_eq_true rfl)⟩ rfl hl.1 rfl (Nat.le_of_ble_eq_true rfl) d_M_retain_63 ⟨(Nat.le_of_ble_eq_true rfl), (Nat.le_of_ble_eq_true rfl)⟩) hP hD hS hA [0] [] (wr := []) rfl rfl (by decide) (by decide) (fun r2 u9 H locs hp9 hP hD hS => ?_)
  have hP : va_P D vwCl [(a, .inr (9, (((((fs.set 0 (.int 0)).set 41 (.int 0)).set 38 (.int 0)).set 8 (.int (-1))).set 9 (.int 1))))] H := hP
  have hD : va_D A [(a, .inr (9, (((((fs.set 0 (.int 0)).set 41 (.int 0)).set 38 (.int 0)).set 8 (.int (-1))).set 9 (.int 1))))] := hD
  have hp9 : 1 = r2 := Eq.symm hp9
  subst hp9
  refine lv_if_ne hx hb d_M_retain_66 (tgt := 76) rfl (fun _ => ?_) (fun h9 => absurd h9 (by decide))
  refine lv_iconst (v := 0) hx hb d_M_retain_76 (by decide) ?_
  refine lv_istore_n hx hb d_M_retain_77 rfl hl (by decide) rfl (fun ls hl => ?_)
  have hl : lv_has ls 7 [(3, .int 0), (0, .ref a), (1, .long t)] := hl
  refine lv_iconst (v := 0) hx hb d_M_retain_78 (by decide) ?_
  refine lv_istore hx hb d_M_retain_79 hl (by decide) rfl (fun ls hl => ?_)
  have hl : lv_has ls 7 [(4, .int 0), (3, .int 0), (0, .ref a), (1, .long t)] := hl
  refine lv_iload hx hb d_M_retain_81 (lv_at hl 0 rfl) ?_
  refine lv_aload_n hx hb d_M_retain_83 rfl (lv_at hl 2 rfl) ?_
  refine gF (v := .int 0) hx hb hown hE hK hP 0 rfl rfl layM 23 (by decide) w420 (by simp [h_fs_points]) d_M_retain_84 ?_
  refine lv_icmp_ge hx hb d_M_retain_87 (tgt := 125) rfl (fun _ => ?_) (fun h9 => absurd (by decide) h9)
  refine lv_aload_n hx hb d_M_retain_125 rfl (lv_at hl 2 rfl) ?_
  refine lv_lload_n hx hb d_M_retain_126 rfl (lv_at hl 3 rfl) ?_
  refine pF hx hb hown hE hK hP hD hS 0 rfl rfl layM tyM tokM nmM 24 (by decide) w421 rfl rfl rfl (by simp [hl_fs]) d_M_retain_127 (fun H locs hP hD hS => ?_)
  have hP : va_P D vwCl [(a, .inr (9, ((((((fs.set 0 (.int 0)).set 41 (.int 0)).set 38 (.int 0)).set 8 (.int (-1))).set 9 (.int 1)).set 24 (.long t))))] H := hP
  have hD : va_D A [(a, .inr (9, ((((((fs.set 0 (.int 0)).set 41 (.int 0)).set 38 (.int 0)).set 8 (.int (-1))).set 9 (.int 1)).set 24 (.long t))))] := hD
  refine lv_iconst (v := 0) hx hb d_M_retain_130 (by decide) ?_
  refine lv_istore hx hb d_M_retain_131 hl (by decide) rfl (fun ls hl => ?_)
  have hl : lv_has ls 7 [(4, .int 0), (3, .int 0), (0, .ref a), (1, .long t)] := hl
  refine lv_iload hx hb d_M_retain_133 (lv_at hl 0 rfl) ?_
  refine lv_aload_n hx hb d_M_retain_135 rfl (lv_at hl 2 rfl) ?_
  refine gF (v := .int 0) hx hb hown hE hK hP 0 rfl rfl layM 23 (by decide) w420 (by simp [h_fs_points]) d_M_retain_136 ?_
  refine lv_icmp_ge hx hb d_M_retain_139 (tgt := 190) rfl (fun _ => ?_) (fun h9 => absurd (by decide) h9)
  refine lv_aload_n hx hb d_M_retain_190 rfl (lv_at hl 2 rfl) ?_
  refine gF (v := .int 0) hx hb hown hE hK hP 0 rfl rfl layM 28 (by decide) w344 (by simp [h_fs_parcelCount]) d_M_retain_191 ?_
  refine lv_iconst (v := 1) hx hb d_M_retain_194 (by decide) ?_
  refine lv_isub hx hb d_M_retain_195 (tpi (y := (-1)) (by decide) ?_)
  refine lv_istore hx hb d_M_retain_196 hl (by decide) rfl (fun ls hl => ?_)
  have hl : lv_has ls 7 [(4, .int (-1)), (3, .int 0), (0, .ref a), (1, .long t)] := hl
  refine lv_iload hx hb d_M_retain_198 (lv_at hl 0 rfl) ?_
  refine lv_if_lt hx hb d_M_retain_200 (tgt := 341) rfl (fun _ => ?_) (fun h9 => absurd (by decide) h9)
  refine lv_aload_n hx hb d_M_retain_341 rfl (lv_at hl 2 rfl) ?_
  have hPc := hP.sub (ws' := [(a, .inr (9, ((((((fs.set 0 (.int 0)).set 41 (.int 0)).set 38 (.int 0)).set 8 (.int (-1))).set 9 (.int 1)).set 24 (.long t))))]) [0] rfl
  have hDc := hD.sub (ws' := [(a, .inr (9, ((((((fs.set 0 (.int 0)).set 41 (.int 0)).set 38 (.int 0)).set 8 (.int (-1))).set 9 (.int 1)).set 24 (.long t))))]) [0] (by decide) rfl
  refine jnV (rnV (As := []) (rest := []) hx hb hml hown hE hK (hN _ _ hS) hPc hDc (c_M_tidy_0 l D dA H.size a ((((((fs.set 0 (.int 0)).set 41 (.int 0)).set 38 (.int 0)).set 8 (.int (-1))).set 9 (.int 1)).set 24 (.long t)) (by simp [h_fs_points]) (by simp [hl_fs])) (q0 := 0) rfl rfl w456 w455 w457 w458 w328 rfl rfl ⟨⟨by decide, by decide⟩, rfl⟩ ⟨(Nat.le_of_ble_eq_true rfl), (Nat.le_of_ble_eq_true rfl)⟩ rfl hl.1 rfl (Nat.le_of_ble_eq_true rfl) d_M_retain_342 ⟨(Nat.le_of_ble_eq_true rfl), (Nat.le_of_ble_eq_true rfl)⟩) hP hD hS hA [0] [] (wr := []) rfl rfl (by decide) (by decide) (fun u9 H locs hp9 hP hD hS => ?_)
  have hP : va_P D vwCl [(a, .inr (9, (((((((fs.set 0 (.int 0)).set 41 (.int 0)).set 38 (.int 0)).set 8 (.int (-1))).set 9 (.int 1)).set 24 (.long t)).set 23 (.int 0))))] H := hP
  have hD : va_D A [(a, .inr (9, (((((((fs.set 0 (.int 0)).set 41 (.int 0)).set 38 (.int 0)).set 8 (.int (-1))).set 9 (.int 1)).set 24 (.long t)).set 23 (.int 0))))] := hD
  refine lv_aload_n hx hb d_M_retain_345 rfl (lv_at hl 2 rfl) ?_
  have hPc := hP.sub (ws' := [(a, .inr (9, (((((((fs.set 0 (.int 0)).set 41 (.int 0)).set 38 (.int 0)).set 8 (.int (-1))).set 9 (.int 1)).set 24 (.long t)).set 23 (.int 0))))]) [0] rfl
  have hDc := hD.sub (ws' := [(a, .inr (9, (((((((fs.set 0 (.int 0)).set 41 (.int 0)).set 38 (.int 0)).set 8 (.int (-1))).set 9 (.int 1)).set 24 (.long t)).set 23 (.int 0))))]) [0] (by decide) rfl
  refine jnV (rnV (As := []) (rest := []) hx hb hml hown hE hK (hN _ _ hS) hPc hDc (c_M_shown_0 l D dA H.size a (((((((fs.set 0 (.int 0)).set 41 (.int 0)).set 38 (.int 0)).set 8 (.int (-1))).set 9 (.int 1)).set 24 (.long t)).set 23 (.int 0)) t (by simp [hl_fs]) (by simp [hl_fs]) (by simp [hl_fs])) (q0 := 0) rfl rfl w460 w459 w461 w462 w328 rfl rfl ⟨⟨by decide, by decide⟩, rfl⟩ ⟨(Nat.le_of_ble_eq_true rfl), (Nat.le_of_ble_eq_true rfl)⟩ rfl hl.1 rfl (Nat.le_of_ble_eq_true rfl) d_M_retain_346 ⟨(Nat.le_of_ble_eq_true rfl), (Nat.le_of_ble_eq_true rfl)⟩) hP hD hS hA [0] [] (wr := []) rfl rfl (by decide) (by decide) (fun u9 H locs hp9 hP hD hS => ?_)
  have hP : va_P D vwCl [(a, .inr (9, ((((((((fs.set 0 (.int 0)).set 41 (.int 0)).set 38 (.int 0)).set 8 (.int (-1))).set 9 (.int 1)).set 24 (.long t)).set 23 (.int 0)).set 25 (.long t))))] H := hP
  have hD : va_D A [(a, .inr (9, ((((((((fs.set 0 (.int 0)).set 41 (.int 0)).set 38 (.int 0)).set 8 (.int (-1))).set 9 (.int 1)).set 24 (.long t)).set 23 (.int 0)).set 25 (.long t))))] := hD
  refine lv_iload_n hx hb d_M_retain_349 rfl (lv_at hl 1 rfl) ?_
  exact rtI hx hb hr hlk hP hD hS () rfl [0] rfl rfl (by decide) (Nat.le_of_ble_eq_true rfl) (Nat.le_of_ble_eq_true rfl) d_M_retain_350
end
section
theorem d_M_at_0 : decode prog_14_method_56_code 0 = .ok (.iload_n 1, 1) := by decide +kernel
theorem d_M_at_1 : decode prog_14_method_56_code 1 = .ok (.ifCond .lt 24, 3) := by decide +kernel
theorem d_M_at_25 : decode prog_14_method_56_code 25 = .ok (.iconst 0, 1) := by decide +kernel
theorem d_M_at_26 : decode prog_14_method_56_code 26 = .ok (.ireturn, 1) := by decide +kernel
theorem d_M_at_4 : decode prog_14_method_56_code 4 = .ok (.iload_n 1, 1) := by decide +kernel
theorem d_M_at_5 : decode prog_14_method_56_code 5 = .ok (.aload_n 0, 1) := by decide +kernel
theorem d_M_at_6 : decode prog_14_method_56_code 6 = .ok (.getfield 148, 3) := by decide +kernel
theorem d_M_at_9 : decode prog_14_method_56_code 9 = .ok (.if_icmp .ge 16, 3) := by decide +kernel
set_option maxHeartbeats 4000000 in
set_option maxRecDepth 100000 in
theorem c_M_at_0 (l : Launch) (D : va_G) (dA : Nat → ClassId) (sz : Nat) (a : Nat) (fs : List Value) (n : Int32) (h_fs_length : fs[2]? = some (.int 0)) (hl_fs : fs.length = 79) : Met l ⟨"SeriesVaultModel", "at", "(I)I"⟩ [Cond.code ⟨"SeriesVaultModel", "at", "(I)I"⟩ prog_14_method_56_code 2 (some FieldType.int)] { frames := 1, cells := 0, slots := 0, locals := 0 } (pC D dA [.ref a, .int n] [(a, .inr (9, fs))] sz) (va_Qi (fun (r : Int32) (_ : Unit) => r = 0) (fun (u9 : Unit) t9 => bW D (va_A [(a, .inr (9, fs))] sz) [(a, .inr (9, fs))] t9) (va_A [(a, .inr (9, fs))] sz)) 0 0 (va_A [(a, .inr (9, fs))] sz) := by
  refine mkC (Qc := fun A => va_Qi (fun (r : Int32) (_ : Unit) => r = 0) (fun (u9 : Unit) t9 => bW D A [(a, .inr (9, fs))] t9) A) (by decide) (Nat.le_of_ble_eq_true rfl) ?_
  intro A p e s m below meth c ls hsz hB
  obtain ⟨hx, hb, hr, hml, hown, hin, hlk, hE, hK, hP, hD, hS, hA, hN, hl⟩ := hB
  have hown : s.vm.findClass "SeriesVaultModel" = some m.cls := hown
  have hin : meth.name = "at" := hin
  have hl : lv_has ls 2 [(0, .ref a), (1, .int n)] := hl
  obtain ⟨H, hH⟩ : ∃ z, z = s.heap := ⟨_, rfl⟩
  have hP : va_P D vwCl [(a, .inr (9, fs))] H := by rw [hH]; exact hP
  have hS : va_S A s.heap H [] := by rw [hH]; exact hS
  rw [← hH]
  refine lv_iload_n hx hb d_M_at_0 rfl (lv_at hl 1 rfl) ?_
  refine lv_if_lt hx hb d_M_at_1 (tgt := 25) rfl (fun hc => ?_) (fun hc => ?_)
  · refine lv_iconst (v := 0) hx hb d_M_at_25 (by decide) ?_
    exact rtI hx hb hr hlk hP hD hS () rfl [0] rfl rfl (by decide) (Nat.le_of_ble_eq_true rfl) (Nat.le_of_ble_eq_true rfl) d_M_at_26
  · refine lv_iload_n hx hb d_M_at_4 rfl (lv_at hl 1 rfl) ?_
    refine lv_aload_n hx hb d_M_at_5 rfl (lv_at hl 0 rfl) ?_
    refine gF (v := .int 0) hx hb hown hE hK hP 0 rfl rfl layM 2 (by decide) w320 h_fs_length d_M_at_6 ?_
    refine lv_icmp_ge hx hb d_M_at_9 (tgt := 25) rfl (fun _ => ?_) (fun h9 => absurd (Int32.not_lt.mp hc) h9)
    refine lv_iconst (v := 0) hx hb d_M_at_25 (by decide) ?_
    exact rtI hx hb hr hlk hP hD hS () rfl [0] rfl rfl (by decide) (Nat.le_of_ble_eq_true rfl) (Nat.le_of_ble_eq_true rfl) d_M_at_26
theorem d_M_next_0 : decode prog_14_method_57_code 0 = .ok (.aload_n 0, 1) := by decide +kernel
theorem d_M_next_1 : decode prog_14_method_57_code 1 = .ok (.getfield 342, 3) := by decide +kernel
theorem d_M_next_4 : decode prog_14_method_57_code 4 = .ok (.aload_n 0, 1) := by decide +kernel
theorem d_M_next_5 : decode prog_14_method_57_code 5 = .ok (.getfield 148, 3) := by decide +kernel
theorem d_M_next_8 : decode prog_14_method_57_code 8 = .ok (.if_icmp .ge 30, 3) := by decide +kernel
theorem d_M_next_38 : decode prog_14_method_57_code 38 = .ok (.aload_n 0, 1) := by decide +kernel
theorem d_M_next_39 : decode prog_14_method_57_code 39 = .ok (.aload_n 0, 1) := by decide +kernel
theorem d_M_next_40 : decode prog_14_method_57_code 40 = .ok (.getfield 342, 3) := by decide +kernel
theorem d_M_next_43 : decode prog_14_method_57_code 43 = .ok (.putfield 345, 3) := by decide +kernel
theorem d_M_next_46 : decode prog_14_method_57_code 46 = .ok (.aload_n 0, 1) := by decide +kernel
theorem d_M_next_47 : decode prog_14_method_57_code 47 = .ok (.aload_n 0, 1) := by decide +kernel
theorem d_M_next_48 : decode prog_14_method_57_code 48 = .ok (.getfield 345, 3) := by decide +kernel
theorem d_M_next_51 : decode prog_14_method_57_code 51 = .ok (.invokevirtual 348, 3) := by decide +kernel
theorem d_M_next_54 : decode prog_14_method_57_code 54 = .ok (.istore_n 1, 1) := by decide +kernel
theorem d_M_next_55 : decode prog_14_method_57_code 55 = .ok (.aload_n 0, 1) := by decide +kernel
theorem d_M_next_56 : decode prog_14_method_57_code 56 = .ok (.getfield 345, 3) := by decide +kernel
theorem d_M_next_59 : decode prog_14_method_57_code 59 = .ok (.aload_n 0, 1) := by decide +kernel
theorem d_M_next_60 : decode prog_14_method_57_code 60 = .ok (.getfield 148, 3) := by decide +kernel
theorem d_M_next_63 : decode prog_14_method_57_code 63 = .ok (.if_icmp .lt 11, 3) := by decide +kernel
theorem d_M_next_66 : decode prog_14_method_57_code 66 = .ok (.aload_n 0, 1) := by decide +kernel
theorem d_M_next_67 : decode prog_14_method_57_code 67 = .ok (.iconst 0, 1) := by decide +kernel
theorem d_M_next_68 : decode prog_14_method_57_code 68 = .ok (.putfield 351, 3) := by decide +kernel
theorem d_M_next_71 : decode prog_14_method_57_code 71 = .ok (.goto 204, 3) := by decide +kernel
theorem d_M_next_275 : decode prog_14_method_57_code 275 = .ok (.iconst 1, 1) := by decide +kernel
theorem d_M_next_276 : decode prog_14_method_57_code 276 = .ok (.ireturn, 1) := by decide +kernel
theorem w463 : Cond.fieldLink "SeriesVaultModel" 342 "SeriesVaultModel" "to" "I" ∈ aW := aw_of (tb_8 (List.mem_of_getElem? (i := 220) rfl)) rfl
theorem w464 : Cond.fieldLink "SeriesVaultModel" 345 "SeriesVaultModel" "from" "I" ∈ aW := aw_of (tb_8 (List.mem_of_getElem? (i := 219) rfl)) rfl
theorem w465 : Cond.methodLink "SeriesVaultModel" 348 ⟨"SeriesVaultModel", "at", "(I)I"⟩ ∈ aW := aw_of (tb_10 (List.mem_of_getElem? (i := 161) rfl)) rfl
theorem w466 : Cond.code ⟨"SeriesVaultModel", "at", "(I)I"⟩ prog_14_method_56_code 2 (some FieldType.int) ∈ aW := aw_of (tb_10 (List.mem_of_getElem? (i := 164) rfl)) rfl
theorem w467 : Cond.instanceMethod ⟨"SeriesVaultModel", "at", "(I)I"⟩ ∈ aW := aw_of (tb_10 (List.mem_of_getElem? (i := 163) rfl)) rfl
theorem w468 : Cond.selects "SeriesVaultModel" ⟨"SeriesVaultModel", "at", "(I)I"⟩ ⟨"SeriesVaultModel", "at", "(I)I"⟩ ∈ aW := aw_pr (List.mem_map.mpr ⟨_, pv_7 (List.mem_of_getElem? (i := 0) rfl), rfl⟩) rfl
theorem w469 : Cond.fieldLink "SeriesVaultModel" 351 "SeriesVaultModel" "kind" "I" ∈ aW := aw_of (tb_8 (List.mem_of_getElem? (i := 218) rfl)) rfl
set_option maxHeartbeats 4000000 in
set_option maxRecDepth 100000 in
theorem c_M_next_0 (l : Launch) (D : va_G) (dA : Nat → ClassId) (sz : Nat) (a : Nat) (fs : List Value) (h_fs_length : fs[2]? = some (.int 0)) (h_fs_to : fs[46]? = some (.int 0)) (hl_fs : fs.length = 79) : Met l ⟨"SeriesVaultModel", "next", "()Z"⟩ [Cond.code ⟨"SeriesVaultModel", "next", "()Z"⟩ prog_14_method_57_code 2 (some FieldType.boolean)] { frames := 2, cells := 0, slots := 0, locals := 21 } (pC D dA [.ref a] [(a, .inr (9, fs))] sz) (va_Qi (fun (r : Int32) (_ : Unit) => r = 1) (fun (u9 : Unit) t9 => bW D (va_A [(a, .inr (9, fs))] sz) [(a, .inr (9, ((fs.set 45 (.int 0)).set 44 (.int 0))))] t9) (va_A [(a, .inr (9, fs))] sz)) 0 0 (va_A [(a, .inr (9, fs))] sz) := by
  refine mkC (Qc := fun A => va_Qi (fun (r : Int32) (_ : Unit) => r = 1) (fun (u9 : Unit) t9 => bW D A [(a, .inr (9, ((fs.set 45 (.int 0)).set 44 (.int 0))))] t9) A) (by decide) (Nat.le_of_ble_eq_true rfl) ?_
  intro A p e s m below meth c ls hsz hB
  obtain ⟨hx, hb, hr, hml, hown, hin, hlk, hE, hK, hP, hD, hS, hA, hN, hl⟩ := hB
  have hown : s.vm.findClass "SeriesVaultModel" = some m.cls := hown
  have hin : meth.name = "next" := hin
  have hl : lv_has ls 2 [(0, .ref a)] := hl
  obtain ⟨H, hH⟩ : ∃ z, z = s.heap := ⟨_, rfl⟩
  have hP : va_P D vwCl [(a, .inr (9, fs))] H := by rw [hH]; exact hP
  have hS : va_S A s.heap H [] := by rw [hH]; exact hS
  rw [← hH]
  refine lv_aload_n hx hb d_M_next_0 rfl (lv_at hl 0 rfl) ?_
  refine gF (v := .int 0) hx hb hown hE hK hP 0 rfl rfl layM 46 (by decide) w463 h_fs_to d_M_next_1 ?_
  refine lv_aload_n hx hb d_M_next_4 rfl (lv_at hl 0 rfl) ?_
  refine gF (v := .int 0) hx hb hown hE hK hP 0 rfl rfl layM 2 (by decide) w320 h_fs_length d_M_next_5 ?_
  refine lv_icmp_ge hx hb d_M_next_8 (tgt := 38) rfl (fun _ => ?_) (fun h9 => absurd (by decide) h9)
  refine lv_aload_n hx hb d_M_next_38 rfl (lv_at hl 0 rfl) ?_
  refine lv_aload_n hx hb d_M_next_39 rfl (lv_at hl 0 rfl) ?_
  refine gF (v := .int 0) hx hb hown hE hK hP 0 rfl rfl layM 46 (by decide) w463 h_fs_to d_M_next_40 ?_
  refine pF hx hb hown hE hK hP hD hS 0 rfl rfl layM tyM tokM nmM 45 (by decide) w464 rfl rfl rfl (by simp [hl_fs]) d_M_next_43 (fun H locs hP hD hS => ?_)
  have hP : va_P D vwCl [(a, .inr (9, (fs.set 45 (.int 0))))] H := hP
  have hD : va_D A [(a, .inr (9, (fs.set 45 (.int 0))))] := hD
  refine lv_aload_n hx hb d_M_next_46 rfl (lv_at hl 0 rfl) ?_
  refine lv_aload_n hx hb d_M_next_47 rfl (lv_at hl 0 rfl) ?_
  refine gF (v := .int 0) hx hb hown hE hK hP 0 rfl rfl layM 45 (by decide) w464 (by simp [hl_fs]) d_M_next_48 ?_
  have hPc := hP.sub (ws' := [(a, .inr (9, (fs.set 45 (.int 0))))]) [0] rfl
  have hDc := hD.sub (ws' := [(a, .inr (9, (fs.set 45 (.int 0))))]) [0] (by decide) rfl
  refine jnI (rnV (As := [.int 0]) (rest := []) hx hb hml hown hE hK (hN _ _ hS) hPc hDc (c_M_at_0 l D dA H.size a (fs.set 45 (.int 0)) 0 (by simp [h_fs_length]) (by simp [hl_fs])) (q0 := 0) rfl rfl w466 w465 w467 w468 w328 rfl rfl ⟨⟨by decide, by decide⟩, rfl⟩ ⟨(Nat.le_of_ble_eq_true rfl), (Nat.le_of_ble_eq_true rfl)⟩ rfl hl.1 rfl (Nat.le_of_ble_eq_true rfl) d_M_next_51 ⟨(Nat.le_of_ble_eq_true rfl), (Nat.le_of_ble_eq_true rfl)⟩) hP hD hS hA [0] [] (wr := []) rfl rfl (by decide) (by decide) (fun r1 u9 H locs hp9 hP hD hS => ?_)
  have hP : va_P D vwCl [(a, .inr (9, (fs.set 45 (.int 0))))] H := hP
  have hD : va_D A [(a, .inr (9, (fs.set 45 (.int 0))))] := hD
  have hp9 : 0 = r1 := Eq.symm hp9
  subst hp9
  refine lv_istore_n hx hb d_M_next_54 rfl hl (by decide) rfl (fun ls hl => ?_)
  have hl : lv_has ls 2 [(1, .int 0), (0, .ref a)] := hl
  refine lv_aload_n hx hb d_M_next_55 rfl (lv_at hl 1 rfl) ?_
  refine gF (v := .int 0) hx hb hown hE hK hP 0 rfl rfl layM 45 (by decide) w464 (by simp [hl_fs]) d_M_next_56 ?_
  refine lv_aload_n hx hb d_M_next_59 rfl (lv_at hl 1 rfl) ?_
  refine gF (v := .int 0) hx hb hown hE hK hP 0 rfl rfl layM 2 (by decide) w320 (by simp [h_fs_length]) d_M_next_60 ?_
  refine lv_icmp_lt hx hb d_M_next_63 (tgt := 74) rfl (fun h9 => absurd h9 (by decide)) (fun _ => ?_)
  refine lv_aload_n hx hb d_M_next_66 rfl (lv_at hl 1 rfl) ?_
  refine lv_iconst (v := 0) hx hb d_M_next_67 (by decide) ?_
  refine pF hx hb hown hE hK hP hD hS 0 rfl rfl layM tyM tokM nmM 44 (by decide) w469 rfl rfl rfl (by simp [hl_fs]) d_M_next_68 (fun H locs hP hD hS => ?_)
  have hP : va_P D vwCl [(a, .inr (9, ((fs.set 45 (.int 0)).set 44 (.int 0))))] H := hP
  have hD : va_D A [(a, .inr (9, ((fs.set 45 (.int 0)).set 44 (.int 0))))] := hD
  refine lv_goto hx hb d_M_next_71 (tgt := 275) rfl ?_
  refine lv_iconst (v := 1) hx hb d_M_next_275 (by decide) ?_
  exact rtZ hx hb hr (by decide) hlk hP hD hS () rfl [0] rfl rfl (by decide) (Nat.le_of_ble_eq_true rfl) (Nat.le_of_ble_eq_true rfl) d_M_next_276
theorem d_M_function_0 : decode prog_14_method_62_code 0 = .ok (.aload_n 0, 1) := by decide +kernel
theorem d_M_function_1 : decode prog_14_method_62_code 1 = .ok (.getfield 351, 3) := by decide +kernel
theorem d_M_function_4 : decode prog_14_method_62_code 4 = .ok (.iconst 2, 1) := by decide +kernel
theorem d_M_function_5 : decode prog_14_method_62_code 5 = .ok (.if_icmp .ne 15, 3) := by decide +kernel
theorem d_M_function_20 : decode prog_14_method_62_code 20 = .ok (.iconst 0, 1) := by decide +kernel
theorem d_M_function_21 : decode prog_14_method_62_code 21 = .ok (.istore_n 1, 1) := by decide +kernel
theorem d_M_function_22 : decode prog_14_method_62_code 22 = .ok (.iload_n 1, 1) := by decide +kernel
theorem d_M_function_23 : decode prog_14_method_62_code 23 = .ok (.iconst 3, 1) := by decide +kernel
theorem d_M_function_24 : decode prog_14_method_62_code 24 = .ok (.if_icmp .ne 25, 3) := by decide +kernel
theorem d_M_function_49 : decode prog_14_method_62_code 49 = .ok (.iload_n 1, 1) := by decide +kernel
theorem d_M_function_50 : decode prog_14_method_62_code 50 = .ok (.iconst 4, 1) := by decide +kernel
theorem d_M_function_51 : decode prog_14_method_62_code 51 = .ok (.if_icmp .ne 25, 3) := by decide +kernel
theorem d_M_function_76 : decode prog_14_method_62_code 76 = .ok (.aload_n 0, 1) := by decide +kernel
theorem d_M_function_77 : decode prog_14_method_62_code 77 = .ok (.aload_n 0, 1) := by decide +kernel
theorem d_M_function_78 : decode prog_14_method_62_code 78 = .ok (.getfield 342, 3) := by decide +kernel
theorem d_M_function_81 : decode prog_14_method_62_code 81 = .ok (.iconst 1, 1) := by decide +kernel
theorem d_M_function_82 : decode prog_14_method_62_code 82 = .ok (.isub, 1) := by decide +kernel
theorem d_M_function_83 : decode prog_14_method_62_code 83 = .ok (.invokevirtual 348, 3) := by decide +kernel
theorem d_M_function_86 : decode prog_14_method_62_code 86 = .ok (.istore_n 2, 1) := by decide +kernel
theorem d_M_function_87 : decode prog_14_method_62_code 87 = .ok (.aload_n 0, 1) := by decide +kernel
theorem d_M_function_88 : decode prog_14_method_62_code 88 = .ok (.aload_n 0, 1) := by decide +kernel
theorem d_M_function_89 : decode prog_14_method_62_code 89 = .ok (.getfield 342, 3) := by decide +kernel
theorem d_M_function_92 : decode prog_14_method_62_code 92 = .ok (.iconst 2, 1) := by decide +kernel
theorem d_M_function_93 : decode prog_14_method_62_code 93 = .ok (.isub, 1) := by decide +kernel
theorem d_M_function_94 : decode prog_14_method_62_code 94 = .ok (.invokevirtual 348, 3) := by decide +kernel
theorem d_M_function_97 : decode prog_14_method_62_code 97 = .ok (.istore_n 3, 1) := by decide +kernel
theorem d_M_function_98 : decode prog_14_method_62_code 98 = .ok (.iload_n 2, 1) := by decide +kernel
theorem d_M_function_99 : decode prog_14_method_62_code 99 = .ok (.bipush 116, 2) := by decide +kernel
theorem d_M_function_101 : decode prog_14_method_62_code 101 = .ok (.if_icmp .ne 7, 3) := by decide +kernel
theorem d_M_function_108 : decode prog_14_method_62_code 108 = .ok (.iconst 0, 1) := by decide +kernel
theorem d_M_function_109 : decode prog_14_method_62_code 109 = .ok (.istore 4, 2) := by decide +kernel
theorem d_M_function_111 : decode prog_14_method_62_code 111 = .ok (.iload_n 1, 1) := by decide +kernel
theorem d_M_function_112 : decode prog_14_method_62_code 112 = .ok (.iconst 5, 1) := by decide +kernel
theorem d_M_function_113 : decode prog_14_method_62_code 113 = .ok (.if_icmp .ne 89, 3) := by decide +kernel
theorem d_M_function_202 : decode prog_14_method_62_code 202 = .ok (.iload_n 1, 1) := by decide +kernel
theorem d_M_function_203 : decode prog_14_method_62_code 203 = .ok (.bipush 6, 2) := by decide +kernel
theorem d_M_function_205 : decode prog_14_method_62_code 205 = .ok (.if_icmp .eq 5, 3) := by decide +kernel
theorem d_M_function_208 : decode prog_14_method_62_code 208 = .ok (.iconst (-1), 1) := by decide +kernel
theorem d_M_function_209 : decode prog_14_method_62_code 209 = .ok (.ireturn, 1) := by decide +kernel
set_option maxHeartbeats 4000000 in
set_option maxRecDepth 100000 in
theorem c_M_function_0 (l : Launch) (D : va_G) (dA : Nat → ClassId) (sz : Nat) (a : Nat) (fs : List Value) (h_fs_length : fs[2]? = some (.int 0)) (h_fs_kind : fs[44]? = some (.int 0)) (h_fs_to : fs[46]? = some (.int 0)) (hl_fs : fs.length = 79) : Met l ⟨"SeriesVaultModel", "function", "()I"⟩ [Cond.code ⟨"SeriesVaultModel", "function", "()I"⟩ prog_14_method_62_code 5 (some FieldType.int)] { frames := 2, cells := 0, slots := 0, locals := 21 } (pC D dA [.ref a] [(a, .inr (9, fs))] sz) (va_Qi (fun (r : Int32) (_ : Unit) => r = (-1)) (fun (u9 : Unit) t9 => bW D (va_A [(a, .inr (9, fs))] sz) [(a, .inr (9, fs))] t9) (va_A [(a, .inr (9, fs))] sz)) 0 0 (va_A [(a, .inr (9, fs))] sz) := by
  refine mkC (Qc := fun A => va_Qi (fun (r : Int32) (_ : Unit) => r = (-1)) (fun (u9 : Unit) t9 => bW D A [(a, .inr (9, fs))] t9) A) (by decide) (Nat.le_of_ble_eq_true rfl) ?_
  intro A p e s m below meth c ls hsz hB
  obtain ⟨hx, hb, hr, hml, hown, hin, hlk, hE, hK, hP, hD, hS, hA, hN, hl⟩ := hB
  have hown : s.vm.findClass "SeriesVaultModel" = some m.cls := hown
  have hin : meth.name = "function" := hin
  have hl : lv_has ls 5 [(0, .ref a)] := hl
  obtain ⟨H, hH⟩ : ∃ z, z = s.heap := ⟨_, rfl⟩
  have hP : va_P D vwCl [(a, .inr (9, fs))] H := by rw [hH]; exact hP
  have hS : va_S A s.heap H [] := by rw [hH]; exact hS
  rw [← hH]
  refine lv_aload_n hx hb d_M_function_0 rfl (lv_at hl 0 rfl) ?_
  refine gF (v := .int 0) hx hb hown hE hK hP 0 rfl rfl layM 44 (by decide) w469 h_fs_kind d_M_function_1 ?_
  refine lv_iconst (v := 2) hx hb d_M_function_4 (by decide) ?_
  refine lv_icmp_ne hx hb d_M_function_5 (tgt := 20) rfl (fun _ => ?_) (fun h9 => absurd h9 (by decide))
  refine lv_iconst (v := 0) hx hb d_M_function_20 (by decide) ?_
  refine lv_istore_n hx hb d_M_function_21 rfl hl (by decide) rfl (fun ls hl => ?_)
  have hl : lv_has ls 5 [(1, .int 0), (0, .ref a)] := hl
  refine lv_iload_n hx hb d_M_function_22 rfl (lv_at hl 0 rfl) ?_
  refine lv_iconst (v := 3) hx hb d_M_function_23 (by decide) ?_
  refine lv_icmp_ne hx hb d_M_function_24 (tgt := 49) rfl (fun _ => ?_) (fun h9 => absurd h9 (by decide))
  refine lv_iload_n hx hb d_M_function_49 rfl (lv_at hl 0 rfl) ?_
  refine lv_iconst (v := 4) hx hb d_M_function_50 (by decide) ?_
  refine lv_icmp_ne hx hb d_M_function_51 (tgt := 76) rfl (fun _ => ?_) (fun h9 => absurd h9 (by decide))
  refine lv_aload_n hx hb d_M_function_76 rfl (lv_at hl 1 rfl) ?_
  refine lv_aload_n hx hb d_M_function_77 rfl (lv_at hl 1 rfl) ?_
  refine gF (v := .int 0) hx hb hown hE hK hP 0 rfl rfl layM 46 (by decide) w463 h_fs_to d_M_function_78 ?_
  refine lv_iconst (v := 1) hx hb d_M_function_81 (by decide) ?_
  refine lv_isub hx hb d_M_function_82 (tpi (y := (-1)) (by decide) ?_)
  have hPc := hP.sub (ws' := [(a, .inr (9, fs))]) [0] rfl
  have hDc := hD.sub (ws' := [(a, .inr (9, fs))]) [0] (by decide) rfl
  refine jnI (rnV (As := [.int (-1)]) (rest := []) hx hb hml hown hE hK (hN _ _ hS) hPc hDc (c_M_at_0 l D dA H.size a fs (-1) h_fs_length hl_fs) (q0 := 0) rfl rfl w466 w465 w467 w468 w328 rfl rfl ⟨⟨by decide, by decide⟩, rfl⟩ ⟨(Nat.le_of_ble_eq_true rfl), (Nat.le_of_ble_eq_true rfl)⟩ rfl hl.1 rfl (Nat.le_of_ble_eq_true rfl) d_M_function_83 ⟨(Nat.le_of_ble_eq_true rfl), (Nat.le_of_ble_eq_true rfl)⟩) hP hD hS hA [0] [] (wr := []) rfl rfl (by decide) (by decide) (fun r1 u9 H locs hp9 hP hD hS => ?_)
  have hP : va_P D vwCl [(a, .inr (9, fs))] H := hP
  have hD : va_D A [(a, .inr (9, fs))] := hD
  have hp9 : 0 = r1 := Eq.symm hp9
  subst hp9
  refine lv_istore_n hx hb d_M_function_86 rfl hl (by decide) rfl (fun ls hl => ?_)
  have hl : lv_has ls 5 [(2, .int 0), (1, .int 0), (0, .ref a)] := hl
  refine lv_aload_n hx hb d_M_function_87 rfl (lv_at hl 2 rfl) ?_
  refine lv_aload_n hx hb d_M_function_88 rfl (lv_at hl 2 rfl) ?_
  refine gF (v := .int 0) hx hb hown hE hK hP 0 rfl rfl layM 46 (by decide) w463 h_fs_to d_M_function_89 ?_
  refine lv_iconst (v := 2) hx hb d_M_function_92 (by decide) ?_
  refine lv_isub hx hb d_M_function_93 (tpi (y := (-2)) (by decide) ?_)
  have hPc := hP.sub (ws' := [(a, .inr (9, fs))]) [0] rfl
  have hDc := hD.sub (ws' := [(a, .inr (9, fs))]) [0] (by decide) rfl
  refine jnI (rnV (As := [.int (-2)]) (rest := []) hx hb hml hown hE hK (hN _ _ hS) hPc hDc (c_M_at_0 l D dA H.size a fs (-2) h_fs_length hl_fs) (q0 := 0) rfl rfl w466 w465 w467 w468 w328 rfl rfl ⟨⟨by decide, by decide⟩, rfl⟩ ⟨(Nat.le_of_ble_eq_true rfl), (Nat.le_of_ble_eq_true rfl)⟩ rfl hl.1 rfl (Nat.le_of_ble_eq_true rfl) d_M_function_94 ⟨(Nat.le_of_ble_eq_true rfl), (Nat.le_of_ble_eq_true rfl)⟩) hP hD hS hA [0] [] (wr := []) rfl rfl (by decide) (by decide) (fun r2 u9 H locs hp9 hP hD hS => ?_)
  have hP : va_P D vwCl [(a, .inr (9, fs))] H := hP
  have hD : va_D A [(a, .inr (9, fs))] := hD
  have hp9 : 0 = r2 := Eq.symm hp9
  subst hp9
  refine lv_istore_n hx hb d_M_function_97 rfl hl (by decide) rfl (fun ls hl => ?_)
  have hl : lv_has ls 5 [(3, .int 0), (2, .int 0), (1, .int 0), (0, .ref a)] := hl
  refine lv_iload_n hx hb d_M_function_98 rfl (lv_at hl 1 rfl) ?_
  refine lv_bipush (v := 116) hx hb d_M_function_99 (by decide) ?_
  refine lv_icmp_ne hx hb d_M_function_101 (tgt := 108) rfl (fun _ => ?_) (fun h9 => absurd h9 (by decide))
  refine lv_iconst (v := 0) hx hb d_M_function_108 (by decide) ?_
  refine lv_istore hx hb d_M_function_109 hl (by decide) rfl (fun ls hl => ?_)
  have hl : lv_has ls 5 [(4, .int 0), (3, .int 0), (2, .int 0), (1, .int 0), (0, .ref a)] := hl
  refine lv_iload_n hx hb d_M_function_111 rfl (lv_at hl 3 rfl) ?_
  refine lv_iconst (v := 5) hx hb d_M_function_112 (by decide) ?_
  refine lv_icmp_ne hx hb d_M_function_113 (tgt := 202) rfl (fun _ => ?_) (fun h9 => absurd h9 (by decide))
  refine lv_iload_n hx hb d_M_function_202 rfl (lv_at hl 3 rfl) ?_
  refine lv_bipush (v := 6) hx hb d_M_function_203 (by decide) ?_
  refine lv_icmp_eq hx hb d_M_function_205 (tgt := 210) rfl (fun h9 => absurd h9 (by decide)) (fun _ => ?_)
  refine lv_iconst (v := (-1)) hx hb d_M_function_208 (by decide) ?_
  exact rtI hx hb hr hlk hP hD hS () rfl [0] rfl rfl (by decide) (Nat.le_of_ble_eq_true rfl) (Nat.le_of_ble_eq_true rfl) d_M_function_209
theorem d_M_operand_0 : decode prog_14_method_86_code 0 = .ok (.aload_n 0, 1) := by decide +kernel
theorem d_M_operand_1 : decode prog_14_method_86_code 1 = .ok (.getfield 351, 3) := by decide +kernel
theorem d_M_operand_4 : decode prog_14_method_86_code 4 = .ok (.bipush 45, 2) := by decide +kernel
theorem d_M_operand_6 : decode prog_14_method_86_code 6 = .ok (.if_icmp .eq 12, 3) := by decide +kernel
theorem d_M_operand_9 : decode prog_14_method_86_code 9 = .ok (.aload_n 0, 1) := by decide +kernel
theorem d_M_operand_10 : decode prog_14_method_86_code 10 = .ok (.getfield 351, 3) := by decide +kernel
theorem d_M_operand_13 : decode prog_14_method_86_code 13 = .ok (.bipush 40, 2) := by decide +kernel
theorem d_M_operand_15 : decode prog_14_method_86_code 15 = .ok (.if_icmp .ne 24, 3) := by decide +kernel
theorem d_M_operand_39 : decode prog_14_method_86_code 39 = .ok (.aload_n 0, 1) := by decide +kernel
theorem d_M_operand_40 : decode prog_14_method_86_code 40 = .ok (.iconst 0, 1) := by decide +kernel
theorem d_M_operand_41 : decode prog_14_method_86_code 41 = .ok (.putfield 472, 3) := by decide +kernel
theorem d_M_operand_44 : decode prog_14_method_86_code 44 = .ok (.aload_n 0, 1) := by decide +kernel
theorem d_M_operand_45 : decode prog_14_method_86_code 45 = .ok (.invokevirtual 475, 3) := by decide +kernel
theorem d_M_operand_48 : decode prog_14_method_86_code 48 = .ok (.istore_n 1, 1) := by decide +kernel
theorem d_M_operand_49 : decode prog_14_method_86_code 49 = .ok (.aload_n 0, 1) := by decide +kernel
theorem d_M_operand_50 : decode prog_14_method_86_code 50 = .ok (.getfield 351, 3) := by decide +kernel
theorem d_M_operand_53 : decode prog_14_method_86_code 53 = .ok (.iconst 1, 1) := by decide +kernel
theorem d_M_operand_54 : decode prog_14_method_86_code 54 = .ok (.if_icmp .eq 17, 3) := by decide +kernel
theorem d_M_operand_57 : decode prog_14_method_86_code 57 = .ok (.iload_n 1, 1) := by decide +kernel
theorem d_M_operand_58 : decode prog_14_method_86_code 58 = .ok (.ifCond .ge 13, 3) := by decide +kernel
theorem d_M_operand_61 : decode prog_14_method_86_code 61 = .ok (.aload_n 0, 1) := by decide +kernel
theorem d_M_operand_62 : decode prog_14_method_86_code 62 = .ok (.iconst 2, 1) := by decide +kernel
theorem d_M_operand_63 : decode prog_14_method_86_code 63 = .ok (.aload_n 0, 1) := by decide +kernel
theorem d_M_operand_64 : decode prog_14_method_86_code 64 = .ok (.getfield 345, 3) := by decide +kernel
theorem d_M_operand_67 : decode prog_14_method_86_code 67 = .ok (.invokevirtual 224, 3) := by decide +kernel
theorem d_M_operand_70 : decode prog_14_method_86_code 70 = .ok (.ireturn, 1) := by decide +kernel
theorem w470 : Cond.fieldLink "SeriesVaultModel" 472 "SeriesVaultModel" "wants" "Z" ∈ aW := aw_of (tb_9 (List.mem_of_getElem? (i := 4) rfl)) rfl
theorem w471 : Cond.methodLink "SeriesVaultModel" 475 ⟨"SeriesVaultModel", "function", "()I"⟩ ∈ aW := aw_of (tb_10 (List.mem_of_getElem? (i := 189) rfl)) rfl
theorem w472 : Cond.code ⟨"SeriesVaultModel", "function", "()I"⟩ prog_14_method_62_code 5 (some FieldType.int) ∈ aW := aw_of (tb_10 (List.mem_of_getElem? (i := 192) rfl)) rfl
theorem w473 : Cond.instanceMethod ⟨"SeriesVaultModel", "function", "()I"⟩ ∈ aW := aw_of (tb_10 (List.mem_of_getElem? (i := 191) rfl)) rfl
theorem w474 : Cond.selects "SeriesVaultModel" ⟨"SeriesVaultModel", "function", "()I"⟩ ⟨"SeriesVaultModel", "function", "()I"⟩ ∈ aW := aw_pr (List.mem_map.mpr ⟨_, pv_7 (List.mem_of_getElem? (i := 5) rfl), rfl⟩) rfl
set_option maxHeartbeats 4000000 in
set_option maxRecDepth 100000 in
theorem c_M_operand_0 (l : Launch) (D : va_G) (dA : Nat → ClassId) (sz : Nat) (a : Nat) (fs : List Value) (h_fs_length : fs[2]? = some (.int 0)) (h_fs_faultCode : fs[3]? = some (.int 0)) (h_fs_kind : fs[44]? = some (.int 0)) (h_fs_from : fs[45]? = some (.int 0)) (h_fs_to : fs[46]? = some (.int 0)) (hl_fs : fs.length = 79) : Met l ⟨"SeriesVaultModel", "operand", "()Z"⟩ [Cond.code ⟨"SeriesVaultModel", "operand", "()Z"⟩ prog_14_method_86_code 2 (some FieldType.boolean)] { frames := 3, cells := 0, slots := 0, locals := 45 } (pC D dA [.ref a] [(a, .inr (9, fs))] sz) (va_Qi (fun (r : Int32) (_ : Unit) => r = 0) (fun (u9 : Unit) t9 => bW D (va_A [(a, .inr (9, fs))] sz) [(a, .inr (9, (((fs.set 70 (.int 0)).set 3 (.int 2)).set 4 (.int 0))))] t9) (va_A [(a, .inr (9, fs))] sz)) 0 0 (va_A [(a, .inr (9, fs))] sz) := by
  refine mkC (Qc := fun A => va_Qi (fun (r : Int32) (_ : Unit) => r = 0) (fun (u9 : Unit) t9 => bW D A [(a, .inr (9, (((fs.set 70 (.int 0)).set 3 (.int 2)).set 4 (.int 0))))] t9) A) (by decide) (Nat.le_of_ble_eq_true rfl) ?_
  intro A p e s m below meth c ls hsz hB
  obtain ⟨hx, hb, hr, hml, hown, hin, hlk, hE, hK, hP, hD, hS, hA, hN, hl⟩ := hB
  have hown : s.vm.findClass "SeriesVaultModel" = some m.cls := hown
  have hin : meth.name = "operand" := hin
  have hl : lv_has ls 2 [(0, .ref a)] := hl
  obtain ⟨H, hH⟩ : ∃ z, z = s.heap := ⟨_, rfl⟩
  have hP : va_P D vwCl [(a, .inr (9, fs))] H := by rw [hH]; exact hP
  have hS : va_S A s.heap H [] := by rw [hH]; exact hS
  rw [← hH]
  refine lv_aload_n hx hb d_M_operand_0 rfl (lv_at hl 0 rfl) ?_
  refine gF (v := .int 0) hx hb hown hE hK hP 0 rfl rfl layM 44 (by decide) w469 h_fs_kind d_M_operand_1 ?_
  refine lv_bipush (v := 45) hx hb d_M_operand_4 (by decide) ?_
  refine lv_icmp_eq hx hb d_M_operand_6 (tgt := 18) rfl (fun h9 => absurd h9 (by decide)) (fun _ => ?_)
  refine lv_aload_n hx hb d_M_operand_9 rfl (lv_at hl 0 rfl) ?_
  refine gF (v := .int 0) hx hb hown hE hK hP 0 rfl rfl layM 44 (by decide) w469 h_fs_kind d_M_operand_10 ?_
  refine lv_bipush (v := 40) hx hb d_M_operand_13 (by decide) ?_
  refine lv_icmp_ne hx hb d_M_operand_15 (tgt := 39) rfl (fun _ => ?_) (fun h9 => absurd h9 (by decide))
  refine lv_aload_n hx hb d_M_operand_39 rfl (lv_at hl 0 rfl) ?_
  refine lv_iconst (v := 0) hx hb d_M_operand_40 (by decide) ?_
  refine pF hx hb hown hE hK hP hD hS 0 rfl rfl layM tyM tokM nmM 70 (by decide) w470 rfl rfl rfl (by simp [hl_fs]) d_M_operand_41 (fun H locs hP hD hS => ?_)
  have hP : va_P D vwCl [(a, .inr (9, (fs.set 70 (.int 0))))] H := hP
  have hD : va_D A [(a, .inr (9, (fs.set 70 (.int 0))))] := hD
  refine lv_aload_n hx hb d_M_operand_44 rfl (lv_at hl 0 rfl) ?_
  have hPc := hP.sub (ws' := [(a, .inr (9, (fs.set 70 (.int 0))))]) [0] rfl
  have hDc := hD.sub (ws' := [(a, .inr (9, (fs.set 70 (.int 0))))]) [0] (by decide) rfl
  refine jnI (rnV (As := []) (rest := []) hx hb hml hown hE hK (hN _ _ hS) hPc hDc (c_M_function_0 l D dA H.size a (fs.set 70 (.int 0)) (by simp [h_fs_length]) (by simp [h_fs_kind]) (by simp [h_fs_to]) (by simp [hl_fs])) (q0 := 0) rfl rfl w472 w471 w473 w474 w328 rfl rfl ⟨⟨by decide, by decide⟩, rfl⟩ ⟨(Nat.le_of_ble_eq_true rfl), (Nat.le_of_ble_eq_true rfl)⟩ rfl hl.1 rfl (Nat.le_of_ble_eq_true rfl) d_M_operand_45 ⟨(Nat.le_of_ble_eq_true rfl), (Nat.le_of_ble_eq_true rfl)⟩) hP hD hS hA [0] [] (wr := []) rfl rfl (by decide) (by decide) (fun r1 u9 H locs hp9 hP hD hS => ?_)
  have hP : va_P D vwCl [(a, .inr (9, (fs.set 70 (.int 0))))] H := hP
  have hD : va_D A [(a, .inr (9, (fs.set 70 (.int 0))))] := hD
  have hp9 : (-1) = r1 := Eq.symm hp9
  subst hp9
  refine lv_istore_n hx hb d_M_operand_48 rfl hl (by decide) rfl (fun ls hl => ?_)
  have hl : lv_has ls 2 [(1, .int (-1)), (0, .ref a)] := hl
  refine lv_aload_n hx hb d_M_operand_49 rfl (lv_at hl 1 rfl) ?_
  refine gF (v := .int 0) hx hb hown hE hK hP 0 rfl rfl layM 44 (by decide) w469 (by simp [h_fs_kind]) d_M_operand_50 ?_
  refine lv_iconst (v := 1) hx hb d_M_operand_53 (by decide) ?_
  refine lv_icmp_eq hx hb d_M_operand_54 (tgt := 71) rfl (fun h9 => absurd h9 (by decide)) (fun _ => ?_)
  refine lv_iload_n hx hb d_M_operand_57 rfl (lv_at hl 0 rfl) ?_
  refine lv_if_ge hx hb d_M_operand_58 (tgt := 71) rfl (fun h9 => absurd h9 (by decide)) (fun _ => ?_)
  refine lv_aload_n hx hb d_M_operand_61 rfl (lv_at hl 1 rfl) ?_
  refine lv_iconst (v := 2) hx hb d_M_operand_62 (by decide) ?_
  refine lv_aload_n hx hb d_M_operand_63 rfl (lv_at hl 1 rfl) ?_
  refine gF (v := .int 0) hx hb hown hE hK hP 0 rfl rfl layM 45 (by decide) w464 (by simp [h_fs_from]) d_M_operand_64 ?_
  have hPc := hP.sub (ws' := [(a, .inr (9, (fs.set 70 (.int 0))))]) [0] rfl
  have hDc := hD.sub (ws' := [(a, .inr (9, (fs.set 70 (.int 0))))]) [0] (by decide) rfl
  refine jnI (rnV (As := [.int 2, .int 0]) (rest := []) hx hb hml hown hE hK (hN _ _ hS) hPc hDc (c_M_flaw l D dA H.size a (fs.set 70 (.int 0)) 2 0 (by simp [h_fs_faultCode]) (by simp [hl_fs])) (q0 := 0) rfl rfl w431 w430 w432 w433 w328 rfl rfl ⟨⟨by decide, by decide⟩, rfl⟩ ⟨(Nat.le_of_ble_eq_true rfl), (Nat.le_of_ble_eq_true rfl)⟩ rfl hl.1 rfl (Nat.le_of_ble_eq_true rfl) d_M_operand_67 ⟨(Nat.le_of_ble_eq_true rfl), (Nat.le_of_ble_eq_true rfl)⟩) hP hD hS hA [0] [] (wr := []) rfl rfl (by decide) (by decide) (fun r2 u9 H locs hp9 hP hD hS => ?_)
  have hP : va_P D vwCl [(a, .inr (9, (((fs.set 70 (.int 0)).set 3 (.int 2)).set 4 (.int 0))))] H := hP
  have hD : va_D A [(a, .inr (9, (((fs.set 70 (.int 0)).set 3 (.int 2)).set 4 (.int 0))))] := hD
  have hp9 : 0 = r2 := Eq.symm hp9
  subst hp9
  exact rtZ hx hb hr (by decide) hlk hP hD hS () rfl [0] rfl rfl (by decide) (Nat.le_of_ble_eq_true rfl) (Nat.le_of_ble_eq_true rfl) d_M_operand_70
theorem d_M_question_0 : decode prog_14_method_89_code 0 = .ok (.aload_n 0, 1) := by decide +kernel
theorem d_M_question_1 : decode prog_14_method_89_code 1 = .ok (.iload_n 1, 1) := by decide +kernel
theorem d_M_question_2 : decode prog_14_method_89_code 2 = .ok (.putfield 442, 3) := by decide +kernel
theorem d_M_question_5 : decode prog_14_method_89_code 5 = .ok (.aload_n 0, 1) := by decide +kernel
theorem d_M_question_6 : decode prog_14_method_89_code 6 = .ok (.iconst 0, 1) := by decide +kernel
theorem d_M_question_7 : decode prog_14_method_89_code 7 = .ok (.putfield 400, 3) := by decide +kernel
theorem d_M_question_10 : decode prog_14_method_89_code 10 = .ok (.aload_n 0, 1) := by decide +kernel
theorem d_M_question_11 : decode prog_14_method_89_code 11 = .ok (.iconst 0, 1) := by decide +kernel
theorem d_M_question_12 : decode prog_14_method_89_code 12 = .ok (.putfield 439, 3) := by decide +kernel
theorem d_M_question_15 : decode prog_14_method_89_code 15 = .ok (.aload_n 0, 1) := by decide +kernel
theorem d_M_question_16 : decode prog_14_method_89_code 16 = .ok (.iconst 0, 1) := by decide +kernel
theorem d_M_question_17 : decode prog_14_method_89_code 17 = .ok (.putfield 436, 3) := by decide +kernel
theorem d_M_question_20 : decode prog_14_method_89_code 20 = .ok (.aload_n 0, 1) := by decide +kernel
theorem d_M_question_21 : decode prog_14_method_89_code 21 = .ok (.iconst 0, 1) := by decide +kernel
theorem d_M_question_22 : decode prog_14_method_89_code 22 = .ok (.putfield 342, 3) := by decide +kernel
theorem d_M_question_25 : decode prog_14_method_89_code 25 = .ok (.aload_n 0, 1) := by decide +kernel
theorem d_M_question_26 : decode prog_14_method_89_code 26 = .ok (.iconst 1, 1) := by decide +kernel
theorem d_M_question_27 : decode prog_14_method_89_code 27 = .ok (.putfield 472, 3) := by decide +kernel
theorem d_M_question_30 : decode prog_14_method_89_code 30 = .ok (.aload_n 0, 1) := by decide +kernel
theorem d_M_question_31 : decode prog_14_method_89_code 31 = .ok (.invokevirtual 373, 3) := by decide +kernel
theorem d_M_question_34 : decode prog_14_method_89_code 34 = .ok (.istore_n 2, 1) := by decide +kernel
theorem d_M_question_35 : decode prog_14_method_89_code 35 = .ok (.iload_n 2, 1) := by decide +kernel
theorem d_M_question_36 : decode prog_14_method_89_code 36 = .ok (.ifCond .eq 39, 3) := by decide +kernel
theorem d_M_question_39 : decode prog_14_method_89_code 39 = .ok (.aload_n 0, 1) := by decide +kernel
theorem d_M_question_40 : decode prog_14_method_89_code 40 = .ok (.getfield 351, 3) := by decide +kernel
theorem d_M_question_43 : decode prog_14_method_89_code 43 = .ok (.ifCond .ne 10, 3) := by decide +kernel
theorem d_M_question_46 : decode prog_14_method_89_code 46 = .ok (.aload_n 0, 1) := by decide +kernel
theorem d_M_question_47 : decode prog_14_method_89_code 47 = .ok (.getfield 472, 3) := by decide +kernel
theorem d_M_question_50 : decode prog_14_method_89_code 50 = .ok (.ifCond .eq 25, 3) := by decide +kernel
theorem d_M_question_53 : decode prog_14_method_89_code 53 = .ok (.aload_n 0, 1) := by decide +kernel
theorem d_M_question_54 : decode prog_14_method_89_code 54 = .ok (.getfield 472, 3) := by decide +kernel
theorem d_M_question_57 : decode prog_14_method_89_code 57 = .ok (.ifCond .eq 10, 3) := by decide +kernel
theorem d_M_question_60 : decode prog_14_method_89_code 60 = .ok (.aload_n 0, 1) := by decide +kernel
theorem d_M_question_61 : decode prog_14_method_89_code 61 = .ok (.invokevirtual 489, 3) := by decide +kernel
theorem d_M_question_64 : decode prog_14_method_89_code 64 = .ok (.goto 7, 3) := by decide +kernel
theorem d_M_question_71 : decode prog_14_method_89_code 71 = .ok (.istore_n 2, 1) := by decide +kernel
theorem d_M_question_72 : decode prog_14_method_89_code 72 = .ok (.goto (-37), 3) := by decide +kernel
theorem d_M_question_75 : decode prog_14_method_89_code 75 = .ok (.iload_n 2, 1) := by decide +kernel
theorem d_M_question_76 : decode prog_14_method_89_code 76 = .ok (.ifCond .eq 20, 3) := by decide +kernel
theorem d_M_question_96 : decode prog_14_method_89_code 96 = .ok (.iload_n 2, 1) := by decide +kernel
theorem d_M_question_97 : decode prog_14_method_89_code 97 = .ok (.ifCond .eq 15, 3) := by decide +kernel
theorem d_M_question_112 : decode prog_14_method_89_code 112 = .ok (.iconst 0, 1) := by decide +kernel
theorem d_M_question_113 : decode prog_14_method_89_code 113 = .ok (.ireturn, 1) := by decide +kernel
theorem w475 : Cond.fieldLink "SeriesVaultModel" 442 "SeriesVaultModel" "works" "Z" ∈ aW := aw_of (tb_8 (List.mem_of_getElem? (i := 230) rfl)) rfl
theorem w476 : Cond.fieldLink "SeriesVaultModel" 400 "SeriesVaultModel" "pile" "I" ∈ aW := aw_of (tb_8 (List.mem_of_getElem? (i := 229) rfl)) rfl
theorem w477 : Cond.fieldLink "SeriesVaultModel" 439 "SeriesVaultModel" "signCount" "I" ∈ aW := aw_of (tb_9 (List.mem_of_getElem? (i := 2) rfl)) rfl
theorem w478 : Cond.fieldLink "SeriesVaultModel" 436 "SeriesVaultModel" "open" "I" ∈ aW := aw_of (tb_9 (List.mem_of_getElem? (i := 3) rfl)) rfl
theorem w479 : Cond.methodLink "SeriesVaultModel" 373 ⟨"SeriesVaultModel", "next", "()Z"⟩ ∈ aW := aw_of (tb_10 (List.mem_of_getElem? (i := 157) rfl)) rfl
theorem w480 : Cond.code ⟨"SeriesVaultModel", "next", "()Z"⟩ prog_14_method_57_code 2 (some FieldType.boolean) ∈ aW := aw_of (tb_10 (List.mem_of_getElem? (i := 160) rfl)) rfl
theorem w481 : Cond.instanceMethod ⟨"SeriesVaultModel", "next", "()Z"⟩ ∈ aW := aw_of (tb_10 (List.mem_of_getElem? (i := 159) rfl)) rfl
theorem w482 : Cond.selects "SeriesVaultModel" ⟨"SeriesVaultModel", "next", "()Z"⟩ ⟨"SeriesVaultModel", "next", "()Z"⟩ ∈ aW := aw_pr (List.mem_map.mpr ⟨_, pv_6 (List.mem_of_getElem? (i := 15) rfl), rfl⟩) rfl
theorem w483 : Cond.methodLink "SeriesVaultModel" 489 ⟨"SeriesVaultModel", "operand", "()Z"⟩ ∈ aW := aw_of (tb_10 (List.mem_of_getElem? (i := 181) rfl)) rfl
theorem w484 : Cond.code ⟨"SeriesVaultModel", "operand", "()Z"⟩ prog_14_method_86_code 2 (some FieldType.boolean) ∈ aW := aw_of (tb_10 (List.mem_of_getElem? (i := 184) rfl)) rfl
theorem w485 : Cond.instanceMethod ⟨"SeriesVaultModel", "operand", "()Z"⟩ ∈ aW := aw_of (tb_10 (List.mem_of_getElem? (i := 183) rfl)) rfl
theorem w486 : Cond.selects "SeriesVaultModel" ⟨"SeriesVaultModel", "operand", "()Z"⟩ ⟨"SeriesVaultModel", "operand", "()Z"⟩ ∈ aW := aw_pr (List.mem_map.mpr ⟨_, pv_7 (List.mem_of_getElem? (i := 3) rfl), rfl⟩) rfl
set_option maxHeartbeats 4000000 in
set_option maxRecDepth 100000 in
theorem c_M_question_0 (l : Launch) (D : va_G) (dA : Nat → ClassId) (sz : Nat) (a : Nat) (fs : List Value) (h_fs_length : fs[2]? = some (.int 0)) (h_fs_faultCode : fs[3]? = some (.int 0)) (hl_fs : fs.length = 79) : Met l ⟨"SeriesVaultModel", "question", "(Z)Z"⟩ [Cond.code ⟨"SeriesVaultModel", "question", "(Z)Z"⟩ prog_14_method_89_code 3 (some FieldType.boolean)] { frames := 4, cells := 0, slots := 0, locals := 66 } (pC D dA [.ref a, .int 0] [(a, .inr (9, fs))] sz) (va_Qi (fun (r : Int32) (_ : Unit) => r = 0) (fun (u9 : Unit) t9 => bW D (va_A [(a, .inr (9, fs))] sz) [(a, .inr (9, (((((((((((fs.set 56 (.int 0)).set 55 (.int 0)).set 68 (.int 0)).set 69 (.int 0)).set 46 (.int 0)).set 70 (.int 1)).set 45 (.int 0)).set 44 (.int 0)).set 70 (.int 0)).set 3 (.int 2)).set 4 (.int 0))))] t9) (va_A [(a, .inr (9, fs))] sz)) 0 0 (va_A [(a, .inr (9, fs))] sz) := by
  refine mkC (Qc := fun A => va_Qi (fun (r : Int32) (_ : Unit) => r = 0) (fun (u9 : Unit) t9 => bW D A [(a, .inr (9, (((((((((((fs.set 56 (.int 0)).set 55 (.int 0)).set 68 (.int 0)).set 69 (.int 0)).set 46 (.int 0)).set 70 (.int 1)).set 45 (.int 0)).set 44 (.int 0)).set 70 (.int 0)).set 3 (.int 2)).set 4 (.int 0))))] t9) A) (by decide) (Nat.le_of_ble_eq_true rfl) ?_
  intro A p e s m below meth c ls hsz hB
  obtain ⟨hx, hb, hr, hml, hown, hin, hlk, hE, hK, hP, hD, hS, hA, hN, hl⟩ := hB
  have hown : s.vm.findClass "SeriesVaultModel" = some m.cls := hown
  have hin : meth.name = "question" := hin
  have hl : lv_has ls 3 [(0, .ref a), (1, .int 0)] := hl
  obtain ⟨H, hH⟩ : ∃ z, z = s.heap := ⟨_, rfl⟩
  have hP : va_P D vwCl [(a, .inr (9, fs))] H := by rw [hH]; exact hP
  have hS : va_S A s.heap H [] := by rw [hH]; exact hS
  rw [← hH]
  refine lv_aload_n hx hb d_M_question_0 rfl (lv_at hl 0 rfl) ?_
  refine lv_iload_n hx hb d_M_question_1 rfl (lv_at hl 1 rfl) ?_
  refine pF hx hb hown hE hK hP hD hS 0 rfl rfl layM tyM tokM nmM 56 (by decide) w475 rfl rfl rfl (by simp [hl_fs]) d_M_question_2 (fun H locs hP hD hS => ?_)
  have hP : va_P D vwCl [(a, .inr (9, (fs.set 56 (.int 0))))] H := hP
  have hD : va_D A [(a, .inr (9, (fs.set 56 (.int 0))))] := hD
  refine lv_aload_n hx hb d_M_question_5 rfl (lv_at hl 0 rfl) ?_
  refine lv_iconst (v := 0) hx hb d_M_question_6 (by decide) ?_
  refine pF hx hb hown hE hK hP hD hS 0 rfl rfl layM tyM tokM nmM 55 (by decide) w476 rfl rfl rfl (by simp [hl_fs]) d_M_question_7 (fun H locs hP hD hS => ?_)
  have hP : va_P D vwCl [(a, .inr (9, ((fs.set 56 (.int 0)).set 55 (.int 0))))] H := hP
  have hD : va_D A [(a, .inr (9, ((fs.set 56 (.int 0)).set 55 (.int 0))))] := hD
  refine lv_aload_n hx hb d_M_question_10 rfl (lv_at hl 0 rfl) ?_
  refine lv_iconst (v := 0) hx hb d_M_question_11 (by decide) ?_
  refine pF hx hb hown hE hK hP hD hS 0 rfl rfl layM tyM tokM nmM 68 (by decide) w477 rfl rfl rfl (by simp [hl_fs]) d_M_question_12 (fun H locs hP hD hS => ?_)
  have hP : va_P D vwCl [(a, .inr (9, (((fs.set 56 (.int 0)).set 55 (.int 0)).set 68 (.int 0))))] H := hP
  have hD : va_D A [(a, .inr (9, (((fs.set 56 (.int 0)).set 55 (.int 0)).set 68 (.int 0))))] := hD
  refine lv_aload_n hx hb d_M_question_15 rfl (lv_at hl 0 rfl) ?_
  refine lv_iconst (v := 0) hx hb d_M_question_16 (by decide) ?_
  refine pF hx hb hown hE hK hP hD hS 0 rfl rfl layM tyM tokM nmM 69 (by decide) w478 rfl rfl rfl (by simp [hl_fs]) d_M_question_17 (fun H locs hP hD hS => ?_)
  have hP : va_P D vwCl [(a, .inr (9, ((((fs.set 56 (.int 0)).set 55 (.int 0)).set 68 (.int 0)).set 69 (.int 0))))] H := hP
  have hD : va_D A [(a, .inr (9, ((((fs.set 56 (.int 0)).set 55 (.int 0)).set 68 (.int 0)).set 69 (.int 0))))] := hD
  refine lv_aload_n hx hb d_M_question_20 rfl (lv_at hl 0 rfl) ?_
  refine lv_iconst (v := 0) hx hb d_M_question_21 (by decide) ?_
  refine pF hx hb hown hE hK hP hD hS 0 rfl rfl layM tyM tokM nmM 46 (by decide) w463 rfl rfl rfl (by simp [hl_fs]) d_M_question_22 (fun H locs hP hD hS => ?_)
  have hP : va_P D vwCl [(a, .inr (9, (((((fs.set 56 (.int 0)).set 55 (.int 0)).set 68 (.int 0)).set 69 (.int 0)).set 46 (.int 0))))] H := hP
  have hD : va_D A [(a, .inr (9, (((((fs.set 56 (.int 0)).set 55 (.int 0)).set 68 (.int 0)).set 69 (.int 0)).set 46 (.int 0))))] := hD
  refine lv_aload_n hx hb d_M_question_25 rfl (lv_at hl 0 rfl) ?_
  refine lv_iconst (v := 1) hx hb d_M_question_26 (by decide) ?_
  refine pF hx hb hown hE hK hP hD hS 0 rfl rfl layM tyM tokM nmM 70 (by decide) w470 rfl rfl rfl (by simp [hl_fs]) d_M_question_27 (fun H locs hP hD hS => ?_)
  have hP : va_P D vwCl [(a, .inr (9, ((((((fs.set 56 (.int 0)).set 55 (.int 0)).set 68 (.int 0)).set 69 (.int 0)).set 46 (.int 0)).set 70 (.int 1))))] H := hP
  have hD : va_D A [(a, .inr (9, ((((((fs.set 56 (.int 0)).set 55 (.int 0)).set 68 (.int 0)).set 69 (.int 0)).set 46 (.int 0)).set 70 (.int 1))))] := hD
  refine lv_aload_n hx hb d_M_question_30 rfl (lv_at hl 0 rfl) ?_
  have hPc := hP.sub (ws' := [(a, .inr (9, ((((((fs.set 56 (.int 0)).set 55 (.int 0)).set 68 (.int 0)).set 69 (.int 0)).set 46 (.int 0)).set 70 (.int 1))))]) [0] rfl
  have hDc := hD.sub (ws' := [(a, .inr (9, ((((((fs.set 56 (.int 0)).set 55 (.int 0)).set 68 (.int 0)).set 69 (.int 0)).set 46 (.int 0)).set 70 (.int 1))))]) [0] (by decide) rfl
  refine jnI (rnV (As := []) (rest := []) hx hb hml hown hE hK (hN _ _ hS) hPc hDc (c_M_next_0 l D dA H.size a ((((((fs.set 56 (.int 0)).set 55 (.int 0)).set 68 (.int 0)).set 69 (.int 0)).set 46 (.int 0)).set 70 (.int 1)) (by simp [h_fs_length]) (by simp [hl_fs]) (by simp [hl_fs])) (q0 := 0) rfl rfl w480 w479 w481 w482 w328 rfl rfl ⟨⟨by decide, by decide⟩, rfl⟩ ⟨(Nat.le_of_ble_eq_true rfl), (Nat.le_of_ble_eq_true rfl)⟩ rfl hl.1 rfl (Nat.le_of_ble_eq_true rfl) d_M_question_31 ⟨(Nat.le_of_ble_eq_true rfl), (Nat.le_of_ble_eq_true rfl)⟩) hP hD hS hA [0] [] (wr := []) rfl rfl (by decide) (by decide) (fun r1 u9 H locs hp9 hP hD hS => ?_)
  have hP : va_P D vwCl [(a, .inr (9, ((((((((fs.set 56 (.int 0)).set 55 (.int 0)).set 68 (.int 0)).set 69 (.int 0)).set 46 (.int 0)).set 70 (.int 1)).set 45 (.int 0)).set 44 (.int 0))))] H := hP
  have hD : va_D A [(a, .inr (9, ((((((((fs.set 56 (.int 0)).set 55 (.int 0)).set 68 (.int 0)).set 69 (.int 0)).set 46 (.int 0)).set 70 (.int 1)).set 45 (.int 0)).set 44 (.int 0))))] := hD
  have hp9 : 1 = r1 := Eq.symm hp9
  subst hp9
  refine lv_istore_n hx hb d_M_question_34 rfl hl (by decide) rfl (fun ls hl => ?_)
  have hl : lv_has ls 3 [(2, .int 1), (0, .ref a), (1, .int 0)] := hl
  refine lv_iload_n hx hb d_M_question_35 rfl (lv_at hl 0 rfl) ?_
  refine lv_if_eq hx hb d_M_question_36 (tgt := 75) rfl (fun h9 => absurd h9 (by decide)) (fun _ => ?_)
  refine lv_aload_n hx hb d_M_question_39 rfl (lv_at hl 1 rfl) ?_
  refine gF (v := .int 0) hx hb hown hE hK hP 0 rfl rfl layM 44 (by decide) w469 (by simp [hl_fs]) d_M_question_40 ?_
  refine lv_if_ne hx hb d_M_question_43 (tgt := 53) rfl (fun h9 => absurd (by decide) h9) (fun _ => ?_)
  refine lv_aload_n hx hb d_M_question_46 rfl (lv_at hl 1 rfl) ?_
  refine gF (v := .int 1) hx hb hown hE hK hP 0 rfl rfl layM 70 (by decide) w470 (by simp [hl_fs]) d_M_question_47 ?_
  refine lv_if_eq hx hb d_M_question_50 (tgt := 75) rfl (fun h9 => absurd h9 (by decide)) (fun _ => ?_)
  refine lv_aload_n hx hb d_M_question_53 rfl (lv_at hl 1 rfl) ?_
  refine gF (v := .int 1) hx hb hown hE hK hP 0 rfl rfl layM 70 (by decide) w470 (by simp [hl_fs]) d_M_question_54 ?_
  refine lv_if_eq hx hb d_M_question_57 (tgt := 67) rfl (fun h9 => absurd h9 (by decide)) (fun _ => ?_)
  refine lv_aload_n hx hb d_M_question_60 rfl (lv_at hl 1 rfl) ?_
  have hPc := hP.sub (ws' := [(a, .inr (9, ((((((((fs.set 56 (.int 0)).set 55 (.int 0)).set 68 (.int 0)).set 69 (.int 0)).set 46 (.int 0)).set 70 (.int 1)).set 45 (.int 0)).set 44 (.int 0))))]) [0] rfl
  have hDc := hD.sub (ws' := [(a, .inr (9, ((((((((fs.set 56 (.int 0)).set 55 (.int 0)).set 68 (.int 0)).set 69 (.int 0)).set 46 (.int 0)).set 70 (.int 1)).set 45 (.int 0)).set 44 (.int 0))))]) [0] (by decide) rfl
  refine jnI (rnV (As := []) (rest := []) hx hb hml hown hE hK (hN _ _ hS) hPc hDc (c_M_operand_0 l D dA H.size a ((((((((fs.set 56 (.int 0)).set 55 (.int 0)).set 68 (.int 0)).set 69 (.int 0)).set 46 (.int 0)).set 70 (.int 1)).set 45 (.int 0)).set 44 (.int 0)) (by simp [h_fs_length]) (by simp [h_fs_faultCode]) (by simp [hl_fs]) (by simp [hl_fs]) (by simp [hl_fs]) (by simp [hl_fs])) (q0 := 0) rfl rfl w484 w483 w485 w486 w328 rfl rfl ⟨⟨by decide, by decide⟩, rfl⟩ ⟨(Nat.le_of_ble_eq_true rfl), (Nat.le_of_ble_eq_true rfl)⟩ rfl hl.1 rfl (Nat.le_of_ble_eq_true rfl) d_M_question_61 ⟨(Nat.le_of_ble_eq_true rfl), (Nat.le_of_ble_eq_true rfl)⟩) hP hD hS hA [0] [] (wr := []) rfl rfl (by decide) (by decide) (fun r2 u9 H locs hp9 hP hD hS => ?_)
  have hP : va_P D vwCl [(a, .inr (9, (((((((((((fs.set 56 (.int 0)).set 55 (.int 0)).set 68 (.int 0)).set 69 (.int 0)).set 46 (.int 0)).set 70 (.int 1)).set 45 (.int 0)).set 44 (.int 0)).set 70 (.int 0)).set 3 (.int 2)).set 4 (.int 0))))] H := hP
  have hD : va_D A [(a, .inr (9, (((((((((((fs.set 56 (.int 0)).set 55 (.int 0)).set 68 (.int 0)).set 69 (.int 0)).set 46 (.int 0)).set 70 (.int 1)).set 45 (.int 0)).set 44 (.int 0)).set 70 (.int 0)).set 3 (.int 2)).set 4 (.int 0))))] := hD
  have hp9 : 0 = r2 := Eq.symm hp9
  subst hp9
  refine lv_goto hx hb d_M_question_64 (tgt := 71) rfl ?_
  refine lv_istore_n hx hb d_M_question_71 rfl hl (by decide) rfl (fun ls hl => ?_)
  have hl : lv_has ls 3 [(2, .int 0), (0, .ref a), (1, .int 0)] := hl
  refine lv_goto hx hb d_M_question_72 (tgt := 35) rfl ?_
  refine lv_iload_n hx hb d_M_question_35 rfl (lv_at hl 0 rfl) ?_
  refine lv_if_eq hx hb d_M_question_36 (tgt := 75) rfl (fun _ => ?_) (fun h9 => absurd (by decide) h9)
  refine lv_iload_n hx hb d_M_question_75 rfl (lv_at hl 0 rfl) ?_
  refine lv_if_eq hx hb d_M_question_76 (tgt := 96) rfl (fun _ => ?_) (fun h9 => absurd (by decide) h9)
  refine lv_iload_n hx hb d_M_question_96 rfl (lv_at hl 0 rfl) ?_
  refine lv_if_eq hx hb d_M_question_97 (tgt := 112) rfl (fun _ => ?_) (fun h9 => absurd (by decide) h9)
  refine lv_iconst (v := 0) hx hb d_M_question_112 (by decide) ?_
  exact rtZ hx hb hr (by decide) hlk hP hD hS () rfl [0] rfl rfl (by decide) (Nat.le_of_ble_eq_true rfl) (Nat.le_of_ble_eq_true rfl) d_M_question_113
theorem d_M_ask_0 : decode prog_14_method_91_code 0 = .ok (.aload_n 0, 1) := by decide +kernel
theorem d_M_ask_1 : decode prog_14_method_91_code 1 = .ok (.aload_n 0, 1) := by decide +kernel
theorem d_M_ask_2 : decode prog_14_method_91_code 2 = .ok (.getfield 21, 3) := by decide +kernel
theorem d_M_ask_5 : decode prog_14_method_91_code 5 = .ok (.ifCond .ne 7, 3) := by decide +kernel
theorem d_M_ask_12 : decode prog_14_method_91_code 12 = .ok (.lload_n 1, 1) := by decide +kernel
theorem d_M_ask_13 : decode prog_14_method_91_code 13 = .ok (.lconst 0, 1) := by decide +kernel
theorem d_M_ask_14 : decode prog_14_method_91_code 14 = .ok (.lcmp, 1) := by decide +kernel
theorem d_M_ask_15 : decode prog_14_method_91_code 15 = .ok (.ifCond .lt 38, 3) := by decide +kernel
theorem d_M_ask_18 : decode prog_14_method_91_code 18 = .ok (.lload_n 1, 1) := by decide +kernel
theorem d_M_ask_19 : decode prog_14_method_91_code 19 = .ok (.ldc2_w 261, 3) := by decide +kernel
theorem d_M_ask_22 : decode prog_14_method_91_code 22 = .ok (.lcmp, 1) := by decide +kernel
theorem d_M_ask_23 : decode prog_14_method_91_code 23 = .ok (.ifCond .gt 30, 3) := by decide +kernel
theorem d_M_ask_26 : decode prog_14_method_91_code 26 = .ok (.lload_n 3, 1) := by decide +kernel
theorem d_M_ask_27 : decode prog_14_method_91_code 27 = .ok (.lconst 1, 1) := by decide +kernel
theorem d_M_ask_28 : decode prog_14_method_91_code 28 = .ok (.lcmp, 1) := by decide +kernel
theorem d_M_ask_29 : decode prog_14_method_91_code 29 = .ok (.ifCond .lt 24, 3) := by decide +kernel
theorem d_M_ask_32 : decode prog_14_method_91_code 32 = .ok (.lload_n 3, 1) := by decide +kernel
theorem d_M_ask_33 : decode prog_14_method_91_code 33 = .ok (.ldc2_w 261, 3) := by decide +kernel
theorem d_M_ask_36 : decode prog_14_method_91_code 36 = .ok (.lcmp, 1) := by decide +kernel
theorem d_M_ask_37 : decode prog_14_method_91_code 37 = .ok (.ifCond .gt 16, 3) := by decide +kernel
theorem d_M_ask_40 : decode prog_14_method_91_code 40 = .ok (.iload 5, 2) := by decide +kernel
theorem d_M_ask_42 : decode prog_14_method_91_code 42 = .ok (.iconst 1, 1) := by decide +kernel
theorem d_M_ask_43 : decode prog_14_method_91_code 43 = .ok (.if_icmp .lt 10, 3) := by decide +kernel
theorem d_M_ask_46 : decode prog_14_method_91_code 46 = .ok (.iload 5, 2) := by decide +kernel
theorem d_M_ask_48 : decode prog_14_method_91_code 48 = .ok (.bipush 64, 2) := by decide +kernel
theorem d_M_ask_50 : decode prog_14_method_91_code 50 = .ok (.if_icmp .le 7, 3) := by decide +kernel
theorem d_M_ask_57 : decode prog_14_method_91_code 57 = .ok (.iconst 0, 1) := by decide +kernel
theorem d_M_ask_58 : decode prog_14_method_91_code 58 = .ok (.putfield 145, 3) := by decide +kernel
theorem d_M_ask_61 : decode prog_14_method_91_code 61 = .ok (.aload_n 0, 1) := by decide +kernel
theorem d_M_ask_62 : decode prog_14_method_91_code 62 = .ok (.getfield 145, 3) := by decide +kernel
theorem d_M_ask_65 : decode prog_14_method_91_code 65 = .ok (.ifCond .le 5, 3) := by decide +kernel
theorem d_M_ask_70 : decode prog_14_method_91_code 70 = .ok (.aload_n 0, 1) := by decide +kernel
theorem d_M_ask_71 : decode prog_14_method_91_code 71 = .ok (.iconst 0, 1) := by decide +kernel
theorem d_M_ask_72 : decode prog_14_method_91_code 72 = .ok (.putfield 151, 3) := by decide +kernel
theorem d_M_ask_75 : decode prog_14_method_91_code 75 = .ok (.aload_n 0, 1) := by decide +kernel
theorem d_M_ask_76 : decode prog_14_method_91_code 76 = .ok (.iconst 0, 1) := by decide +kernel
theorem d_M_ask_77 : decode prog_14_method_91_code 77 = .ok (.putfield 154, 3) := by decide +kernel
theorem d_M_ask_80 : decode prog_14_method_91_code 80 = .ok (.aload_n 0, 1) := by decide +kernel
theorem d_M_ask_81 : decode prog_14_method_91_code 81 = .ok (.lload_n 1, 1) := by decide +kernel
theorem d_M_ask_82 : decode prog_14_method_91_code 82 = .ok (.putfield 406, 3) := by decide +kernel
theorem d_M_ask_85 : decode prog_14_method_91_code 85 = .ok (.aload_n 0, 1) := by decide +kernel
theorem d_M_ask_86 : decode prog_14_method_91_code 86 = .ok (.lload_n 3, 1) := by decide +kernel
theorem d_M_ask_87 : decode prog_14_method_91_code 87 = .ok (.putfield 409, 3) := by decide +kernel
theorem d_M_ask_90 : decode prog_14_method_91_code 90 = .ok (.aload_n 0, 1) := by decide +kernel
theorem d_M_ask_91 : decode prog_14_method_91_code 91 = .ok (.iload 5, 2) := by decide +kernel
theorem d_M_ask_93 : decode prog_14_method_91_code 93 = .ok (.putfield 412, 3) := by decide +kernel
theorem d_M_ask_96 : decode prog_14_method_91_code 96 = .ok (.aload_n 0, 1) := by decide +kernel
theorem d_M_ask_97 : decode prog_14_method_91_code 97 = .ok (.iconst 0, 1) := by decide +kernel
theorem d_M_ask_98 : decode prog_14_method_91_code 98 = .ok (.putfield 197, 3) := by decide +kernel
theorem d_M_ask_101 : decode prog_14_method_91_code 101 = .ok (.aload_n 0, 1) := by decide +kernel
theorem d_M_ask_102 : decode prog_14_method_91_code 102 = .ok (.iconst 0, 1) := by decide +kernel
theorem d_M_ask_103 : decode prog_14_method_91_code 103 = .ok (.invokevirtual 504, 3) := by decide +kernel
theorem d_M_ask_106 : decode prog_14_method_91_code 106 = .ok (.ifCond .eq 15, 3) := by decide +kernel
theorem d_M_ask_121 : decode prog_14_method_91_code 121 = .ok (.iconst 0, 1) := by decide +kernel
theorem d_M_ask_122 : decode prog_14_method_91_code 122 = .ok (.istore 6, 2) := by decide +kernel
theorem d_M_ask_124 : decode prog_14_method_91_code 124 = .ok (.iload 6, 2) := by decide +kernel
theorem d_M_ask_126 : decode prog_14_method_91_code 126 = .ok (.ifCond .eq 7, 3) := by decide +kernel
theorem d_M_ask_133 : decode prog_14_method_91_code 133 = .ok (.aload_n 0, 1) := by decide +kernel
theorem d_M_ask_134 : decode prog_14_method_91_code 134 = .ok (.iconst 0, 1) := by decide +kernel
theorem d_M_ask_135 : decode prog_14_method_91_code 135 = .ok (.putfield 148, 3) := by decide +kernel
theorem d_M_ask_138 : decode prog_14_method_91_code 138 = .ok (.iload 6, 2) := by decide +kernel
theorem d_M_ask_140 : decode prog_14_method_91_code 140 = .ok (.ifCond .eq 10, 3) := by decide +kernel
theorem d_M_ask_150 : decode prog_14_method_91_code 150 = .ok (.iconst (-1), 1) := by decide +kernel
theorem d_M_ask_151 : decode prog_14_method_91_code 151 = .ok (.ireturn, 1) := by decide +kernel
theorem w487 : Cond.fieldLink "SeriesVaultModel" 406 "SeriesVaultModel" "windowsFrom" "J" ∈ aW := aw_of (tb_8 (List.mem_of_getElem? (i := 231) rfl)) rfl
theorem w488 : Cond.fieldLink "SeriesVaultModel" 409 "SeriesVaultModel" "width" "J" ∈ aW := aw_of (tb_8 (List.mem_of_getElem? (i := 232) rfl)) rfl
theorem w489 : Cond.fieldLink "SeriesVaultModel" 412 "SeriesVaultModel" "windows" "I" ∈ aW := aw_of (tb_8 (List.mem_of_getElem? (i := 233) rfl)) rfl
theorem w490 : Cond.methodLink "SeriesVaultModel" 504 ⟨"SeriesVaultModel", "question", "(Z)Z"⟩ ∈ aW := aw_of (tb_10 (List.mem_of_getElem? (i := 153) rfl)) rfl
theorem w491 : Cond.code ⟨"SeriesVaultModel", "question", "(Z)Z"⟩ prog_14_method_89_code 3 (some FieldType.boolean) ∈ aW := aw_of (tb_10 (List.mem_of_getElem? (i := 156) rfl)) rfl
theorem w492 : Cond.instanceMethod ⟨"SeriesVaultModel", "question", "(Z)Z"⟩ ∈ aW := aw_of (tb_10 (List.mem_of_getElem? (i := 155) rfl)) rfl
theorem w493 : Cond.selects "SeriesVaultModel" ⟨"SeriesVaultModel", "question", "(Z)Z"⟩ ⟨"SeriesVaultModel", "question", "(Z)Z"⟩ ∈ aW := aw_pr (List.mem_map.mpr ⟨_, pv_6 (List.mem_of_getElem? (i := 14) rfl), rfl⟩) rfl
set_option maxHeartbeats 4000000 in
set_option maxRecDepth 100000 in
theorem c_M_ask (l : Launch) (D : va_G) (dA : Nat → ClassId) (sz : Nat) (a : Nat) (fs : List Value) (t : Int64) (w : Int64) (n : Int32) (h1 : ¬ t < 0) (h2 : t ≤ 1099511627775) (h3 : ¬ w < 1) (h4 : w ≤ 1099511627775) (h5 : ¬ n < 1) (h6 : n ≤ 64) (h_fs_length : fs[2]? = some (.int 0)) (h_fs_on : fs[7]? = some (.int 1)) (hl_fs : fs.length = 79) : Met l ⟨"SeriesVaultModel", "ask", "(JJI)I"⟩ [Cond.code ⟨"SeriesVaultModel", "ask", "(JJI)I"⟩ prog_14_method_91_code 7 (some FieldType.int)] { frames := 5, cells := 0, slots := 0, locals := 88 } (pC D dA [.ref a, .long t, .long w, .int n] [(a, .inr (9, fs))] sz) (va_Qi (fun (r : Int32) (_ : Unit) => r = (-1)) (fun (u9 : Unit) t9 => bW D (va_A [(a, .inr (9, fs))] sz) [(a, .inr (9, (((((((((((((((((((fs.set 0 (.int 0)).set 3 (.int 0)).set 4 (.int 0)).set 57 (.long t)).set 58 (.long w)).set 59 (.int n)).set 71 (.int 0)).set 56 (.int 0)).set 55 (.int 0)).set 68 (.int 0)).set 69 (.int 0)).set 46 (.int 0)).set 70 (.int 1)).set 45 (.int 0)).set 44 (.int 0)).set 70 (.int 0)).set 3 (.int 2)).set 4 (.int 0)).set 2 (.int 0))))] t9) (va_A [(a, .inr (9, fs))] sz)) 0 0 (va_A [(a, .inr (9, fs))] sz) := by
  refine mkC (Qc := fun A => va_Qi (fun (r : Int32) (_ : Unit) => r = (-1)) (fun (u9 : Unit) t9 => bW D A [(a, .inr (9, (((((((((((((((((((fs.set 0 (.int 0)).set 3 (.int 0)).set 4 (.int 0)).set 57 (.long t)).set 58 (.long w)).set 59 (.int n)).set 71 (.int 0)).set 56 (.int 0)).set 55 (.int 0)).set 68 (.int 0)).set 69 (.int 0)).set 46 (.int 0)).set 70 (.int 1)).set 45 (.int 0)).set 44 (.int 0)).set 70 (.int 0)).set 3 (.int 2)).set 4 (.int 0)).set 2 (.int 0))))] t9) A) (by decide) (Nat.le_of_ble_eq_true rfl) ?_
  intro A p e s m below meth c ls hsz hB
  obtain ⟨hx, hb, hr, hml, hown, hin, hlk, hE, hK, hP, hD, hS, hA, hN, hl⟩ := hB
  have hown : s.vm.findClass "SeriesVaultModel" = some m.cls := hown
  have hin : meth.name = "ask" := hin
  have hl : lv_has ls 7 [(0, .ref a), (1, .long t), (3, .long w), (5, .int n)] := hl
  obtain ⟨H, hH⟩ : ∃ z, z = s.heap := ⟨_, rfl⟩
  have hP : va_P D vwCl [(a, .inr (9, fs))] H := by rw [hH]; exact hP
  have hS : va_S A s.heap H [] := by rw [hH]; exact hS
  rw [← hH]
  refine lv_aload_n hx hb d_M_ask_0 rfl (lv_at hl 0 rfl) ?_
  refine lv_aload_n hx hb d_M_ask_1 rfl (lv_at hl 0 rfl) ?_
  refine gF (v := .int 1) hx hb hown hE hK hP 0 rfl rfl layM 7 (by decide) w324 h_fs_on d_M_ask_2 ?_
  refine lv_if_ne hx hb d_M_ask_5 (tgt := 12) rfl (fun _ => ?_) (fun h9 => absurd h9 (by decide))
  refine lv_lload_n hx hb d_M_ask_12 rfl (lv_at hl 1 rfl) ?_
  refine lv_lconst (v := 0) hx hb d_M_ask_13 (by decide) ?_
  refine W.lcmp hx hb d_M_ask_14 ?_
  refine lv_if_lt hx hb d_M_ask_15 (tgt := 53) rfl (fun h9 => absurd h9 (mt (lg_cmp_lt _ _).mp (h1))) (fun _ => ?_)
  refine lv_lload_n hx hb d_M_ask_18 rfl (lv_at hl 1 rfl) ?_
  refine lv_ldc2 (v := 1099511627775) hx hb hown (hE.t w450 rfl) d_M_ask_19 ?_
  refine W.lcmp hx hb d_M_ask_22 ?_
  refine lv_if_gt hx hb d_M_ask_23 (tgt := 53) rfl (fun h9 => absurd h9 (mt (lg_cmp_gt _ _).mp (Int64.not_lt.mpr (h2)))) (fun _ => ?_)
  refine lv_lload_n hx hb d_M_ask_26 rfl (lv_at hl 2 rfl) ?_
  refine lv_lconst (v := 1) hx hb d_M_ask_27 (by decide) ?_
  refine W.lcmp hx hb d_M_ask_28 ?_
  refine lv_if_lt hx hb d_M_ask_29 (tgt := 53) rfl (fun h9 => absurd h9 (mt (lg_cmp_lt _ _).mp (h3))) (fun _ => ?_)
  refine lv_lload_n hx hb d_M_ask_32 rfl (lv_at hl 2 rfl) ?_
  refine lv_ldc2 (v := 1099511627775) hx hb hown (hE.t w450 rfl) d_M_ask_33 ?_
  refine W.lcmp hx hb d_M_ask_36 ?_
  refine lv_if_gt hx hb d_M_ask_37 (tgt := 53) rfl (fun h9 => absurd h9 (mt (lg_cmp_gt _ _).mp (Int64.not_lt.mpr (h4)))) (fun _ => ?_)
  refine lv_iload hx hb d_M_ask_40 (lv_at hl 3 rfl) ?_
  refine lv_iconst (v := 1) hx hb d_M_ask_42 (by decide) ?_
  refine lv_icmp_lt hx hb d_M_ask_43 (tgt := 53) rfl (fun h9 => absurd h9 h5) (fun _ => ?_)
  refine lv_iload hx hb d_M_ask_46 (lv_at hl 3 rfl) ?_
  refine lv_bipush (v := 64) hx hb d_M_ask_48 (by decide) ?_
  refine lv_icmp_le hx hb d_M_ask_50 (tgt := 57) rfl (fun _ => ?_) (fun h9 => absurd h6 h9)
  refine lv_iconst (v := 0) hx hb d_M_ask_57 (by decide) ?_
  refine pF hx hb hown hE hK hP hD hS 0 rfl rfl layM tyM tokM nmM 0 (by decide) w319 rfl rfl rfl (by simp [hl_fs]) d_M_ask_58 (fun H locs hP hD hS => ?_)
  have hP : va_P D vwCl [(a, .inr (9, (fs.set 0 (.int 0))))] H := hP
  have hD : va_D A [(a, .inr (9, (fs.set 0 (.int 0))))] := hD
  refine lv_aload_n hx hb d_M_ask_61 rfl (lv_at hl 0 rfl) ?_
  refine gF (v := .int 0) hx hb hown hE hK hP 0 rfl rfl layM 0 (by decide) w319 (by simp [hl_fs]) d_M_ask_62 ?_
  refine lv_if_le hx hb d_M_ask_65 (tgt := 70) rfl (fun _ => ?_) (fun h9 => absurd (by decide) h9)
  refine lv_aload_n hx hb d_M_ask_70 rfl (lv_at hl 0 rfl) ?_
  refine lv_iconst (v := 0) hx hb d_M_ask_71 (by decide) ?_
  refine pF hx hb hown hE hK hP hD hS 0 rfl rfl layM tyM tokM nmM 3 (by decide) w321 rfl rfl rfl (by simp [hl_fs]) d_M_ask_72 (fun H locs hP hD hS => ?_)
  have hP : va_P D vwCl [(a, .inr (9, ((fs.set 0 (.int 0)).set 3 (.int 0))))] H := hP
  have hD : va_D A [(a, .inr (9, ((fs.set 0 (.int 0)).set 3 (.int 0))))] := hD
  refine lv_aload_n hx hb d_M_ask_75 rfl (lv_at hl 0 rfl) ?_
  refine lv_iconst (v := 0) hx hb d_M_ask_76 (by decide) ?_
  refine pF hx hb hown hE hK hP hD hS 0 rfl rfl layM tyM tokM nmM 4 (by decide) w322 rfl rfl rfl (by simp [hl_fs]) d_M_ask_77 (fun H locs hP hD hS => ?_)
  have hP : va_P D vwCl [(a, .inr (9, (((fs.set 0 (.int 0)).set 3 (.int 0)).set 4 (.int 0))))] H := hP
  have hD : va_D A [(a, .inr (9, (((fs.set 0 (.int 0)).set 3 (.int 0)).set 4 (.int 0))))] := hD
  refine lv_aload_n hx hb d_M_ask_80 rfl (lv_at hl 0 rfl) ?_
  refine lv_lload_n hx hb d_M_ask_81 rfl (lv_at hl 1 rfl) ?_
  refine pF hx hb hown hE hK hP hD hS 0 rfl rfl layM tyM tokM nmM 57 (by decide) w487 rfl rfl rfl (by simp [hl_fs]) d_M_ask_82 (fun H locs hP hD hS => ?_)
  have hP : va_P D vwCl [(a, .inr (9, ((((fs.set 0 (.int 0)).set 3 (.int 0)).set 4 (.int 0)).set 57 (.long t))))] H := hP
  have hD : va_D A [(a, .inr (9, ((((fs.set 0 (.int 0)).set 3 (.int 0)).set 4 (.int 0)).set 57 (.long t))))] := hD
  refine lv_aload_n hx hb d_M_ask_85 rfl (lv_at hl 0 rfl) ?_
  refine lv_lload_n hx hb d_M_ask_86 rfl (lv_at hl 2 rfl) ?_
  refine pF hx hb hown hE hK hP hD hS 0 rfl rfl layM tyM tokM nmM 58 (by decide) w488 rfl rfl rfl (by simp [hl_fs]) d_M_ask_87 (fun H locs hP hD hS => ?_)
  have hP : va_P D vwCl [(a, .inr (9, (((((fs.set 0 (.int 0)).set 3 (.int 0)).set 4 (.int 0)).set 57 (.long t)).set 58 (.long w))))] H := hP
  have hD : va_D A [(a, .inr (9, (((((fs.set 0 (.int 0)).set 3 (.int 0)).set 4 (.int 0)).set 57 (.long t)).set 58 (.long w))))] := hD
  refine lv_aload_n hx hb d_M_ask_90 rfl (lv_at hl 0 rfl) ?_
  refine lv_iload hx hb d_M_ask_91 (lv_at hl 3 rfl) ?_
  refine pF hx hb hown hE hK hP hD hS 0 rfl rfl layM tyM tokM nmM 59 (by decide) w489 rfl rfl rfl (by simp [hl_fs]) d_M_ask_93 (fun H locs hP hD hS => ?_)
  have hP : va_P D vwCl [(a, .inr (9, ((((((fs.set 0 (.int 0)).set 3 (.int 0)).set 4 (.int 0)).set 57 (.long t)).set 58 (.long w)).set 59 (.int n))))] H := hP
  have hD : va_D A [(a, .inr (9, ((((((fs.set 0 (.int 0)).set 3 (.int 0)).set 4 (.int 0)).set 57 (.long t)).set 58 (.long w)).set 59 (.int n))))] := hD
  refine lv_aload_n hx hb d_M_ask_96 rfl (lv_at hl 0 rfl) ?_
  refine lv_iconst (v := 0) hx hb d_M_ask_97 (by decide) ?_
  refine pF hx hb hown hE hK hP hD hS 0 rfl rfl layM tyM tokM nmM 71 (by decide) w326 rfl rfl rfl (by simp [hl_fs]) d_M_ask_98 (fun H locs hP hD hS => ?_)
  have hP : va_P D vwCl [(a, .inr (9, (((((((fs.set 0 (.int 0)).set 3 (.int 0)).set 4 (.int 0)).set 57 (.long t)).set 58 (.long w)).set 59 (.int n)).set 71 (.int 0))))] H := hP
  have hD : va_D A [(a, .inr (9, (((((((fs.set 0 (.int 0)).set 3 (.int 0)).set 4 (.int 0)).set 57 (.long t)).set 58 (.long w)).set 59 (.int n)).set 71 (.int 0))))] := hD
  refine lv_aload_n hx hb d_M_ask_101 rfl (lv_at hl 0 rfl) ?_
  refine lv_iconst (v := 0) hx hb d_M_ask_102 (by decide) ?_
  have hPc := hP.sub (ws' := [(a, .inr (9, (((((((fs.set 0 (.int 0)).set 3 (.int 0)).set 4 (.int 0)).set 57 (.long t)).set 58 (.long w)).set 59 (.int n)).set 71 (.int 0))))]) [0] rfl
  have hDc := hD.sub (ws' := [(a, .inr (9, (((((((fs.set 0 (.int 0)).set 3 (.int 0)).set 4 (.int 0)).set 57 (.long t)).set 58 (.long w)).set 59 (.int n)).set 71 (.int 0))))]) [0] (by decide) rfl
  refine jnI (rnV (As := [.int 0]) (rest := []) hx hb hml hown hE hK (hN _ _ hS) hPc hDc (c_M_question_0 l D dA H.size a (((((((fs.set 0 (.int 0)).set 3 (.int 0)).set 4 (.int 0)).set 57 (.long t)).set 58 (.long w)).set 59 (.int n)).set 71 (.int 0)) (by simp [h_fs_length]) (by simp [hl_fs]) (by simp [hl_fs])) (q0 := 0) rfl rfl w491 w490 w492 w493 w328 rfl rfl ⟨⟨by decide, by decide⟩, rfl⟩ ⟨(Nat.le_of_ble_eq_true rfl), (Nat.le_of_ble_eq_true rfl)⟩ rfl hl.1 rfl (Nat.le_of_ble_eq_true rfl) d_M_ask_103 ⟨(Nat.le_of_ble_eq_true rfl), (Nat.le_of_ble_eq_true rfl)⟩) hP hD hS hA [0] [] (wr := []) rfl rfl (by decide) (by decide) (fun r1 u9 H locs hp9 hP hD hS => ?_)
  have hP : va_P D vwCl [(a, .inr (9, ((((((((((((((((((fs.set 0 (.int 0)).set 3 (.int 0)).set 4 (.int 0)).set 57 (.long t)).set 58 (.long w)).set 59 (.int n)).set 71 (.int 0)).set 56 (.int 0)).set 55 (.int 0)).set 68 (.int 0)).set 69 (.int 0)).set 46 (.int 0)).set 70 (.int 1)).set 45 (.int 0)).set 44 (.int 0)).set 70 (.int 0)).set 3 (.int 2)).set 4 (.int 0))))] H := hP
  have hD : va_D A [(a, .inr (9, ((((((((((((((((((fs.set 0 (.int 0)).set 3 (.int 0)).set 4 (.int 0)).set 57 (.long t)).set 58 (.long w)).set 59 (.int n)).set 71 (.int 0)).set 56 (.int 0)).set 55 (.int 0)).set 68 (.int 0)).set 69 (.int 0)).set 46 (.int 0)).set 70 (.int 1)).set 45 (.int 0)).set 44 (.int 0)).set 70 (.int 0)).set 3 (.int 2)).set 4 (.int 0))))] := hD
  have hp9 : 0 = r1 := Eq.symm hp9
  subst hp9
  refine lv_if_eq hx hb d_M_ask_106 (tgt := 121) rfl (fun _ => ?_) (fun h9 => absurd (by decide) h9)
  refine lv_iconst (v := 0) hx hb d_M_ask_121 (by decide) ?_
  refine lv_istore hx hb d_M_ask_122 hl (by decide) rfl (fun ls hl => ?_)
  have hl : lv_has ls 7 [(6, .int 0), (0, .ref a), (1, .long t), (3, .long w), (5, .int n)] := hl
  refine lv_iload hx hb d_M_ask_124 (lv_at hl 0 rfl) ?_
  refine lv_if_eq hx hb d_M_ask_126 (tgt := 133) rfl (fun _ => ?_) (fun h9 => absurd (by decide) h9)
  refine lv_aload_n hx hb d_M_ask_133 rfl (lv_at hl 1 rfl) ?_
  refine lv_iconst (v := 0) hx hb d_M_ask_134 (by decide) ?_
  refine pF hx hb hown hE hK hP hD hS 0 rfl rfl layM tyM tokM nmM 2 (by decide) w320 rfl rfl rfl (by simp [hl_fs]) d_M_ask_135 (fun H locs hP hD hS => ?_)
  have hP : va_P D vwCl [(a, .inr (9, (((((((((((((((((((fs.set 0 (.int 0)).set 3 (.int 0)).set 4 (.int 0)).set 57 (.long t)).set 58 (.long w)).set 59 (.int n)).set 71 (.int 0)).set 56 (.int 0)).set 55 (.int 0)).set 68 (.int 0)).set 69 (.int 0)).set 46 (.int 0)).set 70 (.int 1)).set 45 (.int 0)).set 44 (.int 0)).set 70 (.int 0)).set 3 (.int 2)).set 4 (.int 0)).set 2 (.int 0))))] H := hP
  have hD : va_D A [(a, .inr (9, (((((((((((((((((((fs.set 0 (.int 0)).set 3 (.int 0)).set 4 (.int 0)).set 57 (.long t)).set 58 (.long w)).set 59 (.int n)).set 71 (.int 0)).set 56 (.int 0)).set 55 (.int 0)).set 68 (.int 0)).set 69 (.int 0)).set 46 (.int 0)).set 70 (.int 1)).set 45 (.int 0)).set 44 (.int 0)).set 70 (.int 0)).set 3 (.int 2)).set 4 (.int 0)).set 2 (.int 0))))] := hD
  refine lv_iload hx hb d_M_ask_138 (lv_at hl 0 rfl) ?_
  refine lv_if_eq hx hb d_M_ask_140 (tgt := 150) rfl (fun _ => ?_) (fun h9 => absurd (by decide) h9)
  refine lv_iconst (v := (-1)) hx hb d_M_ask_150 (by decide) ?_
  exact rtI hx hb hr hlk hP hD hS () rfl [0] rfl rfl (by decide) (Nat.le_of_ble_eq_true rfl) (Nat.le_of_ble_eq_true rfl) d_M_ask_151
theorem d_M_ask_53 : decode prog_14_method_91_code 53 = .ok (.iconst 2, 1) := by decide +kernel
theorem d_M_ask_54 : decode prog_14_method_91_code 54 = .ok (.goto 4, 3) := by decide +kernel
theorem d_M_ask_68 : decode prog_14_method_91_code 68 = .ok (.iconst 0, 1) := by decide +kernel
theorem d_M_ask_69 : decode prog_14_method_91_code 69 = .ok (.ireturn, 1) := by decide +kernel
set_option maxHeartbeats 4000000 in
set_option maxRecDepth 100000 in
theorem c_M_ask_x (l : Launch) (D : va_G) (dA : Nat → ClassId) (sz : Nat) (a : Nat) (fs : List Value) (t : Int64) (w : Int64) (n : Int32) (h0 : t < 0 ∨ 1099511627775 < t ∨ w < 1 ∨ 1099511627775 < w ∨ n < 1 ∨ 64 < n) (h_fs_on : fs[7]? = some (.int 1)) (hl_fs : fs.length = 79) : Met l ⟨"SeriesVaultModel", "ask", "(JJI)I"⟩ [Cond.code ⟨"SeriesVaultModel", "ask", "(JJI)I"⟩ prog_14_method_91_code 7 (some FieldType.int)] { frames := 1, cells := 0, slots := 0, locals := 0 } (pC D dA [.ref a, .long t, .long w, .int n] [(a, .inr (9, fs))] sz) (va_Qi (fun (r : Int32) (_ : Unit) => r = 0) (fun (u9 : Unit) t9 => bW D (va_A [(a, .inr (9, fs))] sz) [(a, .inr (9, (fs.set 0 (.int 2))))] t9) (va_A [(a, .inr (9, fs))] sz)) 0 0 (va_A [(a, .inr (9, fs))] sz) := by
  refine mkC (Qc := fun A => va_Qi (fun (r : Int32) (_ : Unit) => r = 0) (fun (u9 : Unit) t9 => bW D A [(a, .inr (9, (fs.set 0 (.int 2))))] t9) A) (by decide) (Nat.le_of_ble_eq_true rfl) ?_
  intro A p e s m below meth c ls hsz hB
  obtain ⟨hx, hb, hr, hml, hown, hin, hlk, hE, hK, hP, hD, hS, hA, hN, hl⟩ := hB
  have hown : s.vm.findClass "SeriesVaultModel" = some m.cls := hown
  have hin : meth.name = "ask" := hin
  have hl : lv_has ls 7 [(0, .ref a), (1, .long t), (3, .long w), (5, .int n)] := hl
  obtain ⟨H, hH⟩ : ∃ z, z = s.heap := ⟨_, rfl⟩
  have hP : va_P D vwCl [(a, .inr (9, fs))] H := by rw [hH]; exact hP
  have hS : va_S A s.heap H [] := by rw [hH]; exact hS
  rw [← hH]
  refine lv_aload_n hx hb d_M_ask_0 rfl (lv_at hl 0 rfl) ?_
  refine lv_aload_n hx hb d_M_ask_1 rfl (lv_at hl 0 rfl) ?_
  refine gF (v := .int 1) hx hb hown hE hK hP 0 rfl rfl layM 7 (by decide) w324 h_fs_on d_M_ask_2 ?_
  refine lv_if_ne hx hb d_M_ask_5 (tgt := 12) rfl (fun _ => ?_) (fun h9 => absurd h9 (by decide))
  refine lv_lload_n hx hb d_M_ask_12 rfl (lv_at hl 1 rfl) ?_
  refine lv_lconst (v := 0) hx hb d_M_ask_13 (by decide) ?_
  refine W.lcmp hx hb d_M_ask_14 ?_
  refine lv_if_lt hx hb d_M_ask_15 (tgt := 53) rfl (fun hc => ?_) (fun hc => ?_)
  · refine lv_iconst (v := 2) hx hb d_M_ask_53 (by decide) ?_
    refine lv_goto hx hb d_M_ask_54 (tgt := 58) rfl ?_
    refine pF hx hb hown hE hK hP hD hS 0 rfl rfl layM tyM tokM nmM 0 (by decide) w319 rfl rfl rfl (by simp [hl_fs]) d_M_ask_58 (fun H locs hP hD hS => ?_)
    have hP : va_P D vwCl [(a, .inr (9, (fs.set 0 (.int 2))))] H := hP
    have hD : va_D A [(a, .inr (9, (fs.set 0 (.int 2))))] := hD
    refine lv_aload_n hx hb d_M_ask_61 rfl (lv_at hl 0 rfl) ?_
    refine gF (v := .int 2) hx hb hown hE hK hP 0 rfl rfl layM 0 (by decide) w319 (by simp [hl_fs]) d_M_ask_62 ?_
    refine lv_if_le hx hb d_M_ask_65 (tgt := 70) rfl (fun h9 => absurd h9 (by decide)) (fun _ => ?_)
    refine lv_iconst (v := 0) hx hb d_M_ask_68 (by decide) ?_
    exact rtI hx hb hr hlk hP hD hS () rfl [0] rfl rfl (by decide) (Nat.le_of_ble_eq_true rfl) (Nat.le_of_ble_eq_true rfl) d_M_ask_69
  · refine lv_lload_n hx hb d_M_ask_18 rfl (lv_at hl 1 rfl) ?_
    refine lv_ldc2 (v := 1099511627775) hx hb hown (hE.t w450 rfl) d_M_ask_19 ?_
    refine W.lcmp hx hb d_M_ask_22 ?_
    refine lv_if_gt hx hb d_M_ask_23 (tgt := 53) rfl (fun hd => ?_) (fun hd => ?_)
    · refine lv_iconst (v := 2) hx hb d_M_ask_53 (by decide) ?_
      refine lv_goto hx hb d_M_ask_54 (tgt := 58) rfl ?_
      refine pF hx hb hown hE hK hP hD hS 0 rfl rfl layM tyM tokM nmM 0 (by decide) w319 rfl rfl rfl (by simp [hl_fs]) d_M_ask_58 (fun H locs hP hD hS => ?_)
      have hP : va_P D vwCl [(a, .inr (9, (fs.set 0 (.int 2))))] H := hP
      have hD : va_D A [(a, .inr (9, (fs.set 0 (.int 2))))] := hD
      refine lv_aload_n hx hb d_M_ask_61 rfl (lv_at hl 0 rfl) ?_
      refine gF (v := .int 2) hx hb hown hE hK hP 0 rfl rfl layM 0 (by decide) w319 (by simp [hl_fs]) d_M_ask_62 ?_
      refine lv_if_le hx hb d_M_ask_65 (tgt := 70) rfl (fun h9 => absurd h9 (by decide)) (fun _ => ?_)
      refine lv_iconst (v := 0) hx hb d_M_ask_68 (by decide) ?_
      exact rtI hx hb hr hlk hP hD hS () rfl [0] rfl rfl (by decide) (Nat.le_of_ble_eq_true rfl) (Nat.le_of_ble_eq_true rfl) d_M_ask_69
    · refine lv_lload_n hx hb d_M_ask_26 rfl (lv_at hl 2 rfl) ?_
      refine lv_lconst (v := 1) hx hb d_M_ask_27 (by decide) ?_
      refine W.lcmp hx hb d_M_ask_28 ?_
      refine lv_if_lt hx hb d_M_ask_29 (tgt := 53) rfl (fun he => ?_) (fun he => ?_)
      · refine lv_iconst (v := 2) hx hb d_M_ask_53 (by decide) ?_
        refine lv_goto hx hb d_M_ask_54 (tgt := 58) rfl ?_
        refine pF hx hb hown hE hK hP hD hS 0 rfl rfl layM tyM tokM nmM 0 (by decide) w319 rfl rfl rfl (by simp [hl_fs]) d_M_ask_58 (fun H locs hP hD hS => ?_)
        have hP : va_P D vwCl [(a, .inr (9, (fs.set 0 (.int 2))))] H := hP
        have hD : va_D A [(a, .inr (9, (fs.set 0 (.int 2))))] := hD
        refine lv_aload_n hx hb d_M_ask_61 rfl (lv_at hl 0 rfl) ?_
        refine gF (v := .int 2) hx hb hown hE hK hP 0 rfl rfl layM 0 (by decide) w319 (by simp [hl_fs]) d_M_ask_62 ?_
        refine lv_if_le hx hb d_M_ask_65 (tgt := 70) rfl (fun h9 => absurd h9 (by decide)) (fun _ => ?_)
        refine lv_iconst (v := 0) hx hb d_M_ask_68 (by decide) ?_
        exact rtI hx hb hr hlk hP hD hS () rfl [0] rfl rfl (by decide) (Nat.le_of_ble_eq_true rfl) (Nat.le_of_ble_eq_true rfl) d_M_ask_69
      · refine lv_lload_n hx hb d_M_ask_32 rfl (lv_at hl 2 rfl) ?_
        refine lv_ldc2 (v := 1099511627775) hx hb hown (hE.t w450 rfl) d_M_ask_33 ?_
        refine W.lcmp hx hb d_M_ask_36 ?_
        refine lv_if_gt hx hb d_M_ask_37 (tgt := 53) rfl (fun hf => ?_) (fun hf => ?_)
        · refine lv_iconst (v := 2) hx hb d_M_ask_53 (by decide) ?_
          refine lv_goto hx hb d_M_ask_54 (tgt := 58) rfl ?_
          refine pF hx hb hown hE hK hP hD hS 0 rfl rfl layM tyM tokM nmM 0 (by decide) w319 rfl rfl rfl (by simp [hl_fs]) d_M_ask_58 (fun H locs hP hD hS => ?_)
          have hP : va_P D vwCl [(a, .inr (9, (fs.set 0 (.int 2))))] H := hP
          have hD : va_D A [(a, .inr (9, (fs.set 0 (.int 2))))] := hD
          refine lv_aload_n hx hb d_M_ask_61 rfl (lv_at hl 0 rfl) ?_
          refine gF (v := .int 2) hx hb hown hE hK hP 0 rfl rfl layM 0 (by decide) w319 (by simp [hl_fs]) d_M_ask_62 ?_
          refine lv_if_le hx hb d_M_ask_65 (tgt := 70) rfl (fun h9 => absurd h9 (by decide)) (fun _ => ?_)
          refine lv_iconst (v := 0) hx hb d_M_ask_68 (by decide) ?_
          exact rtI hx hb hr hlk hP hD hS () rfl [0] rfl rfl (by decide) (Nat.le_of_ble_eq_true rfl) (Nat.le_of_ble_eq_true rfl) d_M_ask_69
        · refine lv_iload hx hb d_M_ask_40 (lv_at hl 3 rfl) ?_
          refine lv_iconst (v := 1) hx hb d_M_ask_42 (by decide) ?_
          refine lv_icmp_lt hx hb d_M_ask_43 (tgt := 53) rfl (fun hg => ?_) (fun hg => ?_)
          · refine lv_iconst (v := 2) hx hb d_M_ask_53 (by decide) ?_
            refine lv_goto hx hb d_M_ask_54 (tgt := 58) rfl ?_
            refine pF hx hb hown hE hK hP hD hS 0 rfl rfl layM tyM tokM nmM 0 (by decide) w319 rfl rfl rfl (by simp [hl_fs]) d_M_ask_58 (fun H locs hP hD hS => ?_)
            have hP : va_P D vwCl [(a, .inr (9, (fs.set 0 (.int 2))))] H := hP
            have hD : va_D A [(a, .inr (9, (fs.set 0 (.int 2))))] := hD
            refine lv_aload_n hx hb d_M_ask_61 rfl (lv_at hl 0 rfl) ?_
            refine gF (v := .int 2) hx hb hown hE hK hP 0 rfl rfl layM 0 (by decide) w319 (by simp [hl_fs]) d_M_ask_62 ?_
            refine lv_if_le hx hb d_M_ask_65 (tgt := 70) rfl (fun h9 => absurd h9 (by decide)) (fun _ => ?_)
            refine lv_iconst (v := 0) hx hb d_M_ask_68 (by decide) ?_
            exact rtI hx hb hr hlk hP hD hS () rfl [0] rfl rfl (by decide) (Nat.le_of_ble_eq_true rfl) (Nat.le_of_ble_eq_true rfl) d_M_ask_69
          · refine lv_iload hx hb d_M_ask_46 (lv_at hl 3 rfl) ?_
            refine lv_bipush (v := 64) hx hb d_M_ask_48 (by decide) ?_
            refine lv_icmp_le hx hb d_M_ask_50 (tgt := 57) rfl (fun h9 => absurd h9 (ask_l h0 hc hd he hf hg)) (fun _ => ?_)
            refine lv_iconst (v := 2) hx hb d_M_ask_53 (by decide) ?_
            refine lv_goto hx hb d_M_ask_54 (tgt := 58) rfl ?_
            refine pF hx hb hown hE hK hP hD hS 0 rfl rfl layM tyM tokM nmM 0 (by decide) w319 rfl rfl rfl (by simp [hl_fs]) d_M_ask_58 (fun H locs hP hD hS => ?_)
            have hP : va_P D vwCl [(a, .inr (9, (fs.set 0 (.int 2))))] H := hP
            have hD : va_D A [(a, .inr (9, (fs.set 0 (.int 2))))] := hD
            refine lv_aload_n hx hb d_M_ask_61 rfl (lv_at hl 0 rfl) ?_
            refine gF (v := .int 2) hx hb hown hE hK hP 0 rfl rfl layM 0 (by decide) w319 (by simp [hl_fs]) d_M_ask_62 ?_
            refine lv_if_le hx hb d_M_ask_65 (tgt := 70) rfl (fun h9 => absurd h9 (by decide)) (fun _ => ?_)
            refine lv_iconst (v := 0) hx hb d_M_ask_68 (by decide) ?_
            exact rtI hx hb hr hlk hP hD hS () rfl [0] rfl rfl (by decide) (Nat.le_of_ble_eq_true rfl) (Nat.le_of_ble_eq_true rfl) d_M_ask_69
end
