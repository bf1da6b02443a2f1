theorem d_M_feed_0 : decode prog_14_method_3_code 0 = .ok (.aload_n 0, 1) := by decide +kernel
theorem d_M_feed_1 : decode prog_14_method_3_code 1 = .ok (.aload_n 0, 1) := by decide +kernel
theorem d_M_feed_2 : decode prog_14_method_3_code 2 = .ok (.getfield 148, 3) := by decide +kernel
theorem d_M_feed_5 : decode prog_14_method_3_code 5 = .ok (.bipush 20, 2) := by decide +kernel
theorem d_M_feed_7 : decode prog_14_method_3_code 7 = .ok (.iadd, 1) := by decide +kernel
theorem d_M_feed_8 : decode prog_14_method_3_code 8 = .ok (.ldc 7, 2) := by decide +kernel
theorem d_M_feed_10 : decode prog_14_method_3_code 10 = .ok (.if_icmp .le 7, 3) := by decide +kernel
theorem d_M_feed_17 : decode prog_14_method_3_code 17 = .ok (.iconst 0, 1) := by decide +kernel
theorem d_M_feed_18 : decode prog_14_method_3_code 18 = .ok (.putfield 145, 3) := by decide +kernel
theorem d_M_feed_21 : decode prog_14_method_3_code 21 = .ok (.aload_n 0, 1) := by decide +kernel
theorem d_M_feed_22 : decode prog_14_method_3_code 22 = .ok (.getfield 145, 3) := by decide +kernel
theorem d_M_feed_25 : decode prog_14_method_3_code 25 = .ok (.ifCond .le 5, 3) := by decide +kernel
theorem d_M_feed_30 : decode prog_14_method_3_code 30 = .ok (.iconst 0, 1) := by decide +kernel
theorem d_M_feed_31 : decode prog_14_method_3_code 31 = .ok (.istore 6, 2) := by decide +kernel
theorem d_M_feed_33 : decode prog_14_method_3_code 33 = .ok (.iload 6, 2) := by decide +kernel
theorem d_M_feed_35 : decode prog_14_method_3_code 35 = .ok (.bipush 20, 2) := by decide +kernel
theorem d_M_feed_37 : decode prog_14_method_3_code 37 = .ok (.if_icmp .ge 90, 3) := by decide +kernel
theorem d_M_feed_40 : decode prog_14_method_3_code 40 = .ok (.iload 6, 2) := by decide +kernel
theorem d_M_feed_42 : decode prog_14_method_3_code 42 = .ok (.iconst 4, 1) := by decide +kernel
theorem d_M_feed_43 : decode prog_14_method_3_code 43 = .ok (.if_icmp .ge 7, 3) := by decide +kernel
theorem d_M_feed_46 : decode prog_14_method_3_code 46 = .ok (.iload_n 1, 1) := by decide +kernel
theorem d_M_feed_47 : decode prog_14_method_3_code 47 = .ok (.goto 39, 3) := by decide +kernel
theorem d_M_feed_86 : decode prog_14_method_3_code 86 = .ok (.istore 7, 2) := by decide +kernel
theorem d_M_feed_88 : decode prog_14_method_3_code 88 = .ok (.aload_n 0, 1) := by decide +kernel
theorem d_M_feed_89 : decode prog_14_method_3_code 89 = .ok (.getfield 8, 3) := by decide +kernel
theorem d_M_feed_92 : decode prog_14_method_3_code 92 = .ok (.aload_n 0, 1) := by decide +kernel
theorem d_M_feed_93 : decode prog_14_method_3_code 93 = .ok (.getfield 148, 3) := by decide +kernel
theorem d_M_feed_96 : decode prog_14_method_3_code 96 = .ok (.iload 7, 2) := by decide +kernel
theorem d_M_feed_98 : decode prog_14_method_3_code 98 = .ok (.bipush 24, 2) := by decide +kernel
theorem d_M_feed_100 : decode prog_14_method_3_code 100 = .ok (.bipush 8, 2) := by decide +kernel
theorem d_M_feed_102 : decode prog_14_method_3_code 102 = .ok (.iload 6, 2) := by decide +kernel
theorem d_M_feed_104 : decode prog_14_method_3_code 104 = .ok (.iconst 4, 1) := by decide +kernel
theorem d_M_feed_105 : decode prog_14_method_3_code 105 = .ok (.irem, 1) := by decide +kernel
theorem d_M_feed_106 : decode prog_14_method_3_code 106 = .ok (.imul, 1) := by decide +kernel
theorem d_M_feed_107 : decode prog_14_method_3_code 107 = .ok (.isub, 1) := by decide +kernel
theorem d_M_feed_108 : decode prog_14_method_3_code 108 = .ok (.ishr, 1) := by decide +kernel
theorem d_M_feed_109 : decode prog_14_method_3_code 109 = .ok (.i2b, 1) := by decide +kernel
theorem d_M_feed_110 : decode prog_14_method_3_code 110 = .ok (.bastore, 1) := by decide +kernel
theorem d_M_feed_111 : decode prog_14_method_3_code 111 = .ok (.aload_n 0, 1) := by decide +kernel
theorem d_M_feed_112 : decode prog_14_method_3_code 112 = .ok (.dup, 1) := by decide +kernel
theorem d_M_feed_113 : decode prog_14_method_3_code 113 = .ok (.getfield 148, 3) := by decide +kernel
theorem d_M_feed_116 : decode prog_14_method_3_code 116 = .ok (.iconst 1, 1) := by decide +kernel
theorem d_M_feed_117 : decode prog_14_method_3_code 117 = .ok (.iadd, 1) := by decide +kernel
theorem d_M_feed_118 : decode prog_14_method_3_code 118 = .ok (.putfield 148, 3) := by decide +kernel
theorem d_M_feed_121 : decode prog_14_method_3_code 121 = .ok (.iinc 6 1, 3) := by decide +kernel
theorem d_M_feed_124 : decode prog_14_method_3_code 124 = .ok (.goto (-91), 3) := by decide +kernel
theorem d_M_feed_50 : decode prog_14_method_3_code 50 = .ok (.iload 6, 2) := by decide +kernel
theorem d_M_feed_52 : decode prog_14_method_3_code 52 = .ok (.bipush 8, 2) := by decide +kernel
theorem d_M_feed_54 : decode prog_14_method_3_code 54 = .ok (.if_icmp .ge 7, 3) := by decide +kernel
theorem d_M_feed_57 : decode prog_14_method_3_code 57 = .ok (.iload_n 2, 1) := by decide +kernel
theorem d_M_feed_58 : decode prog_14_method_3_code 58 = .ok (.goto 28, 3) := by decide +kernel
theorem d_M_feed_61 : decode prog_14_method_3_code 61 = .ok (.iload 6, 2) := by decide +kernel
theorem d_M_feed_63 : decode prog_14_method_3_code 63 = .ok (.bipush 12, 2) := by decide +kernel
theorem d_M_feed_65 : decode prog_14_method_3_code 65 = .ok (.if_icmp .ge 7, 3) := by decide +kernel
theorem d_M_feed_68 : decode prog_14_method_3_code 68 = .ok (.iload_n 3, 1) := by decide +kernel
theorem d_M_feed_69 : decode prog_14_method_3_code 69 = .ok (.goto 17, 3) := by decide +kernel
theorem d_M_feed_72 : decode prog_14_method_3_code 72 = .ok (.iload 6, 2) := by decide +kernel
theorem d_M_feed_74 : decode prog_14_method_3_code 74 = .ok (.bipush 16, 2) := by decide +kernel
theorem d_M_feed_76 : decode prog_14_method_3_code 76 = .ok (.if_icmp .ge 8, 3) := by decide +kernel
theorem d_M_feed_79 : decode prog_14_method_3_code 79 = .ok (.iload 4, 2) := by decide +kernel
theorem d_M_feed_81 : decode prog_14_method_3_code 81 = .ok (.goto 5, 3) := by decide +kernel
theorem d_M_feed_84 : decode prog_14_method_3_code 84 = .ok (.iload 5, 2) := by decide +kernel
theorem d_M_feed_127 : decode prog_14_method_3_code 127 = .ok (.aload_n 0, 1) := by decide +kernel
theorem d_M_feed_128 : decode prog_14_method_3_code 128 = .ok (.getfield 148, 3) := by decide +kernel
theorem d_M_feed_131 : decode prog_14_method_3_code 131 = .ok (.ireturn, 1) := by decide +kernel
set_option maxHeartbeats 4000000 in
set_option maxRecDepth 100000 in
theorem c_M_feed (l : Launch) (D : va_G) (dA : Nat → ClassId) (sz : Nat) (a : Nat) (fs : List Value) (b : Nat) (g : Nat → Int32) (x0 : Int32) (x1 : Int32) (x2 : Int32) (x3 : Int32) (x4 : Int32) (h_fs_tape : fs[1]? = some (.ref b)) (h_fs_length : fs[2]? = some (.int 0)) (hl_fs : fs.length = 79) : Met l ⟨"SeriesVaultModel", "feed", "(IIIII)I"⟩ [Cond.code ⟨"SeriesVaultModel", "feed", "(IIIII)I"⟩ prog_14_method_3_code 8 (some FieldType.int)] { frames := 1, cells := 0, slots := 0, locals := 0 } (pC D dA [.ref a, .int x0, .int x1, .int x2, .int x3, .int x4] [(a, .inr (9, fs)), (b, .inl (dA 0, 65536, .inl g))] sz) (va_Qi (fun (r : Int32) (_ : Unit) => r = 20) (fun (u9 : Unit) t9 => bW D (va_A [(a, .inr (9, fs)), (b, .inl (dA 0, 65536, .inl g))] sz) [(a, .inr (9, (((((((((((((((((((((fs.set 0 (.int 0)).set 2 (.int 1)).set 2 (.int 2)).set 2 (.int 3)).set 2 (.int 4)).set 2 (.int 5)).set 2 (.int 6)).set 2 (.int 7)).set 2 (.int 8)).set 2 (.int 9)).set 2 (.int 10)).set 2 (.int 11)).set 2 (.int 12)).set 2 (.int 13)).set 2 (.int 14)).set 2 (.int 15)).set 2 (.int 16)).set 2 (.int 17)).set 2 (.int 18)).set 2 (.int 19)).set 2 (.int 20)))), (b, .inl (dA 0, 65536, .inl (upd (upd (upd (upd (upd (upd (upd (upd (upd (upd (upd (upd (upd (upd (upd (upd (upd (upd (upd (upd g 0 (vp_nar .byte ((x0 >>> (24 &&& 31)).toInt8.toInt32))) 1 (vp_nar .byte ((x0 >>> (16 &&& 31)).toInt8.toInt32))) 2 (vp_nar .byte ((x0 >>> (8 &&& 31)).toInt8.toInt32))) 3 (vp_nar .byte ((x0 >>> (0 &&& 31)).toInt8.toInt32))) 4 (vp_nar .byte ((x1 >>> (24 &&& 31)).toInt8.toInt32))) 5 (vp_nar .byte ((x1 >>> (16 &&& 31)).toInt8.toInt32))) 6 (vp_nar .byte ((x1 >>> (8 &&& 31)).toInt8.toInt32))) 7 (vp_nar .byte ((x1 >>> (0 &&& 31)).toInt8.toInt32))) 8 (vp_nar .byte ((x2 >>> (24 &&& 31)).toInt8.toInt32))) 9 (vp_nar .byte ((x2 >>> (16 &&& 31)).toInt8.toInt32))) 10 (vp_nar .byte ((x2 >>> (8 &&& 31)).toInt8.toInt32))) 11 (vp_nar .byte ((x2 >>> (0 &&& 31)).toInt8.toInt32))) 12 (vp_nar .byte ((x3 >>> (24 &&& 31)).toInt8.toInt32))) 13 (vp_nar .byte ((x3 >>> (16 &&& 31)).toInt8.toInt32))) 14 (vp_nar .byte ((x3 >>> (8 &&& 31)).toInt8.toInt32))) 15 (vp_nar .byte ((x3 >>> (0 &&& 31)).toInt8.toInt32))) 16 (vp_nar .byte ((x4 >>> (24 &&& 31)).toInt8.toInt32))) 17 (vp_nar .byte ((x4 >>> (16 &&& 31)).toInt8.toInt32))) 18 (vp_nar .byte ((x4 >>> (8 &&& 31)).toInt8.toInt32))) 19 (vp_nar .byte ((x4 >>> (0 &&& 31)).toInt8.toInt32)))))] t9) (va_A [(a, .inr (9, fs)), (b, .inl (dA 0, 65536, .inl g))] sz)) 0 0 (va_A [(a, .inr (9, fs)), (b, .inl (dA 0, 65536, .inl g))] sz) := by
  refine mkC (y := ⟨"SeriesVaultModel", "feed", "(IIIII)I"⟩) (cc := prog_14_method_3_code) (maxL := 8) (av := [.ref a, .int x0, .int x1, .int x2, .int x3, .int x4]) (ws := [(a, .inr (9, fs)), (b, .inl (dA 0, 65536, .inl g))]) (sz := sz) (Qc := fun A => va_Qi (fun (r : Int32) (_ : Unit) => r = 20) (fun (u9 : Unit) t9 => bW D A [(a, .inr (9, (((((((((((((((((((((fs.set 0 (.int 0)).set 2 (.int 1)).set 2 (.int 2)).set 2 (.int 3)).set 2 (.int 4)).set 2 (.int 5)).set 2 (.int 6)).set 2 (.int 7)).set 2 (.int 8)).set 2 (.int 9)).set 2 (.int 10)).set 2 (.int 11)).set 2 (.int 12)).set 2 (.int 13)).set 2 (.int 14)).set 2 (.int 15)).set 2 (.int 16)).set 2 (.int 17)).set 2 (.int 18)).set 2 (.int 19)).set 2 (.int 20)))), (b, .inl (dA 0, 65536, .inl (upd (upd (upd (upd (upd (upd (upd (upd (upd (upd (upd (upd (upd (upd (upd (upd (upd (upd (upd (upd g 0 (vp_nar .byte ((x0 >>> (24 &&& 31)).toInt8.toInt32))) 1 (vp_nar .byte ((x0 >>> (16 &&& 31)).toInt8.toInt32))) 2 (vp_nar .byte ((x0 >>> (8 &&& 31)).toInt8.toInt32))) 3 (vp_nar .byte ((x0 >>> (0 &&& 31)).toInt8.toInt32))) 4 (vp_nar .byte ((x1 >>> (24 &&& 31)).toInt8.toInt32))) 5 (vp_nar .byte ((x1 >>> (16 &&& 31)).toInt8.toInt32))) 6 (vp_nar .byte ((x1 >>> (8 &&& 31)).toInt8.toInt32))) 7 (vp_nar .byte ((x1 >>> (0 &&& 31)).toInt8.toInt32))) 8 (vp_nar .byte ((x2 >>> (24 &&& 31)).toInt8.toInt32))) 9 (vp_nar .byte ((x2 >>> (16 &&& 31)).toInt8.toInt32))) 10 (vp_nar .byte ((x2 >>> (8 &&& 31)).toInt8.toInt32))) 11 (vp_nar .byte ((x2 >>> (0 &&& 31)).toInt8.toInt32))) 12 (vp_nar .byte ((x3 >>> (24 &&& 31)).toInt8.toInt32))) 13 (vp_nar .byte ((x3 >>> (16 &&& 31)).toInt8.toInt32))) 14 (vp_nar .byte ((x3 >>> (8 &&& 31)).toInt8.toInt32))) 15 (vp_nar .byte ((x3 >>> (0 &&& 31)).toInt8.toInt32))) 16 (vp_nar .byte ((x4 >>> (24 &&& 31)).toInt8.toInt32))) 17 (vp_nar .byte ((x4 >>> (16 &&& 31)).toInt8.toInt32))) 18 (vp_nar .byte ((x4 >>> (8 &&& 31)).toInt8.toInt32))) 19 (vp_nar .byte ((x4 >>> (0 &&& 31)).toInt8.toInt32)))))] t9) A) (by decide) (Nat.le_of_ble_eq_true rfl) ?_
  intro A p e s m below meth c ls hsz hB
  obtain ⟨hx, hb, hr, hml, hown, hin, hlk, hE, hK, hP, hD, hS, hA, hN, hl⟩ := hB
  have hown : s.vm.findClass "SeriesVaultModel" = some m.cls := hown
  have hin : meth.name = "feed" := hin
  have hl : lv_has ls 8 [(0, .ref a), (1, .int x0), (2, .int x1), (3, .int x2), (4, .int x3), (5, .int x4)] := hl
  obtain ⟨H, hH⟩ : ∃ z, z = s.heap := ⟨_, rfl⟩
  have hP : va_P D vwCl [(a, .inr (9, fs)), (b, .inl (dA 0, 65536, .inl g))] H := by rw [hH]; exact hP
  have hS : va_S A s.heap H [] := by rw [hH]; exact hS
  rw [← hH]
  refine lv_aload_n hx hb d_M_feed_0 rfl (lv_at hl 0 rfl) ?_
  refine lv_aload_n hx hb d_M_feed_1 rfl (lv_at hl 0 rfl) ?_
  refine gF (v := .int 0) hx hb hown hE hK hP 0 rfl rfl layM 2 (by decide) w320 h_fs_length d_M_feed_2 ?_
  refine lv_bipush (v := 20) hx hb d_M_feed_5 (by decide) ?_
  refine lv_iadd hx hb d_M_feed_7 (tpi (y := 20) (by decide) ?_)
  refine lv_ldc (v := 65536) hx hb hown (hE.t w495 rfl) d_M_feed_8 ?_
  refine lv_icmp_le hx hb d_M_feed_10 (tgt := 17) rfl (fun _ => ?_) (fun h9 => absurd (by decide) h9)
  refine lv_iconst (v := 0) hx hb d_M_feed_17 (by decide) ?_
  refine pF hx hb hown hE hK hP hD hS 0 rfl rfl layM tyM tokM nmM 0 (by decide) w319 rfl rfl rfl (by simp [hl_fs]) d_M_feed_18 (fun H locs hP hD hS => ?_)
  have hP : va_P D vwCl [(a, .inr (9, (fs.set 0 (.int 0)))), (b, .inl (dA 0, 65536, .inl g))] H := hP
  have hD : va_D A [(a, .inr (9, (fs.set 0 (.int 0)))), (b, .inl (dA 0, 65536, .inl g))] := hD
  refine lv_aload_n hx hb d_M_feed_21 rfl (lv_at hl 0 rfl) ?_
  refine gF (v := .int 0) hx hb hown hE hK hP 0 rfl rfl layM 0 (by decide) w319 (by simp [hl_fs]) d_M_feed_22 ?_
  refine lv_if_le hx hb d_M_feed_25 (tgt := 30) rfl (fun _ => ?_) (fun h9 => absurd (by decide) h9)
  refine lv_iconst (v := 0) hx hb d_M_feed_30 (by decide) ?_
  refine lv_istore hx hb d_M_feed_31 hl (by decide) rfl (fun ls hl => ?_)
  have hl : lv_has ls 8 [(6, .int 0), (0, .ref a), (1, .int x0), (2, .int x1), (3, .int x2), (4, .int x3), (5, .int x4)] := hl
  refine lv_iload hx hb d_M_feed_33 (lv_at hl 0 rfl) ?_
  refine lv_bipush (v := 20) hx hb d_M_feed_35 (by decide) ?_
  refine lv_icmp_ge hx hb d_M_feed_37 (tgt := 127) rfl (fun h9 => absurd h9 (by decide)) (fun _ => ?_)
  refine lv_iload hx hb d_M_feed_40 (lv_at hl 0 rfl) ?_
  refine lv_iconst (v := 4) hx hb d_M_feed_42 (by decide) ?_
  refine lv_icmp_ge hx hb d_M_feed_43 (tgt := 50) rfl (fun h9 => absurd h9 (by decide)) (fun _ => ?_)
  refine lv_iload_n hx hb d_M_feed_46 rfl (lv_at hl 2 rfl) ?_
  refine lv_goto hx hb d_M_feed_47 (tgt := 86) rfl ?_
  refine lv_istore hx hb d_M_feed_86 hl (by decide) rfl (fun ls hl => ?_)
  have hl : lv_has ls 8 [(7, .int x0), (6, .int 0), (0, .ref a), (1, .int x0), (2, .int x1), (3, .int x2), (4, .int x3), (5, .int x4)] := hl
  refine lv_aload_n hx hb d_M_feed_88 rfl (lv_at hl 2 rfl) ?_
  refine gF (v := .ref b) hx hb hown hE hK hP 0 rfl rfl layM 1 (by decide) w497 (by simp [h_fs_tape]) d_M_feed_89 ?_
  refine lv_aload_n hx hb d_M_feed_92 rfl (lv_at hl 2 rfl) ?_
  refine gF (v := .int 0) hx hb hown hE hK hP 0 rfl rfl layM 2 (by decide) w320 (by simp [h_fs_length]) d_M_feed_93 ?_
  refine lv_iload hx hb d_M_feed_96 (lv_at hl 0 rfl) ?_
  refine lv_bipush (v := 24) hx hb d_M_feed_98 (by decide) ?_
  refine lv_bipush (v := 8) hx hb d_M_feed_100 (by decide) ?_
  refine lv_iload hx hb d_M_feed_102 (lv_at hl 1 rfl) ?_
  refine lv_iconst (v := 4) hx hb d_M_feed_104 (by decide) ?_
  refine lv_irem hx hb d_M_feed_105 (by decide) (tpi (y := 0) (by decide) ?_)
  refine lv_imul hx hb d_M_feed_106 (tpi (y := 0) (by decide) ?_)
  refine lv_isub hx hb d_M_feed_107 (tpi (y := 24) (by decide) ?_)
  refine lv_ishr hx hb d_M_feed_108 ?_
  refine lv_i2b hx hb d_M_feed_109 rfl ?_
  refine va_bast hx hb hK hP hD hS 1 0 rfl rfl (by unfold vp_in; decide) d_M_feed_110 (fun H locs hP hD hS => ?_)
  have hP : va_P D vwCl [(a, .inr (9, (fs.set 0 (.int 0)))), (b, .inl (dA 0, 65536, .inl (upd g 0 (vp_nar .byte ((x0 >>> (24 &&& 31)).toInt8.toInt32)))))] H := hP
  have hD : va_D A [(a, .inr (9, (fs.set 0 (.int 0)))), (b, .inl (dA 0, 65536, .inl (upd g 0 (vp_nar .byte ((x0 >>> (24 &&& 31)).toInt8.toInt32)))))] := hD
  refine lv_aload_n hx hb d_M_feed_111 rfl (lv_at hl 2 rfl) ?_
  refine lv_dup hx hb d_M_feed_112 rfl ?_
  refine gF (v := .int 0) hx hb hown hE hK hP 0 rfl rfl layM 2 (by decide) w320 (by simp [h_fs_length]) d_M_feed_113 ?_
  refine lv_iconst (v := 1) hx hb d_M_feed_116 (by decide) ?_
  refine lv_iadd hx hb d_M_feed_117 (tpi (y := 1) (by decide) ?_)
  refine pF hx hb hown hE hK hP hD hS 0 rfl rfl layM tyM tokM nmM 2 (by decide) w320 rfl rfl rfl (by simp [hl_fs]) d_M_feed_118 (fun H locs hP hD hS => ?_)
  have hP : va_P D vwCl [(a, .inr (9, ((fs.set 0 (.int 0)).set 2 (.int 1)))), (b, .inl (dA 0, 65536, .inl (upd g 0 (vp_nar .byte ((x0 >>> (24 &&& 31)).toInt8.toInt32)))))] H := hP
  have hD : va_D A [(a, .inr (9, ((fs.set 0 (.int 0)).set 2 (.int 1)))), (b, .inl (dA 0, 65536, .inl (upd g 0 (vp_nar .byte ((x0 >>> (24 &&& 31)).toInt8.toInt32)))))] := hD
  refine lv_iinc (k := 1) (v := 1) hx hb d_M_feed_121 hl rfl (by decide) (by decide) rfl (fun ls hl => ?_)
  have hl : lv_has ls 8 [(6, .int 1), (7, .int x0), (0, .ref a), (1, .int x0), (2, .int x1), (3, .int x2), (4, .int x3), (5, .int x4)] := hl
  refine lv_goto hx hb d_M_feed_124 (tgt := 33) rfl ?_
  refine lv_iload hx hb d_M_feed_33 (lv_at hl 0 rfl) ?_
  refine lv_bipush (v := 20) hx hb d_M_feed_35 (by decide) ?_
  refine lv_icmp_ge hx hb d_M_feed_37 (tgt := 127) rfl (fun h9 => absurd h9 (by decide)) (fun _ => ?_)
  refine lv_iload hx hb d_M_feed_40 (lv_at hl 0 rfl) ?_
  refine lv_iconst (v := 4) hx hb d_M_feed_42 (by decide) ?_
  refine lv_icmp_ge hx hb d_M_feed_43 (tgt := 50) rfl (fun h9 => absurd h9 (by decide)) (fun _ => ?_)
  refine lv_iload_n hx hb d_M_feed_46 rfl (lv_at hl 3 rfl) ?_
  refine lv_goto hx hb d_M_feed_47 (tgt := 86) rfl ?_
  refine lv_istore hx hb d_M_feed_86 hl (by decide) rfl (fun ls hl => ?_)
  have hl : lv_has ls 8 [(7, .int x0), (6, .int 1), (0, .ref a), (1, .int x0), (2, .int x1), (3, .int x2), (4, .int x3), (5, .int x4)] := hl
  refine lv_aload_n hx hb d_M_feed_88 rfl (lv_at hl 2 rfl) ?_
  refine gF (v := .ref b) hx hb hown hE hK hP 0 rfl rfl layM 1 (by decide) w497 (by simp [h_fs_tape]) d_M_feed_89 ?_
  refine lv_aload_n hx hb d_M_feed_92 rfl (lv_at hl 2 rfl) ?_
  refine gF (v := .int 1) hx hb hown hE hK hP 0 rfl rfl layM 2 (by decide) w320 (by simp [hl_fs]) d_M_feed_93 ?_
  refine lv_iload hx hb d_M_feed_96 (lv_at hl 0 rfl) ?_
  refine lv_bipush (v := 24) hx hb d_M_feed_98 (by decide) ?_
  refine lv_bipush (v := 8) hx hb d_M_feed_100 (by decide) ?_
  refine lv_iload hx hb d_M_feed_102 (lv_at hl 1 rfl) ?_
  refine lv_iconst (v := 4) hx hb d_M_feed_104 (by decide) ?_
  refine lv_irem hx hb d_M_feed_105 (by decide) (tpi (y := 1) (by decide) ?_)
  refine lv_imul hx hb d_M_feed_106 (tpi (y := 8) (by decide) ?_)
  refine lv_isub hx hb d_M_feed_107 (tpi (y := 16) (by decide) ?_)
  refine lv_ishr hx hb d_M_feed_108 ?_
  refine lv_i2b hx hb d_M_feed_109 rfl ?_
  refine va_bast hx hb hK hP hD hS 1 0 rfl rfl (by unfold vp_in; decide) d_M_feed_110 (fun H locs hP hD hS => ?_)
  have hP : va_P D vwCl [(a, .inr (9, ((fs.set 0 (.int 0)).set 2 (.int 1)))), (b, .inl (dA 0, 65536, .inl (upd (upd g 0 (vp_nar .byte ((x0 >>> (24 &&& 31)).toInt8.toInt32))) 1 (vp_nar .byte ((x0 >>> (16 &&& 31)).toInt8.toInt32)))))] H := hP
  have hD : va_D A [(a, .inr (9, ((fs.set 0 (.int 0)).set 2 (.int 1)))), (b, .inl (dA 0, 65536, .inl (upd (upd g 0 (vp_nar .byte ((x0 >>> (24 &&& 31)).toInt8.toInt32))) 1 (vp_nar .byte ((x0 >>> (16 &&& 31)).toInt8.toInt32)))))] := hD
  refine lv_aload_n hx hb d_M_feed_111 rfl (lv_at hl 2 rfl) ?_
  refine lv_dup hx hb d_M_feed_112 rfl ?_
  refine gF (v := .int 1) hx hb hown hE hK hP 0 rfl rfl layM 2 (by decide) w320 (by simp [hl_fs]) d_M_feed_113 ?_
  refine lv_iconst (v := 1) hx hb d_M_feed_116 (by decide) ?_
  refine lv_iadd hx hb d_M_feed_117 (tpi (y := 2) (by decide) ?_)
  refine pF hx hb hown hE hK hP hD hS 0 rfl rfl layM tyM tokM nmM 2 (by decide) w320 rfl rfl rfl (by simp [hl_fs]) d_M_feed_118 (fun H locs hP hD hS => ?_)
  have hP : va_P D vwCl [(a, .inr (9, (((fs.set 0 (.int 0)).set 2 (.int 1)).set 2 (.int 2)))), (b, .inl (dA 0, 65536, .inl (upd (upd g 0 (vp_nar .byte ((x0 >>> (24 &&& 31)).toInt8.toInt32))) 1 (vp_nar .byte ((x0 >>> (16 &&& 31)).toInt8.toInt32)))))] H := hP
  have hD : va_D A [(a, .inr (9, (((fs.set 0 (.int 0)).set 2 (.int 1)).set 2 (.int 2)))), (b, .inl (dA 0, 65536, .inl (upd (upd g 0 (vp_nar .byte ((x0 >>> (24 &&& 31)).toInt8.toInt32))) 1 (vp_nar .byte ((x0 >>> (16 &&& 31)).toInt8.toInt32)))))] := hD
  refine lv_iinc (k := 1) (v := 2) hx hb d_M_feed_121 hl rfl (by decide) (by decide) rfl (fun ls hl => ?_)
  have hl : lv_has ls 8 [(6, .int 2), (7, .int x0), (0, .ref a), (1, .int x0), (2, .int x1), (3, .int x2), (4, .int x3), (5, .int x4)] := hl
  refine lv_goto hx hb d_M_feed_124 (tgt := 33) rfl ?_
  refine lv_iload hx hb d_M_feed_33 (lv_at hl 0 rfl) ?_
  refine lv_bipush (v := 20) hx hb d_M_feed_35 (by decide) ?_
  refine lv_icmp_ge hx hb d_M_feed_37 (tgt := 127) rfl (fun h9 => absurd h9 (by decide)) (fun _ => ?_)
  refine lv_iload hx hb d_M_feed_40 (lv_at hl 0 rfl) ?_
  refine lv_iconst (v := 4) hx hb d_M_feed_42 (by decide) ?_
  refine lv_icmp_ge hx hb d_M_feed_43 (tgt := 50) rfl (fun h9 => absurd h9 (by decide)) (fun _ => ?_)
  refine lv_iload_n hx hb d_M_feed_46 rfl (lv_at hl 3 rfl) ?_
  refine lv_goto hx hb d_M_feed_47 (tgt := 86) rfl ?_
  refine lv_istore hx hb d_M_feed_86 hl (by decide) rfl (fun ls hl => ?_)
  have hl : lv_has ls 8 [(7, .int x0), (6, .int 2), (0, .ref a), (1, .int x0), (2, .int x1), (3, .int x2), (4, .int x3), (5, .int x4)] := hl
  refine lv_aload_n hx hb d_M_feed_88 rfl (lv_at hl 2 rfl) ?_
  refine gF (v := .ref b) hx hb hown hE hK hP 0 rfl rfl layM 1 (by decide) w497 (by simp [h_fs_tape]) d_M_feed_89 ?_
  refine lv_aload_n hx hb d_M_feed_92 rfl (lv_at hl 2 rfl) ?_
  refine gF (v := .int 2) hx hb hown hE hK hP 0 rfl rfl layM 2 (by decide) w320 (by simp [hl_fs]) d_M_feed_93 ?_
  refine lv_iload hx hb d_M_feed_96 (lv_at hl 0 rfl) ?_
  refine lv_bipush (v := 24) hx hb d_M_feed_98 (by decide) ?_
  refine lv_bipush (v := 8) hx hb d_M_feed_100 (by decide) ?_
  refine lv_iload hx hb d_M_feed_102 (lv_at hl 1 rfl) ?_
  refine lv_iconst (v := 4) hx hb d_M_feed_104 (by decide) ?_
  refine lv_irem hx hb d_M_feed_105 (by decide) (tpi (y := 2) (by decide) ?_)
  refine lv_imul hx hb d_M_feed_106 (tpi (y := 16) (by decide) ?_)
  refine lv_isub hx hb d_M_feed_107 (tpi (y := 8) (by decide) ?_)
  refine lv_ishr hx hb d_M_feed_108 ?_
  refine lv_i2b hx hb d_M_feed_109 rfl ?_
  refine va_bast hx hb hK hP hD hS 1 0 rfl rfl (by unfold vp_in; decide) d_M_feed_110 (fun H locs hP hD hS => ?_)
  have hP : va_P D vwCl [(a, .inr (9, (((fs.set 0 (.int 0)).set 2 (.int 1)).set 2 (.int 2)))), (b, .inl (dA 0, 65536, .inl (upd (upd (upd g 0 (vp_nar .byte ((x0 >>> (24 &&& 31)).toInt8.toInt32))) 1 (vp_nar .byte ((x0 >>> (16 &&& 31)).toInt8.toInt32))) 2 (vp_nar .byte ((x0 >>> (8 &&& 31)).toInt8.toInt32)))))] H := hP
  have hD : va_D A [(a, .inr (9, (((fs.set 0 (.int 0)).set 2 (.int 1)).set 2 (.int 2)))), (b, .inl (dA 0, 65536, .inl (upd (upd (upd g 0 (vp_nar .byte ((x0 >>> (24 &&& 31)).toInt8.toInt32))) 1 (vp_nar .byte ((x0 >>> (16 &&& 31)).toInt8.toInt32))) 2 (vp_nar .byte ((x0 >>> (8 &&& 31)).toInt8.toInt32)))))] := hD
  refine lv_aload_n hx hb d_M_feed_111 rfl (lv_at hl 2 rfl) ?_
  refine lv_dup hx hb d_M_feed_112 rfl ?_
  refine gF (v := .int 2) hx hb hown hE hK hP 0 rfl rfl layM 2 (by decide) w320 (by simp [hl_fs]) d_M_feed_113 ?_
  refine lv_iconst (v := 1) hx hb d_M_feed_116 (by decide) ?_
  refine lv_iadd hx hb d_M_feed_117 (tpi (y := 3) (by decide) ?_)
  refine pF hx hb hown hE hK hP hD hS 0 rfl rfl layM tyM tokM nmM 2 (by decide) w320 rfl rfl rfl (by simp [hl_fs]) d_M_feed_118 (fun H locs hP hD hS => ?_)
  have hP : va_P D vwCl [(a, .inr (9, ((((fs.set 0 (.int 0)).set 2 (.int 1)).set 2 (.int 2)).set 2 (.int 3)))), (b, .inl (dA 0, 65536, .inl (upd (upd (upd g 0 (vp_nar .byte ((x0 >>> (24 &&& 31)).toInt8.toInt32))) 1 (vp_nar .byte ((x0 >>> (16 &&& 31)).toInt8.toInt32))) 2 (vp_nar .byte ((x0 >>> (8 &&& 31)).toInt8.toInt32)))))] H := hP
  have hD : va_D A [(a, .inr (9, ((((fs.set 0 (.int 0)).set 2 (.int 1)).set 2 (.int 2)).set 2 (.int 3)))), (b, .inl (dA 0, 65536, .inl (upd (upd (upd g 0 (vp_nar .byte ((x0 >>> (24 &&& 31)).toInt8.toInt32))) 1 (vp_nar .byte ((x0 >>> (16 &&& 31)).toInt8.toInt32))) 2 (vp_nar .byte ((x0 >>> (8 &&& 31)).toInt8.toInt32)))))] := hD
  refine lv_iinc (k := 1) (v := 3) hx hb d_M_feed_121 hl rfl (by decide) (by decide) rfl (fun ls hl => ?_)
  have hl : lv_has ls 8 [(6, .int 3), (7, .int x0), (0, .ref a), (1, .int x0), (2, .int x1), (3, .int x2), (4, .int x3), (5, .int x4)] := hl
  refine lv_goto hx hb d_M_feed_124 (tgt := 33) rfl ?_
  refine lv_iload hx hb d_M_feed_33 (lv_at hl 0 rfl) ?_
  refine lv_bipush (v := 20) hx hb d_M_feed_35 (by decide) ?_
  refine lv_icmp_ge hx hb d_M_feed_37 (tgt := 127) rfl (fun h9 => absurd h9 (by decide)) (fun _ => ?_)
  refine lv_iload hx hb d_M_feed_40 (lv_at hl 0 rfl) ?_
  refine lv_iconst (v := 4) hx hb d_M_feed_42 (by decide) ?_
  refine lv_icmp_ge hx hb d_M_feed_43 (tgt := 50) rfl (fun h9 => absurd h9 (by decide)) (fun _ => ?_)
  refine lv_iload_n hx hb d_M_feed_46 rfl (lv_at hl 3 rfl) ?_
  refine lv_goto hx hb d_M_feed_47 (tgt := 86) rfl ?_
  refine lv_istore hx hb d_M_feed_86 hl (by decide) rfl (fun ls hl => ?_)
  have hl : lv_has ls 8 [(7, .int x0), (6, .int 3), (0, .ref a), (1, .int x0), (2, .int x1), (3, .int x2), (4, .int x3), (5, .int x4)] := hl
  refine lv_aload_n hx hb d_M_feed_88 rfl (lv_at hl 2 rfl) ?_
  refine gF (v := .ref b) hx hb hown hE hK hP 0 rfl rfl layM 1 (by decide) w497 (by simp [h_fs_tape]) d_M_feed_89 ?_
  refine lv_aload_n hx hb d_M_feed_92 rfl (lv_at hl 2 rfl) ?_
  refine gF (v := .int 3) hx hb hown hE hK hP 0 rfl rfl layM 2 (by decide) w320 (by simp [hl_fs]) d_M_feed_93 ?_
  refine lv_iload hx hb d_M_feed_96 (lv_at hl 0 rfl) ?_
  refine lv_bipush (v := 24) hx hb d_M_feed_98 (by decide) ?_
  refine lv_bipush (v := 8) hx hb d_M_feed_100 (by decide) ?_
  refine lv_iload hx hb d_M_feed_102 (lv_at hl 1 rfl) ?_
  refine lv_iconst (v := 4) hx hb d_M_feed_104 (by decide) ?_
  refine lv_irem hx hb d_M_feed_105 (by decide) (tpi (y := 3) (by decide) ?_)
  refine lv_imul hx hb d_M_feed_106 (tpi (y := 24) (by decide) ?_)
  refine lv_isub hx hb d_M_feed_107 (tpi (y := 0) (by decide) ?_)
  refine lv_ishr hx hb d_M_feed_108 ?_
  refine lv_i2b hx hb d_M_feed_109 rfl ?_
  refine va_bast hx hb hK hP hD hS 1 0 rfl rfl (by unfold vp_in; decide) d_M_feed_110 (fun H locs hP hD hS => ?_)
  have hP : va_P D vwCl [(a, .inr (9, ((((fs.set 0 (.int 0)).set 2 (.int 1)).set 2 (.int 2)).set 2 (.int 3)))), (b, .inl (dA 0, 65536, .inl (upd (upd (upd (upd g 0 (vp_nar .byte ((x0 >>> (24 &&& 31)).toInt8.toInt32))) 1 (vp_nar .byte ((x0 >>> (16 &&& 31)).toInt8.toInt32))) 2 (vp_nar .byte ((x0 >>> (8 &&& 31)).toInt8.toInt32))) 3 (vp_nar .byte ((x0 >>> (0 &&& 31)).toInt8.toInt32)))))] H := hP
  have hD : va_D A [(a, .inr (9, ((((fs.set 0 (.int 0)).set 2 (.int 1)).set 2 (.int 2)).set 2 (.int 3)))), (b, .inl (dA 0, 65536, .inl (upd (upd (upd (upd g 0 (vp_nar .byte ((x0 >>> (24 &&& 31)).toInt8.toInt32))) 1 (vp_nar .byte ((x0 >>> (16 &&& 31)).toInt8.toInt32))) 2 (vp_nar .byte ((x0 >>> (8 &&& 31)).toInt8.toInt32))) 3 (vp_nar .byte ((x0 >>> (0 &&& 31)).toInt8.toInt32)))))] := hD
  refine lv_aload_n hx hb d_M_feed_111 rfl (lv_at hl 2 rfl) ?_
  refine lv_dup hx hb d_M_feed_112 rfl ?_
  refine gF (v := .int 3) hx hb hown hE hK hP 0 rfl rfl layM 2 (by decide) w320 (by simp [hl_fs]) d_M_feed_113 ?_
  refine lv_iconst (v := 1) hx hb d_M_feed_116 (by decide) ?_
  refine lv_iadd hx hb d_M_feed_117 (tpi (y := 4) (by decide) ?_)
  refine pF hx hb hown hE hK hP hD hS 0 rfl rfl layM tyM tokM nmM 2 (by decide) w320 rfl rfl rfl (by simp [hl_fs]) d_M_feed_118 (fun H locs hP hD hS => ?_)
  have hP : va_P D vwCl [(a, .inr (9, (((((fs.set 0 (.int 0)).set 2 (.int 1)).set 2 (.int 2)).set 2 (.int 3)).set 2 (.int 4)))), (b, .inl (dA 0, 65536, .inl (upd (upd (upd (upd g 0 (vp_nar .byte ((x0 >>> (24 &&& 31)).toInt8.toInt32))) 1 (vp_nar .byte ((x0 >>> (16 &&& 31)).toInt8.toInt32))) 2 (vp_nar .byte ((x0 >>> (8 &&& 31)).toInt8.toInt32))) 3 (vp_nar .byte ((x0 >>> (0 &&& 31)).toInt8.toInt32)))))] H := hP
  have hD : va_D A [(a, .inr (9, (((((fs.set 0 (.int 0)).set 2 (.int 1)).set 2 (.int 2)).set 2 (.int 3)).set 2 (.int 4)))), (b, .inl (dA 0, 65536, .inl (upd (upd (upd (upd g 0 (vp_nar .byte ((x0 >>> (24 &&& 31)).toInt8.toInt32))) 1 (vp_nar .byte ((x0 >>> (16 &&& 31)).toInt8.toInt32))) 2 (vp_nar .byte ((x0 >>> (8 &&& 31)).toInt8.toInt32))) 3 (vp_nar .byte ((x0 >>> (0 &&& 31)).toInt8.toInt32)))))] := hD
  refine lv_iinc (k := 1) (v := 4) hx hb d_M_feed_121 hl rfl (by decide) (by decide) rfl (fun ls hl => ?_)
  have hl : lv_has ls 8 [(6, .int 4), (7, .int x0), (0, .ref a), (1, .int x0), (2, .int x1), (3, .int x2), (4, .int x3), (5, .int x4)] := hl
  refine lv_goto hx hb d_M_feed_124 (tgt := 33) rfl ?_
  refine lv_iload hx hb d_M_feed_33 (lv_at hl 0 rfl) ?_
  refine lv_bipush (v := 20) hx hb d_M_feed_35 (by decide) ?_
  refine lv_icmp_ge hx hb d_M_feed_37 (tgt := 127) rfl (fun h9 => absurd h9 (by decide)) (fun _ => ?_)
  refine lv_iload hx hb d_M_feed_40 (lv_at hl 0 rfl) ?_
  refine lv_iconst (v := 4) hx hb d_M_feed_42 (by decide) ?_
  refine lv_icmp_ge hx hb d_M_feed_43 (tgt := 50) rfl (fun _ => ?_) (fun h9 => absurd (by decide) h9)
  refine lv_iload hx hb d_M_feed_50 (lv_at hl 0 rfl) ?_
  refine lv_bipush (v := 8) hx hb d_M_feed_52 (by decide) ?_
  refine lv_icmp_ge hx hb d_M_feed_54 (tgt := 61) rfl (fun h9 => absurd h9 (by decide)) (fun _ => ?_)
  refine lv_iload_n hx hb d_M_feed_57 rfl (lv_at hl 4 rfl) ?_
  refine lv_goto hx hb d_M_feed_58 (tgt := 86) rfl ?_
  refine lv_istore hx hb d_M_feed_86 hl (by decide) rfl (fun ls hl => ?_)
  have hl : lv_has ls 8 [(7, .int x1), (6, .int 4), (0, .ref a), (1, .int x0), (2, .int x1), (3, .int x2), (4, .int x3), (5, .int x4)] := hl
  refine lv_aload_n hx hb d_M_feed_88 rfl (lv_at hl 2 rfl) ?_
  refine gF (v := .ref b) hx hb hown hE hK hP 0 rfl rfl layM 1 (by decide) w497 (by simp [h_fs_tape]) d_M_feed_89 ?_
  refine lv_aload_n hx hb d_M_feed_92 rfl (lv_at hl 2 rfl) ?_
  refine gF (v := .int 4) hx hb hown hE hK hP 0 rfl rfl layM 2 (by decide) w320 (by simp [hl_fs]) d_M_feed_93 ?_
  refine lv_iload hx hb d_M_feed_96 (lv_at hl 0 rfl) ?_
  refine lv_bipush (v := 24) hx hb d_M_feed_98 (by decide) ?_
  refine lv_bipush (v := 8) hx hb d_M_feed_100 (by decide) ?_
  refine lv_iload hx hb d_M_feed_102 (lv_at hl 1 rfl) ?_
  refine lv_iconst (v := 4) hx hb d_M_feed_104 (by decide) ?_
  refine lv_irem hx hb d_M_feed_105 (by decide) (tpi (y := 0) (by decide) ?_)
  refine lv_imul hx hb d_M_feed_106 (tpi (y := 0) (by decide) ?_)
  refine lv_isub hx hb d_M_feed_107 (tpi (y := 24) (by decide) ?_)
  refine lv_ishr hx hb d_M_feed_108 ?_
  refine lv_i2b hx hb d_M_feed_109 rfl ?_
  refine va_bast hx hb hK hP hD hS 1 0 rfl rfl (by unfold vp_in; decide) d_M_feed_110 (fun H locs hP hD hS => ?_)
  have hP : va_P D vwCl [(a, .inr (9, (((((fs.set 0 (.int 0)).set 2 (.int 1)).set 2 (.int 2)).set 2 (.int 3)).set 2 (.int 4)))), (b, .inl (dA 0, 65536, .inl (upd (upd (upd (upd (upd g 0 (vp_nar .byte ((x0 >>> (24 &&& 31)).toInt8.toInt32))) 1 (vp_nar .byte ((x0 >>> (16 &&& 31)).toInt8.toInt32))) 2 (vp_nar .byte ((x0 >>> (8 &&& 31)).toInt8.toInt32))) 3 (vp_nar .byte ((x0 >>> (0 &&& 31)).toInt8.toInt32))) 4 (vp_nar .byte ((x1 >>> (24 &&& 31)).toInt8.toInt32)))))] H := hP
  have hD : va_D A [(a, .inr (9, (((((fs.set 0 (.int 0)).set 2 (.int 1)).set 2 (.int 2)).set 2 (.int 3)).set 2 (.int 4)))), (b, .inl (dA 0, 65536, .inl (upd (upd (upd (upd (upd g 0 (vp_nar .byte ((x0 >>> (24 &&& 31)).toInt8.toInt32))) 1 (vp_nar .byte ((x0 >>> (16 &&& 31)).toInt8.toInt32))) 2 (vp_nar .byte ((x0 >>> (8 &&& 31)).toInt8.toInt32))) 3 (vp_nar .byte ((x0 >>> (0 &&& 31)).toInt8.toInt32))) 4 (vp_nar .byte ((x1 >>> (24 &&& 31)).toInt8.toInt32)))))] := hD
  refine lv_aload_n hx hb d_M_feed_111 rfl (lv_at hl 2 rfl) ?_
  refine lv_dup hx hb d_M_feed_112 rfl ?_
  refine gF (v := .int 4) hx hb hown hE hK hP 0 rfl rfl layM 2 (by decide) w320 (by simp [hl_fs]) d_M_feed_113 ?_
  refine lv_iconst (v := 1) hx hb d_M_feed_116 (by decide) ?_
  refine lv_iadd hx hb d_M_feed_117 (tpi (y := 5) (by decide) ?_)
  refine pF hx hb hown hE hK hP hD hS 0 rfl rfl layM tyM tokM nmM 2 (by decide) w320 rfl rfl rfl (by simp [hl_fs]) d_M_feed_118 (fun H locs hP hD hS => ?_)
  have hP : va_P D vwCl [(a, .inr (9, ((((((fs.set 0 (.int 0)).set 2 (.int 1)).set 2 (.int 2)).set 2 (.int 3)).set 2 (.int 4)).set 2 (.int 5)))), (b, .inl (dA 0, 65536, .inl (upd (upd (upd (upd (upd g 0 (vp_nar .byte ((x0 >>> (24 &&& 31)).toInt8.toInt32))) 1 (vp_nar .byte ((x0 >>> (16 &&& 31)).toInt8.toInt32))) 2 (vp_nar .byte ((x0 >>> (8 &&& 31)).toInt8.toInt32))) 3 (vp_nar .byte ((x0 >>> (0 &&& 31)).toInt8.toInt32))) 4 (vp_nar .byte ((x1 >>> (24 &&& 31)).toInt8.toInt32)))))] H := hP
  have hD : va_D A [(a, .inr (9, ((((((fs.set 0 (.int 0)).set 2 (.int 1)).set 2 (.int 2)).set 2 (.int 3)).set 2 (.int 4)).set 2 (.int 5)))), (b, .inl (dA 0, 65536, .inl (upd (upd (upd (upd (upd g 0 (vp_nar .byte ((x0 >>> (24 &&& 31)).toInt8.toInt32))) 1 (vp_nar .byte ((x0 >>> (16 &&& 31)).toInt8.toInt32))) 2 (vp_nar .byte ((x0 >>> (8 &&& 31)).toInt8.toInt32))) 3 (vp_nar .byte ((x0 >>> (0 &&& 31)).toInt8.toInt32))) 4 (vp_nar .byte ((x1 >>> (24 &&& 31)).toInt8.toInt32)))))] := hD
  refine lv_iinc (k := 1) (v := 5) hx hb d_M_feed_121 hl rfl (by decide) (by decide) rfl (fun ls hl => ?_)
  have hl : lv_has ls 8 [(6, .int 5), (7, .int x1), (0, .ref a), (1, .int x0), (2, .int x1), (3, .int x2), (4, .int x3), (5, .int x4)] := hl
  refine lv_goto hx hb d_M_feed_124 (tgt := 33) rfl ?_
  refine lv_iload hx hb d_M_feed_33 (lv_at hl 0 rfl) ?_
  refine lv_bipush (v := 20) hx hb d_M_feed_35 (by decide) ?_
  refine lv_icmp_ge hx hb d_M_feed_37 (tgt := 127) rfl (fun h9 => absurd h9 (by decide)) (fun _ => ?_)
  refine lv_iload hx hb d_M_feed_40 (lv_at hl 0 rfl) ?_
  refine lv_iconst (v := 4) hx hb d_M_feed_42 (by decide) ?_
  refine lv_icmp_ge hx hb d_M_feed_43 (tgt := 50) rfl (fun _ => ?_) (fun h9 => absurd (by decide) h9)
  refine lv_iload hx hb d_M_feed_50 (lv_at hl 0 rfl) ?_
  refine lv_bipush (v := 8) hx hb d_M_feed_52 (by decide) ?_
  refine lv_icmp_ge hx hb d_M_feed_54 (tgt := 61) rfl (fun h9 => absurd h9 (by decide)) (fun _ => ?_)
  refine lv_iload_n hx hb d_M_feed_57 rfl (lv_at hl 4 rfl) ?_
  refine lv_goto hx hb d_M_feed_58 (tgt := 86) rfl ?_
  refine lv_istore hx hb d_M_feed_86 hl (by decide) rfl (fun ls hl => ?_)
  have hl : lv_has ls 8 [(7, .int x1), (6, .int 5), (0, .ref a), (1, .int x0), (2, .int x1), (3, .int x2), (4, .int x3), (5, .int x4)] := hl
  refine lv_aload_n hx hb d_M_feed_88 rfl (lv_at hl 2 rfl) ?_
  refine gF (v := .ref b) hx hb hown hE hK hP 0 rfl rfl layM 1 (by decide) w497 (by simp [h_fs_tape]) d_M_feed_89 ?_
  refine lv_aload_n hx hb d_M_feed_92 rfl (lv_at hl 2 rfl) ?_
  refine gF (v := .int 5) hx hb hown hE hK hP 0 rfl rfl layM 2 (by decide) w320 (by simp [hl_fs]) d_M_feed_93 ?_
  refine lv_iload hx hb d_M_feed_96 (lv_at hl 0 rfl) ?_
  refine lv_bipush (v := 24) hx hb d_M_feed_98 (by decide) ?_
  refine lv_bipush (v := 8) hx hb d_M_feed_100 (by decide) ?_
  refine lv_iload hx hb d_M_feed_102 (lv_at hl 1 rfl) ?_
  refine lv_iconst (v := 4) hx hb d_M_feed_104 (by decide) ?_
  refine lv_irem hx hb d_M_feed_105 (by decide) (tpi (y := 1) (by decide) ?_)
  refine lv_imul hx hb d_M_feed_106 (tpi (y := 8) (by decide) ?_)
  refine lv_isub hx hb d_M_feed_107 (tpi (y := 16) (by decide) ?_)
  refine lv_ishr hx hb d_M_feed_108 ?_
  refine lv_i2b hx hb d_M_feed_109 rfl ?_
  refine va_bast hx hb hK hP hD hS 1 0 rfl rfl (by unfold vp_in; decide) d_M_feed_110 (fun H locs hP hD hS => ?_)
  have hP : va_P D vwCl [(a, .inr (9, ((((((fs.set 0 (.int 0)).set 2 (.int 1)).set 2 (.int 2)).set 2 (.int 3)).set 2 (.int 4)).set 2 (.int 5)))), (b, .inl (dA 0, 65536, .inl (upd (upd (upd (upd (upd (upd g 0 (vp_nar .byte ((x0 >>> (24 &&& 31)).toInt8.toInt32))) 1 (vp_nar .byte ((x0 >>> (16 &&& 31)).toInt8.toInt32))) 2 (vp_nar .byte ((x0 >>> (8 &&& 31)).toInt8.toInt32))) 3 (vp_nar .byte ((x0 >>> (0 &&& 31)).toInt8.toInt32))) 4 (vp_nar .byte ((x1 >>> (24 &&& 31)).toInt8.toInt32))) 5 (vp_nar .byte ((x1 >>> (16 &&& 31)).toInt8.toInt32)))))] H := hP
  have hD : va_D A [(a, .inr (9, ((((((fs.set 0 (.int 0)).set 2 (.int 1)).set 2 (.int 2)).set 2 (.int 3)).set 2 (.int 4)).set 2 (.int 5)))), (b, .inl (dA 0, 65536, .inl (upd (upd (upd (upd (upd (upd g 0 (vp_nar .byte ((x0 >>> (24 &&& 31)).toInt8.toInt32))) 1 (vp_nar .byte ((x0 >>> (16 &&& 31)).toInt8.toInt32))) 2 (vp_nar .byte ((x0 >>> (8 &&& 31)).toInt8.toInt32))) 3 (vp_nar .byte ((x0 >>> (0 &&& 31)).toInt8.toInt32))) 4 (vp_nar .byte ((x1 >>> (24 &&& 31)).toInt8.toInt32))) 5 (vp_nar .byte ((x1 >>> (16 &&& 31)).toInt8.toInt32)))))] := hD
  refine lv_aload_n hx hb d_M_feed_111 rfl (lv_at hl 2 rfl) ?_
  refine lv_dup hx hb d_M_feed_112 rfl ?_
  refine gF (v := .int 5) hx hb hown hE hK hP 0 rfl rfl layM 2 (by decide) w320 (by simp [hl_fs]) d_M_feed_113 ?_
  refine lv_iconst (v := 1) hx hb d_M_feed_116 (by decide) ?_
  refine lv_iadd hx hb d_M_feed_117 (tpi (y := 6) (by decide) ?_)
  refine pF hx hb hown hE hK hP hD hS 0 rfl rfl layM tyM tokM nmM 2 (by decide) w320 rfl rfl rfl (by simp [hl_fs]) d_M_feed_118 (fun H locs hP hD hS => ?_)
  have hP : va_P D vwCl [(a, .inr (9, (((((((fs.set 0 (.int 0)).set 2 (.int 1)).set 2 (.int 2)).set 2 (.int 3)).set 2 (.int 4)).set 2 (.int 5)).set 2 (.int 6)))), (b, .inl (dA 0, 65536, .inl (upd (upd (upd (upd (upd (upd g 0 (vp_nar .byte ((x0 >>> (24 &&& 31)).toInt8.toInt32))) 1 (vp_nar .byte ((x0 >>> (16 &&& 31)).toInt8.toInt32))) 2 (vp_nar .byte ((x0 >>> (8 &&& 31)).toInt8.toInt32))) 3 (vp_nar .byte ((x0 >>> (0 &&& 31)).toInt8.toInt32))) 4 (vp_nar .byte ((x1 >>> (24 &&& 31)).toInt8.toInt32))) 5 (vp_nar .byte ((x1 >>> (16 &&& 31)).toInt8.toInt32)))))] H := hP
  have hD : va_D A [(a, .inr (9, (((((((fs.set 0 (.int 0)).set 2 (.int 1)).set 2 (.int 2)).set 2 (.int 3)).set 2 (.int 4)).set 2 (.int 5)).set 2 (.int 6)))), (b, .inl (dA 0, 65536, .inl (upd (upd (upd (upd (upd (upd g 0 (vp_nar .byte ((x0 >>> (24 &&& 31)).toInt8.toInt32))) 1 (vp_nar .byte ((x0 >>> (16 &&& 31)).toInt8.toInt32))) 2 (vp_nar .byte ((x0 >>> (8 &&& 31)).toInt8.toInt32))) 3 (vp_nar .byte ((x0 >>> (0 &&& 31)).toInt8.toInt32))) 4 (vp_nar .byte ((x1 >>> (24 &&& 31)).toInt8.toInt32))) 5 (vp_nar .byte ((x1 >>> (16 &&& 31)).toInt8.toInt32)))))] := hD
  refine lv_iinc (k := 1) (v := 6) hx hb d_M_feed_121 hl rfl (by decide) (by decide) rfl (fun ls hl => ?_)
  have hl : lv_has ls 8 [(6, .int 6), (7, .int x1), (0, .ref a), (1, .int x0), (2, .int x1), (3, .int x2), (4, .int x3), (5, .int x4)] := hl
  refine lv_goto hx hb d_M_feed_124 (tgt := 33) rfl ?_
  refine lv_iload hx hb d_M_feed_33 (lv_at hl 0 rfl) ?_
  refine lv_bipush (v := 20) hx hb d_M_feed_35 (by decide) ?_
  refine lv_icmp_ge hx hb d_M_feed_37 (tgt := 127) rfl (fun h9 => absurd h9 (by decide)) (fun _ => ?_)
  refine lv_iload hx hb d_M_feed_40 (lv_at hl 0 rfl) ?_
  refine lv_iconst (v := 4) hx hb d_M_feed_42 (by decide) ?_
  refine lv_icmp_ge hx hb d_M_feed_43 (tgt := 50) rfl (fun _ => ?_) (fun h9 => absurd (by decide) h9)
  refine lv_iload hx hb d_M_feed_50 (lv_at hl 0 rfl) ?_
  refine lv_bipush (v := 8) hx hb d_M_feed_52 (by decide) ?_
  refine lv_icmp_ge hx hb d_M_feed_54 (tgt := 61) rfl (fun h9 => absurd h9 (by decide)) (fun _ => ?_)
  refine lv_iload_n hx hb d_M_feed_57 rfl (lv_at hl 4 rfl) ?_
  refine lv_goto hx hb d_M_feed_58 (tgt := 86) rfl ?_
  refine lv_istore hx hb d_M_feed_86 hl (by decide) rfl (fun ls hl => ?_)
  have hl : lv_has ls 8 [(7, .int x1), (6, .int 6), (0, .ref a), (1, .int x0), (2, .int x1), (3, .int x2), (4, .int x3), (5, .int x4)] := hl
  refine lv_aload_n hx hb d_M_feed_88 rfl (lv_at hl 2 rfl) ?_
  refine gF (v := .ref b) hx hb hown hE hK hP 0 rfl rfl layM 1 (by decide) w497 (by simp [h_fs_tape]) d_M_feed_89 ?_
  refine lv_aload_n hx hb d_M_feed_92 rfl (lv_at hl 2 rfl) ?_
  refine gF (v := .int 6) hx hb hown hE hK hP 0 rfl rfl layM 2 (by decide) w320 (by simp [hl_fs]) d_M_feed_93 ?_
  refine lv_iload hx hb d_M_feed_96 (lv_at hl 0 rfl) ?_
  refine lv_bipush (v := 24) hx hb d_M_feed_98 (by decide) ?_
  refine lv_bipush (v := 8) hx hb d_M_feed_100 (by decide) ?_
  refine lv_iload hx hb d_M_feed_102 (lv_at hl 1 rfl) ?_
  refine lv_iconst (v := 4) hx hb d_M_feed_104 (by decide) ?_
  refine lv_irem hx hb d_M_feed_105 (by decide) (tpi (y := 2) (by decide) ?_)
  refine lv_imul hx hb d_M_feed_106 (tpi (y := 16) (by decide) ?_)
  refine lv_isub hx hb d_M_feed_107 (tpi (y := 8) (by decide) ?_)
  refine lv_ishr hx hb d_M_feed_108 ?_
  refine lv_i2b hx hb d_M_feed_109 rfl ?_
  refine va_bast hx hb hK hP hD hS 1 0 rfl rfl (by unfold vp_in; decide) d_M_feed_110 (fun H locs hP hD hS => ?_)
  have hP : va_P D vwCl [(a, .inr (9, (((((((fs.set 0 (.int 0)).set 2 (.int 1)).set 2 (.int 2)).set 2 (.int 3)).set 2 (.int 4)).set 2 (.int 5)).set 2 (.int 6)))), (b, .inl (dA 0, 65536, .inl (upd (upd (upd (upd (upd (upd (upd g 0 (vp_nar .byte ((x0 >>> (24 &&& 31)).toInt8.toInt32))) 1 (vp_nar .byte ((x0 >>> (16 &&& 31)).toInt8.toInt32))) 2 (vp_nar .byte ((x0 >>> (8 &&& 31)).toInt8.toInt32))) 3 (vp_nar .byte ((x0 >>> (0 &&& 31)).toInt8.toInt32))) 4 (vp_nar .byte ((x1 >>> (24 &&& 31)).toInt8.toInt32))) 5 (vp_nar .byte ((x1 >>> (16 &&& 31)).toInt8.toInt32))) 6 (vp_nar .byte ((x1 >>> (8 &&& 31)).toInt8.toInt32)))))] H := hP
  have hD : va_D A [(a, .inr (9, (((((((fs.set 0 (.int 0)).set 2 (.int 1)).set 2 (.int 2)).set 2 (.int 3)).set 2 (.int 4)).set 2 (.int 5)).set 2 (.int 6)))), (b, .inl (dA 0, 65536, .inl (upd (upd (upd (upd (upd (upd (upd g 0 (vp_nar .byte ((x0 >>> (24 &&& 31)).toInt8.toInt32))) 1 (vp_nar .byte ((x0 >>> (16 &&& 31)).toInt8.toInt32))) 2 (vp_nar .byte ((x0 >>> (8 &&& 31)).toInt8.toInt32))) 3 (vp_nar .byte ((x0 >>> (0 &&& 31)).toInt8.toInt32))) 4 (vp_nar .byte ((x1 >>> (24 &&& 31)).toInt8.toInt32))) 5 (vp_nar .byte ((x1 >>> (16 &&& 31)).toInt8.toInt32))) 6 (vp_nar .byte ((x1 >>> (8 &&& 31)).toInt8.toInt32)))))] := hD
  refine lv_aload_n hx hb d_M_feed_111 rfl (lv_at hl 2 rfl) ?_
  refine lv_dup hx hb d_M_feed_112 rfl ?_
  refine gF (v := .int 6) hx hb hown hE hK hP 0 rfl rfl layM 2 (by decide) w320 (by simp [hl_fs]) d_M_feed_113 ?_
  refine lv_iconst (v := 1) hx hb d_M_feed_116 (by decide) ?_
  refine lv_iadd hx hb d_M_feed_117 (tpi (y := 7) (by decide) ?_)
  refine pF hx hb hown hE hK hP hD hS 0 rfl rfl layM tyM tokM nmM 2 (by decide) w320 rfl rfl rfl (by simp [hl_fs]) d_M_feed_118 (fun H locs hP hD hS => ?_)
  have hP : va_P D vwCl [(a, .inr (9, ((((((((fs.set 0 (.int 0)).set 2 (.int 1)).set 2 (.int 2)).set 2 (.int 3)).set 2 (.int 4)).set 2 (.int 5)).set 2 (.int 6)).set 2 (.int 7)))), (b, .inl (dA 0, 65536, .inl (upd (upd (upd (upd (upd (upd (upd g 0 (vp_nar .byte ((x0 >>> (24 &&& 31)).toInt8.toInt32))) 1 (vp_nar .byte ((x0 >>> (16 &&& 31)).toInt8.toInt32))) 2 (vp_nar .byte ((x0 >>> (8 &&& 31)).toInt8.toInt32))) 3 (vp_nar .byte ((x0 >>> (0 &&& 31)).toInt8.toInt32))) 4 (vp_nar .byte ((x1 >>> (24 &&& 31)).toInt8.toInt32))) 5 (vp_nar .byte ((x1 >>> (16 &&& 31)).toInt8.toInt32))) 6 (vp_nar .byte ((x1 >>> (8 &&& 31)).toInt8.toInt32)))))] H := hP
  have hD : va_D A [(a, .inr (9, ((((((((fs.set 0 (.int 0)).set 2 (.int 1)).set 2 (.int 2)).set 2 (.int 3)).set 2 (.int 4)).set 2 (.int 5)).set 2 (.int 6)).set 2 (.int 7)))), (b, .inl (dA 0, 65536, .inl (upd (upd (upd (upd (upd (upd (upd g 0 (vp_nar .byte ((x0 >>> (24 &&& 31)).toInt8.toInt32))) 1 (vp_nar .byte ((x0 >>> (16 &&& 31)).toInt8.toInt32))) 2 (vp_nar .byte ((x0 >>> (8 &&& 31)).toInt8.toInt32))) 3 (vp_nar .byte ((x0 >>> (0 &&& 31)).toInt8.toInt32))) 4 (vp_nar .byte ((x1 >>> (24 &&& 31)).toInt8.toInt32))) 5 (vp_nar .byte ((x1 >>> (16 &&& 31)).toInt8.toInt32))) 6 (vp_nar .byte ((x1 >>> (8 &&& 31)).toInt8.toInt32)))))] := hD
  refine lv_iinc (k := 1) (v := 7) hx hb d_M_feed_121 hl rfl (by decide) (by decide) rfl (fun ls hl => ?_)
  have hl : lv_has ls 8 [(6, .int 7), (7, .int x1), (0, .ref a), (1, .int x0), (2, .int x1), (3, .int x2), (4, .int x3), (5, .int x4)] := hl
  refine lv_goto hx hb d_M_feed_124 (tgt := 33) rfl ?_
  refine lv_iload hx hb d_M_feed_33 (lv_at hl 0 rfl) ?_
  refine lv_bipush (v := 20) hx hb d_M_feed_35 (by decide) ?_
  refine lv_icmp_ge hx hb d_M_feed_37 (tgt := 127) rfl (fun h9 => absurd h9 (by decide)) (fun _ => ?_)
  refine lv_iload hx hb d_M_feed_40 (lv_at hl 0 rfl) ?_
  refine lv_iconst (v := 4) hx hb d_M_feed_42 (by decide) ?_
  refine lv_icmp_ge hx hb d_M_feed_43 (tgt := 50) rfl (fun _ => ?_) (fun h9 => absurd (by decide) h9)
  refine lv_iload hx hb d_M_feed_50 (lv_at hl 0 rfl) ?_
  refine lv_bipush (v := 8) hx hb d_M_feed_52 (by decide) ?_
  refine lv_icmp_ge hx hb d_M_feed_54 (tgt := 61) rfl (fun h9 => absurd h9 (by decide)) (fun _ => ?_)
  refine lv_iload_n hx hb d_M_feed_57 rfl (lv_at hl 4 rfl) ?_
  refine lv_goto hx hb d_M_feed_58 (tgt := 86) rfl ?_
  refine lv_istore hx hb d_M_feed_86 hl (by decide) rfl (fun ls hl => ?_)
  have hl : lv_has ls 8 [(7, .int x1), (6, .int 7), (0, .ref a), (1, .int x0), (2, .int x1), (3, .int x2), (4, .int x3), (5, .int x4)] := hl
  refine lv_aload_n hx hb d_M_feed_88 rfl (lv_at hl 2 rfl) ?_
  refine gF (v := .ref b) hx hb hown hE hK hP 0 rfl rfl layM 1 (by decide) w497 (by simp [h_fs_tape]) d_M_feed_89 ?_
  refine lv_aload_n hx hb d_M_feed_92 rfl (lv_at hl 2 rfl) ?_
  refine gF (v := .int 7) hx hb hown hE hK hP 0 rfl rfl layM 2 (by decide) w320 (by simp [hl_fs]) d_M_feed_93 ?_
  refine lv_iload hx hb d_M_feed_96 (lv_at hl 0 rfl) ?_
  refine lv_bipush (v := 24) hx hb d_M_feed_98 (by decide) ?_
  refine lv_bipush (v := 8) hx hb d_M_feed_100 (by decide) ?_
  refine lv_iload hx hb d_M_feed_102 (lv_at hl 1 rfl) ?_
  refine lv_iconst (v := 4) hx hb d_M_feed_104 (by decide) ?_
  refine lv_irem hx hb d_M_feed_105 (by decide) (tpi (y := 3) (by decide) ?_)
  refine lv_imul hx hb d_M_feed_106 (tpi (y := 24) (by decide) ?_)
  refine lv_isub hx hb d_M_feed_107 (tpi (y := 0) (by decide) ?_)
  refine lv_ishr hx hb d_M_feed_108 ?_
  refine lv_i2b hx hb d_M_feed_109 rfl ?_
  refine va_bast hx hb hK hP hD hS 1 0 rfl rfl (by unfold vp_in; decide) d_M_feed_110 (fun H locs hP hD hS => ?_)
  have hP : va_P D vwCl [(a, .inr (9, ((((((((fs.set 0 (.int 0)).set 2 (.int 1)).set 2 (.int 2)).set 2 (.int 3)).set 2 (.int 4)).set 2 (.int 5)).set 2 (.int 6)).set 2 (.int 7)))), (b, .inl (dA 0, 65536, .inl (upd (upd (upd (upd (upd (upd (upd (upd g 0 (vp_nar .byte ((x0 >>> (24 &&& 31)).toInt8.toInt32))) 1 (vp_nar .byte ((x0 >>> (16 &&& 31)).toInt8.toInt32))) 2 (vp_nar .byte ((x0 >>> (8 &&& 31)).toInt8.toInt32))) 3 (vp_nar .byte ((x0 >>> (0 &&& 31)).toInt8.toInt32))) 4 (vp_nar .byte ((x1 >>> (24 &&& 31)).toInt8.toInt32))) 5 (vp_nar .byte ((x1 >>> (16 &&& 31)).toInt8.toInt32))) 6 (vp_nar .byte ((x1 >>> (8 &&& 31)).toInt8.toInt32))) 7 (vp_nar .byte ((x1 >>> (0 &&& 31)).toInt8.toInt32)))))] H := hP
  have hD : va_D A [(a, .inr (9, ((((((((fs.set 0 (.int 0)).set 2 (.int 1)).set 2 (.int 2)).set 2 (.int 3)).set 2 (.int 4)).set 2 (.int 5)).set 2 (.int 6)).set 2 (.int 7)))), (b, .inl (dA 0, 65536, .inl (upd (upd (upd (upd (upd (upd (upd (upd g 0 (vp_nar .byte ((x0 >>> (24 &&& 31)).toInt8.toInt32))) 1 (vp_nar .byte ((x0 >>> (16 &&& 31)).toInt8.toInt32))) 2 (vp_nar .byte ((x0 >>> (8 &&& 31)).toInt8.toInt32))) 3 (vp_nar .byte ((x0 >>> (0 &&& 31)).toInt8.toInt32))) 4 (vp_nar .byte ((x1 >>> (24 &&& 31)).toInt8.toInt32))) 5 (vp_nar .byte ((x1 >>> (16 &&& 31)).toInt8.toInt32))) 6 (vp_nar .byte ((x1 >>> (8 &&& 31)).toInt8.toInt32))) 7 (vp_nar .byte ((x1 >>> (0 &&& 31)).toInt8.toInt32)))))] := hD
  refine lv_aload_n hx hb d_M_feed_111 rfl (lv_at hl 2 rfl) ?_
  refine lv_dup hx hb d_M_feed_112 rfl ?_
  refine gF (v := .int 7) hx hb hown hE hK hP 0 rfl rfl layM 2 (by decide) w320 (by simp [hl_fs]) d_M_feed_113 ?_
  refine lv_iconst (v := 1) hx hb d_M_feed_116 (by decide) ?_
  refine lv_iadd hx hb d_M_feed_117 (tpi (y := 8) (by decide) ?_)
  refine pF hx hb hown hE hK hP hD hS 0 rfl rfl layM tyM tokM nmM 2 (by decide) w320 rfl rfl rfl (by simp [hl_fs]) d_M_feed_118 (fun H locs hP hD hS => ?_)
  have hP : va_P D vwCl [(a, .inr (9, (((((((((fs.set 0 (.int 0)).set 2 (.int 1)).set 2 (.int 2)).set 2 (.int 3)).set 2 (.int 4)).set 2 (.int 5)).set 2 (.int 6)).set 2 (.int 7)).set 2 (.int 8)))), (b, .inl (dA 0, 65536, .inl (upd (upd (upd (upd (upd (upd (upd (upd g 0 (vp_nar .byte ((x0 >>> (24 &&& 31)).toInt8.toInt32))) 1 (vp_nar .byte ((x0 >>> (16 &&& 31)).toInt8.toInt32))) 2 (vp_nar .byte ((x0 >>> (8 &&& 31)).toInt8.toInt32))) 3 (vp_nar .byte ((x0 >>> (0 &&& 31)).toInt8.toInt32))) 4 (vp_nar .byte ((x1 >>> (24 &&& 31)).toInt8.toInt32))) 5 (vp_nar .byte ((x1 >>> (16 &&& 31)).toInt8.toInt32))) 6 (vp_nar .byte ((x1 >>> (8 &&& 31)).toInt8.toInt32))) 7 (vp_nar .byte ((x1 >>> (0 &&& 31)).toInt8.toInt32)))))] H := hP
  have hD : va_D A [(a, .inr (9, (((((((((fs.set 0 (.int 0)).set 2 (.int 1)).set 2 (.int 2)).set 2 (.int 3)).set 2 (.int 4)).set 2 (.int 5)).set 2 (.int 6)).set 2 (.int 7)).set 2 (.int 8)))), (b, .inl (dA 0, 65536, .inl (upd (upd (upd (upd (upd (upd (upd (upd g 0 (vp_nar .byte ((x0 >>> (24 &&& 31)).toInt8.toInt32))) 1 (vp_nar .byte ((x0 >>> (16 &&& 31)).toInt8.toInt32))) 2 (vp_nar .byte ((x0 >>> (8 &&& 31)).toInt8.toInt32))) 3 (vp_nar .byte ((x0 >>> (0 &&& 31)).toInt8.toInt32))) 4 (vp_nar .byte ((x1 >>> (24 &&& 31)).toInt8.toInt32))) 5 (vp_nar .byte ((x1 >>> (16 &&& 31)).toInt8.toInt32))) 6 (vp_nar .byte ((x1 >>> (8 &&& 31)).toInt8.toInt32))) 7 (vp_nar .byte ((x1 >>> (0 &&& 31)).toInt8.toInt32)))))] := hD
  refine lv_iinc (k := 1) (v := 8) hx hb d_M_feed_121 hl rfl (by decide) (by decide) rfl (fun ls hl => ?_)
  have hl : lv_has ls 8 [(6, .int 8), (7, .int x1), (0, .ref a), (1, .int x0), (2, .int x1), (3, .int x2), (4, .int x3), (5, .int x4)] := hl
  refine lv_goto hx hb d_M_feed_124 (tgt := 33) rfl ?_
  refine lv_iload hx hb d_M_feed_33 (lv_at hl 0 rfl) ?_
  refine lv_bipush (v := 20) hx hb d_M_feed_35 (by decide) ?_
  refine lv_icmp_ge hx hb d_M_feed_37 (tgt := 127) rfl (fun h9 => absurd h9 (by decide)) (fun _ => ?_)
  refine lv_iload hx hb d_M_feed_40 (lv_at hl 0 rfl) ?_
  refine lv_iconst (v := 4) hx hb d_M_feed_42 (by decide) ?_
  refine lv_icmp_ge hx hb d_M_feed_43 (tgt := 50) rfl (fun _ => ?_) (fun h9 => absurd (by decide) h9)
  refine lv_iload hx hb d_M_feed_50 (lv_at hl 0 rfl) ?_
  refine lv_bipush (v := 8) hx hb d_M_feed_52 (by decide) ?_
  refine lv_icmp_ge hx hb d_M_feed_54 (tgt := 61) rfl (fun _ => ?_) (fun h9 => absurd (by decide) h9)
  refine lv_iload hx hb d_M_feed_61 (lv_at hl 0 rfl) ?_
  refine lv_bipush (v := 12) hx hb d_M_feed_63 (by decide) ?_
  refine lv_icmp_ge hx hb d_M_feed_65 (tgt := 72) rfl (fun h9 => absurd h9 (by decide)) (fun _ => ?_)
  refine lv_iload_n hx hb d_M_feed_68 rfl (lv_at hl 5 rfl) ?_
  refine lv_goto hx hb d_M_feed_69 (tgt := 86) rfl ?_
  refine lv_istore hx hb d_M_feed_86 hl (by decide) rfl (fun ls hl => ?_)
  have hl : lv_has ls 8 [(7, .int x2), (6, .int 8), (0, .ref a), (1, .int x0), (2, .int x1), (3, .int x2), (4, .int x3), (5, .int x4)] := hl
  refine lv_aload_n hx hb d_M_feed_88 rfl (lv_at hl 2 rfl) ?_
  refine gF (v := .ref b) hx hb hown hE hK hP 0 rfl rfl layM 1 (by decide) w497 (by simp [h_fs_tape]) d_M_feed_89 ?_
  refine lv_aload_n hx hb d_M_feed_92 rfl (lv_at hl 2 rfl) ?_
  refine gF (v := .int 8) hx hb hown hE hK hP 0 rfl rfl layM 2 (by decide) w320 (by simp [hl_fs]) d_M_feed_93 ?_
  refine lv_iload hx hb d_M_feed_96 (lv_at hl 0 rfl) ?_
  refine lv_bipush (v := 24) hx hb d_M_feed_98 (by decide) ?_
  refine lv_bipush (v := 8) hx hb d_M_feed_100 (by decide) ?_
  refine lv_iload hx hb d_M_feed_102 (lv_at hl 1 rfl) ?_
  refine lv_iconst (v := 4) hx hb d_M_feed_104 (by decide) ?_
  refine lv_irem hx hb d_M_feed_105 (by decide) (tpi (y := 0) (by decide) ?_)
  refine lv_imul hx hb d_M_feed_106 (tpi (y := 0) (by decide) ?_)
  refine lv_isub hx hb d_M_feed_107 (tpi (y := 24) (by decide) ?_)
  refine lv_ishr hx hb d_M_feed_108 ?_
  refine lv_i2b hx hb d_M_feed_109 rfl ?_
  refine va_bast hx hb hK hP hD hS 1 0 rfl rfl (by unfold vp_in; decide) d_M_feed_110 (fun H locs hP hD hS => ?_)
  have hP : va_P D vwCl [(a, .inr (9, (((((((((fs.set 0 (.int 0)).set 2 (.int 1)).set 2 (.int 2)).set 2 (.int 3)).set 2 (.int 4)).set 2 (.int 5)).set 2 (.int 6)).set 2 (.int 7)).set 2 (.int 8)))), (b, .inl (dA 0, 65536, .inl (upd (upd (upd (upd (upd (upd (upd (upd (upd g 0 (vp_nar .byte ((x0 >>> (24 &&& 31)).toInt8.toInt32))) 1 (vp_nar .byte ((x0 >>> (16 &&& 31)).toInt8.toInt32))) 2 (vp_nar .byte ((x0 >>> (8 &&& 31)).toInt8.toInt32))) 3 (vp_nar .byte ((x0 >>> (0 &&& 31)).toInt8.toInt32))) 4 (vp_nar .byte ((x1 >>> (24 &&& 31)).toInt8.toInt32))) 5 (vp_nar .byte ((x1 >>> (16 &&& 31)).toInt8.toInt32))) 6 (vp_nar .byte ((x1 >>> (8 &&& 31)).toInt8.toInt32))) 7 (vp_nar .byte ((x1 >>> (0 &&& 31)).toInt8.toInt32))) 8 (vp_nar .byte ((x2 >>> (24 &&& 31)).toInt8.toInt32)))))] H := hP
  have hD : va_D A [(a, .inr (9, (((((((((fs.set 0 (.int 0)).set 2 (.int 1)).set 2 (.int 2)).set 2 (.int 3)).set 2 (.int 4)).set 2 (.int 5)).set 2 (.int 6)).set 2 (.int 7)).set 2 (.int 8)))), (b, .inl (dA 0, 65536, .inl (upd (upd (upd (upd (upd (upd (upd (upd (upd g 0 (vp_nar .byte ((x0 >>> (24 &&& 31)).toInt8.toInt32))) 1 (vp_nar .byte ((x0 >>> (16 &&& 31)).toInt8.toInt32))) 2 (vp_nar .byte ((x0 >>> (8 &&& 31)).toInt8.toInt32))) 3 (vp_nar .byte ((x0 >>> (0 &&& 31)).toInt8.toInt32))) 4 (vp_nar .byte ((x1 >>> (24 &&& 31)).toInt8.toInt32))) 5 (vp_nar .byte ((x1 >>> (16 &&& 31)).toInt8.toInt32))) 6 (vp_nar .byte ((x1 >>> (8 &&& 31)).toInt8.toInt32))) 7 (vp_nar .byte ((x1 >>> (0 &&& 31)).toInt8.toInt32))) 8 (vp_nar .byte ((x2 >>> (24 &&& 31)).toInt8.toInt32)))))] := hD
  refine lv_aload_n hx hb d_M_feed_111 rfl (lv_at hl 2 rfl) ?_
  refine lv_dup hx hb d_M_feed_112 rfl ?_
  refine gF (v := .int 8) hx hb hown hE hK hP 0 rfl rfl layM 2 (by decide) w320 (by simp [hl_fs]) d_M_feed_113 ?_
  refine lv_iconst (v := 1) hx hb d_M_feed_116 (by decide) ?_
  refine lv_iadd hx hb d_M_feed_117 (tpi (y := 9) (by decide) ?_)
  refine pF hx hb hown hE hK hP hD hS 0 rfl rfl layM tyM tokM nmM 2 (by decide) w320 rfl rfl rfl (by simp [hl_fs]) d_M_feed_118 (fun H locs hP hD hS => ?_)
  have hP : va_P D vwCl [(a, .inr (9, ((((((((((fs.set 0 (.int 0)).set 2 (.int 1)).set 2 (.int 2)).set 2 (.int 3)).set 2 (.int 4)).set 2 (.int 5)).set 2 (.int 6)).set 2 (.int 7)).set 2 (.int 8)).set 2 (.int 9)))), (b, .inl (dA 0, 65536, .inl (upd (upd (upd (upd (upd (upd (upd (upd (upd g 0 (vp_nar .byte ((x0 >>> (24 &&& 31)).toInt8.toInt32))) 1 (vp_nar .byte ((x0 >>> (16 &&& 31)).toInt8.toInt32))) 2 (vp_nar .byte ((x0 >>> (8 &&& 31)).toInt8.toInt32))) 3 (vp_nar .byte ((x0 >>> (0 &&& 31)).toInt8.toInt32))) 4 (vp_nar .byte ((x1 >>> (24 &&& 31)).toInt8.toInt32))) 5 (vp_nar .byte ((x1 >>> (16 &&& 31)).toInt8.toInt32))) 6 (vp_nar .byte ((x1 >>> (8 &&& 31)).toInt8.toInt32))) 7 (vp_nar .byte ((x1 >>> (0 &&& 31)).toInt8.toInt32))) 8 (vp_nar .byte ((x2 >>> (24 &&& 31)).toInt8.toInt32)))))] H := hP
  have hD : va_D A [(a, .inr (9, ((((((((((fs.set 0 (.int 0)).set 2 (.int 1)).set 2 (.int 2)).set 2 (.int 3)).set 2 (.int 4)).set 2 (.int 5)).set 2 (.int 6)).set 2 (.int 7)).set 2 (.int 8)).set 2 (.int 9)))), (b, .inl (dA 0, 65536, .inl (upd (upd (upd (upd (upd (upd (upd (upd (upd g 0 (vp_nar .byte ((x0 >>> (24 &&& 31)).toInt8.toInt32))) 1 (vp_nar .byte ((x0 >>> (16 &&& 31)).toInt8.toInt32))) 2 (vp_nar .byte ((x0 >>> (8 &&& 31)).toInt8.toInt32))) 3 (vp_nar .byte ((x0 >>> (0 &&& 31)).toInt8.toInt32))) 4 (vp_nar .byte ((x1 >>> (24 &&& 31)).toInt8.toInt32))) 5 (vp_nar .byte ((x1 >>> (16 &&& 31)).toInt8.toInt32))) 6 (vp_nar .byte ((x1 >>> (8 &&& 31)).toInt8.toInt32))) 7 (vp_nar .byte ((x1 >>> (0 &&& 31)).toInt8.toInt32))) 8 (vp_nar .byte ((x2 >>> (24 &&& 31)).toInt8.toInt32)))))] := hD
  refine lv_iinc (k := 1) (v := 9) hx hb d_M_feed_121 hl rfl (by decide) (by decide) rfl (fun ls hl => ?_)
  have hl : lv_has ls 8 [(6, .int 9), (7, .int x2), (0, .ref a), (1, .int x0), (2, .int x1), (3, .int x2), (4, .int x3), (5, .int x4)] := hl
  refine lv_goto hx hb d_M_feed_124 (tgt := 33) rfl ?_
  refine lv_iload hx hb d_M_feed_33 (lv_at hl 0 rfl) ?_
  refine lv_bipush (v := 20) hx hb d_M_feed_35 (by decide) ?_
  refine lv_icmp_ge hx hb d_M_feed_37 (tgt := 127) rfl (fun h9 => absurd h9 (by decide)) (fun _ => ?_)
  refine lv_iload hx hb d_M_feed_40 (lv_at hl 0 rfl) ?_
  refine lv_iconst (v := 4) hx hb d_M_feed_42 (by decide) ?_
  refine lv_icmp_ge hx hb d_M_feed_43 (tgt := 50) rfl (fun _ => ?_) (fun h9 => absurd (by decide) h9)
  refine lv_iload hx hb d_M_feed_50 (lv_at hl 0 rfl) ?_
  refine lv_bipush (v := 8) hx hb d_M_feed_52 (by decide) ?_
  refine lv_icmp_ge hx hb d_M_feed_54 (tgt := 61) rfl (fun _ => ?_) (fun h9 => absurd (by decide) h9)
  refine lv_iload hx hb d_M_feed_61 (lv_at hl 0 rfl) ?_
  refine lv_bipush (v := 12) hx hb d_M_feed_63 (by decide) ?_
  refine lv_icmp_ge hx hb d_M_feed_65 (tgt := 72) rfl (fun h9 => absurd h9 (by decide)) (fun _ => ?_)
  refine lv_iload_n hx hb d_M_feed_68 rfl (lv_at hl 5 rfl) ?_
  refine lv_goto hx hb d_M_feed_69 (tgt := 86) rfl ?_
  refine lv_istore hx hb d_M_feed_86 hl (by decide) rfl (fun ls hl => ?_)
  have hl : lv_has ls 8 [(7, .int x2), (6, .int 9), (0, .ref a), (1, .int x0), (2, .int x1), (3, .int x2), (4, .int x3), (5, .int x4)] := hl
  refine lv_aload_n hx hb d_M_feed_88 rfl (lv_at hl 2 rfl) ?_
  refine gF (v := .ref b) hx hb hown hE hK hP 0 rfl rfl layM 1 (by decide) w497 (by simp [h_fs_tape]) d_M_feed_89 ?_
  refine lv_aload_n hx hb d_M_feed_92 rfl (lv_at hl 2 rfl) ?_
  refine gF (v := .int 9) hx hb hown hE hK hP 0 rfl rfl layM 2 (by decide) w320 (by simp [hl_fs]) d_M_feed_93 ?_
  refine lv_iload hx hb d_M_feed_96 (lv_at hl 0 rfl) ?_
  refine lv_bipush (v := 24) hx hb d_M_feed_98 (by decide) ?_
  refine lv_bipush (v := 8) hx hb d_M_feed_100 (by decide) ?_
  refine lv_iload hx hb d_M_feed_102 (lv_at hl 1 rfl) ?_
  refine lv_iconst (v := 4) hx hb d_M_feed_104 (by decide) ?_
  refine lv_irem hx hb d_M_feed_105 (by decide) (tpi (y := 1) (by decide) ?_)
  refine lv_imul hx hb d_M_feed_106 (tpi (y := 8) (by decide) ?_)
  refine lv_isub hx hb d_M_feed_107 (tpi (y := 16) (by decide) ?_)
  refine lv_ishr hx hb d_M_feed_108 ?_
  refine lv_i2b hx hb d_M_feed_109 rfl ?_
  refine va_bast hx hb hK hP hD hS 1 0 rfl rfl (by unfold vp_in; decide) d_M_feed_110 (fun H locs hP hD hS => ?_)
  have hP : va_P D vwCl [(a, .inr (9, ((((((((((fs.set 0 (.int 0)).set 2 (.int 1)).set 2 (.int 2)).set 2 (.int 3)).set 2 (.int 4)).set 2 (.int 5)).set 2 (.int 6)).set 2 (.int 7)).set 2 (.int 8)).set 2 (.int 9)))), (b, .inl (dA 0, 65536, .inl (upd (upd (upd (upd (upd (upd (upd (upd (upd (upd g 0 (vp_nar .byte ((x0 >>> (24 &&& 31)).toInt8.toInt32))) 1 (vp_nar .byte ((x0 >>> (16 &&& 31)).toInt8.toInt32))) 2 (vp_nar .byte ((x0 >>> (8 &&& 31)).toInt8.toInt32))) 3 (vp_nar .byte ((x0 >>> (0 &&& 31)).toInt8.toInt32))) 4 (vp_nar .byte ((x1 >>> (24 &&& 31)).toInt8.toInt32))) 5 (vp_nar .byte ((x1 >>> (16 &&& 31)).toInt8.toInt32))) 6 (vp_nar .byte ((x1 >>> (8 &&& 31)).toInt8.toInt32))) 7 (vp_nar .byte ((x1 >>> (0 &&& 31)).toInt8.toInt32))) 8 (vp_nar .byte ((x2 >>> (24 &&& 31)).toInt8.toInt32))) 9 (vp_nar .byte ((x2 >>> (16 &&& 31)).toInt8.toInt32)))))] H := hP
  have hD : va_D A [(a, .inr (9, ((((((((((fs.set 0 (.int 0)).set 2 (.int 1)).set 2 (.int 2)).set 2 (.int 3)).set 2 (.int 4)).set 2 (.int 5)).set 2 (.int 6)).set 2 (.int 7)).set 2 (.int 8)).set 2 (.int 9)))), (b, .inl (dA 0, 65536, .inl (upd (upd (upd (upd (upd (upd (upd (upd (upd (upd g 0 (vp_nar .byte ((x0 >>> (24 &&& 31)).toInt8.toInt32))) 1 (vp_nar .byte ((x0 >>> (16 &&& 31)).toInt8.toInt32))) 2 (vp_nar .byte ((x0 >>> (8 &&& 31)).toInt8.toInt32))) 3 (vp_nar .byte ((x0 >>> (0 &&& 31)).toInt8.toInt32))) 4 (vp_nar .byte ((x1 >>> (24 &&& 31)).toInt8.toInt32))) 5 (vp_nar .byte ((x1 >>> (16 &&& 31)).toInt8.toInt32))) 6 (vp_nar .byte ((x1 >>> (8 &&& 31)).toInt8.toInt32))) 7 (vp_nar .byte ((x1 >>> (0 &&& 31)).toInt8.toInt32))) 8 (vp_nar .byte ((x2 >>> (24 &&& 31)).toInt8.toInt32))) 9 (vp_nar .byte ((x2 >>> (16 &&& 31)).toInt8.toInt32)))))] := hD
  refine lv_aload_n hx hb d_M_feed_111 rfl (lv_at hl 2 rfl) ?_
  refine lv_dup hx hb d_M_feed_112 rfl ?_
  refine gF (v := .int 9) hx hb hown hE hK hP 0 rfl rfl layM 2 (by decide) w320 (by simp [hl_fs]) d_M_feed_113 ?_
  refine lv_iconst (v := 1) hx hb d_M_feed_116 (by decide) ?_
  refine lv_iadd hx hb d_M_feed_117 (tpi (y := 10) (by decide) ?_)
  refine pF hx hb hown hE hK hP hD hS 0 rfl rfl layM tyM tokM nmM 2 (by decide) w320 rfl rfl rfl (by simp [hl_fs]) d_M_feed_118 (fun H locs hP hD hS => ?_)
  have hP : va_P D vwCl [(a, .inr (9, (((((((((((fs.set 0 (.int 0)).set 2 (.int 1)).set 2 (.int 2)).set 2 (.int 3)).set 2 (.int 4)).set 2 (.int 5)).set 2 (.int 6)).set 2 (.int 7)).set 2 (.int 8)).set 2 (.int 9)).set 2 (.int 10)))), (b, .inl (dA 0, 65536, .inl (upd (upd (upd (upd (upd (upd (upd (upd (upd (upd g 0 (vp_nar .byte ((x0 >>> (24 &&& 31)).toInt8.toInt32))) 1 (vp_nar .byte ((x0 >>> (16 &&& 31)).toInt8.toInt32))) 2 (vp_nar .byte ((x0 >>> (8 &&& 31)).toInt8.toInt32))) 3 (vp_nar .byte ((x0 >>> (0 &&& 31)).toInt8.toInt32))) 4 (vp_nar .byte ((x1 >>> (24 &&& 31)).toInt8.toInt32))) 5 (vp_nar .byte ((x1 >>> (16 &&& 31)).toInt8.toInt32))) 6 (vp_nar .byte ((x1 >>> (8 &&& 31)).toInt8.toInt32))) 7 (vp_nar .byte ((x1 >>> (0 &&& 31)).toInt8.toInt32))) 8 (vp_nar .byte ((x2 >>> (24 &&& 31)).toInt8.toInt32))) 9 (vp_nar .byte ((x2 >>> (16 &&& 31)).toInt8.toInt32)))))] H := hP
  have hD : va_D A [(a, .inr (9, (((((((((((fs.set 0 (.int 0)).set 2 (.int 1)).set 2 (.int 2)).set 2 (.int 3)).set 2 (.int 4)).set 2 (.int 5)).set 2 (.int 6)).set 2 (.int 7)).set 2 (.int 8)).set 2 (.int 9)).set 2 (.int 10)))), (b, .inl (dA 0, 65536, .inl (upd (upd (upd (upd (upd (upd (upd (upd (upd (upd g 0 (vp_nar .byte ((x0 >>> (24 &&& 31)).toInt8.toInt32))) 1 (vp_nar .byte ((x0 >>> (16 &&& 31)).toInt8.toInt32))) 2 (vp_nar .byte ((x0 >>> (8 &&& 31)).toInt8.toInt32))) 3 (vp_nar .byte ((x0 >>> (0 &&& 31)).toInt8.toInt32))) 4 (vp_nar .byte ((x1 >>> (24 &&& 31)).toInt8.toInt32))) 5 (vp_nar .byte ((x1 >>> (16 &&& 31)).toInt8.toInt32))) 6 (vp_nar .byte ((x1 >>> (8 &&& 31)).toInt8.toInt32))) 7 (vp_nar .byte ((x1 >>> (0 &&& 31)).toInt8.toInt32))) 8 (vp_nar .byte ((x2 >>> (24 &&& 31)).toInt8.toInt32))) 9 (vp_nar .byte ((x2 >>> (16 &&& 31)).toInt8.toInt32)))))] := hD
  refine lv_iinc (k := 1) (v := 10) hx hb d_M_feed_121 hl rfl (by decide) (by decide) rfl (fun ls hl => ?_)
  have hl : lv_has ls 8 [(6, .int 10), (7, .int x2), (0, .ref a), (1, .int x0), (2, .int x1), (3, .int x2), (4, .int x3), (5, .int x4)] := hl
  refine lv_goto hx hb d_M_feed_124 (tgt := 33) rfl ?_
  refine lv_iload hx hb d_M_feed_33 (lv_at hl 0 rfl) ?_
  refine lv_bipush (v := 20) hx hb d_M_feed_35 (by decide) ?_
  refine lv_icmp_ge hx hb d_M_feed_37 (tgt := 127) rfl (fun h9 => absurd h9 (by decide)) (fun _ => ?_)
  refine lv_iload hx hb d_M_feed_40 (lv_at hl 0 rfl) ?_
  refine lv_iconst (v := 4) hx hb d_M_feed_42 (by decide) ?_
  refine lv_icmp_ge hx hb d_M_feed_43 (tgt := 50) rfl (fun _ => ?_) (fun h9 => absurd (by decide) h9)
  refine lv_iload hx hb d_M_feed_50 (lv_at hl 0 rfl) ?_
  refine lv_bipush (v := 8) hx hb d_M_feed_52 (by decide) ?_
  refine lv_icmp_ge hx hb d_M_feed_54 (tgt := 61) rfl (fun _ => ?_) (fun h9 => absurd (by decide) h9)
  refine lv_iload hx hb d_M_feed_61 (lv_at hl 0 rfl) ?_
  refine lv_bipush (v := 12) hx hb d_M_feed_63 (by decide) ?_
  refine lv_icmp_ge hx hb d_M_feed_65 (tgt := 72) rfl (fun h9 => absurd h9 (by decide)) (fun _ => ?_)
  refine lv_iload_n hx hb d_M_feed_68 rfl (lv_at hl 5 rfl) ?_
  refine lv_goto hx hb d_M_feed_69 (tgt := 86) rfl ?_
  refine lv_istore hx hb d_M_feed_86 hl (by decide) rfl (fun ls hl => ?_)
  have hl : lv_has ls 8 [(7, .int x2), (6, .int 10), (0, .ref a), (1, .int x0), (2, .int x1), (3, .int x2), (4, .int x3), (5, .int x4)] := hl
  refine lv_aload_n hx hb d_M_feed_88 rfl (lv_at hl 2 rfl) ?_
  refine gF (v := .ref b) hx hb hown hE hK hP 0 rfl rfl layM 1 (by decide) w497 (by simp [h_fs_tape]) d_M_feed_89 ?_
  refine lv_aload_n hx hb d_M_feed_92 rfl (lv_at hl 2 rfl) ?_
  refine gF (v := .int 10) hx hb hown hE hK hP 0 rfl rfl layM 2 (by decide) w320 (by simp [hl_fs]) d_M_feed_93 ?_
  refine lv_iload hx hb d_M_feed_96 (lv_at hl 0 rfl) ?_
  refine lv_bipush (v := 24) hx hb d_M_feed_98 (by decide) ?_
  refine lv_bipush (v := 8) hx hb d_M_feed_100 (by decide) ?_
  refine lv_iload hx hb d_M_feed_102 (lv_at hl 1 rfl) ?_
  refine lv_iconst (v := 4) hx hb d_M_feed_104 (by decide) ?_
  refine lv_irem hx hb d_M_feed_105 (by decide) (tpi (y := 2) (by decide) ?_)
  refine lv_imul hx hb d_M_feed_106 (tpi (y := 16) (by decide) ?_)
  refine lv_isub hx hb d_M_feed_107 (tpi (y := 8) (by decide) ?_)
  refine lv_ishr hx hb d_M_feed_108 ?_
  refine lv_i2b hx hb d_M_feed_109 rfl ?_
  refine va_bast hx hb hK hP hD hS 1 0 rfl rfl (by unfold vp_in; decide) d_M_feed_110 (fun H locs hP hD hS => ?_)
  have hP : va_P D vwCl [(a, .inr (9, (((((((((((fs.set 0 (.int 0)).set 2 (.int 1)).set 2 (.int 2)).set 2 (.int 3)).set 2 (.int 4)).set 2 (.int 5)).set 2 (.int 6)).set 2 (.int 7)).set 2 (.int 8)).set 2 (.int 9)).set 2 (.int 10)))), (b, .inl (dA 0, 65536, .inl (upd (upd (upd (upd (upd (upd (upd (upd (upd (upd (upd g 0 (vp_nar .byte ((x0 >>> (24 &&& 31)).toInt8.toInt32))) 1 (vp_nar .byte ((x0 >>> (16 &&& 31)).toInt8.toInt32))) 2 (vp_nar .byte ((x0 >>> (8 &&& 31)).toInt8.toInt32))) 3 (vp_nar .byte ((x0 >>> (0 &&& 31)).toInt8.toInt32))) 4 (vp_nar .byte ((x1 >>> (24 &&& 31)).toInt8.toInt32))) 5 (vp_nar .byte ((x1 >>> (16 &&& 31)).toInt8.toInt32))) 6 (vp_nar .byte ((x1 >>> (8 &&& 31)).toInt8.toInt32))) 7 (vp_nar .byte ((x1 >>> (0 &&& 31)).toInt8.toInt32))) 8 (vp_nar .byte ((x2 >>> (24 &&& 31)).toInt8.toInt32))) 9 (vp_nar .byte ((x2 >>> (16 &&& 31)).toInt8.toInt32))) 10 (vp_nar .byte ((x2 >>> (8 &&& 31)).toInt8.toInt32)))))] H := hP
  have hD : va_D A [(a, .inr (9, (((((((((((fs.set 0 (.int 0)).set 2 (.int 1)).set 2 (.int 2)).set 2 (.int 3)).set 2 (.int 4)).set 2 (.int 5)).set 2 (.int 6)).set 2 (.int 7)).set 2 (.int 8)).set 2 (.int 9)).set 2 (.int 10)))), (b, .inl (dA 0, 65536, .inl (upd (upd (upd (upd (upd (upd (upd (upd (upd (upd (upd g 0 (vp_nar .byte ((x0 >>> (24 &&& 31)).toInt8.toInt32))) 1 (vp_nar .byte ((x0 >>> (16 &&& 31)).toInt8.toInt32))) 2 (vp_nar .byte ((x0 >>> (8 &&& 31)).toInt8.toInt32))) 3 (vp_nar .byte ((x0 >>> (0 &&& 31)).toInt8.toInt32))) 4 (vp_nar .byte ((x1 >>> (24 &&& 31)).toInt8.toInt32))) 5 (vp_nar .byte ((x1 >>> (16 &&& 31)).toInt8.toInt32))) 6 (vp_nar .byte ((x1 >>> (8 &&& 31)).toInt8.toInt32))) 7 (vp_nar .byte ((x1 >>> (0 &&& 31)).toInt8.toInt32))) 8 (vp_nar .byte ((x2 >>> (24 &&& 31)).toInt8.toInt32))) 9 (vp_nar .byte ((x2 >>> (16 &&& 31)).toInt8.toInt32))) 10 (vp_nar .byte ((x2 >>> (8 &&& 31)).toInt8.toInt32)))))] := hD
  refine lv_aload_n hx hb d_M_feed_111 rfl (lv_at hl 2 rfl) ?_
  refine lv_dup hx hb d_M_feed_112 rfl ?_
  refine gF (v := .int 10) hx hb hown hE hK hP 0 rfl rfl layM 2 (by decide) w320 (by simp [hl_fs]) d_M_feed_113 ?_
  refine lv_iconst (v := 1) hx hb d_M_feed_116 (by decide) ?_
  refine lv_iadd hx hb d_M_feed_117 (tpi (y := 11) (by decide) ?_)
  refine pF hx hb hown hE hK hP hD hS 0 rfl rfl layM tyM tokM nmM 2 (by decide) w320 rfl rfl rfl (by simp [hl_fs]) d_M_feed_118 (fun H locs hP hD hS => ?_)
  have hP : va_P D vwCl [(a, .inr (9, ((((((((((((fs.set 0 (.int 0)).set 2 (.int 1)).set 2 (.int 2)).set 2 (.int 3)).set 2 (.int 4)).set 2 (.int 5)).set 2 (.int 6)).set 2 (.int 7)).set 2 (.int 8)).set 2 (.int 9)).set 2 (.int 10)).set 2 (.int 11)))), (b, .inl (dA 0, 65536, .inl (upd (upd (upd (upd (upd (upd (upd (upd (upd (upd (upd g 0 (vp_nar .byte ((x0 >>> (24 &&& 31)).toInt8.toInt32))) 1 (vp_nar .byte ((x0 >>> (16 &&& 31)).toInt8.toInt32))) 2 (vp_nar .byte ((x0 >>> (8 &&& 31)).toInt8.toInt32))) 3 (vp_nar .byte ((x0 >>> (0 &&& 31)).toInt8.toInt32))) 4 (vp_nar .byte ((x1 >>> (24 &&& 31)).toInt8.toInt32))) 5 (vp_nar .byte ((x1 >>> (16 &&& 31)).toInt8.toInt32))) 6 (vp_nar .byte ((x1 >>> (8 &&& 31)).toInt8.toInt32))) 7 (vp_nar .byte ((x1 >>> (0 &&& 31)).toInt8.toInt32))) 8 (vp_nar .byte ((x2 >>> (24 &&& 31)).toInt8.toInt32))) 9 (vp_nar .byte ((x2 >>> (16 &&& 31)).toInt8.toInt32))) 10 (vp_nar .byte ((x2 >>> (8 &&& 31)).toInt8.toInt32)))))] H := hP
  have hD : va_D A [(a, .inr (9, ((((((((((((fs.set 0 (.int 0)).set 2 (.int 1)).set 2 (.int 2)).set 2 (.int 3)).set 2 (.int 4)).set 2 (.int 5)).set 2 (.int 6)).set 2 (.int 7)).set 2 (.int 8)).set 2 (.int 9)).set 2 (.int 10)).set 2 (.int 11)))), (b, .inl (dA 0, 65536, .inl (upd (upd (upd (upd (upd (upd (upd (upd (upd (upd (upd g 0 (vp_nar .byte ((x0 >>> (24 &&& 31)).toInt8.toInt32))) 1 (vp_nar .byte ((x0 >>> (16 &&& 31)).toInt8.toInt32))) 2 (vp_nar .byte ((x0 >>> (8 &&& 31)).toInt8.toInt32))) 3 (vp_nar .byte ((x0 >>> (0 &&& 31)).toInt8.toInt32))) 4 (vp_nar .byte ((x1 >>> (24 &&& 31)).toInt8.toInt32))) 5 (vp_nar .byte ((x1 >>> (16 &&& 31)).toInt8.toInt32))) 6 (vp_nar .byte ((x1 >>> (8 &&& 31)).toInt8.toInt32))) 7 (vp_nar .byte ((x1 >>> (0 &&& 31)).toInt8.toInt32))) 8 (vp_nar .byte ((x2 >>> (24 &&& 31)).toInt8.toInt32))) 9 (vp_nar .byte ((x2 >>> (16 &&& 31)).toInt8.toInt32))) 10 (vp_nar .byte ((x2 >>> (8 &&& 31)).toInt8.toInt32)))))] := hD
  refine lv_iinc (k := 1) (v := 11) hx hb d_M_feed_121 hl rfl (by decide) (by decide) rfl (fun ls hl => ?_)
  have hl : lv_has ls 8 [(6, .int 11), (7, .int x2), (0, .ref a), (1, .int x0), (2, .int x1), (3, .int x2), (4, .int x3), (5, .int x4)] := hl
  refine lv_goto hx hb d_M_feed_124 (tgt := 33) rfl ?_
  refine lv_iload hx hb d_M_feed_33 (lv_at hl 0 rfl) ?_
  refine lv_bipush (v := 20) hx hb d_M_feed_35 (by decide) ?_
  refine lv_icmp_ge hx hb d_M_feed_37 (tgt := 127) rfl (fun h9 => absurd h9 (by decide)) (fun _ => ?_)
  refine lv_iload hx hb d_M_feed_40 (lv_at hl 0 rfl) ?_
  refine lv_iconst (v := 4) hx hb d_M_feed_42 (by decide) ?_
  refine lv_icmp_ge hx hb d_M_feed_43 (tgt := 50) rfl (fun _ => ?_) (fun h9 => absurd (by decide) h9)
  refine lv_iload hx hb d_M_feed_50 (lv_at hl 0 rfl) ?_
  refine lv_bipush (v := 8) hx hb d_M_feed_52 (by decide) ?_
  refine lv_icmp_ge hx hb d_M_feed_54 (tgt := 61) rfl (fun _ => ?_) (fun h9 => absurd (by decide) h9)
  refine lv_iload hx hb d_M_feed_61 (lv_at hl 0 rfl) ?_
  refine lv_bipush (v := 12) hx hb d_M_feed_63 (by decide) ?_
  refine lv_icmp_ge hx hb d_M_feed_65 (tgt := 72) rfl (fun h9 => absurd h9 (by decide)) (fun _ => ?_)
  refine lv_iload_n hx hb d_M_feed_68 rfl (lv_at hl 5 rfl) ?_
  refine lv_goto hx hb d_M_feed_69 (tgt := 86) rfl ?_
  refine lv_istore hx hb d_M_feed_86 hl (by decide) rfl (fun ls hl => ?_)
  have hl : lv_has ls 8 [(7, .int x2), (6, .int 11), (0, .ref a), (1, .int x0), (2, .int x1), (3, .int x2), (4, .int x3), (5, .int x4)] := hl
  refine lv_aload_n hx hb d_M_feed_88 rfl (lv_at hl 2 rfl) ?_
  refine gF (v := .ref b) hx hb hown hE hK hP 0 rfl rfl layM 1 (by decide) w497 (by simp [h_fs_tape]) d_M_feed_89 ?_
  refine lv_aload_n hx hb d_M_feed_92 rfl (lv_at hl 2 rfl) ?_
  refine gF (v := .int 11) hx hb hown hE hK hP 0 rfl rfl layM 2 (by decide) w320 (by simp [hl_fs]) d_M_feed_93 ?_
  refine lv_iload hx hb d_M_feed_96 (lv_at hl 0 rfl) ?_
  refine lv_bipush (v := 24) hx hb d_M_feed_98 (by decide) ?_
  refine lv_bipush (v := 8) hx hb d_M_feed_100 (by decide) ?_
  refine lv_iload hx hb d_M_feed_102 (lv_at hl 1 rfl) ?_
  refine lv_iconst (v := 4) hx hb d_M_feed_104 (by decide) ?_
  refine lv_irem hx hb d_M_feed_105 (by decide) (tpi (y := 3) (by decide) ?_)
  refine lv_imul hx hb d_M_feed_106 (tpi (y := 24) (by decide) ?_)
  refine lv_isub hx hb d_M_feed_107 (tpi (y := 0) (by decide) ?_)
  refine lv_ishr hx hb d_M_feed_108 ?_
  refine lv_i2b hx hb d_M_feed_109 rfl ?_
  refine va_bast hx hb hK hP hD hS 1 0 rfl rfl (by unfold vp_in; decide) d_M_feed_110 (fun H locs hP hD hS => ?_)
  have hP : va_P D vwCl [(a, .inr (9, ((((((((((((fs.set 0 (.int 0)).set 2 (.int 1)).set 2 (.int 2)).set 2 (.int 3)).set 2 (.int 4)).set 2 (.int 5)).set 2 (.int 6)).set 2 (.int 7)).set 2 (.int 8)).set 2 (.int 9)).set 2 (.int 10)).set 2 (.int 11)))), (b, .inl (dA 0, 65536, .inl (upd (upd (upd (upd (upd (upd (upd (upd (upd (upd (upd (upd g 0 (vp_nar .byte ((x0 >>> (24 &&& 31)).toInt8.toInt32))) 1 (vp_nar .byte ((x0 >>> (16 &&& 31)).toInt8.toInt32))) 2 (vp_nar .byte ((x0 >>> (8 &&& 31)).toInt8.toInt32))) 3 (vp_nar .byte ((x0 >>> (0 &&& 31)).toInt8.toInt32))) 4 (vp_nar .byte ((x1 >>> (24 &&& 31)).toInt8.toInt32))) 5 (vp_nar .byte ((x1 >>> (16 &&& 31)).toInt8.toInt32))) 6 (vp_nar .byte ((x1 >>> (8 &&& 31)).toInt8.toInt32))) 7 (vp_nar .byte ((x1 >>> (0 &&& 31)).toInt8.toInt32))) 8 (vp_nar .byte ((x2 >>> (24 &&& 31)).toInt8.toInt32))) 9 (vp_nar .byte ((x2 >>> (16 &&& 31)).toInt8.toInt32))) 10 (vp_nar .byte ((x2 >>> (8 &&& 31)).toInt8.toInt32))) 11 (vp_nar .byte ((x2 >>> (0 &&& 31)).toInt8.toInt32)))))] H := hP
  have hD : va_D A [(a, .inr (9, ((((((((((((fs.set 0 (.int 0)).set 2 (.int 1)).set 2 (.int 2)).set 2 (.int 3)).set 2 (.int 4)).set 2 (.int 5)).set 2 (.int 6)).set 2 (.int 7)).set 2 (.int 8)).set 2 (.int 9)).set 2 (.int 10)).set 2 (.int 11)))), (b, .inl (dA 0, 65536, .inl (upd (upd (upd (upd (upd (upd (upd (upd (upd (upd (upd (upd g 0 (vp_nar .byte ((x0 >>> (24 &&& 31)).toInt8.toInt32))) 1 (vp_nar .byte ((x0 >>> (16 &&& 31)).toInt8.toInt32))) 2 (vp_nar .byte ((x0 >>> (8 &&& 31)).toInt8.toInt32))) 3 (vp_nar .byte ((x0 >>> (0 &&& 31)).toInt8.toInt32))) 4 (vp_nar .byte ((x1 >>> (24 &&& 31)).toInt8.toInt32))) 5 (vp_nar .byte ((x1 >>> (16 &&& 31)).toInt8.toInt32))) 6 (vp_nar .byte ((x1 >>> (8 &&& 31)).toInt8.toInt32))) 7 (vp_nar .byte ((x1 >>> (0 &&& 31)).toInt8.toInt32))) 8 (vp_nar .byte ((x2 >>> (24 &&& 31)).toInt8.toInt32))) 9 (vp_nar .byte ((x2 >>> (16 &&& 31)).toInt8.toInt32))) 10 (vp_nar .byte ((x2 >>> (8 &&& 31)).toInt8.toInt32))) 11 (vp_nar .byte ((x2 >>> (0 &&& 31)).toInt8.toInt32)))))] := hD
  refine lv_aload_n hx hb d_M_feed_111 rfl (lv_at hl 2 rfl) ?_
  refine lv_dup hx hb d_M_feed_112 rfl ?_
  refine gF (v := .int 11) hx hb hown hE hK hP 0 rfl rfl layM 2 (by decide) w320 (by simp [hl_fs]) d_M_feed_113 ?_
  refine lv_iconst (v := 1) hx hb d_M_feed_116 (by decide) ?_
  refine lv_iadd hx hb d_M_feed_117 (tpi (y := 12) (by decide) ?_)
  refine pF hx hb hown hE hK hP hD hS 0 rfl rfl layM tyM tokM nmM 2 (by decide) w320 rfl rfl rfl (by simp [hl_fs]) d_M_feed_118 (fun H locs hP hD hS => ?_)
  have hP : va_P D vwCl [(a, .inr (9, (((((((((((((fs.set 0 (.int 0)).set 2 (.int 1)).set 2 (.int 2)).set 2 (.int 3)).set 2 (.int 4)).set 2 (.int 5)).set 2 (.int 6)).set 2 (.int 7)).set 2 (.int 8)).set 2 (.int 9)).set 2 (.int 10)).set 2 (.int 11)).set 2 (.int 12)))), (b, .inl (dA 0, 65536, .inl (upd (upd (upd (upd (upd (upd (upd (upd (upd (upd (upd (upd g 0 (vp_nar .byte ((x0 >>> (24 &&& 31)).toInt8.toInt32))) 1 (vp_nar .byte ((x0 >>> (16 &&& 31)).toInt8.toInt32))) 2 (vp_nar .byte ((x0 >>> (8 &&& 31)).toInt8.toInt32))) 3 (vp_nar .byte ((x0 >>> (0 &&& 31)).toInt8.toInt32))) 4 (vp_nar .byte ((x1 >>> (24 &&& 31)).toInt8.toInt32))) 5 (vp_nar .byte ((x1 >>> (16 &&& 31)).toInt8.toInt32))) 6 (vp_nar .byte ((x1 >>> (8 &&& 31)).toInt8.toInt32))) 7 (vp_nar .byte ((x1 >>> (0 &&& 31)).toInt8.toInt32))) 8 (vp_nar .byte ((x2 >>> (24 &&& 31)).toInt8.toInt32))) 9 (vp_nar .byte ((x2 >>> (16 &&& 31)).toInt8.toInt32))) 10 (vp_nar .byte ((x2 >>> (8 &&& 31)).toInt8.toInt32))) 11 (vp_nar .byte ((x2 >>> (0 &&& 31)).toInt8.toInt32)))))] H := hP
  have hD : va_D A [(a, .inr (9, (((((((((((((fs.set 0 (.int 0)).set 2 (.int 1)).set 2 (.int 2)).set 2 (.int 3)).set 2 (.int 4)).set 2 (.int 5)).set 2 (.int 6)).set 2 (.int 7)).set 2 (.int 8)).set 2 (.int 9)).set 2 (.int 10)).set 2 (.int 11)).set 2 (.int 12)))), (b, .inl (dA 0, 65536, .inl (upd (upd (upd (upd (upd (upd (upd (upd (upd (upd (upd (upd g 0 (vp_nar .byte ((x0 >>> (24 &&& 31)).toInt8.toInt32))) 1 (vp_nar .byte ((x0 >>> (16 &&& 31)).toInt8.toInt32))) 2 (vp_nar .byte ((x0 >>> (8 &&& 31)).toInt8.toInt32))) 3 (vp_nar .byte ((x0 >>> (0 &&& 31)).toInt8.toInt32))) 4 (vp_nar .byte ((x1 >>> (24 &&& 31)).toInt8.toInt32))) 5 (vp_nar .byte ((x1 >>> (16 &&& 31)).toInt8.toInt32))) 6 (vp_nar .byte ((x1 >>> (8 &&& 31)).toInt8.toInt32))) 7 (vp_nar .byte ((x1 >>> (0 &&& 31)).toInt8.toInt32))) 8 (vp_nar .byte ((x2 >>> (24 &&& 31)).toInt8.toInt32))) 9 (vp_nar .byte ((x2 >>> (16 &&& 31)).toInt8.toInt32))) 10 (vp_nar .byte ((x2 >>> (8 &&& 31)).toInt8.toInt32))) 11 (vp_nar .byte ((x2 >>> (0 &&& 31)).toInt8.toInt32)))))] := hD
  refine lv_iinc (k := 1) (v := 12) hx hb d_M_feed_121 hl rfl (by decide) (by decide) rfl (fun ls hl => ?_)
  have hl : lv_has ls 8 [(6, .int 12), (7, .int x2), (0, .ref a), (1, .int x0), (2, .int x1), (3, .int x2), (4, .int x3), (5, .int x4)] := hl
  refine lv_goto hx hb d_M_feed_124 (tgt := 33) rfl ?_
  refine lv_iload hx hb d_M_feed_33 (lv_at hl 0 rfl) ?_
  refine lv_bipush (v := 20) hx hb d_M_feed_35 (by decide) ?_
  refine lv_icmp_ge hx hb d_M_feed_37 (tgt := 127) rfl (fun h9 => absurd h9 (by decide)) (fun _ => ?_)
  refine lv_iload hx hb d_M_feed_40 (lv_at hl 0 rfl) ?_
  refine lv_iconst (v := 4) hx hb d_M_feed_42 (by decide) ?_
  refine lv_icmp_ge hx hb d_M_feed_43 (tgt := 50) rfl (fun _ => ?_) (fun h9 => absurd (by decide) h9)
  refine lv_iload hx hb d_M_feed_50 (lv_at hl 0 rfl) ?_
  refine lv_bipush (v := 8) hx hb d_M_feed_52 (by decide) ?_
  refine lv_icmp_ge hx hb d_M_feed_54 (tgt := 61) rfl (fun _ => ?_) (fun h9 => absurd (by decide) h9)
  refine lv_iload hx hb d_M_feed_61 (lv_at hl 0 rfl) ?_
  refine lv_bipush (v := 12) hx hb d_M_feed_63 (by decide) ?_
  refine lv_icmp_ge hx hb d_M_feed_65 (tgt := 72) rfl (fun _ => ?_) (fun h9 => absurd (by decide) h9)
  refine lv_iload hx hb d_M_feed_72 (lv_at hl 0 rfl) ?_
  refine lv_bipush (v := 16) hx hb d_M_feed_74 (by decide) ?_
  refine lv_icmp_ge hx hb d_M_feed_76 (tgt := 84) rfl (fun h9 => absurd h9 (by decide)) (fun _ => ?_)
  refine lv_iload hx hb d_M_feed_79 (lv_at hl 6 rfl) ?_
  refine lv_goto hx hb d_M_feed_81 (tgt := 86) rfl ?_
  refine lv_istore hx hb d_M_feed_86 hl (by decide) rfl (fun ls hl => ?_)
  have hl : lv_has ls 8 [(7, .int x3), (6, .int 12), (0, .ref a), (1, .int x0), (2, .int x1), (3, .int x2), (4, .int x3), (5, .int x4)] := hl
  refine lv_aload_n hx hb d_M_feed_88 rfl (lv_at hl 2 rfl) ?_
  refine gF (v := .ref b) hx hb hown hE hK hP 0 rfl rfl layM 1 (by decide) w497 (by simp [h_fs_tape]) d_M_feed_89 ?_
  refine lv_aload_n hx hb d_M_feed_92 rfl (lv_at hl 2 rfl) ?_
  refine gF (v := .int 12) hx hb hown hE hK hP 0 rfl rfl layM 2 (by decide) w320 (by simp [hl_fs]) d_M_feed_93 ?_
  refine lv_iload hx hb d_M_feed_96 (lv_at hl 0 rfl) ?_
  refine lv_bipush (v := 24) hx hb d_M_feed_98 (by decide) ?_
  refine lv_bipush (v := 8) hx hb d_M_feed_100 (by decide) ?_
  refine lv_iload hx hb d_M_feed_102 (lv_at hl 1 rfl) ?_
  refine lv_iconst (v := 4) hx hb d_M_feed_104 (by decide) ?_
  refine lv_irem hx hb d_M_feed_105 (by decide) (tpi (y := 0) (by decide) ?_)
  refine lv_imul hx hb d_M_feed_106 (tpi (y := 0) (by decide) ?_)
  refine lv_isub hx hb d_M_feed_107 (tpi (y := 24) (by decide) ?_)
  refine lv_ishr hx hb d_M_feed_108 ?_
  refine lv_i2b hx hb d_M_feed_109 rfl ?_
  refine va_bast hx hb hK hP hD hS 1 0 rfl rfl (by unfold vp_in; decide) d_M_feed_110 (fun H locs hP hD hS => ?_)
  have hP : va_P D vwCl [(a, .inr (9, (((((((((((((fs.set 0 (.int 0)).set 2 (.int 1)).set 2 (.int 2)).set 2 (.int 3)).set 2 (.int 4)).set 2 (.int 5)).set 2 (.int 6)).set 2 (.int 7)).set 2 (.int 8)).set 2 (.int 9)).set 2 (.int 10)).set 2 (.int 11)).set 2 (.int 12)))), (b, .inl (dA 0, 65536, .inl (upd (upd (upd (upd (upd (upd (upd (upd (upd (upd (upd (upd (upd g 0 (vp_nar .byte ((x0 >>> (24 &&& 31)).toInt8.toInt32))) 1 (vp_nar .byte ((x0 >>> (16 &&& 31)).toInt8.toInt32))) 2 (vp_nar .byte ((x0 >>> (8 &&& 31)).toInt8.toInt32))) 3 (vp_nar .byte ((x0 >>> (0 &&& 31)).toInt8.toInt32))) 4 (vp_nar .byte ((x1 >>> (24 &&& 31)).toInt8.toInt32))) 5 (vp_nar .byte ((x1 >>> (16 &&& 31)).toInt8.toInt32))) 6 (vp_nar .byte ((x1 >>> (8 &&& 31)).toInt8.toInt32))) 7 (vp_nar .byte ((x1 >>> (0 &&& 31)).toInt8.toInt32))) 8 (vp_nar .byte ((x2 >>> (24 &&& 31)).toInt8.toInt32))) 9 (vp_nar .byte ((x2 >>> (16 &&& 31)).toInt8.toInt32))) 10 (vp_nar .byte ((x2 >>> (8 &&& 31)).toInt8.toInt32))) 11 (vp_nar .byte ((x2 >>> (0 &&& 31)).toInt8.toInt32))) 12 (vp_nar .byte ((x3 >>> (24 &&& 31)).toInt8.toInt32)))))] H := hP
  have hD : va_D A [(a, .inr (9, (((((((((((((fs.set 0 (.int 0)).set 2 (.int 1)).set 2 (.int 2)).set 2 (.int 3)).set 2 (.int 4)).set 2 (.int 5)).set 2 (.int 6)).set 2 (.int 7)).set 2 (.int 8)).set 2 (.int 9)).set 2 (.int 10)).set 2 (.int 11)).set 2 (.int 12)))), (b, .inl (dA 0, 65536, .inl (upd (upd (upd (upd (upd (upd (upd (upd (upd (upd (upd (upd (upd g 0 (vp_nar .byte ((x0 >>> (24 &&& 31)).toInt8.toInt32))) 1 (vp_nar .byte ((x0 >>> (16 &&& 31)).toInt8.toInt32))) 2 (vp_nar .byte ((x0 >>> (8 &&& 31)).toInt8.toInt32))) 3 (vp_nar .byte ((x0 >>> (0 &&& 31)).toInt8.toInt32))) 4 (vp_nar .byte ((x1 >>> (24 &&& 31)).toInt8.toInt32))) 5 (vp_nar .byte ((x1 >>> (16 &&& 31)).toInt8.toInt32))) 6 (vp_nar .byte ((x1 >>> (8 &&& 31)).toInt8.toInt32))) 7 (vp_nar .byte ((x1 >>> (0 &&& 31)).toInt8.toInt32))) 8 (vp_nar .byte ((x2 >>> (24 &&& 31)).toInt8.toInt32))) 9 (vp_nar .byte ((x2 >>> (16 &&& 31)).toInt8.toInt32))) 10 (vp_nar .byte ((x2 >>> (8 &&& 31)).toInt8.toInt32))) 11 (vp_nar .byte ((x2 >>> (0 &&& 31)).toInt8.toInt32))) 12 (vp_nar .byte ((x3 >>> (24 &&& 31)).toInt8.toInt32)))))] := hD
  refine lv_aload_n hx hb d_M_feed_111 rfl (lv_at hl 2 rfl) ?_
  refine lv_dup hx hb d_M_feed_112 rfl ?_
  refine gF (v := .int 12) hx hb hown hE hK hP 0 rfl rfl layM 2 (by decide) w320 (by simp [hl_fs]) d_M_feed_113 ?_
  refine lv_iconst (v := 1) hx hb d_M_feed_116 (by decide) ?_
  refine lv_iadd hx hb d_M_feed_117 (tpi (y := 13) (by decide) ?_)
  refine pF hx hb hown hE hK hP hD hS 0 rfl rfl layM tyM tokM nmM 2 (by decide) w320 rfl rfl rfl (by simp [hl_fs]) d_M_feed_118 (fun H locs hP hD hS => ?_)
  have hP : va_P D vwCl [(a, .inr (9, ((((((((((((((fs.set 0 (.int 0)).set 2 (.int 1)).set 2 (.int 2)).set 2 (.int 3)).set 2 (.int 4)).set 2 (.int 5)).set 2 (.int 6)).set 2 (.int 7)).set 2 (.int 8)).set 2 (.int 9)).set 2 (.int 10)).set 2 (.int 11)).set 2 (.int 12)).set 2 (.int 13)))), (b, .inl (dA 0, 65536, .inl (upd (upd (upd (upd (upd (upd (upd (upd (upd (upd (upd (upd (upd g 0 (vp_nar .byte ((x0 >>> (24 &&& 31)).toInt8.toInt32))) 1 (vp_nar .byte ((x0 >>> (16 &&& 31)).toInt8.toInt32))) 2 (vp_nar .byte ((x0 >>> (8 &&& 31)).toInt8.toInt32))) 3 (vp_nar .byte ((x0 >>> (0 &&& 31)).toInt8.toInt32))) 4 (vp_nar .byte ((x1 >>> (24 &&& 31)).toInt8.toInt32))) 5 (vp_nar .byte ((x1 >>> (16 &&& 31)).toInt8.toInt32))) 6 (vp_nar .byte ((x1 >>> (8 &&& 31)).toInt8.toInt32))) 7 (vp_nar .byte ((x1 >>> (0 &&& 31)).toInt8.toInt32))) 8 (vp_nar .byte ((x2 >>> (24 &&& 31)).toInt8.toInt32))) 9 (vp_nar .byte ((x2 >>> (16 &&& 31)).toInt8.toInt32))) 10 (vp_nar .byte ((x2 >>> (8 &&& 31)).toInt8.toInt32))) 11 (vp_nar .byte ((x2 >>> (0 &&& 31)).toInt8.toInt32))) 12 (vp_nar .byte ((x3 >>> (24 &&& 31)).toInt8.toInt32)))))] H := hP
  have hD : va_D A [(a, .inr (9, ((((((((((((((fs.set 0 (.int 0)).set 2 (.int 1)).set 2 (.int 2)).set 2 (.int 3)).set 2 (.int 4)).set 2 (.int 5)).set 2 (.int 6)).set 2 (.int 7)).set 2 (.int 8)).set 2 (.int 9)).set 2 (.int 10)).set 2 (.int 11)).set 2 (.int 12)).set 2 (.int 13)))), (b, .inl (dA 0, 65536, .inl (upd (upd (upd (upd (upd (upd (upd (upd (upd (upd (upd (upd (upd g 0 (vp_nar .byte ((x0 >>> (24 &&& 31)).toInt8.toInt32))) 1 (vp_nar .byte ((x0 >>> (16 &&& 31)).toInt8.toInt32))) 2 (vp_nar .byte ((x0 >>> (8 &&& 31)).toInt8.toInt32))) 3 (vp_nar .byte ((x0 >>> (0 &&& 31)).toInt8.toInt32))) 4 (vp_nar .byte ((x1 >>> (24 &&& 31)).toInt8.toInt32))) 5 (vp_nar .byte ((x1 >>> (16 &&& 31)).toInt8.toInt32))) 6 (vp_nar .byte ((x1 >>> (8 &&& 31)).toInt8.toInt32))) 7 (vp_nar .byte ((x1 >>> (0 &&& 31)).toInt8.toInt32))) 8 (vp_nar .byte ((x2 >>> (24 &&& 31)).toInt8.toInt32))) 9 (vp_nar .byte ((x2 >>> (16 &&& 31)).toInt8.toInt32))) 10 (vp_nar .byte ((x2 >>> (8 &&& 31)).toInt8.toInt32))) 11 (vp_nar .byte ((x2 >>> (0 &&& 31)).toInt8.toInt32))) 12 (vp_nar .byte ((x3 >>> (24 &&& 31)).toInt8.toInt32)))))] := hD
  refine lv_iinc (k := 1) (v := 13) hx hb d_M_feed_121 hl rfl (by decide) (by decide) rfl (fun ls hl => ?_)
  have hl : lv_has ls 8 [(6, .int 13), (7, .int x3), (0, .ref a), (1, .int x0), (2, .int x1), (3, .int x2), (4, .int x3), (5, .int x4)] := hl
  refine lv_goto hx hb d_M_feed_124 (tgt := 33) rfl ?_
  refine lv_iload hx hb d_M_feed_33 (lv_at hl 0 rfl) ?_
  refine lv_bipush (v := 20) hx hb d_M_feed_35 (by decide) ?_
  refine lv_icmp_ge hx hb d_M_feed_37 (tgt := 127) rfl (fun h9 => absurd h9 (by decide)) (fun _ => ?_)
  refine lv_iload hx hb d_M_feed_40 (lv_at hl 0 rfl) ?_
  refine lv_iconst (v := 4) hx hb d_M_feed_42 (by decide) ?_
  refine lv_icmp_ge hx hb d_M_feed_43 (tgt := 50) rfl (fun _ => ?_) (fun h9 => absurd (by decide) h9)
  refine lv_iload hx hb d_M_feed_50 (lv_at hl 0 rfl) ?_
  refine lv_bipush (v := 8) hx hb d_M_feed_52 (by decide) ?_
  refine lv_icmp_ge hx hb d_M_feed_54 (tgt := 61) rfl (fun _ => ?_) (fun h9 => absurd (by decide) h9)
  refine lv_iload hx hb d_M_feed_61 (lv_at hl 0 rfl) ?_
  refine lv_bipush (v := 12) hx hb d_M_feed_63 (by decide) ?_
  refine lv_icmp_ge hx hb d_M_feed_65 (tgt := 72) rfl (fun _ => ?_) (fun h9 => absurd (by decide) h9)
  refine lv_iload hx hb d_M_feed_72 (lv_at hl 0 rfl) ?_
  refine lv_bipush (v := 16) hx hb d_M_feed_74 (by decide) ?_
  refine lv_icmp_ge hx hb d_M_feed_76 (tgt := 84) rfl (fun h9 => absurd h9 (by decide)) (fun _ => ?_)
  refine lv_iload hx hb d_M_feed_79 (lv_at hl 6 rfl) ?_
  refine lv_goto hx hb d_M_feed_81 (tgt := 86) rfl ?_
  refine lv_istore hx hb d_M_feed_86 hl (by decide) rfl (fun ls hl => ?_)
  have hl : lv_has ls 8 [(7, .int x3), (6, .int 13), (0, .ref a), (1, .int x0), (2, .int x1), (3, .int x2), (4, .int x3), (5, .int x4)] := hl
  refine lv_aload_n hx hb d_M_feed_88 rfl (lv_at hl 2 rfl) ?_
  refine gF (v := .ref b) hx hb hown hE hK hP 0 rfl rfl layM 1 (by decide) w497 (by simp [h_fs_tape]) d_M_feed_89 ?_
  refine lv_aload_n hx hb d_M_feed_92 rfl (lv_at hl 2 rfl) ?_
  refine gF (v := .int 13) hx hb hown hE hK hP 0 rfl rfl layM 2 (by decide) w320 (by simp [hl_fs]) d_M_feed_93 ?_
  refine lv_iload hx hb d_M_feed_96 (lv_at hl 0 rfl) ?_
  refine lv_bipush (v := 24) hx hb d_M_feed_98 (by decide) ?_
  refine lv_bipush (v := 8) hx hb d_M_feed_100 (by decide) ?_
  refine lv_iload hx hb d_M_feed_102 (lv_at hl 1 rfl) ?_
  refine lv_iconst (v := 4) hx hb d_M_feed_104 (by decide) ?_
  refine lv_irem hx hb d_M_feed_105 (by decide) (tpi (y := 1) (by decide) ?_)
  refine lv_imul hx hb d_M_feed_106 (tpi (y := 8) (by decide) ?_)
  refine lv_isub hx hb d_M_feed_107 (tpi (y := 16) (by decide) ?_)
  refine lv_ishr hx hb d_M_feed_108 ?_
  refine lv_i2b hx hb d_M_feed_109 rfl ?_
  refine va_bast hx hb hK hP hD hS 1 0 rfl rfl (by unfold vp_in; decide) d_M_feed_110 (fun H locs hP hD hS => ?_)
  have hP : va_P D vwCl [(a, .inr (9, ((((((((((((((fs.set 0 (.int 0)).set 2 (.int 1)).set 2 (.int 2)).set 2 (.int 3)).set 2 (.int 4)).set 2 (.int 5)).set 2 (.int 6)).set 2 (.int 7)).set 2 (.int 8)).set 2 (.int 9)).set 2 (.int 10)).set 2 (.int 11)).set 2 (.int 12)).set 2 (.int 13)))), (b, .inl (dA 0, 65536, .inl (upd (upd (upd (upd (upd (upd (upd (upd (upd (upd (upd (upd (upd (upd g 0 (vp_nar .byte ((x0 >>> (24 &&& 31)).toInt8.toInt32))) 1 (vp_nar .byte ((x0 >>> (16 &&& 31)).toInt8.toInt32))) 2 (vp_nar .byte ((x0 >>> (8 &&& 31)).toInt8.toInt32))) 3 (vp_nar .byte ((x0 >>> (0 &&& 31)).toInt8.toInt32))) 4 (vp_nar .byte ((x1 >>> (24 &&& 31)).toInt8.toInt32))) 5 (vp_nar .byte ((x1 >>> (16 &&& 31)).toInt8.toInt32))) 6 (vp_nar .byte ((x1 >>> (8 &&& 31)).toInt8.toInt32))) 7 (vp_nar .byte ((x1 >>> (0 &&& 31)).toInt8.toInt32))) 8 (vp_nar .byte ((x2 >>> (24 &&& 31)).toInt8.toInt32))) 9 (vp_nar .byte ((x2 >>> (16 &&& 31)).toInt8.toInt32))) 10 (vp_nar .byte ((x2 >>> (8 &&& 31)).toInt8.toInt32))) 11 (vp_nar .byte ((x2 >>> (0 &&& 31)).toInt8.toInt32))) 12 (vp_nar .byte ((x3 >>> (24 &&& 31)).toInt8.toInt32))) 13 (vp_nar .byte ((x3 >>> (16 &&& 31)).toInt8.toInt32)))))] H := hP
  have hD : va_D A [(a, .inr (9, ((((((((((((((fs.set 0 (.int 0)).set 2 (.int 1)).set 2 (.int 2)).set 2 (.int 3)).set 2 (.int 4)).set 2 (.int 5)).set 2 (.int 6)).set 2 (.int 7)).set 2 (.int 8)).set 2 (.int 9)).set 2 (.int 10)).set 2 (.int 11)).set 2 (.int 12)).set 2 (.int 13)))), (b, .inl (dA 0, 65536, .inl (upd (upd (upd (upd (upd (upd (upd (upd (upd (upd (upd (upd (upd (upd g 0 (vp_nar .byte ((x0 >>> (24 &&& 31)).toInt8.toInt32))) 1 (vp_nar .byte ((x0 >>> (16 &&& 31)).toInt8.toInt32))) 2 (vp_nar .byte ((x0 >>> (8 &&& 31)).toInt8.toInt32))) 3 (vp_nar .byte ((x0 >>> (0 &&& 31)).toInt8.toInt32))) 4 (vp_nar .byte ((x1 >>> (24 &&& 31)).toInt8.toInt32))) 5 (vp_nar .byte ((x1 >>> (16 &&& 31)).toInt8.toInt32))) 6 (vp_nar .byte ((x1 >>> (8 &&& 31)).toInt8.toInt32))) 7 (vp_nar .byte ((x1 >>> (0 &&& 31)).toInt8.toInt32))) 8 (vp_nar .byte ((x2 >>> (24 &&& 31)).toInt8.toInt32))) 9 (vp_nar .byte ((x2 >>> (16 &&& 31)).toInt8.toInt32))) 10 (vp_nar .byte ((x2 >>> (8 &&& 31)).toInt8.toInt32))) 11 (vp_nar .byte ((x2 >>> (0 &&& 31)).toInt8.toInt32))) 12 (vp_nar .byte ((x3 >>> (24 &&& 31)).toInt8.toInt32))) 13 (vp_nar .byte ((x3 >>> (16 &&& 31)).toInt8.toInt32)))))] := hD
  refine lv_aload_n hx hb d_M_feed_111 rfl (lv_at hl 2 rfl) ?_
  refine lv_dup hx hb d_M_feed_112 rfl ?_
  refine gF (v := .int 13) hx hb hown hE hK hP 0 rfl rfl layM 2 (by decide) w320 (by simp [hl_fs]) d_M_feed_113 ?_
  refine lv_iconst (v := 1) hx hb d_M_feed_116 (by decide) ?_
  refine lv_iadd hx hb d_M_feed_117 (tpi (y := 14) (by decide) ?_)
  refine pF hx hb hown hE hK hP hD hS 0 rfl rfl layM tyM tokM nmM 2 (by decide) w320 rfl rfl rfl (by simp [hl_fs]) d_M_feed_118 (fun H locs hP hD hS => ?_)
  have hP : va_P D vwCl [(a, .inr (9, (((((((((((((((fs.set 0 (.int 0)).set 2 (.int 1)).set 2 (.int 2)).set 2 (.int 3)).set 2 (.int 4)).set 2 (.int 5)).set 2 (.int 6)).set 2 (.int 7)).set 2 (.int 8)).set 2 (.int 9)).set 2 (.int 10)).set 2 (.int 11)).set 2 (.int 12)).set 2 (.int 13)).set 2 (.int 14)))), (b, .inl (dA 0, 65536, .inl (upd (upd (upd (upd (upd (upd (upd (upd (upd (upd (upd (upd (upd (upd g 0 (vp_nar .byte ((x0 >>> (24 &&& 31)).toInt8.toInt32))) 1 (vp_nar .byte ((x0 >>> (16 &&& 31)).toInt8.toInt32))) 2 (vp_nar .byte ((x0 >>> (8 &&& 31)).toInt8.toInt32))) 3 (vp_nar .byte ((x0 >>> (0 &&& 31)).toInt8.toInt32))) 4 (vp_nar .byte ((x1 >>> (24 &&& 31)).toInt8.toInt32))) 5 (vp_nar .byte ((x1 >>> (16 &&& 31)).toInt8.toInt32))) 6 (vp_nar .byte ((x1 >>> (8 &&& 31)).toInt8.toInt32))) 7 (vp_nar .byte ((x1 >>> (0 &&& 31)).toInt8.toInt32))) 8 (vp_nar .byte ((x2 >>> (24 &&& 31)).toInt8.toInt32))) 9 (vp_nar .byte ((x2 >>> (16 &&& 31)).toInt8.toInt32))) 10 (vp_nar .byte ((x2 >>> (8 &&& 31)).toInt8.toInt32))) 11 (vp_nar .byte ((x2 >>> (0 &&& 31)).toInt8.toInt32))) 12 (vp_nar .byte ((x3 >>> (24 &&& 31)).toInt8.toInt32))) 13 (vp_nar .byte ((x3 >>> (16 &&& 31)).toInt8.toInt32)))))] H := hP
  have hD : va_D A [(a, .inr (9, (((((((((((((((fs.set 0 (.int 0)).set 2 (.int 1)).set 2 (.int 2)).set 2 (.int 3)).set 2 (.int 4)).set 2 (.int 5)).set 2 (.int 6)).set 2 (.int 7)).set 2 (.int 8)).set 2 (.int 9)).set 2 (.int 10)).set 2 (.int 11)).set 2 (.int 12)).set 2 (.int 13)).set 2 (.int 14)))), (b, .inl (dA 0, 65536, .inl (upd (upd (upd (upd (upd (upd (upd (upd (upd (upd (upd (upd (upd (upd g 0 (vp_nar .byte ((x0 >>> (24 &&& 31)).toInt8.toInt32))) 1 (vp_nar .byte ((x0 >>> (16 &&& 31)).toInt8.toInt32))) 2 (vp_nar .byte ((x0 >>> (8 &&& 31)).toInt8.toInt32))) 3 (vp_nar .byte ((x0 >>> (0 &&& 31)).toInt8.toInt32))) 4 (vp_nar .byte ((x1 >>> (24 &&& 31)).toInt8.toInt32))) 5 (vp_nar .byte ((x1 >>> (16 &&& 31)).toInt8.toInt32))) 6 (vp_nar .byte ((x1 >>> (8 &&& 31)).toInt8.toInt32))) 7 (vp_nar .byte ((x1 >>> (0 &&& 31)).toInt8.toInt32))) 8 (vp_nar .byte ((x2 >>> (24 &&& 31)).toInt8.toInt32))) 9 (vp_nar .byte ((x2 >>> (16 &&& 31)).toInt8.toInt32))) 10 (vp_nar .byte ((x2 >>> (8 &&& 31)).toInt8.toInt32))) 11 (vp_nar .byte ((x2 >>> (0 &&& 31)).toInt8.toInt32))) 12 (vp_nar .byte ((x3 >>> (24 &&& 31)).toInt8.toInt32))) 13 (vp_nar .byte ((x3 >>> (16 &&& 31)).toInt8.toInt32)))))] := hD
  refine lv_iinc (k := 1) (v := 14) hx hb d_M_feed_121 hl rfl (by decide) (by decide) rfl (fun ls hl => ?_)
  have hl : lv_has ls 8 [(6, .int 14), (7, .int x3), (0, .ref a), (1, .int x0), (2, .int x1), (3, .int x2), (4, .int x3), (5, .int x4)] := hl
  refine lv_goto hx hb d_M_feed_124 (tgt := 33) rfl ?_
  refine lv_iload hx hb d_M_feed_33 (lv_at hl 0 rfl) ?_
  refine lv_bipush (v := 20) hx hb d_M_feed_35 (by decide) ?_
  refine lv_icmp_ge hx hb d_M_feed_37 (tgt := 127) rfl (fun h9 => absurd h9 (by decide)) (fun _ => ?_)
  refine lv_iload hx hb d_M_feed_40 (lv_at hl 0 rfl) ?_
  refine lv_iconst (v := 4) hx hb d_M_feed_42 (by decide) ?_
  refine lv_icmp_ge hx hb d_M_feed_43 (tgt := 50) rfl (fun _ => ?_) (fun h9 => absurd (by decide) h9)
  refine lv_iload hx hb d_M_feed_50 (lv_at hl 0 rfl) ?_
  refine lv_bipush (v := 8) hx hb d_M_feed_52 (by decide) ?_
  refine lv_icmp_ge hx hb d_M_feed_54 (tgt := 61) rfl (fun _ => ?_) (fun h9 => absurd (by decide) h9)
  refine lv_iload hx hb d_M_feed_61 (lv_at hl 0 rfl) ?_
  refine lv_bipush (v := 12) hx hb d_M_feed_63 (by decide) ?_
  refine lv_icmp_ge hx hb d_M_feed_65 (tgt := 72) rfl (fun _ => ?_) (fun h9 => absurd (by decide) h9)
  refine lv_iload hx hb d_M_feed_72 (lv_at hl 0 rfl) ?_
  refine lv_bipush (v := 16) hx hb d_M_feed_74 (by decide) ?_
  refine lv_icmp_ge hx hb d_M_feed_76 (tgt := 84) rfl (fun h9 => absurd h9 (by decide)) (fun _ => ?_)
  refine lv_iload hx hb d_M_feed_79 (lv_at hl 6 rfl) ?_
  refine lv_goto hx hb d_M_feed_81 (tgt := 86) rfl ?_
  refine lv_istore hx hb d_M_feed_86 hl (by decide) rfl (fun ls hl => ?_)
  have hl : lv_has ls 8 [(7, .int x3), (6, .int 14), (0, .ref a), (1, .int x0), (2, .int x1), (3, .int x2), (4, .int x3), (5, .int x4)] := hl
  refine lv_aload_n hx hb d_M_feed_88 rfl (lv_at hl 2 rfl) ?_
  refine gF (v := .ref b) hx hb hown hE hK hP 0 rfl rfl layM 1 (by decide) w497 (by simp [h_fs_tape]) d_M_feed_89 ?_
  refine lv_aload_n hx hb d_M_feed_92 rfl (lv_at hl 2 rfl) ?_
  refine gF (v := .int 14) hx hb hown hE hK hP 0 rfl rfl layM 2 (by decide) w320 (by simp [hl_fs]) d_M_feed_93 ?_
  refine lv_iload hx hb d_M_feed_96 (lv_at hl 0 rfl) ?_
  refine lv_bipush (v := 24) hx hb d_M_feed_98 (by decide) ?_
  refine lv_bipush (v := 8) hx hb d_M_feed_100 (by decide) ?_
  refine lv_iload hx hb d_M_feed_102 (lv_at hl 1 rfl) ?_
  refine lv_iconst (v := 4) hx hb d_M_feed_104 (by decide) ?_
  refine lv_irem hx hb d_M_feed_105 (by decide) (tpi (y := 2) (by decide) ?_)
  refine lv_imul hx hb d_M_feed_106 (tpi (y := 16) (by decide) ?_)
  refine lv_isub hx hb d_M_feed_107 (tpi (y := 8) (by decide) ?_)
  refine lv_ishr hx hb d_M_feed_108 ?_
  refine lv_i2b hx hb d_M_feed_109 rfl ?_
  refine va_bast hx hb hK hP hD hS 1 0 rfl rfl (by unfold vp_in; decide) d_M_feed_110 (fun H locs hP hD hS => ?_)
  have hP : va_P D vwCl [(a, .inr (9, (((((((((((((((fs.set 0 (.int 0)).set 2 (.int 1)).set 2 (.int 2)).set 2 (.int 3)).set 2 (.int 4)).set 2 (.int 5)).set 2 (.int 6)).set 2 (.int 7)).set 2 (.int 8)).set 2 (.int 9)).set 2 (.int 10)).set 2 (.int 11)).set 2 (.int 12)).set 2 (.int 13)).set 2 (.int 14)))), (b, .inl (dA 0, 65536, .inl (upd (upd (upd (upd (upd (upd (upd (upd (upd (upd (upd (upd (upd (upd (upd g 0 (vp_nar .byte ((x0 >>> (24 &&& 31)).toInt8.toInt32))) 1 (vp_nar .byte ((x0 >>> (16 &&& 31)).toInt8.toInt32))) 2 (vp_nar .byte ((x0 >>> (8 &&& 31)).toInt8.toInt32))) 3 (vp_nar .byte ((x0 >>> (0 &&& 31)).toInt8.toInt32))) 4 (vp_nar .byte ((x1 >>> (24 &&& 31)).toInt8.toInt32))) 5 (vp_nar .byte ((x1 >>> (16 &&& 31)).toInt8.toInt32))) 6 (vp_nar .byte ((x1 >>> (8 &&& 31)).toInt8.toInt32))) 7 (vp_nar .byte ((x1 >>> (0 &&& 31)).toInt8.toInt32))) 8 (vp_nar .byte ((x2 >>> (24 &&& 31)).toInt8.toInt32))) 9 (vp_nar .byte ((x2 >>> (16 &&& 31)).toInt8.toInt32))) 10 (vp_nar .byte ((x2 >>> (8 &&& 31)).toInt8.toInt32))) 11 (vp_nar .byte ((x2 >>> (0 &&& 31)).toInt8.toInt32))) 12 (vp_nar .byte ((x3 >>> (24 &&& 31)).toInt8.toInt32))) 13 (vp_nar .byte ((x3 >>> (16 &&& 31)).toInt8.toInt32))) 14 (vp_nar .byte ((x3 >>> (8 &&& 31)).toInt8.toInt32)))))] H := hP
  have hD : va_D A [(a, .inr (9, (((((((((((((((fs.set 0 (.int 0)).set 2 (.int 1)).set 2 (.int 2)).set 2 (.int 3)).set 2 (.int 4)).set 2 (.int 5)).set 2 (.int 6)).set 2 (.int 7)).set 2 (.int 8)).set 2 (.int 9)).set 2 (.int 10)).set 2 (.int 11)).set 2 (.int 12)).set 2 (.int 13)).set 2 (.int 14)))), (b, .inl (dA 0, 65536, .inl (upd (upd (upd (upd (upd (upd (upd (upd (upd (upd (upd (upd (upd (upd (upd g 0 (vp_nar .byte ((x0 >>> (24 &&& 31)).toInt8.toInt32))) 1 (vp_nar .byte ((x0 >>> (16 &&& 31)).toInt8.toInt32))) 2 (vp_nar .byte ((x0 >>> (8 &&& 31)).toInt8.toInt32))) 3 (vp_nar .byte ((x0 >>> (0 &&& 31)).toInt8.toInt32))) 4 (vp_nar .byte ((x1 >>> (24 &&& 31)).toInt8.toInt32))) 5 (vp_nar .byte ((x1 >>> (16 &&& 31)).toInt8.toInt32))) 6 (vp_nar .byte ((x1 >>> (8 &&& 31)).toInt8.toInt32))) 7 (vp_nar .byte ((x1 >>> (0 &&& 31)).toInt8.toInt32))) 8 (vp_nar .byte ((x2 >>> (24 &&& 31)).toInt8.toInt32))) 9 (vp_nar .byte ((x2 >>> (16 &&& 31)).toInt8.toInt32))) 10 (vp_nar .byte ((x2 >>> (8 &&& 31)).toInt8.toInt32))) 11 (vp_nar .byte ((x2 >>> (0 &&& 31)).toInt8.toInt32))) 12 (vp_nar .byte ((x3 >>> (24 &&& 31)).toInt8.toInt32))) 13 (vp_nar .byte ((x3 >>> (16 &&& 31)).toInt8.toInt32))) 14 (vp_nar .byte ((x3 >>> (8 &&& 31)).toInt8.toInt32)))))] := hD
  refine lv_aload_n hx hb d_M_feed_111 rfl (lv_at hl 2 rfl) ?_
  refine lv_dup hx hb d_M_feed_112 rfl ?_
  refine gF (v := .int 14) hx hb hown hE hK hP 0 rfl rfl layM 2 (by decide) w320 (by simp [hl_fs]) d_M_feed_113 ?_
  refine lv_iconst (v := 1) hx hb d_M_feed_116 (by decide) ?_
  refine lv_iadd hx hb d_M_feed_117 (tpi (y := 15) (by decide) ?_)
  refine pF hx hb hown hE hK hP hD hS 0 rfl rfl layM tyM tokM nmM 2 (by decide) w320 rfl rfl rfl (by simp [hl_fs]) d_M_feed_118 (fun H locs hP hD hS => ?_)
  have hP : va_P D vwCl [(a, .inr (9, ((((((((((((((((fs.set 0 (.int 0)).set 2 (.int 1)).set 2 (.int 2)).set 2 (.int 3)).set 2 (.int 4)).set 2 (.int 5)).set 2 (.int 6)).set 2 (.int 7)).set 2 (.int 8)).set 2 (.int 9)).set 2 (.int 10)).set 2 (.int 11)).set 2 (.int 12)).set 2 (.int 13)).set 2 (.int 14)).set 2 (.int 15)))), (b, .inl (dA 0, 65536, .inl (upd (upd (upd (upd (upd (upd (upd (upd (upd (upd (upd (upd (upd (upd (upd g 0 (vp_nar .byte ((x0 >>> (24 &&& 31)).toInt8.toInt32))) 1 (vp_nar .byte ((x0 >>> (16 &&& 31)).toInt8.toInt32))) 2 (vp_nar .byte ((x0 >>> (8 &&& 31)).toInt8.toInt32))) 3 (vp_nar .byte ((x0 >>> (0 &&& 31)).toInt8.toInt32))) 4 (vp_nar .byte ((x1 >>> (24 &&& 31)).toInt8.toInt32))) 5 (vp_nar .byte ((x1 >>> (16 &&& 31)).toInt8.toInt32))) 6 (vp_nar .byte ((x1 >>> (8 &&& 31)).toInt8.toInt32))) 7 (vp_nar .byte ((x1 >>> (0 &&& 31)).toInt8.toInt32))) 8 (vp_nar .byte ((x2 >>> (24 &&& 31)).toInt8.toInt32))) 9 (vp_nar .byte ((x2 >>> (16 &&& 31)).toInt8.toInt32))) 10 (vp_nar .byte ((x2 >>> (8 &&& 31)).toInt8.toInt32))) 11 (vp_nar .byte ((x2 >>> (0 &&& 31)).toInt8.toInt32))) 12 (vp_nar .byte ((x3 >>> (24 &&& 31)).toInt8.toInt32))) 13 (vp_nar .byte ((x3 >>> (16 &&& 31)).toInt8.toInt32))) 14 (vp_nar .byte ((x3 >>> (8 &&& 31)).toInt8.toInt32)))))] H := hP
  have hD : va_D A [(a, .inr (9, ((((((((((((((((fs.set 0 (.int 0)).set 2 (.int 1)).set 2 (.int 2)).set 2 (.int 3)).set 2 (.int 4)).set 2 (.int 5)).set 2 (.int 6)).set 2 (.int 7)).set 2 (.int 8)).set 2 (.int 9)).set 2 (.int 10)).set 2 (.int 11)).set 2 (.int 12)).set 2 (.int 13)).set 2 (.int 14)).set 2 (.int 15)))), (b, .inl (dA 0, 65536, .inl (upd (upd (upd (upd (upd (upd (upd (upd (upd (upd (upd (upd (upd (upd (upd g 0 (vp_nar .byte ((x0 >>> (24 &&& 31)).toInt8.toInt32))) 1 (vp_nar .byte ((x0 >>> (16 &&& 31)).toInt8.toInt32))) 2 (vp_nar .byte ((x0 >>> (8 &&& 31)).toInt8.toInt32))) 3 (vp_nar .byte ((x0 >>> (0 &&& 31)).toInt8.toInt32))) 4 (vp_nar .byte ((x1 >>> (24 &&& 31)).toInt8.toInt32))) 5 (vp_nar .byte ((x1 >>> (16 &&& 31)).toInt8.toInt32))) 6 (vp_nar .byte ((x1 >>> (8 &&& 31)).toInt8.toInt32))) 7 (vp_nar .byte ((x1 >>> (0 &&& 31)).toInt8.toInt32))) 8 (vp_nar .byte ((x2 >>> (24 &&& 31)).toInt8.toInt32))) 9 (vp_nar .byte ((x2 >>> (16 &&& 31)).toInt8.toInt32))) 10 (vp_nar .byte ((x2 >>> (8 &&& 31)).toInt8.toInt32))) 11 (vp_nar .byte ((x2 >>> (0 &&& 31)).toInt8.toInt32))) 12 (vp_nar .byte ((x3 >>> (24 &&& 31)).toInt8.toInt32))) 13 (vp_nar .byte ((x3 >>> (16 &&& 31)).toInt8.toInt32))) 14 (vp_nar .byte ((x3 >>> (8 &&& 31)).toInt8.toInt32)))))] := hD
  refine lv_iinc (k := 1) (v := 15) hx hb d_M_feed_121 hl rfl (by decide) (by decide) rfl (fun ls hl => ?_)
  have hl : lv_has ls 8 [(6, .int 15), (7, .int x3), (0, .ref a), (1, .int x0), (2, .int x1), (3, .int x2), (4, .int x3), (5, .int x4)] := hl
  refine lv_goto hx hb d_M_feed_124 (tgt := 33) rfl ?_
  refine lv_iload hx hb d_M_feed_33 (lv_at hl 0 rfl) ?_
  refine lv_bipush (v := 20) hx hb d_M_feed_35 (by decide) ?_
  refine lv_icmp_ge hx hb d_M_feed_37 (tgt := 127) rfl (fun h9 => absurd h9 (by decide)) (fun _ => ?_)
  refine lv_iload hx hb d_M_feed_40 (lv_at hl 0 rfl) ?_
  refine lv_iconst (v := 4) hx hb d_M_feed_42 (by decide) ?_
  refine lv_icmp_ge hx hb d_M_feed_43 (tgt := 50) rfl (fun _ => ?_) (fun h9 => absurd (by decide) h9)
  refine lv_iload hx hb d_M_feed_50 (lv_at hl 0 rfl) ?_
  refine lv_bipush (v := 8) hx hb d_M_feed_52 (by decide) ?_
  refine lv_icmp_ge hx hb d_M_feed_54 (tgt := 61) rfl (fun _ => ?_) (fun h9 => absurd (by decide) h9)
  refine lv_iload hx hb d_M_feed_61 (lv_at hl 0 rfl) ?_
  refine lv_bipush (v := 12) hx hb d_M_feed_63 (by decide) ?_
  refine lv_icmp_ge hx hb d_M_feed_65 (tgt := 72) rfl (fun _ => ?_) (fun h9 => absurd (by decide) h9)
  refine lv_iload hx hb d_M_feed_72 (lv_at hl 0 rfl) ?_
  refine lv_bipush (v := 16) hx hb d_M_feed_74 (by decide) ?_
  refine lv_icmp_ge hx hb d_M_feed_76 (tgt := 84) rfl (fun h9 => absurd h9 (by decide)) (fun _ => ?_)
  refine lv_iload hx hb d_M_feed_79 (lv_at hl 6 rfl) ?_
  refine lv_goto hx hb d_M_feed_81 (tgt := 86) rfl ?_
  refine lv_istore hx hb d_M_feed_86 hl (by decide) rfl (fun ls hl => ?_)
  have hl : lv_has ls 8 [(7, .int x3), (6, .int 15), (0, .ref a), (1, .int x0), (2, .int x1), (3, .int x2), (4, .int x3), (5, .int x4)] := hl
  refine lv_aload_n hx hb d_M_feed_88 rfl (lv_at hl 2 rfl) ?_
  refine gF (v := .ref b) hx hb hown hE hK hP 0 rfl rfl layM 1 (by decide) w497 (by simp [h_fs_tape]) d_M_feed_89 ?_
  refine lv_aload_n hx hb d_M_feed_92 rfl (lv_at hl 2 rfl) ?_
  refine gF (v := .int 15) hx hb hown hE hK hP 0 rfl rfl layM 2 (by decide) w320 (by simp [hl_fs]) d_M_feed_93 ?_
  refine lv_iload hx hb d_M_feed_96 (lv_at hl 0 rfl) ?_
  refine lv_bipush (v := 24) hx hb d_M_feed_98 (by decide) ?_
  refine lv_bipush (v := 8) hx hb d_M_feed_100 (by decide) ?_
  refine lv_iload hx hb d_M_feed_102 (lv_at hl 1 rfl) ?_
  refine lv_iconst (v := 4) hx hb d_M_feed_104 (by decide) ?_
  refine lv_irem hx hb d_M_feed_105 (by decide) (tpi (y := 3) (by decide) ?_)
  refine lv_imul hx hb d_M_feed_106 (tpi (y := 24) (by decide) ?_)
  refine lv_isub hx hb d_M_feed_107 (tpi (y := 0) (by decide) ?_)
  refine lv_ishr hx hb d_M_feed_108 ?_
  refine lv_i2b hx hb d_M_feed_109 rfl ?_
  refine va_bast hx hb hK hP hD hS 1 0 rfl rfl (by unfold vp_in; decide) d_M_feed_110 (fun H locs hP hD hS => ?_)
  have hP : va_P D vwCl [(a, .inr (9, ((((((((((((((((fs.set 0 (.int 0)).set 2 (.int 1)).set 2 (.int 2)).set 2 (.int 3)).set 2 (.int 4)).set 2 (.int 5)).set 2 (.int 6)).set 2 (.int 7)).set 2 (.int 8)).set 2 (.int 9)).set 2 (.int 10)).set 2 (.int 11)).set 2 (.int 12)).set 2 (.int 13)).set 2 (.int 14)).set 2 (.int 15)))), (b, .inl (dA 0, 65536, .inl (upd (upd (upd (upd (upd (upd (upd (upd (upd (upd (upd (upd (upd (upd (upd (upd g 0 (vp_nar .byte ((x0 >>> (24 &&& 31)).toInt8.toInt32))) 1 (vp_nar .byte ((x0 >>> (16 &&& 31)).toInt8.toInt32))) 2 (vp_nar .byte ((x0 >>> (8 &&& 31)).toInt8.toInt32))) 3 (vp_nar .byte ((x0 >>> (0 &&& 31)).toInt8.toInt32))) 4 (vp_nar .byte ((x1 >>> (24 &&& 31)).toInt8.toInt32))) 5 (vp_nar .byte ((x1 >>> (16 &&& 31)).toInt8.toInt32))) 6 (vp_nar .byte ((x1 >>> (8 &&& 31)).toInt8.toInt32))) 7 (vp_nar .byte ((x1 >>> (0 &&& 31)).toInt8.toInt32))) 8 (vp_nar .byte ((x2 >>> (24 &&& 31)).toInt8.toInt32))) 9 (vp_nar .byte ((x2 >>> (16 &&& 31)).toInt8.toInt32))) 10 (vp_nar .byte ((x2 >>> (8 &&& 31)).toInt8.toInt32))) 11 (vp_nar .byte ((x2 >>> (0 &&& 31)).toInt8.toInt32))) 12 (vp_nar .byte ((x3 >>> (24 &&& 31)).toInt8.toInt32))) 13 (vp_nar .byte ((x3 >>> (16 &&& 31)).toInt8.toInt32))) 14 (vp_nar .byte ((x3 >>> (8 &&& 31)).toInt8.toInt32))) 15 (vp_nar .byte ((x3 >>> (0 &&& 31)).toInt8.toInt32)))))] H := hP
  have hD : va_D A [(a, .inr (9, ((((((((((((((((fs.set 0 (.int 0)).set 2 (.int 1)).set 2 (.int 2)).set 2 (.int 3)).set 2 (.int 4)).set 2 (.int 5)).set 2 (.int 6)).set 2 (.int 7)).set 2 (.int 8)).set 2 (.int 9)).set 2 (.int 10)).set 2 (.int 11)).set 2 (.int 12)).set 2 (.int 13)).set 2 (.int 14)).set 2 (.int 15)))), (b, .inl (dA 0, 65536, .inl (upd (upd (upd (upd (upd (upd (upd (upd (upd (upd (upd (upd (upd (upd (upd (upd g 0 (vp_nar .byte ((x0 >>> (24 &&& 31)).toInt8.toInt32))) 1 (vp_nar .byte ((x0 >>> (16 &&& 31)).toInt8.toInt32))) 2 (vp_nar .byte ((x0 >>> (8 &&& 31)).toInt8.toInt32))) 3 (vp_nar .byte ((x0 >>> (0 &&& 31)).toInt8.toInt32))) 4 (vp_nar .byte ((x1 >>> (24 &&& 31)).toInt8.toInt32))) 5 (vp_nar .byte ((x1 >>> (16 &&& 31)).toInt8.toInt32))) 6 (vp_nar .byte ((x1 >>> (8 &&& 31)).toInt8.toInt32))) 7 (vp_nar .byte ((x1 >>> (0 &&& 31)).toInt8.toInt32))) 8 (vp_nar .byte ((x2 >>> (24 &&& 31)).toInt8.toInt32))) 9 (vp_nar .byte ((x2 >>> (16 &&& 31)).toInt8.toInt32))) 10 (vp_nar .byte ((x2 >>> (8 &&& 31)).toInt8.toInt32))) 11 (vp_nar .byte ((x2 >>> (0 &&& 31)).toInt8.toInt32))) 12 (vp_nar .byte ((x3 >>> (24 &&& 31)).toInt8.toInt32))) 13 (vp_nar .byte ((x3 >>> (16 &&& 31)).toInt8.toInt32))) 14 (vp_nar .byte ((x3 >>> (8 &&& 31)).toInt8.toInt32))) 15 (vp_nar .byte ((x3 >>> (0 &&& 31)).toInt8.toInt32)))))] := hD
  refine lv_aload_n hx hb d_M_feed_111 rfl (lv_at hl 2 rfl) ?_
  refine lv_dup hx hb d_M_feed_112 rfl ?_
  refine gF (v := .int 15) hx hb hown hE hK hP 0 rfl rfl layM 2 (by decide) w320 (by simp [hl_fs]) d_M_feed_113 ?_
  refine lv_iconst (v := 1) hx hb d_M_feed_116 (by decide) ?_
  refine lv_iadd hx hb d_M_feed_117 (tpi (y := 16) (by decide) ?_)
  refine pF hx hb hown hE hK hP hD hS 0 rfl rfl layM tyM tokM nmM 2 (by decide) w320 rfl rfl rfl (by simp [hl_fs]) d_M_feed_118 (fun H locs hP hD hS => ?_)
  have hP : va_P D vwCl [(a, .inr (9, (((((((((((((((((fs.set 0 (.int 0)).set 2 (.int 1)).set 2 (.int 2)).set 2 (.int 3)).set 2 (.int 4)).set 2 (.int 5)).set 2 (.int 6)).set 2 (.int 7)).set 2 (.int 8)).set 2 (.int 9)).set 2 (.int 10)).set 2 (.int 11)).set 2 (.int 12)).set 2 (.int 13)).set 2 (.int 14)).set 2 (.int 15)).set 2 (.int 16)))), (b, .inl (dA 0, 65536, .inl (upd (upd (upd (upd (upd (upd (upd (upd (upd (upd (upd (upd (upd (upd (upd (upd g 0 (vp_nar .byte ((x0 >>> (24 &&& 31)).toInt8.toInt32))) 1 (vp_nar .byte ((x0 >>> (16 &&& 31)).toInt8.toInt32))) 2 (vp_nar .byte ((x0 >>> (8 &&& 31)).toInt8.toInt32))) 3 (vp_nar .byte ((x0 >>> (0 &&& 31)).toInt8.toInt32))) 4 (vp_nar .byte ((x1 >>> (24 &&& 31)).toInt8.toInt32))) 5 (vp_nar .byte ((x1 >>> (16 &&& 31)).toInt8.toInt32))) 6 (vp_nar .byte ((x1 >>> (8 &&& 31)).toInt8.toInt32))) 7 (vp_nar .byte ((x1 >>> (0 &&& 31)).toInt8.toInt32))) 8 (vp_nar .byte ((x2 >>> (24 &&& 31)).toInt8.toInt32))) 9 (vp_nar .byte ((x2 >>> (16 &&& 31)).toInt8.toInt32))) 10 (vp_nar .byte ((x2 >>> (8 &&& 31)).toInt8.toInt32))) 11 (vp_nar .byte ((x2 >>> (0 &&& 31)).toInt8.toInt32))) 12 (vp_nar .byte ((x3 >>> (24 &&& 31)).toInt8.toInt32))) 13 (vp_nar .byte ((x3 >>> (16 &&& 31)).toInt8.toInt32))) 14 (vp_nar .byte ((x3 >>> (8 &&& 31)).toInt8.toInt32))) 15 (vp_nar .byte ((x3 >>> (0 &&& 31)).toInt8.toInt32)))))] H := hP
  have hD : va_D A [(a, .inr (9, (((((((((((((((((fs.set 0 (.int 0)).set 2 (.int 1)).set 2 (.int 2)).set 2 (.int 3)).set 2 (.int 4)).set 2 (.int 5)).set 2 (.int 6)).set 2 (.int 7)).set 2 (.int 8)).set 2 (.int 9)).set 2 (.int 10)).set 2 (.int 11)).set 2 (.int 12)).set 2 (.int 13)).set 2 (.int 14)).set 2 (.int 15)).set 2 (.int 16)))), (b, .inl (dA 0, 65536, .inl (upd (upd (upd (upd (upd (upd (upd (upd (upd (upd (upd (upd (upd (upd (upd (upd g 0 (vp_nar .byte ((x0 >>> (24 &&& 31)).toInt8.toInt32))) 1 (vp_nar .byte ((x0 >>> (16 &&& 31)).toInt8.toInt32))) 2 (vp_nar .byte ((x0 >>> (8 &&& 31)).toInt8.toInt32))) 3 (vp_nar .byte ((x0 >>> (0 &&& 31)).toInt8.toInt32))) 4 (vp_nar .byte ((x1 >>> (24 &&& 31)).toInt8.toInt32))) 5 (vp_nar .byte ((x1 >>> (16 &&& 31)).toInt8.toInt32))) 6 (vp_nar .byte ((x1 >>> (8 &&& 31)).toInt8.toInt32))) 7 (vp_nar .byte ((x1 >>> (0 &&& 31)).toInt8.toInt32))) 8 (vp_nar .byte ((x2 >>> (24 &&& 31)).toInt8.toInt32))) 9 (vp_nar .byte ((x2 >>> (16 &&& 31)).toInt8.toInt32))) 10 (vp_nar .byte ((x2 >>> (8 &&& 31)).toInt8.toInt32))) 11 (vp_nar .byte ((x2 >>> (0 &&& 31)).toInt8.toInt32))) 12 (vp_nar .byte ((x3 >>> (24 &&& 31)).toInt8.toInt32))) 13 (vp_nar .byte ((x3 >>> (16 &&& 31)).toInt8.toInt32))) 14 (vp_nar .byte ((x3 >>> (8 &&& 31)).toInt8.toInt32))) 15 (vp_nar .byte ((x3 >>> (0 &&& 31)).toInt8.toInt32)))))] := hD
  refine lv_iinc (k := 1) (v := 16) hx hb d_M_feed_121 hl rfl (by decide) (by decide) rfl (fun ls hl => ?_)
  have hl : lv_has ls 8 [(6, .int 16), (7, .int x3), (0, .ref a), (1, .int x0), (2, .int x1), (3, .int x2), (4, .int x3), (5, .int x4)] := hl
  refine lv_goto hx hb d_M_feed_124 (tgt := 33) rfl ?_
  refine lv_iload hx hb d_M_feed_33 (lv_at hl 0 rfl) ?_
  refine lv_bipush (v := 20) hx hb d_M_feed_35 (by decide) ?_
  refine lv_icmp_ge hx hb d_M_feed_37 (tgt := 127) rfl (fun h9 => absurd h9 (by decide)) (fun _ => ?_)
  refine lv_iload hx hb d_M_feed_40 (lv_at hl 0 rfl) ?_
  refine lv_iconst (v := 4) hx hb d_M_feed_42 (by decide) ?_
  refine lv_icmp_ge hx hb d_M_feed_43 (tgt := 50) rfl (fun _ => ?_) (fun h9 => absurd (by decide) h9)
  refine lv_iload hx hb d_M_feed_50 (lv_at hl 0 rfl) ?_
  refine lv_bipush (v := 8) hx hb d_M_feed_52 (by decide) ?_
  refine lv_icmp_ge hx hb d_M_feed_54 (tgt := 61) rfl (fun _ => ?_) (fun h9 => absurd (by decide) h9)
  refine lv_iload hx hb d_M_feed_61 (lv_at hl 0 rfl) ?_
  refine lv_bipush (v := 12) hx hb d_M_feed_63 (by decide) ?_
  refine lv_icmp_ge hx hb d_M_feed_65 (tgt := 72) rfl (fun _ => ?_) (fun h9 => absurd (by decide) h9)
  refine lv_iload hx hb d_M_feed_72 (lv_at hl 0 rfl) ?_
  refine lv_bipush (v := 16) hx hb d_M_feed_74 (by decide) ?_
  refine lv_icmp_ge hx hb d_M_feed_76 (tgt := 84) rfl (fun _ => ?_) (fun h9 => absurd (by decide) h9)
  refine lv_iload hx hb d_M_feed_84 (lv_at hl 7 rfl) ?_
  refine lv_istore hx hb d_M_feed_86 hl (by decide) rfl (fun ls hl => ?_)
  have hl : lv_has ls 8 [(7, .int x4), (6, .int 16), (0, .ref a), (1, .int x0), (2, .int x1), (3, .int x2), (4, .int x3), (5, .int x4)] := hl
  refine lv_aload_n hx hb d_M_feed_88 rfl (lv_at hl 2 rfl) ?_
  refine gF (v := .ref b) hx hb hown hE hK hP 0 rfl rfl layM 1 (by decide) w497 (by simp [h_fs_tape]) d_M_feed_89 ?_
  refine lv_aload_n hx hb d_M_feed_92 rfl (lv_at hl 2 rfl) ?_
  refine gF (v := .int 16) hx hb hown hE hK hP 0 rfl rfl layM 2 (by decide) w320 (by simp [hl_fs]) d_M_feed_93 ?_
  refine lv_iload hx hb d_M_feed_96 (lv_at hl 0 rfl) ?_
  refine lv_bipush (v := 24) hx hb d_M_feed_98 (by decide) ?_
  refine lv_bipush (v := 8) hx hb d_M_feed_100 (by decide) ?_
  refine lv_iload hx hb d_M_feed_102 (lv_at hl 1 rfl) ?_
  refine lv_iconst (v := 4) hx hb d_M_feed_104 (by decide) ?_
  refine lv_irem hx hb d_M_feed_105 (by decide) (tpi (y := 0) (by decide) ?_)
  refine lv_imul hx hb d_M_feed_106 (tpi (y := 0) (by decide) ?_)
  refine lv_isub hx hb d_M_feed_107 (tpi (y := 24) (by decide) ?_)
  refine lv_ishr hx hb d_M_feed_108 ?_
  refine lv_i2b hx hb d_M_feed_109 rfl ?_
  refine va_bast hx hb hK hP hD hS 1 0 rfl rfl (by unfold vp_in; decide) d_M_feed_110 (fun H locs hP hD hS => ?_)
  have hP : va_P D vwCl [(a, .inr (9, (((((((((((((((((fs.set 0 (.int 0)).set 2 (.int 1)).set 2 (.int 2)).set 2 (.int 3)).set 2 (.int 4)).set 2 (.int 5)).set 2 (.int 6)).set 2 (.int 7)).set 2 (.int 8)).set 2 (.int 9)).set 2 (.int 10)).set 2 (.int 11)).set 2 (.int 12)).set 2 (.int 13)).set 2 (.int 14)).set 2 (.int 15)).set 2 (.int 16)))), (b, .inl (dA 0, 65536, .inl (upd (upd (upd (upd (upd (upd (upd (upd (upd (upd (upd (upd (upd (upd (upd (upd (upd g 0 (vp_nar .byte ((x0 >>> (24 &&& 31)).toInt8.toInt32))) 1 (vp_nar .byte ((x0 >>> (16 &&& 31)).toInt8.toInt32))) 2 (vp_nar .byte ((x0 >>> (8 &&& 31)).toInt8.toInt32))) 3 (vp_nar .byte ((x0 >>> (0 &&& 31)).toInt8.toInt32))) 4 (vp_nar .byte ((x1 >>> (24 &&& 31)).toInt8.toInt32))) 5 (vp_nar .byte ((x1 >>> (16 &&& 31)).toInt8.toInt32))) 6 (vp_nar .byte ((x1 >>> (8 &&& 31)).toInt8.toInt32))) 7 (vp_nar .byte ((x1 >>> (0 &&& 31)).toInt8.toInt32))) 8 (vp_nar .byte ((x2 >>> (24 &&& 31)).toInt8.toInt32))) 9 (vp_nar .byte ((x2 >>> (16 &&& 31)).toInt8.toInt32))) 10 (vp_nar .byte ((x2 >>> (8 &&& 31)).toInt8.toInt32))) 11 (vp_nar .byte ((x2 >>> (0 &&& 31)).toInt8.toInt32))) 12 (vp_nar .byte ((x3 >>> (24 &&& 31)).toInt8.toInt32))) 13 (vp_nar .byte ((x3 >>> (16 &&& 31)).toInt8.toInt32))) 14 (vp_nar .byte ((x3 >>> (8 &&& 31)).toInt8.toInt32))) 15 (vp_nar .byte ((x3 >>> (0 &&& 31)).toInt8.toInt32))) 16 (vp_nar .byte ((x4 >>> (24 &&& 31)).toInt8.toInt32)))))] H := hP
  have hD : va_D A [(a, .inr (9, (((((((((((((((((fs.set 0 (.int 0)).set 2 (.int 1)).set 2 (.int 2)).set 2 (.int 3)).set 2 (.int 4)).set 2 (.int 5)).set 2 (.int 6)).set 2 (.int 7)).set 2 (.int 8)).set 2 (.int 9)).set 2 (.int 10)).set 2 (.int 11)).set 2 (.int 12)).set 2 (.int 13)).set 2 (.int 14)).set 2 (.int 15)).set 2 (.int 16)))), (b, .inl (dA 0, 65536, .inl (upd (upd (upd (upd (upd (upd (upd (upd (upd (upd (upd (upd (upd (upd (upd (upd (upd g 0 (vp_nar .byte ((x0 >>> (24 &&& 31)).toInt8.toInt32))) 1 (vp_nar .byte ((x0 >>> (16 &&& 31)).toInt8.toInt32))) 2 (vp_nar .byte ((x0 >>> (8 &&& 31)).toInt8.toInt32))) 3 (vp_nar .byte ((x0 >>> (0 &&& 31)).toInt8.toInt32))) 4 (vp_nar .byte ((x1 >>> (24 &&& 31)).toInt8.toInt32))) 5 (vp_nar .byte ((x1 >>> (16 &&& 31)).toInt8.toInt32))) 6 (vp_nar .byte ((x1 >>> (8 &&& 31)).toInt8.toInt32))) 7 (vp_nar .byte ((x1 >>> (0 &&& 31)).toInt8.toInt32))) 8 (vp_nar .byte ((x2 >>> (24 &&& 31)).toInt8.toInt32))) 9 (vp_nar .byte ((x2 >>> (16 &&& 31)).toInt8.toInt32))) 10 (vp_nar .byte ((x2 >>> (8 &&& 31)).toInt8.toInt32))) 11 (vp_nar .byte ((x2 >>> (0 &&& 31)).toInt8.toInt32))) 12 (vp_nar .byte ((x3 >>> (24 &&& 31)).toInt8.toInt32))) 13 (vp_nar .byte ((x3 >>> (16 &&& 31)).toInt8.toInt32))) 14 (vp_nar .byte ((x3 >>> (8 &&& 31)).toInt8.toInt32))) 15 (vp_nar .byte ((x3 >>> (0 &&& 31)).toInt8.toInt32))) 16 (vp_nar .byte ((x4 >>> (24 &&& 31)).toInt8.toInt32)))))] := hD
  refine lv_aload_n hx hb d_M_feed_111 rfl (lv_at hl 2 rfl) ?_
  refine lv_dup hx hb d_M_feed_112 rfl ?_
  refine gF (v := .int 16) hx hb hown hE hK hP 0 rfl rfl layM 2 (by decide) w320 (by simp [hl_fs]) d_M_feed_113 ?_
  refine lv_iconst (v := 1) hx hb d_M_feed_116 (by decide) ?_
  refine lv_iadd hx hb d_M_feed_117 (tpi (y := 17) (by decide) ?_)
  refine pF hx hb hown hE hK hP hD hS 0 rfl rfl layM tyM tokM nmM 2 (by decide) w320 rfl rfl rfl (by simp [hl_fs]) d_M_feed_118 (fun H locs hP hD hS => ?_)
  have hP : va_P D vwCl [(a, .inr (9, ((((((((((((((((((fs.set 0 (.int 0)).set 2 (.int 1)).set 2 (.int 2)).set 2 (.int 3)).set 2 (.int 4)).set 2 (.int 5)).set 2 (.int 6)).set 2 (.int 7)).set 2 (.int 8)).set 2 (.int 9)).set 2 (.int 10)).set 2 (.int 11)).set 2 (.int 12)).set 2 (.int 13)).set 2 (.int 14)).set 2 (.int 15)).set 2 (.int 16)).set 2 (.int 17)))), (b, .inl (dA 0, 65536, .inl (upd (upd (upd (upd (upd (upd (upd (upd (upd (upd (upd (upd (upd (upd (upd (upd (upd g 0 (vp_nar .byte ((x0 >>> (24 &&& 31)).toInt8.toInt32))) 1 (vp_nar .byte ((x0 >>> (16 &&& 31)).toInt8.toInt32))) 2 (vp_nar .byte ((x0 >>> (8 &&& 31)).toInt8.toInt32))) 3 (vp_nar .byte ((x0 >>> (0 &&& 31)).toInt8.toInt32))) 4 (vp_nar .byte ((x1 >>> (24 &&& 31)).toInt8.toInt32))) 5 (vp_nar .byte ((x1 >>> (16 &&& 31)).toInt8.toInt32))) 6 (vp_nar .byte ((x1 >>> (8 &&& 31)).toInt8.toInt32))) 7 (vp_nar .byte ((x1 >>> (0 &&& 31)).toInt8.toInt32))) 8 (vp_nar .byte ((x2 >>> (24 &&& 31)).toInt8.toInt32))) 9 (vp_nar .byte ((x2 >>> (16 &&& 31)).toInt8.toInt32))) 10 (vp_nar .byte ((x2 >>> (8 &&& 31)).toInt8.toInt32))) 11 (vp_nar .byte ((x2 >>> (0 &&& 31)).toInt8.toInt32))) 12 (vp_nar .byte ((x3 >>> (24 &&& 31)).toInt8.toInt32))) 13 (vp_nar .byte ((x3 >>> (16 &&& 31)).toInt8.toInt32))) 14 (vp_nar .byte ((x3 >>> (8 &&& 31)).toInt8.toInt32))) 15 (vp_nar .byte ((x3 >>> (0 &&& 31)).toInt8.toInt32))) 16 (vp_nar .byte ((x4 >>> (24 &&& 31)).toInt8.toInt32)))))] H := hP
  have hD : va_D A [(a, .inr (9, ((((((((((((((((((fs.set 0 (.int 0)).set 2 (.int 1)).set 2 (.int 2)).set 2 (.int 3)).set 2 (.int 4)).set 2 (.int 5)).set 2 (.int 6)).set 2 (.int 7)).set 2 (.int 8)).set 2 (.int 9)).set 2 (.int 10)).set 2 (.int 11)).set 2 (.int 12)).set 2 (.int 13)).set 2 (.int 14)).set 2 (.int 15)).set 2 (.int 16)).set 2 (.int 17)))), (b, .inl (dA 0, 65536, .inl (upd (upd (upd (upd (upd (upd (upd (upd (upd (upd (upd (upd (upd (upd (upd (upd (upd g 0 (vp_nar .byte ((x0 >>> (24 &&& 31)).toInt8.toInt32))) 1 (vp_nar .byte ((x0 >>> (16 &&& 31)).toInt8.toInt32))) 2 (vp_nar .byte ((x0 >>> (8 &&& 31)).toInt8.toInt32))) 3 (vp_nar .byte ((x0 >>> (0 &&& 31)).toInt8.toInt32))) 4 (vp_nar .byte ((x1 >>> (24 &&& 31)).toInt8.toInt32))) 5 (vp_nar .byte ((x1 >>> (16 &&& 31)).toInt8.toInt32))) 6 (vp_nar .byte ((x1 >>> (8 &&& 31)).toInt8.toInt32))) 7 (vp_nar .byte ((x1 >>> (0 &&& 31)).toInt8.toInt32))) 8 (vp_nar .byte ((x2 >>> (24 &&& 31)).toInt8.toInt32))) 9 (vp_nar .byte ((x2 >>> (16 &&& 31)).toInt8.toInt32))) 10 (vp_nar .byte ((x2 >>> (8 &&& 31)).toInt8.toInt32))) 11 (vp_nar .byte ((x2 >>> (0 &&& 31)).toInt8.toInt32))) 12 (vp_nar .byte ((x3 >>> (24 &&& 31)).toInt8.toInt32))) 13 (vp_nar .byte ((x3 >>> (16 &&& 31)).toInt8.toInt32))) 14 (vp_nar .byte ((x3 >>> (8 &&& 31)).toInt8.toInt32))) 15 (vp_nar .byte ((x3 >>> (0 &&& 31)).toInt8.toInt32))) 16 (vp_nar .byte ((x4 >>> (24 &&& 31)).toInt8.toInt32)))))] := hD
  refine lv_iinc (k := 1) (v := 17) hx hb d_M_feed_121 hl rfl (by decide) (by decide) rfl (fun ls hl => ?_)
  have hl : lv_has ls 8 [(6, .int 17), (7, .int x4), (0, .ref a), (1, .int x0), (2, .int x1), (3, .int x2), (4, .int x3), (5, .int x4)] := hl
  refine lv_goto hx hb d_M_feed_124 (tgt := 33) rfl ?_
  refine lv_iload hx hb d_M_feed_33 (lv_at hl 0 rfl) ?_
  refine lv_bipush (v := 20) hx hb d_M_feed_35 (by decide) ?_
  refine lv_icmp_ge hx hb d_M_feed_37 (tgt := 127) rfl (fun h9 => absurd h9 (by decide)) (fun _ => ?_)
  refine lv_iload hx hb d_M_feed_40 (lv_at hl 0 rfl) ?_
  refine lv_iconst (v := 4) hx hb d_M_feed_42 (by decide) ?_
  refine lv_icmp_ge hx hb d_M_feed_43 (tgt := 50) rfl (fun _ => ?_) (fun h9 => absurd (by decide) h9)
  refine lv_iload hx hb d_M_feed_50 (lv_at hl 0 rfl) ?_
  refine lv_bipush (v := 8) hx hb d_M_feed_52 (by decide) ?_
  refine lv_icmp_ge hx hb d_M_feed_54 (tgt := 61) rfl (fun _ => ?_) (fun h9 => absurd (by decide) h9)
  refine lv_iload hx hb d_M_feed_61 (lv_at hl 0 rfl) ?_
  refine lv_bipush (v := 12) hx hb d_M_feed_63 (by decide) ?_
  refine lv_icmp_ge hx hb d_M_feed_65 (tgt := 72) rfl (fun _ => ?_) (fun h9 => absurd (by decide) h9)
  refine lv_iload hx hb d_M_feed_72 (lv_at hl 0 rfl) ?_
  refine lv_bipush (v := 16) hx hb d_M_feed_74 (by decide) ?_
  refine lv_icmp_ge hx hb d_M_feed_76 (tgt := 84) rfl (fun _ => ?_) (fun h9 => absurd (by decide) h9)
  refine lv_iload hx hb d_M_feed_84 (lv_at hl 7 rfl) ?_
  refine lv_istore hx hb d_M_feed_86 hl (by decide) rfl (fun ls hl => ?_)
  have hl : lv_has ls 8 [(7, .int x4), (6, .int 17), (0, .ref a), (1, .int x0), (2, .int x1), (3, .int x2), (4, .int x3), (5, .int x4)] := hl
  refine lv_aload_n hx hb d_M_feed_88 rfl (lv_at hl 2 rfl) ?_
  refine gF (v := .ref b) hx hb hown hE hK hP 0 rfl rfl layM 1 (by decide) w497 (by simp [h_fs_tape]) d_M_feed_89 ?_
  refine lv_aload_n hx hb d_M_feed_92 rfl (lv_at hl 2 rfl) ?_
  refine gF (v := .int 17) hx hb hown hE hK hP 0 rfl rfl layM 2 (by decide) w320 (by simp [hl_fs]) d_M_feed_93 ?_
  refine lv_iload hx hb d_M_feed_96 (lv_at hl 0 rfl) ?_
  refine lv_bipush (v := 24) hx hb d_M_feed_98 (by decide) ?_
  refine lv_bipush (v := 8) hx hb d_M_feed_100 (by decide) ?_
  refine lv_iload hx hb d_M_feed_102 (lv_at hl 1 rfl) ?_
  refine lv_iconst (v := 4) hx hb d_M_feed_104 (by decide) ?_
  refine lv_irem hx hb d_M_feed_105 (by decide) (tpi (y := 1) (by decide) ?_)
  refine lv_imul hx hb d_M_feed_106 (tpi (y := 8) (by decide) ?_)
  refine lv_isub hx hb d_M_feed_107 (tpi (y := 16) (by decide) ?_)
  refine lv_ishr hx hb d_M_feed_108 ?_
  refine lv_i2b hx hb d_M_feed_109 rfl ?_
  refine va_bast hx hb hK hP hD hS 1 0 rfl rfl (by unfold vp_in; decide) d_M_feed_110 (fun H locs hP hD hS => ?_)
  have hP : va_P D vwCl [(a, .inr (9, ((((((((((((((((((fs.set 0 (.int 0)).set 2 (.int 1)).set 2 (.int 2)).set 2 (.int 3)).set 2 (.int 4)).set 2 (.int 5)).set 2 (.int 6)).set 2 (.int 7)).set 2 (.int 8)).set 2 (.int 9)).set 2 (.int 10)).set 2 (.int 11)).set 2 (.int 12)).set 2 (.int 13)).set 2 (.int 14)).set 2 (.int 15)).set 2 (.int 16)).set 2 (.int 17)))), (b, .inl (dA 0, 65536, .inl (upd (upd (upd (upd (upd (upd (upd (upd (upd (upd (upd (upd (upd (upd (upd (upd (upd (upd g 0 (vp_nar .byte ((x0 >>> (24 &&& 31)).toInt8.toInt32))) 1 (vp_nar .byte ((x0 >>> (16 &&& 31)).toInt8.toInt32))) 2 (vp_nar .byte ((x0 >>> (8 &&& 31)).toInt8.toInt32))) 3 (vp_nar .byte ((x0 >>> (0 &&& 31)).toInt8.toInt32))) 4 (vp_nar .byte ((x1 >>> (24 &&& 31)).toInt8.toInt32))) 5 (vp_nar .byte ((x1 >>> (16 &&& 31)).toInt8.toInt32))) 6 (vp_nar .byte ((x1 >>> (8 &&& 31)).toInt8.toInt32))) 7 (vp_nar .byte ((x1 >>> (0 &&& 31)).toInt8.toInt32))) 8 (vp_nar .byte ((x2 >>> (24 &&& 31)).toInt8.toInt32))) 9 (vp_nar .byte ((x2 >>> (16 &&& 31)).toInt8.toInt32))) 10 (vp_nar .byte ((x2 >>> (8 &&& 31)).toInt8.toInt32))) 11 (vp_nar .byte ((x2 >>> (0 &&& 31)).toInt8.toInt32))) 12 (vp_nar .byte ((x3 >>> (24 &&& 31)).toInt8.toInt32))) 13 (vp_nar .byte ((x3 >>> (16 &&& 31)).toInt8.toInt32))) 14 (vp_nar .byte ((x3 >>> (8 &&& 31)).toInt8.toInt32))) 15 (vp_nar .byte ((x3 >>> (0 &&& 31)).toInt8.toInt32))) 16 (vp_nar .byte ((x4 >>> (24 &&& 31)).toInt8.toInt32))) 17 (vp_nar .byte ((x4 >>> (16 &&& 31)).toInt8.toInt32)))))] H := hP
  have hD : va_D A [(a, .inr (9, ((((((((((((((((((fs.set 0 (.int 0)).set 2 (.int 1)).set 2 (.int 2)).set 2 (.int 3)).set 2 (.int 4)).set 2 (.int 5)).set 2 (.int 6)).set 2 (.int 7)).set 2 (.int 8)).set 2 (.int 9)).set 2 (.int 10)).set 2 (.int 11)).set 2 (.int 12)).set 2 (.int 13)).set 2 (.int 14)).set 2 (.int 15)).set 2 (.int 16)).set 2 (.int 17)))), (b, .inl (dA 0, 65536, .inl (upd (upd (upd (upd (upd (upd (upd (upd (upd (upd (upd (upd (upd (upd (upd (upd (upd (upd g 0 (vp_nar .byte ((x0 >>> (24 &&& 31)).toInt8.toInt32))) 1 (vp_nar .byte ((x0 >>> (16 &&& 31)).toInt8.toInt32))) 2 (vp_nar .byte ((x0 >>> (8 &&& 31)).toInt8.toInt32))) 3 (vp_nar .byte ((x0 >>> (0 &&& 31)).toInt8.toInt32))) 4 (vp_nar .byte ((x1 >>> (24 &&& 31)).toInt8.toInt32))) 5 (vp_nar .byte ((x1 >>> (16 &&& 31)).toInt8.toInt32))) 6 (vp_nar .byte ((x1 >>> (8 &&& 31)).toInt8.toInt32))) 7 (vp_nar .byte ((x1 >>> (0 &&& 31)).toInt8.toInt32))) 8 (vp_nar .byte ((x2 >>> (24 &&& 31)).toInt8.toInt32))) 9 (vp_nar .byte ((x2 >>> (16 &&& 31)).toInt8.toInt32))) 10 (vp_nar .byte ((x2 >>> (8 &&& 31)).toInt8.toInt32))) 11 (vp_nar .byte ((x2 >>> (0 &&& 31)).toInt8.toInt32))) 12 (vp_nar .byte ((x3 >>> (24 &&& 31)).toInt8.toInt32))) 13 (vp_nar .byte ((x3 >>> (16 &&& 31)).toInt8.toInt32))) 14 (vp_nar .byte ((x3 >>> (8 &&& 31)).toInt8.toInt32))) 15 (vp_nar .byte ((x3 >>> (0 &&& 31)).toInt8.toInt32))) 16 (vp_nar .byte ((x4 >>> (24 &&& 31)).toInt8.toInt32))) 17 (vp_nar .byte ((x4 >>> (16 &&& 31)).toInt8.toInt32)))))] := hD
  refine lv_aload_n hx hb d_M_feed_111 rfl (lv_at hl 2 rfl) ?_
  refine lv_dup hx hb d_M_feed_112 rfl ?_
  refine gF (v := .int 17) hx hb hown hE hK hP 0 rfl rfl layM 2 (by decide) w320 (by simp [hl_fs]) d_M_feed_113 ?_
  refine lv_iconst (v := 1) hx hb d_M_feed_116 (by decide) ?_
  refine lv_iadd hx hb d_M_feed_117 (tpi (y := 18) (by decide) ?_)
  refine pF hx hb hown hE hK hP hD hS 0 rfl rfl layM tyM tokM nmM 2 (by decide) w320 rfl rfl rfl (by simp [hl_fs]) d_M_feed_118 (fun H locs hP hD hS => ?_)
  have hP : va_P D vwCl [(a, .inr (9, (((((((((((((((((((fs.set 0 (.int 0)).set 2 (.int 1)).set 2 (.int 2)).set 2 (.int 3)).set 2 (.int 4)).set 2 (.int 5)).set 2 (.int 6)).set 2 (.int 7)).set 2 (.int 8)).set 2 (.int 9)).set 2 (.int 10)).set 2 (.int 11)).set 2 (.int 12)).set 2 (.int 13)).set 2 (.int 14)).set 2 (.int 15)).set 2 (.int 16)).set 2 (.int 17)).set 2 (.int 18)))), (b, .inl (dA 0, 65536, .inl (upd (upd (upd (upd (upd (upd (upd (upd (upd (upd (upd (upd (upd (upd (upd (upd (upd (upd g 0 (vp_nar .byte ((x0 >>> (24 &&& 31)).toInt8.toInt32))) 1 (vp_nar .byte ((x0 >>> (16 &&& 31)).toInt8.toInt32))) 2 (vp_nar .byte ((x0 >>> (8 &&& 31)).toInt8.toInt32))) 3 (vp_nar .byte ((x0 >>> (0 &&& 31)).toInt8.toInt32))) 4 (vp_nar .byte ((x1 >>> (24 &&& 31)).toInt8.toInt32))) 5 (vp_nar .byte ((x1 >>> (16 &&& 31)).toInt8.toInt32))) 6 (vp_nar .byte ((x1 >>> (8 &&& 31)).toInt8.toInt32))) 7 (vp_nar .byte ((x1 >>> (0 &&& 31)).toInt8.toInt32))) 8 (vp_nar .byte ((x2 >>> (24 &&& 31)).toInt8.toInt32))) 9 (vp_nar .byte ((x2 >>> (16 &&& 31)).toInt8.toInt32))) 10 (vp_nar .byte ((x2 >>> (8 &&& 31)).toInt8.toInt32))) 11 (vp_nar .byte ((x2 >>> (0 &&& 31)).toInt8.toInt32))) 12 (vp_nar .byte ((x3 >>> (24 &&& 31)).toInt8.toInt32))) 13 (vp_nar .byte ((x3 >>> (16 &&& 31)).toInt8.toInt32))) 14 (vp_nar .byte ((x3 >>> (8 &&& 31)).toInt8.toInt32))) 15 (vp_nar .byte ((x3 >>> (0 &&& 31)).toInt8.toInt32))) 16 (vp_nar .byte ((x4 >>> (24 &&& 31)).toInt8.toInt32))) 17 (vp_nar .byte ((x4 >>> (16 &&& 31)).toInt8.toInt32)))))] H := hP
  have hD : va_D A [(a, .inr (9, (((((((((((((((((((fs.set 0 (.int 0)).set 2 (.int 1)).set 2 (.int 2)).set 2 (.int 3)).set 2 (.int 4)).set 2 (.int 5)).set 2 (.int 6)).set 2 (.int 7)).set 2 (.int 8)).set 2 (.int 9)).set 2 (.int 10)).set 2 (.int 11)).set 2 (.int 12)).set 2 (.int 13)).set 2 (.int 14)).set 2 (.int 15)).set 2 (.int 16)).set 2 (.int 17)).set 2 (.int 18)))), (b, .inl (dA 0, 65536, .inl (upd (upd (upd (upd (upd (upd (upd (upd (upd (upd (upd (upd (upd (upd (upd (upd (upd (upd g 0 (vp_nar .byte ((x0 >>> (24 &&& 31)).toInt8.toInt32))) 1 (vp_nar .byte ((x0 >>> (16 &&& 31)).toInt8.toInt32))) 2 (vp_nar .byte ((x0 >>> (8 &&& 31)).toInt8.toInt32))) 3 (vp_nar .byte ((x0 >>> (0 &&& 31)).toInt8.toInt32))) 4 (vp_nar .byte ((x1 >>> (24 &&& 31)).toInt8.toInt32))) 5 (vp_nar .byte ((x1 >>> (16 &&& 31)).toInt8.toInt32))) 6 (vp_nar .byte ((x1 >>> (8 &&& 31)).toInt8.toInt32))) 7 (vp_nar .byte ((x1 >>> (0 &&& 31)).toInt8.toInt32))) 8 (vp_nar .byte ((x2 >>> (24 &&& 31)).toInt8.toInt32))) 9 (vp_nar .byte ((x2 >>> (16 &&& 31)).toInt8.toInt32))) 10 (vp_nar .byte ((x2 >>> (8 &&& 31)).toInt8.toInt32))) 11 (vp_nar .byte ((x2 >>> (0 &&& 31)).toInt8.toInt32))) 12 (vp_nar .byte ((x3 >>> (24 &&& 31)).toInt8.toInt32))) 13 (vp_nar .byte ((x3 >>> (16 &&& 31)).toInt8.toInt32))) 14 (vp_nar .byte ((x3 >>> (8 &&& 31)).toInt8.toInt32))) 15 (vp_nar .byte ((x3 >>> (0 &&& 31)).toInt8.toInt32))) 16 (vp_nar .byte ((x4 >>> (24 &&& 31)).toInt8.toInt32))) 17 (vp_nar .byte ((x4 >>> (16 &&& 31)).toInt8.toInt32)))))] := hD
  refine lv_iinc (k := 1) (v := 18) hx hb d_M_feed_121 hl rfl (by decide) (by decide) rfl (fun ls hl => ?_)
  have hl : lv_has ls 8 [(6, .int 18), (7, .int x4), (0, .ref a), (1, .int x0), (2, .int x1), (3, .int x2), (4, .int x3), (5, .int x4)] := hl
  refine lv_goto hx hb d_M_feed_124 (tgt := 33) rfl ?_
  refine lv_iload hx hb d_M_feed_33 (lv_at hl 0 rfl) ?_
  refine lv_bipush (v := 20) hx hb d_M_feed_35 (by decide) ?_
  refine lv_icmp_ge hx hb d_M_feed_37 (tgt := 127) rfl (fun h9 => absurd h9 (by decide)) (fun _ => ?_)
  refine lv_iload hx hb d_M_feed_40 (lv_at hl 0 rfl) ?_
  refine lv_iconst (v := 4) hx hb d_M_feed_42 (by decide) ?_
  refine lv_icmp_ge hx hb d_M_feed_43 (tgt := 50) rfl (fun _ => ?_) (fun h9 => absurd (by decide) h9)
  refine lv_iload hx hb d_M_feed_50 (lv_at hl 0 rfl) ?_
  refine lv_bipush (v := 8) hx hb d_M_feed_52 (by decide) ?_
  refine lv_icmp_ge hx hb d_M_feed_54 (tgt := 61) rfl (fun _ => ?_) (fun h9 => absurd (by decide) h9)
  refine lv_iload hx hb d_M_feed_61 (lv_at hl 0 rfl) ?_
  refine lv_bipush (v := 12) hx hb d_M_feed_63 (by decide) ?_
  refine lv_icmp_ge hx hb d_M_feed_65 (tgt := 72) rfl (fun _ => ?_) (fun h9 => absurd (by decide) h9)
  refine lv_iload hx hb d_M_feed_72 (lv_at hl 0 rfl) ?_
  refine lv_bipush (v := 16) hx hb d_M_feed_74 (by decide) ?_
  refine lv_icmp_ge hx hb d_M_feed_76 (tgt := 84) rfl (fun _ => ?_) (fun h9 => absurd (by decide) h9)
  refine lv_iload hx hb d_M_feed_84 (lv_at hl 7 rfl) ?_
  refine lv_istore hx hb d_M_feed_86 hl (by decide) rfl (fun ls hl => ?_)
  have hl : lv_has ls 8 [(7, .int x4), (6, .int 18), (0, .ref a), (1, .int x0), (2, .int x1), (3, .int x2), (4, .int x3), (5, .int x4)] := hl
  refine lv_aload_n hx hb d_M_feed_88 rfl (lv_at hl 2 rfl) ?_
  refine gF (v := .ref b) hx hb hown hE hK hP 0 rfl rfl layM 1 (by decide) w497 (by simp [h_fs_tape]) d_M_feed_89 ?_
  refine lv_aload_n hx hb d_M_feed_92 rfl (lv_at hl 2 rfl) ?_
  refine gF (v := .int 18) hx hb hown hE hK hP 0 rfl rfl layM 2 (by decide) w320 (by simp [hl_fs]) d_M_feed_93 ?_
  refine lv_iload hx hb d_M_feed_96 (lv_at hl 0 rfl) ?_
  refine lv_bipush (v := 24) hx hb d_M_feed_98 (by decide) ?_
  refine lv_bipush (v := 8) hx hb d_M_feed_100 (by decide) ?_
  refine lv_iload hx hb d_M_feed_102 (lv_at hl 1 rfl) ?_
  refine lv_iconst (v := 4) hx hb d_M_feed_104 (by decide) ?_
  refine lv_irem hx hb d_M_feed_105 (by decide) (tpi (y := 2) (by decide) ?_)
  refine lv_imul hx hb d_M_feed_106 (tpi (y := 16) (by decide) ?_)
  refine lv_isub hx hb d_M_feed_107 (tpi (y := 8) (by decide) ?_)
  refine lv_ishr hx hb d_M_feed_108 ?_
  refine lv_i2b hx hb d_M_feed_109 rfl ?_
  refine va_bast hx hb hK hP hD hS 1 0 rfl rfl (by unfold vp_in; decide) d_M_feed_110 (fun H locs hP hD hS => ?_)
  have hP : va_P D vwCl [(a, .inr (9, (((((((((((((((((((fs.set 0 (.int 0)).set 2 (.int 1)).set 2 (.int 2)).set 2 (.int 3)).set 2 (.int 4)).set 2 (.int 5)).set 2 (.int 6)).set 2 (.int 7)).set 2 (.int 8)).set 2 (.int 9)).set 2 (.int 10)).set 2 (.int 11)).set 2 (.int 12)).set 2 (.int 13)).set 2 (.int 14)).set 2 (.int 15)).set 2 (.int 16)).set 2 (.int 17)).set 2 (.int 18)))), (b, .inl (dA 0, 65536, .inl (upd (upd (upd (upd (upd (upd (upd (upd (upd (upd (upd (upd (upd (upd (upd (upd (upd (upd (upd g 0 (vp_nar .byte ((x0 >>> (24 &&& 31)).toInt8.toInt32))) 1 (vp_nar .byte ((x0 >>> (16 &&& 31)).toInt8.toInt32))) 2 (vp_nar .byte ((x0 >>> (8 &&& 31)).toInt8.toInt32))) 3 (vp_nar .byte ((x0 >>> (0 &&& 31)).toInt8.toInt32))) 4 (vp_nar .byte ((x1 >>> (24 &&& 31)).toInt8.toInt32))) 5 (vp_nar .byte ((x1 >>> (16 &&& 31)).toInt8.toInt32))) 6 (vp_nar .byte ((x1 >>> (8 &&& 31)).toInt8.toInt32))) 7 (vp_nar .byte ((x1 >>> (0 &&& 31)).toInt8.toInt32))) 8 (vp_nar .byte ((x2 >>> (24 &&& 31)).toInt8.toInt32))) 9 (vp_nar .byte ((x2 >>> (16 &&& 31)).toInt8.toInt32))) 10 (vp_nar .byte ((x2 >>> (8 &&& 31)).toInt8.toInt32))) 11 (vp_nar .byte ((x2 >>> (0 &&& 31)).toInt8.toInt32))) 12 (vp_nar .byte ((x3 >>> (24 &&& 31)).toInt8.toInt32))) 13 (vp_nar .byte ((x3 >>> (16 &&& 31)).toInt8.toInt32))) 14 (vp_nar .byte ((x3 >>> (8 &&& 31)).toInt8.toInt32))) 15 (vp_nar .byte ((x3 >>> (0 &&& 31)).toInt8.toInt32))) 16 (vp_nar .byte ((x4 >>> (24 &&& 31)).toInt8.toInt32))) 17 (vp_nar .byte ((x4 >>> (16 &&& 31)).toInt8.toInt32))) 18 (vp_nar .byte ((x4 >>> (8 &&& 31)).toInt8.toInt32)))))] H := hP
  have hD : va_D A [(a, .inr (9, (((((((((((((((((((fs.set 0 (.int 0)).set 2 (.int 1)).set 2 (.int 2)).set 2 (.int 3)).set 2 (.int 4)).set 2 (.int 5)).set 2 (.int 6)).set 2 (.int 7)).set 2 (.int 8)).set 2 (.int 9)).set 2 (.int 10)).set 2 (.int 11)).set 2 (.int 12)).set 2 (.int 13)).set 2 (.int 14)).set 2 (.int 15)).set 2 (.int 16)).set 2 (.int 17)).set 2 (.int 18)))), (b, .inl (dA 0, 65536, .inl (upd (upd (upd (upd (upd (upd (upd (upd (upd (upd (upd (upd (upd (upd (upd (upd (upd (upd (upd g 0 (vp_nar .byte ((x0 >>> (24 &&& 31)).toInt8.toInt32))) 1 (vp_nar .byte ((x0 >>> (16 &&& 31)).toInt8.toInt32))) 2 (vp_nar .byte ((x0 >>> (8 &&& 31)).toInt8.toInt32))) 3 (vp_nar .byte ((x0 >>> (0 &&& 31)).toInt8.toInt32))) 4 (vp_nar .byte ((x1 >>> (24 &&& 31)).toInt8.toInt32))) 5 (vp_nar .byte ((x1 >>> (16 &&& 31)).toInt8.toInt32))) 6 (vp_nar .byte ((x1 >>> (8 &&& 31)).toInt8.toInt32))) 7 (vp_nar .byte ((x1 >>> (0 &&& 31)).toInt8.toInt32))) 8 (vp_nar .byte ((x2 >>> (24 &&& 31)).toInt8.toInt32))) 9 (vp_nar .byte ((x2 >>> (16 &&& 31)).toInt8.toInt32))) 10 (vp_nar .byte ((x2 >>> (8 &&& 31)).toInt8.toInt32))) 11 (vp_nar .byte ((x2 >>> (0 &&& 31)).toInt8.toInt32))) 12 (vp_nar .byte ((x3 >>> (24 &&& 31)).toInt8.toInt32))) 13 (vp_nar .byte ((x3 >>> (16 &&& 31)).toInt8.toInt32))) 14 (vp_nar .byte ((x3 >>> (8 &&& 31)).toInt8.toInt32))) 15 (vp_nar .byte ((x3 >>> (0 &&& 31)).toInt8.toInt32))) 16 (vp_nar .byte ((x4 >>> (24 &&& 31)).toInt8.toInt32))) 17 (vp_nar .byte ((x4 >>> (16 &&& 31)).toInt8.toInt32))) 18 (vp_nar .byte ((x4 >>> (8 &&& 31)).toInt8.toInt32)))))] := hD
  refine lv_aload_n hx hb d_M_feed_111 rfl (lv_at hl 2 rfl) ?_
  refine lv_dup hx hb d_M_feed_112 rfl ?_
  refine gF (v := .int 18) hx hb hown hE hK hP 0 rfl rfl layM 2 (by decide) w320 (by simp [hl_fs]) d_M_feed_113 ?_
  refine lv_iconst (v := 1) hx hb d_M_feed_116 (by decide) ?_
  refine lv_iadd hx hb d_M_feed_117 (tpi (y := 19) (by decide) ?_)
  refine pF hx hb hown hE hK hP hD hS 0 rfl rfl layM tyM tokM nmM 2 (by decide) w320 rfl rfl rfl (by simp [hl_fs]) d_M_feed_118 (fun H locs hP hD hS => ?_)
  have hP : va_P D vwCl [(a, .inr (9, ((((((((((((((((((((fs.set 0 (.int 0)).set 2 (.int 1)).set 2 (.int 2)).set 2 (.int 3)).set 2 (.int 4)).set 2 (.int 5)).set 2 (.int 6)).set 2 (.int 7)).set 2 (.int 8)).set 2 (.int 9)).set 2 (.int 10)).set 2 (.int 11)).set 2 (.int 12)).set 2 (.int 13)).set 2 (.int 14)).set 2 (.int 15)).set 2 (.int 16)).set 2 (.int 17)).set 2 (.int 18)).set 2 (.int 19)))), (b, .inl (dA 0, 65536, .inl (upd (upd (upd (upd (upd (upd (upd (upd (upd (upd (upd (upd (upd (upd (upd (upd (upd (upd (upd g 0 (vp_nar .byte ((x0 >>> (24 &&& 31)).toInt8.toInt32))) 1 (vp_nar .byte ((x0 >>> (16 &&& 31)).toInt8.toInt32))) 2 (vp_nar .byte ((x0 >>> (8 &&& 31)).toInt8.toInt32))) 3 (vp_nar .byte ((x0 >>> (0 &&& 31)).toInt8.toInt32))) 4 (vp_nar .byte ((x1 >>> (24 &&& 31)).toInt8.toInt32))) 5 (vp_nar .byte ((x1 >>> (16 &&& 31)).toInt8.toInt32))) 6 (vp_nar .byte ((x1 >>> (8 &&& 31)).toInt8.toInt32))) 7 (vp_nar .byte ((x1 >>> (0 &&& 31)).toInt8.toInt32))) 8 (vp_nar .byte ((x2 >>> (24 &&& 31)).toInt8.toInt32))) 9 (vp_nar .byte ((x2 >>> (16 &&& 31)).toInt8.toInt32))) 10 (vp_nar .byte ((x2 >>> (8 &&& 31)).toInt8.toInt32))) 11 (vp_nar .byte ((x2 >>> (0 &&& 31)).toInt8.toInt32))) 12 (vp_nar .byte ((x3 >>> (24 &&& 31)).toInt8.toInt32))) 13 (vp_nar .byte ((x3 >>> (16 &&& 31)).toInt8.toInt32))) 14 (vp_nar .byte ((x3 >>> (8 &&& 31)).toInt8.toInt32))) 15 (vp_nar .byte ((x3 >>> (0 &&& 31)).toInt8.toInt32))) 16 (vp_nar .byte ((x4 >>> (24 &&& 31)).toInt8.toInt32))) 17 (vp_nar .byte ((x4 >>> (16 &&& 31)).toInt8.toInt32))) 18 (vp_nar .byte ((x4 >>> (8 &&& 31)).toInt8.toInt32)))))] H := hP
  have hD : va_D A [(a, .inr (9, ((((((((((((((((((((fs.set 0 (.int 0)).set 2 (.int 1)).set 2 (.int 2)).set 2 (.int 3)).set 2 (.int 4)).set 2 (.int 5)).set 2 (.int 6)).set 2 (.int 7)).set 2 (.int 8)).set 2 (.int 9)).set 2 (.int 10)).set 2 (.int 11)).set 2 (.int 12)).set 2 (.int 13)).set 2 (.int 14)).set 2 (.int 15)).set 2 (.int 16)).set 2 (.int 17)).set 2 (.int 18)).set 2 (.int 19)))), (b, .inl (dA 0, 65536, .inl (upd (upd (upd (upd (upd (upd (upd (upd (upd (upd (upd (upd (upd (upd (upd (upd (upd (upd (upd g 0 (vp_nar .byte ((x0 >>> (24 &&& 31)).toInt8.toInt32))) 1 (vp_nar .byte ((x0 >>> (16 &&& 31)).toInt8.toInt32))) 2 (vp_nar .byte ((x0 >>> (8 &&& 31)).toInt8.toInt32))) 3 (vp_nar .byte ((x0 >>> (0 &&& 31)).toInt8.toInt32))) 4 (vp_nar .byte ((x1 >>> (24 &&& 31)).toInt8.toInt32))) 5 (vp_nar .byte ((x1 >>> (16 &&& 31)).toInt8.toInt32))) 6 (vp_nar .byte ((x1 >>> (8 &&& 31)).toInt8.toInt32))) 7 (vp_nar .byte ((x1 >>> (0 &&& 31)).toInt8.toInt32))) 8 (vp_nar .byte ((x2 >>> (24 &&& 31)).toInt8.toInt32))) 9 (vp_nar .byte ((x2 >>> (16 &&& 31)).toInt8.toInt32))) 10 (vp_nar .byte ((x2 >>> (8 &&& 31)).toInt8.toInt32))) 11 (vp_nar .byte ((x2 >>> (0 &&& 31)).toInt8.toInt32))) 12 (vp_nar .byte ((x3 >>> (24 &&& 31)).toInt8.toInt32))) 13 (vp_nar .byte ((x3 >>> (16 &&& 31)).toInt8.toInt32))) 14 (vp_nar .byte ((x3 >>> (8 &&& 31)).toInt8.toInt32))) 15 (vp_nar .byte ((x3 >>> (0 &&& 31)).toInt8.toInt32))) 16 (vp_nar .byte ((x4 >>> (24 &&& 31)).toInt8.toInt32))) 17 (vp_nar .byte ((x4 >>> (16 &&& 31)).toInt8.toInt32))) 18 (vp_nar .byte ((x4 >>> (8 &&& 31)).toInt8.toInt32)))))] := hD
  refine lv_iinc (k := 1) (v := 19) hx hb d_M_feed_121 hl rfl (by decide) (by decide) rfl (fun ls hl => ?_)
  have hl : lv_has ls 8 [(6, .int 19), (7, .int x4), (0, .ref a), (1, .int x0), (2, .int x1), (3, .int x2), (4, .int x3), (5, .int x4)] := hl
  refine lv_goto hx hb d_M_feed_124 (tgt := 33) rfl ?_
  refine lv_iload hx hb d_M_feed_33 (lv_at hl 0 rfl) ?_
  refine lv_bipush (v := 20) hx hb d_M_feed_35 (by decide) ?_
  refine lv_icmp_ge hx hb d_M_feed_37 (tgt := 127) rfl (fun h9 => absurd h9 (by decide)) (fun _ => ?_)
  refine lv_iload hx hb d_M_feed_40 (lv_at hl 0 rfl) ?_
  refine lv_iconst (v := 4) hx hb d_M_feed_42 (by decide) ?_
  refine lv_icmp_ge hx hb d_M_feed_43 (tgt := 50) rfl (fun _ => ?_) (fun h9 => absurd (by decide) h9)
  refine lv_iload hx hb d_M_feed_50 (lv_at hl 0 rfl) ?_
  refine lv_bipush (v := 8) hx hb d_M_feed_52 (by decide) ?_
  refine lv_icmp_ge hx hb d_M_feed_54 (tgt := 61) rfl (fun _ => ?_) (fun h9 => absurd (by decide) h9)
  refine lv_iload hx hb d_M_feed_61 (lv_at hl 0 rfl) ?_
  refine lv_bipush (v := 12) hx hb d_M_feed_63 (by decide) ?_
  refine lv_icmp_ge hx hb d_M_feed_65 (tgt := 72) rfl (fun _ => ?_) (fun h9 => absurd (by decide) h9)
  refine lv_iload hx hb d_M_feed_72 (lv_at hl 0 rfl) ?_
  refine lv_bipush (v := 16) hx hb d_M_feed_74 (by decide) ?_
  refine lv_icmp_ge hx hb d_M_feed_76 (tgt := 84) rfl (fun _ => ?_) (fun h9 => absurd (by decide) h9)
  refine lv_iload hx hb d_M_feed_84 (lv_at hl 7 rfl) ?_
  refine lv_istore hx hb d_M_feed_86 hl (by decide) rfl (fun ls hl => ?_)
  have hl : lv_has ls 8 [(7, .int x4), (6, .int 19), (0, .ref a), (1, .int x0), (2, .int x1), (3, .int x2), (4, .int x3), (5, .int x4)] := hl
  refine lv_aload_n hx hb d_M_feed_88 rfl (lv_at hl 2 rfl) ?_
  refine gF (v := .ref b) hx hb hown hE hK hP 0 rfl rfl layM 1 (by decide) w497 (by simp [h_fs_tape]) d_M_feed_89 ?_
  refine lv_aload_n hx hb d_M_feed_92 rfl (lv_at hl 2 rfl) ?_
  refine gF (v := .int 19) hx hb hown hE hK hP 0 rfl rfl layM 2 (by decide) w320 (by simp [hl_fs]) d_M_feed_93 ?_
  refine lv_iload hx hb d_M_feed_96 (lv_at hl 0 rfl) ?_
  refine lv_bipush (v := 24) hx hb d_M_feed_98 (by decide) ?_
  refine lv_bipush (v := 8) hx hb d_M_feed_100 (by decide) ?_
  refine lv_iload hx hb d_M_feed_102 (lv_at hl 1 rfl) ?_
  refine lv_iconst (v := 4) hx hb d_M_feed_104 (by decide) ?_
  refine lv_irem hx hb d_M_feed_105 (by decide) (tpi (y := 3) (by decide) ?_)
  refine lv_imul hx hb d_M_feed_106 (tpi (y := 24) (by decide) ?_)
  refine lv_isub hx hb d_M_feed_107 (tpi (y := 0) (by decide) ?_)
  refine lv_ishr hx hb d_M_feed_108 ?_
  refine lv_i2b hx hb d_M_feed_109 rfl ?_
  refine va_bast hx hb hK hP hD hS 1 0 rfl rfl (by unfold vp_in; decide) d_M_feed_110 (fun H locs hP hD hS => ?_)
  have hP : va_P D vwCl [(a, .inr (9, ((((((((((((((((((((fs.set 0 (.int 0)).set 2 (.int 1)).set 2 (.int 2)).set 2 (.int 3)).set 2 (.int 4)).set 2 (.int 5)).set 2 (.int 6)).set 2 (.int 7)).set 2 (.int 8)).set 2 (.int 9)).set 2 (.int 10)).set 2 (.int 11)).set 2 (.int 12)).set 2 (.int 13)).set 2 (.int 14)).set 2 (.int 15)).set 2 (.int 16)).set 2 (.int 17)).set 2 (.int 18)).set 2 (.int 19)))), (b, .inl (dA 0, 65536, .inl (upd (upd (upd (upd (upd (upd (upd (upd (upd (upd (upd (upd (upd (upd (upd (upd (upd (upd (upd (upd g 0 (vp_nar .byte ((x0 >>> (24 &&& 31)).toInt8.toInt32))) 1 (vp_nar .byte ((x0 >>> (16 &&& 31)).toInt8.toInt32))) 2 (vp_nar .byte ((x0 >>> (8 &&& 31)).toInt8.toInt32))) 3 (vp_nar .byte ((x0 >>> (0 &&& 31)).toInt8.toInt32))) 4 (vp_nar .byte ((x1 >>> (24 &&& 31)).toInt8.toInt32))) 5 (vp_nar .byte ((x1 >>> (16 &&& 31)).toInt8.toInt32))) 6 (vp_nar .byte ((x1 >>> (8 &&& 31)).toInt8.toInt32))) 7 (vp_nar .byte ((x1 >>> (0 &&& 31)).toInt8.toInt32))) 8 (vp_nar .byte ((x2 >>> (24 &&& 31)).toInt8.toInt32))) 9 (vp_nar .byte ((x2 >>> (16 &&& 31)).toInt8.toInt32))) 10 (vp_nar .byte ((x2 >>> (8 &&& 31)).toInt8.toInt32))) 11 (vp_nar .byte ((x2 >>> (0 &&& 31)).toInt8.toInt32))) 12 (vp_nar .byte ((x3 >>> (24 &&& 31)).toInt8.toInt32))) 13 (vp_nar .byte ((x3 >>> (16 &&& 31)).toInt8.toInt32))) 14 (vp_nar .byte ((x3 >>> (8 &&& 31)).toInt8.toInt32))) 15 (vp_nar .byte ((x3 >>> (0 &&& 31)).toInt8.toInt32))) 16 (vp_nar .byte ((x4 >>> (24 &&& 31)).toInt8.toInt32))) 17 (vp_nar .byte ((x4 >>> (16 &&& 31)).toInt8.toInt32))) 18 (vp_nar .byte ((x4 >>> (8 &&& 31)).toInt8.toInt32))) 19 (vp_nar .byte ((x4 >>> (0 &&& 31)).toInt8.toInt32)))))] H := hP
  have hD : va_D A [(a, .inr (9, ((((((((((((((((((((fs.set 0 (.int 0)).set 2 (.int 1)).set 2 (.int 2)).set 2 (.int 3)).set 2 (.int 4)).set 2 (.int 5)).set 2 (.int 6)).set 2 (.int 7)).set 2 (.int 8)).set 2 (.int 9)).set 2 (.int 10)).set 2 (.int 11)).set 2 (.int 12)).set 2 (.int 13)).set 2 (.int 14)).set 2 (.int 15)).set 2 (.int 16)).set 2 (.int 17)).set 2 (.int 18)).set 2 (.int 19)))), (b, .inl (dA 0, 65536, .inl (upd (upd (upd (upd (upd (upd (upd (upd (upd (upd (upd (upd (upd (upd (upd (upd (upd (upd (upd (upd g 0 (vp_nar .byte ((x0 >>> (24 &&& 31)).toInt8.toInt32))) 1 (vp_nar .byte ((x0 >>> (16 &&& 31)).toInt8.toInt32))) 2 (vp_nar .byte ((x0 >>> (8 &&& 31)).toInt8.toInt32))) 3 (vp_nar .byte ((x0 >>> (0 &&& 31)).toInt8.toInt32))) 4 (vp_nar .byte ((x1 >>> (24 &&& 31)).toInt8.toInt32))) 5 (vp_nar .byte ((x1 >>> (16 &&& 31)).toInt8.toInt32))) 6 (vp_nar .byte ((x1 >>> (8 &&& 31)).toInt8.toInt32))) 7 (vp_nar .byte ((x1 >>> (0 &&& 31)).toInt8.toInt32))) 8 (vp_nar .byte ((x2 >>> (24 &&& 31)).toInt8.toInt32))) 9 (vp_nar .byte ((x2 >>> (16 &&& 31)).toInt8.toInt32))) 10 (vp_nar .byte ((x2 >>> (8 &&& 31)).toInt8.toInt32))) 11 (vp_nar .byte ((x2 >>> (0 &&& 31)).toInt8.toInt32))) 12 (vp_nar .byte ((x3 >>> (24 &&& 31)).toInt8.toInt32))) 13 (vp_nar .byte ((x3 >>> (16 &&& 31)).toInt8.toInt32))) 14 (vp_nar .byte ((x3 >>> (8 &&& 31)).toInt8.toInt32))) 15 (vp_nar .byte ((x3 >>> (0 &&& 31)).toInt8.toInt32))) 16 (vp_nar .byte ((x4 >>> (24 &&& 31)).toInt8.toInt32))) 17 (vp_nar .byte ((x4 >>> (16 &&& 31)).toInt8.toInt32))) 18 (vp_nar .byte ((x4 >>> (8 &&& 31)).toInt8.toInt32))) 19 (vp_nar .byte ((x4 >>> (0 &&& 31)).toInt8.toInt32)))))] := hD
  refine lv_aload_n hx hb d_M_feed_111 rfl (lv_at hl 2 rfl) ?_
  refine lv_dup hx hb d_M_feed_112 rfl ?_
  refine gF (v := .int 19) hx hb hown hE hK hP 0 rfl rfl layM 2 (by decide) w320 (by simp [hl_fs]) d_M_feed_113 ?_
  refine lv_iconst (v := 1) hx hb d_M_feed_116 (by decide) ?_
  refine lv_iadd hx hb d_M_feed_117 (tpi (y := 20) (by decide) ?_)
  refine pF hx hb hown hE hK hP hD hS 0 rfl rfl layM tyM tokM nmM 2 (by decide) w320 rfl rfl rfl (by simp [hl_fs]) d_M_feed_118 (fun H locs hP hD hS => ?_)
  have hP : va_P D vwCl [(a, .inr (9, (((((((((((((((((((((fs.set 0 (.int 0)).set 2 (.int 1)).set 2 (.int 2)).set 2 (.int 3)).set 2 (.int 4)).set 2 (.int 5)).set 2 (.int 6)).set 2 (.int 7)).set 2 (.int 8)).set 2 (.int 9)).set 2 (.int 10)).set 2 (.int 11)).set 2 (.int 12)).set 2 (.int 13)).set 2 (.int 14)).set 2 (.int 15)).set 2 (.int 16)).set 2 (.int 17)).set 2 (.int 18)).set 2 (.int 19)).set 2 (.int 20)))), (b, .inl (dA 0, 65536, .inl (upd (upd (upd (upd (upd (upd (upd (upd (upd (upd (upd (upd (upd (upd (upd (upd (upd (upd (upd (upd g 0 (vp_nar .byte ((x0 >>> (24 &&& 31)).toInt8.toInt32))) 1 (vp_nar .byte ((x0 >>> (16 &&& 31)).toInt8.toInt32))) 2 (vp_nar .byte ((x0 >>> (8 &&& 31)).toInt8.toInt32))) 3 (vp_nar .byte ((x0 >>> (0 &&& 31)).toInt8.toInt32))) 4 (vp_nar .byte ((x1 >>> (24 &&& 31)).toInt8.toInt32))) 5 (vp_nar .byte ((x1 >>> (16 &&& 31)).toInt8.toInt32))) 6 (vp_nar .byte ((x1 >>> (8 &&& 31)).toInt8.toInt32))) 7 (vp_nar .byte ((x1 >>> (0 &&& 31)).toInt8.toInt32))) 8 (vp_nar .byte ((x2 >>> (24 &&& 31)).toInt8.toInt32))) 9 (vp_nar .byte ((x2 >>> (16 &&& 31)).toInt8.toInt32))) 10 (vp_nar .byte ((x2 >>> (8 &&& 31)).toInt8.toInt32))) 11 (vp_nar .byte ((x2 >>> (0 &&& 31)).toInt8.toInt32))) 12 (vp_nar .byte ((x3 >>> (24 &&& 31)).toInt8.toInt32))) 13 (vp_nar .byte ((x3 >>> (16 &&& 31)).toInt8.toInt32))) 14 (vp_nar .byte ((x3 >>> (8 &&& 31)).toInt8.toInt32))) 15 (vp_nar .byte ((x3 >>> (0 &&& 31)).toInt8.toInt32))) 16 (vp_nar .byte ((x4 >>> (24 &&& 31)).toInt8.toInt32))) 17 (vp_nar .byte ((x4 >>> (16 &&& 31)).toInt8.toInt32))) 18 (vp_nar .byte ((x4 >>> (8 &&& 31)).toInt8.toInt32))) 19 (vp_nar .byte ((x4 >>> (0 &&& 31)).toInt8.toInt32)))))] H := hP
  have hD : va_D A [(a, .inr (9, (((((((((((((((((((((fs.set 0 (.int 0)).set 2 (.int 1)).set 2 (.int 2)).set 2 (.int 3)).set 2 (.int 4)).set 2 (.int 5)).set 2 (.int 6)).set 2 (.int 7)).set 2 (.int 8)).set 2 (.int 9)).set 2 (.int 10)).set 2 (.int 11)).set 2 (.int 12)).set 2 (.int 13)).set 2 (.int 14)).set 2 (.int 15)).set 2 (.int 16)).set 2 (.int 17)).set 2 (.int 18)).set 2 (.int 19)).set 2 (.int 20)))), (b, .inl (dA 0, 65536, .inl (upd (upd (upd (upd (upd (upd (upd (upd (upd (upd (upd (upd (upd (upd (upd (upd (upd (upd (upd (upd g 0 (vp_nar .byte ((x0 >>> (24 &&& 31)).toInt8.toInt32))) 1 (vp_nar .byte ((x0 >>> (16 &&& 31)).toInt8.toInt32))) 2 (vp_nar .byte ((x0 >>> (8 &&& 31)).toInt8.toInt32))) 3 (vp_nar .byte ((x0 >>> (0 &&& 31)).toInt8.toInt32))) 4 (vp_nar .byte ((x1 >>> (24 &&& 31)).toInt8.toInt32))) 5 (vp_nar .byte ((x1 >>> (16 &&& 31)).toInt8.toInt32))) 6 (vp_nar .byte ((x1 >>> (8 &&& 31)).toInt8.toInt32))) 7 (vp_nar .byte ((x1 >>> (0 &&& 31)).toInt8.toInt32))) 8 (vp_nar .byte ((x2 >>> (24 &&& 31)).toInt8.toInt32))) 9 (vp_nar .byte ((x2 >>> (16 &&& 31)).toInt8.toInt32))) 10 (vp_nar .byte ((x2 >>> (8 &&& 31)).toInt8.toInt32))) 11 (vp_nar .byte ((x2 >>> (0 &&& 31)).toInt8.toInt32))) 12 (vp_nar .byte ((x3 >>> (24 &&& 31)).toInt8.toInt32))) 13 (vp_nar .byte ((x3 >>> (16 &&& 31)).toInt8.toInt32))) 14 (vp_nar .byte ((x3 >>> (8 &&& 31)).toInt8.toInt32))) 15 (vp_nar .byte ((x3 >>> (0 &&& 31)).toInt8.toInt32))) 16 (vp_nar .byte ((x4 >>> (24 &&& 31)).toInt8.toInt32))) 17 (vp_nar .byte ((x4 >>> (16 &&& 31)).toInt8.toInt32))) 18 (vp_nar .byte ((x4 >>> (8 &&& 31)).toInt8.toInt32))) 19 (vp_nar .byte ((x4 >>> (0 &&& 31)).toInt8.toInt32)))))] := hD
  refine lv_iinc (k := 1) (v := 20) hx hb d_M_feed_121 hl rfl (by decide) (by decide) rfl (fun ls hl => ?_)
  have hl : lv_has ls 8 [(6, .int 20), (7, .int x4), (0, .ref a), (1, .int x0), (2, .int x1), (3, .int x2), (4, .int x3), (5, .int x4)] := hl
  refine lv_goto hx hb d_M_feed_124 (tgt := 33) rfl ?_
  refine lv_iload hx hb d_M_feed_33 (lv_at hl 0 rfl) ?_
  refine lv_bipush (v := 20) hx hb d_M_feed_35 (by decide) ?_
  refine lv_icmp_ge hx hb d_M_feed_37 (tgt := 127) rfl (fun _ => ?_) (fun h9 => absurd (by decide) h9)
  refine lv_aload_n hx hb d_M_feed_127 rfl (lv_at hl 2 rfl) ?_
  refine gF (v := .int 20) hx hb hown hE hK hP 0 rfl rfl layM 2 (by decide) w320 (by simp [hl_fs]) d_M_feed_128 ?_
  exact rtI hx hb hr hlk hP hD hS () rfl [0, 1] rfl rfl (by decide) (Nat.le_of_ble_eq_true rfl) (Nat.le_of_ble_eq_true rfl) d_M_feed_131
