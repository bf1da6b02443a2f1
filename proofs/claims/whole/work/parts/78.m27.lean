/-- does a point at t of series s come before (after) the chosen one -/
def MS.gSo (x : MS) (c k s : Nat) (t : Int64) : Bool := !x.isCell c || (decide (t < x.keyTimes k) || (decide (t = x.keyTimes k) && !decide (x.keySeries k ≤ s)))
def MS.gLa (x : MS) (c k s : Nat) (t : Int64) : Bool := !x.isCell c || (decide (x.keyTimes k < t) || (decide (t = x.keyTimes k) && !decide (x.keySeries k ≤ s)))
def gLe (was : Bool) (v u : Int64) : Int64 := if was = false then v else if u ≤ v then u else v
def gMo (was : Bool) (v u : Int64) : Int64 := if was = false then v else if v ≤ u then u else v
theorem d_M_gather_0 : decode prog_14_method_69_code 0 = .ok (.iload_n 1, 1) := by decide +kernel
theorem d_M_gather_1 : decode prog_14_method_69_code 1 = .ok (.iload 4, 2) := by decide +kernel
theorem d_M_gather_3 : decode prog_14_method_69_code 3 = .ok (.iload 5, 2) := by decide +kernel
theorem d_M_gather_5 : decode prog_14_method_69_code 5 = .ok (.invokestatic 397, 3) := by decide +kernel
theorem d_M_gather_8 : decode prog_14_method_69_code 8 = .ok (.istore 6, 2) := by decide +kernel
theorem d_M_gather_10 : decode prog_14_method_69_code 10 = .ok (.iload 4, 2) := by decide +kernel
theorem d_M_gather_12 : decode prog_14_method_69_code 12 = .ok (.bipush 64, 2) := by decide +kernel
theorem d_M_gather_14 : decode prog_14_method_69_code 14 = .ok (.imul, 1) := by decide +kernel
theorem d_M_gather_15 : decode prog_14_method_69_code 15 = .ok (.iload 5, 2) := by decide +kernel
theorem d_M_gather_17 : decode prog_14_method_69_code 17 = .ok (.iadd, 1) := by decide +kernel
theorem d_M_gather_18 : decode prog_14_method_69_code 18 = .ok (.istore 7, 2) := by decide +kernel
theorem d_M_gather_20 : decode prog_14_method_69_code 20 = .ok (.aload_n 0, 1) := by decide +kernel
theorem d_M_gather_21 : decode prog_14_method_69_code 21 = .ok (.getfield 43, 3) := by decide +kernel
theorem d_M_gather_24 : decode prog_14_method_69_code 24 = .ok (.iload_n 3, 1) := by decide +kernel
theorem d_M_gather_25 : decode prog_14_method_69_code 25 = .ok (.iaload, 1) := by decide +kernel
theorem d_M_gather_26 : decode prog_14_method_69_code 26 = .ok (.istore 8, 2) := by decide +kernel
theorem d_M_gather_28 : decode prog_14_method_69_code 28 = .ok (.aload_n 0, 1) := by decide +kernel
theorem d_M_gather_29 : decode prog_14_method_69_code 29 = .ok (.getfield 49, 3) := by decide +kernel
theorem d_M_gather_32 : decode prog_14_method_69_code 32 = .ok (.iload_n 3, 1) := by decide +kernel
theorem d_M_gather_33 : decode prog_14_method_69_code 33 = .ok (.laload, 1) := by decide +kernel
theorem d_M_gather_34 : decode prog_14_method_69_code 34 = .ok (.lstore 9, 2) := by decide +kernel
theorem d_M_gather_36 : decode prog_14_method_69_code 36 = .ok (.aload_n 0, 1) := by decide +kernel
theorem d_M_gather_37 : decode prog_14_method_69_code 37 = .ok (.getfield 46, 3) := by decide +kernel
theorem d_M_gather_40 : decode prog_14_method_69_code 40 = .ok (.iload_n 3, 1) := by decide +kernel
theorem d_M_gather_41 : decode prog_14_method_69_code 41 = .ok (.laload, 1) := by decide +kernel
theorem d_M_gather_42 : decode prog_14_method_69_code 42 = .ok (.lstore 11, 2) := by decide +kernel
theorem d_M_gather_44 : decode prog_14_method_69_code 44 = .ok (.aload_n 0, 1) := by decide +kernel
theorem d_M_gather_45 : decode prog_14_method_69_code 45 = .ok (.getfield 107, 3) := by decide +kernel
theorem d_M_gather_48 : decode prog_14_method_69_code 48 = .ok (.iload 6, 2) := by decide +kernel
theorem d_M_gather_50 : decode prog_14_method_69_code 50 = .ok (.baload, 1) := by decide +kernel
theorem d_M_gather_51 : decode prog_14_method_69_code 51 = .ok (.istore 13, 2) := by decide +kernel
theorem d_M_gather_101 : decode prog_14_method_69_code 101 = .ok (.istore 14, 2) := by decide +kernel
theorem d_M_gather_151 : decode prog_14_method_69_code 151 = .ok (.istore 15, 2) := by decide +kernel
theorem d_M_gather_153 : decode prog_14_method_69_code 153 = .ok (.iload_n 2, 1) := by decide +kernel
theorem d_M_gather_154 : decode prog_14_method_69_code 154 = .ok (.iconst 4, 1) := by decide +kernel
theorem d_M_gather_155 : decode prog_14_method_69_code 155 = .ok (.if_icmp .ne 8, 3) := by decide +kernel
theorem d_M_gather_163 : decode prog_14_method_69_code 163 = .ok (.iload 15, 2) := by decide +kernel
theorem d_M_gather_165 : decode prog_14_method_69_code 165 = .ok (.istore 16, 2) := by decide +kernel
theorem d_M_gather_167 : decode prog_14_method_69_code 167 = .ok (.iload_n 2, 1) := by decide +kernel
theorem d_M_gather_168 : decode prog_14_method_69_code 168 = .ok (.ifCond .eq 8, 3) := by decide +kernel
theorem d_M_gather_176 : decode prog_14_method_69_code 176 = .ok (.aload_n 0, 1) := by decide +kernel
theorem d_M_gather_177 : decode prog_14_method_69_code 177 = .ok (.getfield 104, 3) := by decide +kernel
theorem d_M_gather_180 : decode prog_14_method_69_code 180 = .ok (.iload 6, 2) := by decide +kernel
theorem d_M_gather_182 : decode prog_14_method_69_code 182 = .ok (.dup2, 1) := by decide +kernel
theorem d_M_gather_183 : decode prog_14_method_69_code 183 = .ok (.laload, 1) := by decide +kernel
theorem d_M_gather_184 : decode prog_14_method_69_code 184 = .ok (.iload_n 2, 1) := by decide +kernel
theorem d_M_gather_185 : decode prog_14_method_69_code 185 = .ok (.ifCond .ne 8, 3) := by decide +kernel
theorem d_M_gather_188 : decode prog_14_method_69_code 188 = .ok (.lload 9, 2) := by decide +kernel
theorem d_M_gather_190 : decode prog_14_method_69_code 190 = .ok (.goto 4, 3) := by decide +kernel
theorem d_M_gather_194 : decode prog_14_method_69_code 194 = .ok (.ladd, 1) := by decide +kernel
theorem d_M_gather_195 : decode prog_14_method_69_code 195 = .ok (.lastore, 1) := by decide +kernel
theorem d_M_gather_196 : decode prog_14_method_69_code 196 = .ok (.goto 164, 3) := by decide +kernel
theorem d_M_gather_360 : decode prog_14_method_69_code 360 = .ok (.aload_n 0, 1) := by decide +kernel
theorem d_M_gather_361 : decode prog_14_method_69_code 361 = .ok (.getfield 107, 3) := by decide +kernel
theorem d_M_gather_364 : decode prog_14_method_69_code 364 = .ok (.iload 6, 2) := by decide +kernel
theorem d_M_gather_366 : decode prog_14_method_69_code 366 = .ok (.iconst 1, 1) := by decide +kernel
theorem d_M_gather_367 : decode prog_14_method_69_code 367 = .ok (.bastore, 1) := by decide +kernel
theorem d_M_gather_368 : decode prog_14_method_69_code 368 = .ok (.return_, 1) := by decide +kernel
theorem d_M_gather_103 : decode prog_14_method_69_code 103 = .ok (.iload 13, 2) := by decide +kernel
theorem d_M_gather_105 : decode prog_14_method_69_code 105 = .ok (.ifCond .eq 41, 3) := by decide +kernel
theorem d_M_gather_146 : decode prog_14_method_69_code 146 = .ok (.iconst 1, 1) := by decide +kernel
theorem d_M_gather_147 : decode prog_14_method_69_code 147 = .ok (.goto 4, 3) := by decide +kernel
theorem d_M_gather_108 : decode prog_14_method_69_code 108 = .ok (.lload 11, 2) := by decide +kernel
theorem d_M_gather_110 : decode prog_14_method_69_code 110 = .ok (.aload_n 0, 1) := by decide +kernel
theorem d_M_gather_111 : decode prog_14_method_69_code 111 = .ok (.getfield 114, 3) := by decide +kernel
theorem d_M_gather_114 : decode prog_14_method_69_code 114 = .ok (.iload 7, 2) := by decide +kernel
theorem d_M_gather_116 : decode prog_14_method_69_code 116 = .ok (.laload, 1) := by decide +kernel
theorem d_M_gather_117 : decode prog_14_method_69_code 117 = .ok (.lcmp, 1) := by decide +kernel
theorem d_M_gather_118 : decode prog_14_method_69_code 118 = .ok (.ifCond .gt 28, 3) := by decide +kernel
theorem d_M_gather_121 : decode prog_14_method_69_code 121 = .ok (.lload 11, 2) := by decide +kernel
theorem d_M_gather_123 : decode prog_14_method_69_code 123 = .ok (.aload_n 0, 1) := by decide +kernel
theorem d_M_gather_124 : decode prog_14_method_69_code 124 = .ok (.getfield 114, 3) := by decide +kernel
theorem d_M_gather_127 : decode prog_14_method_69_code 127 = .ok (.iload 7, 2) := by decide +kernel
theorem d_M_gather_129 : decode prog_14_method_69_code 129 = .ok (.laload, 1) := by decide +kernel
theorem d_M_gather_130 : decode prog_14_method_69_code 130 = .ok (.lcmp, 1) := by decide +kernel
theorem d_M_gather_131 : decode prog_14_method_69_code 131 = .ok (.ifCond .ne 19, 3) := by decide +kernel
theorem d_M_gather_150 : decode prog_14_method_69_code 150 = .ok (.iconst 0, 1) := by decide +kernel
theorem d_M_gather_134 : decode prog_14_method_69_code 134 = .ok (.iload 8, 2) := by decide +kernel
theorem d_M_gather_136 : decode prog_14_method_69_code 136 = .ok (.aload_n 0, 1) := by decide +kernel
theorem d_M_gather_137 : decode prog_14_method_69_code 137 = .ok (.getfield 117, 3) := by decide +kernel
theorem d_M_gather_140 : decode prog_14_method_69_code 140 = .ok (.iload 7, 2) := by decide +kernel
theorem d_M_gather_142 : decode prog_14_method_69_code 142 = .ok (.iaload, 1) := by decide +kernel
theorem d_M_gather_143 : decode prog_14_method_69_code 143 = .ok (.if_icmp .ge 7, 3) := by decide +kernel
theorem d_M_gather_53 : decode prog_14_method_69_code 53 = .ok (.iload 13, 2) := by decide +kernel
theorem d_M_gather_55 : decode prog_14_method_69_code 55 = .ok (.ifCond .eq 41, 3) := by decide +kernel
theorem d_M_gather_96 : decode prog_14_method_69_code 96 = .ok (.iconst 1, 1) := by decide +kernel
theorem d_M_gather_97 : decode prog_14_method_69_code 97 = .ok (.goto 4, 3) := by decide +kernel
theorem d_M_gather_58 : decode prog_14_method_69_code 58 = .ok (.lload 11, 2) := by decide +kernel
theorem d_M_gather_60 : decode prog_14_method_69_code 60 = .ok (.aload_n 0, 1) := by decide +kernel
theorem d_M_gather_61 : decode prog_14_method_69_code 61 = .ok (.getfield 114, 3) := by decide +kernel
theorem d_M_gather_64 : decode prog_14_method_69_code 64 = .ok (.iload 7, 2) := by decide +kernel
theorem d_M_gather_66 : decode prog_14_method_69_code 66 = .ok (.laload, 1) := by decide +kernel
theorem d_M_gather_67 : decode prog_14_method_69_code 67 = .ok (.lcmp, 1) := by decide +kernel
theorem d_M_gather_68 : decode prog_14_method_69_code 68 = .ok (.ifCond .lt 28, 3) := by decide +kernel
theorem d_M_gather_71 : decode prog_14_method_69_code 71 = .ok (.lload 11, 2) := by decide +kernel
theorem d_M_gather_73 : decode prog_14_method_69_code 73 = .ok (.aload_n 0, 1) := by decide +kernel
theorem d_M_gather_74 : decode prog_14_method_69_code 74 = .ok (.getfield 114, 3) := by decide +kernel
theorem d_M_gather_77 : decode prog_14_method_69_code 77 = .ok (.iload 7, 2) := by decide +kernel
theorem d_M_gather_79 : decode prog_14_method_69_code 79 = .ok (.laload, 1) := by decide +kernel
theorem d_M_gather_80 : decode prog_14_method_69_code 80 = .ok (.lcmp, 1) := by decide +kernel
theorem d_M_gather_81 : decode prog_14_method_69_code 81 = .ok (.ifCond .ne 19, 3) := by decide +kernel
theorem d_M_gather_100 : decode prog_14_method_69_code 100 = .ok (.iconst 0, 1) := by decide +kernel
theorem d_M_gather_84 : decode prog_14_method_69_code 84 = .ok (.iload 8, 2) := by decide +kernel
theorem d_M_gather_86 : decode prog_14_method_69_code 86 = .ok (.aload_n 0, 1) := by decide +kernel
theorem d_M_gather_87 : decode prog_14_method_69_code 87 = .ok (.getfield 117, 3) := by decide +kernel
theorem d_M_gather_90 : decode prog_14_method_69_code 90 = .ok (.iload 7, 2) := by decide +kernel
theorem d_M_gather_92 : decode prog_14_method_69_code 92 = .ok (.iaload, 1) := by decide +kernel
theorem d_M_gather_93 : decode prog_14_method_69_code 93 = .ok (.if_icmp .ge 7, 3) := by decide +kernel
set_option maxHeartbeats 4000000 in
set_option maxRecDepth 100000 in
theorem k_gather_0 (l : Launch) (D : va_G) (dA : Nat → ClassId) (sz : Nat) (h : Nat) (ad : Nat → Nat) (x : MS) (t : Nat) (q : Nat) (r : Nat) (w : Nat) (h1 : t < 20) (h2 : r < 256) (h3 : w < 64) (h4 : q < 12000) (h5 : x.pointSeries q < 256) (h6 : x.keySeries ((r * 64) + w) < 256) : Met l ⟨"SeriesVaultModel", "gather", "(IIIII)V"⟩ [Cond.code ⟨"SeriesVaultModel", "gather", "(IIIII)V"⟩ prog_14_method_69_code 17 none] { frames := 2, cells := 0, slots := 0, locals := 22 } (pC D dA [.ref h, .int (nI t), .int 0, .int (nI q), .int (nI r), .int (nI w)] (MW dA h ad x) sz) (va_Qv (fun (u9 : Unit) => True) (fun (u9 : Unit) t9 => bW D (va_A (MW dA h ad x) sz) (MW dA h ad (MS.s_isCell (MS.s_cells x (va_up x.cells ((t * 256 + r) * 64 + w) (x.cells ((t * 256 + r) * 64 + w) + x.pointValues q))) (va_up x.isCell ((t * 256 + r) * 64 + w) true))) t9) (va_A (MW dA h ad x) sz)) 0 0 (va_A (MW dA h ad x) sz) := by
  refine mkC (y := ⟨"SeriesVaultModel", "gather", "(IIIII)V"⟩) (cc := prog_14_method_69_code) (maxL := 17) (av := [.ref h, .int (nI t), .int 0, .int (nI q), .int (nI r), .int (nI w)]) (ws := MW dA h ad x) (sz := sz) (Qc := fun A => va_Qv (fun (u9 : Unit) => True) (fun (u9 : Unit) t9 => bW D A (MW dA h ad (MS.s_isCell (MS.s_cells x (va_up x.cells ((t * 256 + r) * 64 + w) (x.cells ((t * 256 + r) * 64 + w) + x.pointValues q))) (va_up x.isCell ((t * 256 + r) * 64 + w) true))) t9) A) (by decide) (Nat.le_of_ble_eq_true rfl) ?_
  intro A p e s m below meth c ls hsz hB
  obtain ⟨hx, hb, hr, hml, hown, hin, hlk, hE, hK, hP, hD, hS, hA, hN, hl⟩ := hB
  have hown : s.vm.findClass "SeriesVaultModel" = some m.cls := hown
  have hl : lv_has ls 17 [(0, .ref h), (1, .int (nI t)), (2, .int 0), (3, .int (nI q)), (4, .int (nI r)), (5, .int (nI w))] := hl
  obtain ⟨H, hH⟩ : ∃ z, z = s.heap := ⟨_, rfl⟩
  have hP : va_P D vwCl (MW dA h ad x) H := by rw [hH]; exact hP
  have hS : va_S A s.heap H [] := by rw [hH]; exact hS
  rw [← hH]
  refine lv_iload_n hx hb d_M_gather_0 rfl (lv_at hl 1 rfl) ?_
  refine lv_iload hx hb d_M_gather_1 (lv_at hl 4 rfl) ?_
  refine lv_iload hx hb d_M_gather_3 (lv_at hl 5 rfl) ?_
  have hPc := hP.sub (ws' := []) [] rfl
  have hDc := hD.sub (ws' := []) [] (by decide) rfl
  refine jnI (rnS (As := [.int (nI t), .int (nI r), .int (nI w)]) (rest := []) hx hb hml hown hE hK (hN _ _ hS) hPc hDc (k_cellAt l D dA H.size t r w) w971 w970 w972 w328 rfl rfl ⟨⟨by decide, by decide⟩, rfl⟩ ⟨(Nat.le_of_ble_eq_true rfl), (Nat.le_of_ble_eq_true rfl)⟩ rfl hl.1 rfl (Nat.le_of_ble_eq_true rfl) d_M_gather_5 ⟨(Nat.le_of_ble_eq_true rfl), (Nat.le_of_ble_eq_true rfl)⟩) hP hD hS hA [] [0, 1, 2, 3, 4, 5, 6, 7, 8, 9, 10, 11, 12, 13, 14, 15, 16, 17, 18, 19, 20, 21, 22, 23, 24, 25, 26, 27, 28, 29, 30, 31, 32, 33, 34, 35, 36, 37, 38] (wr := MW dA h ad x) rfl rfl (by decide) (by decide) (fun r1 u9 H locs hp9 hP hD hS => ?_)
  have hP : va_P D vwCl (MW dA h ad x) H := hP
  have hD : va_D A (MW dA h ad x) := hD
  replace hp9 : nI ((t * 256 + r) * 64 + w) = r1 := Eq.symm hp9
  subst hp9
  refine lv_istore hx hb d_M_gather_8 hl (by decide) rfl (fun ls hl => ?_)
  have hl : lv_has ls 17 [(6, .int (nI ((t * 256 + r) * 64 + w))), (0, .ref h), (1, .int (nI t)), (2, .int 0), (3, .int (nI q)), (4, .int (nI r)), (5, .int (nI w))] := hl
  refine lv_iload hx hb d_M_gather_10 (lv_at hl 5 rfl) ?_
  refine lv_bipush (v := 64) hx hb d_M_gather_12 (by decide) ?_
  refine lv_imul hx hb d_M_gather_14 (tpi (y := nI (r * 64)) (pk_mul (r) (64)) ?_)
  refine lv_iload hx hb d_M_gather_15 (lv_at hl 6 rfl) ?_
  refine lv_iadd hx hb d_M_gather_17 (tpi (y := nI ((r * 64) + w)) (nI_add (r * 64) (w)) ?_)
  refine lv_istore hx hb d_M_gather_18 hl (by decide) rfl (fun ls hl => ?_)
  have hl : lv_has ls 17 [(7, .int (nI ((r * 64) + w))), (6, .int (nI ((t * 256 + r) * 64 + w))), (0, .ref h), (1, .int (nI t)), (2, .int 0), (3, .int (nI q)), (4, .int (nI r)), (5, .int (nI w))] := hl
  refine lv_aload_n hx hb d_M_gather_20 rfl (lv_at hl 2 rfl) ?_
  refine gF (v := .ref (ad 17)) hx hb hown hE hK hP 0 rfl rfl layM 17 (by decide) w503 rfl d_M_gather_21 ?_
  refine lv_iload_n hx hb d_M_gather_24 rfl (lv_at hl 5 rfl) ?_
  refine nild (f := (fun z9 => nI (x.pointSeries z9))) hx hb hK hP 6 1 rfl rfl (q) (by omega) (by decide) d_M_gather_25 ?_
  refine lv_istore hx hb d_M_gather_26 hl (by decide) rfl (fun ls hl => ?_)
  have hl : lv_has ls 17 [(8, .int (nI (x.pointSeries q))), (7, .int (nI ((r * 64) + w))), (6, .int (nI ((t * 256 + r) * 64 + w))), (0, .ref h), (1, .int (nI t)), (2, .int 0), (3, .int (nI q)), (4, .int (nI r)), (5, .int (nI w))] := hl
  refine lv_aload_n hx hb d_M_gather_28 rfl (lv_at hl 3 rfl) ?_
  refine gF (v := .ref (ad 19)) hx hb hown hE hK hP 0 rfl rfl layM 19 (by decide) w505 rfl d_M_gather_29 ?_
  refine lv_iload_n hx hb d_M_gather_32 rfl (lv_at hl 6 rfl) ?_
  refine nlld (f := x.pointValues) hx hb hK hP 8 2 rfl rfl (q) (by omega) (by decide) d_M_gather_33 ?_
  refine lv_lstore hx hb d_M_gather_34 hl (by decide) rfl (fun ls hl => ?_)
  have hl : lv_has ls 17 [(9, .long (x.pointValues q)), (8, .int (nI (x.pointSeries q))), (7, .int (nI ((r * 64) + w))), (6, .int (nI ((t * 256 + r) * 64 + w))), (0, .ref h), (1, .int (nI t)), (2, .int 0), (3, .int (nI q)), (4, .int (nI r)), (5, .int (nI w))] := hl
  refine lv_aload_n hx hb d_M_gather_36 rfl (lv_at hl 4 rfl) ?_
  refine gF (v := .ref (ad 18)) hx hb hown hE hK hP 0 rfl rfl layM 18 (by decide) w504 rfl d_M_gather_37 ?_
  refine lv_iload_n hx hb d_M_gather_40 rfl (lv_at hl 7 rfl) ?_
  refine nlld (f := x.pointTimes) hx hb hK hP 7 2 rfl rfl (q) (by omega) (by decide) d_M_gather_41 ?_
  refine lv_lstore hx hb d_M_gather_42 hl (by decide) rfl (fun ls hl => ?_)
  have hl : lv_has ls 17 [(11, .long (x.pointTimes q)), (9, .long (x.pointValues q)), (8, .int (nI (x.pointSeries q))), (7, .int (nI ((r * 64) + w))), (6, .int (nI ((t * 256 + r) * 64 + w))), (0, .ref h), (1, .int (nI t)), (2, .int 0), (3, .int (nI q)), (4, .int (nI r)), (5, .int (nI w))] := hl
  refine lv_aload_n hx hb d_M_gather_44 rfl (lv_at hl 5 rfl) ?_
  refine gF (v := .ref (ad 54)) hx hb hown hE hK hP 0 rfl rfl layM 54 (by decide) w526 rfl d_M_gather_45 ?_
  refine lv_iload hx hb d_M_gather_48 (lv_at hl 4 rfl) ?_
  refine nzld (f := (fun z9 => bI (x.isCell z9))) hx hb hK hP 27 3 rfl rfl ((t * 256 + r) * 64 + w) (by omega) (by decide) d_M_gather_50 ?_
  refine lv_istore hx hb d_M_gather_51 hl (by decide) rfl (fun ls hl => ?_)
  have hl : lv_has ls 17 [(13, .int (bI (x.isCell ((t * 256 + r) * 64 + w)))), (11, .long (x.pointTimes q)), (9, .long (x.pointValues q)), (8, .int (nI (x.pointSeries q))), (7, .int (nI ((r * 64) + w))), (6, .int (nI ((t * 256 + r) * 64 + w))), (0, .ref h), (1, .int (nI t)), (2, .int 0), (3, .int (nI q)), (4, .int (nI r)), (5, .int (nI w))] := hl
  have J101 : ∀ (so : Bool) (j1 : x.gSo ((t * 256 + r) * 64 + w) ((r * 64) + w) (x.pointSeries q) (x.pointTimes q) = so), ∀ (H : Heap) (locs : List Loc) (ls : Array Slot) (hP : va_P D vwCl (MW dA h ad x) H) (hD : va_D A (MW dA h ad x)) (hS : va_S A s.heap H locs) (hl : lv_has ls 17 [(2, .int 0), (1, .int (nI t)), (3, .int (nI q)), (4, .int (nI r)), (5, .int (nI w)), (0, .ref h), (6, .int (nI ((t * 256 + r) * 64 + w))), (7, .int (nI ((r * 64) + w))), (8, .int (nI (x.pointSeries q))), (9, .long (x.pointValues q)), (11, .long (x.pointTimes q)), (13, .int (bI (x.isCell ((t * 256 + r) * 64 + w))))]), W p l e ({ frames := 2, cells := 0, slots := 0, locals := 22 } : Room) s m ([.ref h, .int (nI t), .int 0, .int (nI q), .int (nI r), .int (nI w)] : List Value).toArray below meth c H locs 0 0 (MQ below (va_Qv (fun (u9 : Unit) => True) (fun (u9 : Unit) t9 => bW D A (MW dA h ad (MS.s_isCell (MS.s_cells x (va_up x.cells ((t * 256 + r) * 64 + w) (x.cells ((t * 256 + r) * 64 + w) + x.pointValues q))) (va_up x.isCell ((t * 256 + r) * 64 + w) true))) t9) A) ([.ref h, .int (nI t), .int 0, .int (nI q), .int (nI r), .int (nI w)] : List Value).toArray s 0 0 A) (F0 m 101 ls [.int (bI so)]) := by
    intro so j1 H locs ls hP hD hS hl
    refine lv_istore hx hb d_M_gather_101 hl (by decide) rfl (fun ls hl => ?_)
    have hl : lv_has ls 17 [(14, .int (bI so)), (2, .int 0), (1, .int (nI t)), (3, .int (nI q)), (4, .int (nI r)), (5, .int (nI w)), (0, .ref h), (6, .int (nI ((t * 256 + r) * 64 + w))), (7, .int (nI ((r * 64) + w))), (8, .int (nI (x.pointSeries q))), (9, .long (x.pointValues q)), (11, .long (x.pointTimes q)), (13, .int (bI (x.isCell ((t * 256 + r) * 64 + w))))] := hl
    have J151 : ∀ (la : Bool) (j2 : x.gLa ((t * 256 + r) * 64 + w) ((r * 64) + w) (x.pointSeries q) (x.pointTimes q) = la), ∀ (H : Heap) (locs : List Loc) (ls : Array Slot) (hP : va_P D vwCl (MW dA h ad x) H) (hD : va_D A (MW dA h ad x)) (hS : va_S A s.heap H locs) (hl : lv_has ls 17 [(14, .int (bI so)), (2, .int 0), (1, .int (nI t)), (3, .int (nI q)), (4, .int (nI r)), (5, .int (nI w)), (0, .ref h), (6, .int (nI ((t * 256 + r) * 64 + w))), (7, .int (nI ((r * 64) + w))), (8, .int (nI (x.pointSeries q))), (9, .long (x.pointValues q)), (11, .long (x.pointTimes q)), (13, .int (bI (x.isCell ((t * 256 + r) * 64 + w))))]), W p l e ({ frames := 2, cells := 0, slots := 0, locals := 22 } : Room) s m ([.ref h, .int (nI t), .int 0, .int (nI q), .int (nI r), .int (nI w)] : List Value).toArray below meth c H locs 0 0 (MQ below (va_Qv (fun (u9 : Unit) => True) (fun (u9 : Unit) t9 => bW D A (MW dA h ad (MS.s_isCell (MS.s_cells x (va_up x.cells ((t * 256 + r) * 64 + w) (x.cells ((t * 256 + r) * 64 + w) + x.pointValues q))) (va_up x.isCell ((t * 256 + r) * 64 + w) true))) t9) A) ([.ref h, .int (nI t), .int 0, .int (nI q), .int (nI r), .int (nI w)] : List Value).toArray s 0 0 A) (F0 m 151 ls [.int (bI la)]) := by
      intro la j2 H locs ls hP hD hS hl
      refine lv_istore hx hb d_M_gather_151 hl (by decide) rfl (fun ls hl => ?_)
      have hl : lv_has ls 17 [(15, .int (bI la)), (14, .int (bI so)), (2, .int 0), (1, .int (nI t)), (3, .int (nI q)), (4, .int (nI r)), (5, .int (nI w)), (0, .ref h), (6, .int (nI ((t * 256 + r) * 64 + w))), (7, .int (nI ((r * 64) + w))), (8, .int (nI (x.pointSeries q))), (9, .long (x.pointValues q)), (11, .long (x.pointTimes q)), (13, .int (bI (x.isCell ((t * 256 + r) * 64 + w))))] := hl
      refine lv_iload_n hx hb d_M_gather_153 rfl (lv_at hl 2 rfl) ?_
      refine lv_iconst (v := 4) hx hb d_M_gather_154 (by decide) ?_
      refine lv_icmp_ne hx hb d_M_gather_155 (tgt := 163) rfl (fun _ => ?_) (fun h9 => absurd h9 (by decide))
      refine lv_iload hx hb d_M_gather_163 (lv_at hl 0 rfl) ?_
      refine lv_istore hx hb d_M_gather_165 hl (by decide) rfl (fun ls hl => ?_)
      have hl : lv_has ls 17 [(16, .int (bI la)), (15, .int (bI la)), (14, .int (bI so)), (2, .int 0), (1, .int (nI t)), (3, .int (nI q)), (4, .int (nI r)), (5, .int (nI w)), (0, .ref h), (6, .int (nI ((t * 256 + r) * 64 + w))), (7, .int (nI ((r * 64) + w))), (8, .int (nI (x.pointSeries q))), (9, .long (x.pointValues q)), (11, .long (x.pointTimes q)), (13, .int (bI (x.isCell ((t * 256 + r) * 64 + w))))] := hl
      refine lv_iload_n hx hb d_M_gather_167 rfl (lv_at hl 3 rfl) ?_
      refine lv_if_eq hx hb d_M_gather_168 (tgt := 176) rfl (fun _ => ?_) (fun h9 => absurd (by decide) h9)
      refine lv_aload_n hx hb d_M_gather_176 rfl (lv_at hl 8 rfl) ?_
      refine gF (v := .ref (ad 53)) hx hb hown hE hK hP 0 rfl rfl layM 53 (by decide) w524 rfl d_M_gather_177 ?_
      refine lv_iload hx hb d_M_gather_180 (lv_at hl 9 rfl) ?_
      refine lv_dup2_11 hx hb d_M_gather_182 rfl rfl ?_
      refine nlld (f := x.cells) hx hb hK hP 26 2 rfl rfl ((t * 256 + r) * 64 + w) (by omega) (by decide) d_M_gather_183 ?_
      refine lv_iload_n hx hb d_M_gather_184 rfl (lv_at hl 3 rfl) ?_
      refine lv_if_ne hx hb d_M_gather_185 (tgt := 193) rfl (fun h9 => absurd (by decide) h9) (fun _ => ?_)
      refine lv_lload hx hb d_M_gather_188 (lv_at hl 12 rfl) ?_
      refine lv_goto hx hb d_M_gather_190 (tgt := 194) rfl ?_
      refine lv_ladd hx hb d_M_gather_194 ?_
      refine nlst hx hb hK hP hD hS 26 2 rfl rfl ((t * 256 + r) * 64 + w) (by omega) (by decide) d_M_gather_195 (fun H locs hP hD hS => ?_)
      have hP : va_P D vwCl (MW dA h ad (MS.s_cells x (va_up x.cells ((t * 256 + r) * 64 + w) ((x.cells ((t * 256 + r) * 64 + w)) + (x.pointValues q))))) H := hP
      have hD : va_D A (MW dA h ad (MS.s_cells x (va_up x.cells ((t * 256 + r) * 64 + w) ((x.cells ((t * 256 + r) * 64 + w)) + (x.pointValues q))))) := hD
      refine lv_goto hx hb d_M_gather_196 (tgt := 360) rfl ?_
      refine lv_aload_n hx hb d_M_gather_360 rfl (lv_at hl 8 rfl) ?_
      refine gF (v := .ref (ad 54)) hx hb hown hE hK hP 0 rfl rfl layM 54 (by decide) w526 rfl d_M_gather_361 ?_
      refine lv_iload hx hb d_M_gather_364 (lv_at hl 9 rfl) ?_
      refine lv_iconst (v := 1) hx hb d_M_gather_366 (by decide) ?_
      refine nzstB (v := true) hx hb hK hP hD hS 27 3 rfl rfl ((t * 256 + r) * 64 + w) (by omega) (by decide) d_M_gather_367 (fun H locs hP hD hS => ?_)
      have hP : va_P D vwCl (MW dA h ad (MS.s_isCell (MS.s_cells x (va_up x.cells ((t * 256 + r) * 64 + w) ((x.cells ((t * 256 + r) * 64 + w)) + (x.pointValues q)))) (va_up x.isCell ((t * 256 + r) * 64 + w) true))) H := hP
      have hD : va_D A (MW dA h ad (MS.s_isCell (MS.s_cells x (va_up x.cells ((t * 256 + r) * 64 + w) ((x.cells ((t * 256 + r) * 64 + w)) + (x.pointValues q)))) (va_up x.isCell ((t * 256 + r) * 64 + w) true))) := hD
      have e9 : (MS.s_isCell (MS.s_cells x (va_up x.cells ((t * 256 + r) * 64 + w) ((x.cells ((t * 256 + r) * 64 + w)) + (x.pointValues q)))) (va_up x.isCell ((t * 256 + r) * 64 + w) true) : MS) = MS.s_isCell (MS.s_cells x (va_up x.cells ((t * 256 + r) * 64 + w) (x.cells ((t * 256 + r) * 64 + w) + x.pointValues q))) (va_up x.isCell ((t * 256 + r) * 64 + w) true) := by rw [show (va_up x.cells ((t * 256 + r) * 64 + w) (x.cells ((t * 256 + r) * 64 + w) + x.pointValues q)) = (va_up x.cells ((t * 256 + r) * 64 + w) ((x.cells ((t * 256 + r) * 64 + w)) + (x.pointValues q))) from by simp [*]] <;> rfl
      exact rfV hx hb hr hlk hS () trivial (cvP e9 hP) (cvD e9 hD) (Nat.le_of_ble_eq_true rfl) (Nat.le_of_ble_eq_true rfl) d_M_gather_368
    refine lv_iload hx hb d_M_gather_103 (lv_at hl 12 rfl) ?_
    refine lv_if_eq hx hb d_M_gather_105 (tgt := 146) rfl (fun g3 => ?_) (fun g3 => ?_)
    · have g3 := bI_0 g3
      refine lv_iconst (v := 1) hx hb d_M_gather_146 (by decide) ?_
      refine lv_goto hx hb d_M_gather_147 (tgt := 151) rfl ?_
      exact J151 true (by simp [MS.gLa, *]) H _ ls hP hD hS (lv_sub hl [0, 1, 2, 3, 4, 5, 6, 7, 8, 9, 10, 11, 12] rfl)
    · have g3 := bI_n0 g3
      refine lv_lload hx hb d_M_gather_108 (lv_at hl 11 rfl) ?_
      refine lv_aload_n hx hb d_M_gather_110 rfl (lv_at hl 6 rfl) ?_
      refine gF (v := .ref (ad 62)) hx hb hown hE hK hP 0 rfl rfl layM 62 (by decide) w528 rfl d_M_gather_111 ?_
      refine lv_iload hx hb d_M_gather_114 (lv_at hl 8 rfl) ?_
      refine nlld (f := x.keyTimes) hx hb hK hP 29 2 rfl rfl ((r * 64) + w) (by omega) (by decide) d_M_gather_116 ?_
      refine W.lcmp hx hb d_M_gather_117 ?_
      refine lv_if_gt hx hb d_M_gather_118 (tgt := 146) rfl (fun g4 => ?_) (fun g4 => ?_)
      · have g4 := (lg_cmp_gt _ _).mp g4
        refine lv_iconst (v := 1) hx hb d_M_gather_146 (by decide) ?_
        refine lv_goto hx hb d_M_gather_147 (tgt := 151) rfl ?_
        exact J151 true (by simp [MS.gLa, *]) H _ ls hP hD hS (lv_sub hl [0, 1, 2, 3, 4, 5, 6, 7, 8, 9, 10, 11, 12] rfl)
      · have g4 := mt (lg_cmp_gt _ _).mpr g4
        refine lv_lload hx hb d_M_gather_121 (lv_at hl 11 rfl) ?_
        refine lv_aload_n hx hb d_M_gather_123 rfl (lv_at hl 6 rfl) ?_
        refine gF (v := .ref (ad 62)) hx hb hown hE hK hP 0 rfl rfl layM 62 (by decide) w528 rfl d_M_gather_124 ?_
        refine lv_iload hx hb d_M_gather_127 (lv_at hl 8 rfl) ?_
        refine nlld (f := x.keyTimes) hx hb hK hP 29 2 rfl rfl ((r * 64) + w) (by omega) (by decide) d_M_gather_129 ?_
        refine W.lcmp hx hb d_M_gather_130 ?_
        refine lv_if_ne hx hb d_M_gather_131 (tgt := 150) rfl (fun g5 => ?_) (fun g5 => ?_)
        · have g5 := mt (lg_cmp_eq _ _).mpr g5
          refine lv_iconst (v := 0) hx hb d_M_gather_150 (by decide) ?_
          exact J151 false (by simp [MS.gLa, *]) H _ ls hP hD hS (lv_sub hl [0, 1, 2, 3, 4, 5, 6, 7, 8, 9, 10, 11, 12] rfl)
        · have g5 := (lg_cmp_eq _ _).mp g5
          refine lv_iload hx hb d_M_gather_134 (lv_at hl 9 rfl) ?_
          refine lv_aload_n hx hb d_M_gather_136 rfl (lv_at hl 6 rfl) ?_
          refine gF (v := .ref (ad 63)) hx hb hown hE hK hP 0 rfl rfl layM 63 (by decide) w529 rfl d_M_gather_137 ?_
          refine lv_iload hx hb d_M_gather_140 (lv_at hl 8 rfl) ?_
          refine nild (f := (fun z9 => nI (x.keySeries z9))) hx hb hK hP 30 1 rfl rfl ((r * 64) + w) (by omega) (by decide) d_M_gather_142 ?_
          refine lv_icmp_ge hx hb d_M_gather_143 (tgt := 150) rfl (fun g6 => ?_) (fun g6 => ?_)
          · have g6 := (nI_leI (a := x.keySeries ((r * 64) + w)) (b := x.pointSeries q) (by omega) (by omega)).mp g6
            refine lv_iconst (v := 0) hx hb d_M_gather_150 (by decide) ?_
            exact J151 false (by simp [MS.gLa, *]) H _ ls hP hD hS (lv_sub hl [0, 1, 2, 3, 4, 5, 6, 7, 8, 9, 10, 11, 12] rfl)
          · have g6 := mt (nI_leI (a := x.keySeries ((r * 64) + w)) (b := x.pointSeries q) (by omega) (by omega)).mpr g6
            refine lv_iconst (v := 1) hx hb d_M_gather_146 (by decide) ?_
            refine lv_goto hx hb d_M_gather_147 (tgt := 151) rfl ?_
            exact J151 true (by simp [MS.gLa, *]) H _ ls hP hD hS (lv_sub hl [0, 1, 2, 3, 4, 5, 6, 7, 8, 9, 10, 11, 12] rfl)
  refine lv_iload hx hb d_M_gather_53 (lv_at hl 0 rfl) ?_
  refine lv_if_eq hx hb d_M_gather_55 (tgt := 96) rfl (fun g7 => ?_) (fun g7 => ?_)
  · have g7 := bI_0 g7
    refine lv_iconst (v := 1) hx hb d_M_gather_96 (by decide) ?_
    refine lv_goto hx hb d_M_gather_97 (tgt := 101) rfl ?_
    exact J101 true (by simp [MS.gSo, *]) H _ ls hP hD hS (lv_sub hl [8, 7, 9, 10, 11, 6, 5, 4, 3, 2, 1, 0] rfl)
  · have g7 := bI_n0 g7
    refine lv_lload hx hb d_M_gather_58 (lv_at hl 1 rfl) ?_
    refine lv_aload_n hx hb d_M_gather_60 rfl (lv_at hl 6 rfl) ?_
    refine gF (v := .ref (ad 62)) hx hb hown hE hK hP 0 rfl rfl layM 62 (by decide) w528 rfl d_M_gather_61 ?_
    refine lv_iload hx hb d_M_gather_64 (lv_at hl 4 rfl) ?_
    refine nlld (f := x.keyTimes) hx hb hK hP 29 2 rfl rfl ((r * 64) + w) (by omega) (by decide) d_M_gather_66 ?_
    refine W.lcmp hx hb d_M_gather_67 ?_
    refine lv_if_lt hx hb d_M_gather_68 (tgt := 96) rfl (fun g8 => ?_) (fun g8 => ?_)
    · have g8 := (lg_cmp_lt _ _).mp g8
      refine lv_iconst (v := 1) hx hb d_M_gather_96 (by decide) ?_
      refine lv_goto hx hb d_M_gather_97 (tgt := 101) rfl ?_
      exact J101 true (by simp [MS.gSo, *]) H _ ls hP hD hS (lv_sub hl [8, 7, 9, 10, 11, 6, 5, 4, 3, 2, 1, 0] rfl)
    · have g8 := mt (lg_cmp_lt _ _).mpr g8
      refine lv_lload hx hb d_M_gather_71 (lv_at hl 1 rfl) ?_
      refine lv_aload_n hx hb d_M_gather_73 rfl (lv_at hl 6 rfl) ?_
      refine gF (v := .ref (ad 62)) hx hb hown hE hK hP 0 rfl rfl layM 62 (by decide) w528 rfl d_M_gather_74 ?_
      refine lv_iload hx hb d_M_gather_77 (lv_at hl 4 rfl) ?_
      refine nlld (f := x.keyTimes) hx hb hK hP 29 2 rfl rfl ((r * 64) + w) (by omega) (by decide) d_M_gather_79 ?_
      refine W.lcmp hx hb d_M_gather_80 ?_
      refine lv_if_ne hx hb d_M_gather_81 (tgt := 100) rfl (fun g9 => ?_) (fun g9 => ?_)
      · have g9 := mt (lg_cmp_eq _ _).mpr g9
        refine lv_iconst (v := 0) hx hb d_M_gather_100 (by decide) ?_
        exact J101 false (by simp [MS.gSo, *]) H _ ls hP hD hS (lv_sub hl [8, 7, 9, 10, 11, 6, 5, 4, 3, 2, 1, 0] rfl)
      · have g9 := (lg_cmp_eq _ _).mp g9
        refine lv_iload hx hb d_M_gather_84 (lv_at hl 3 rfl) ?_
        refine lv_aload_n hx hb d_M_gather_86 rfl (lv_at hl 6 rfl) ?_
        refine gF (v := .ref (ad 63)) hx hb hown hE hK hP 0 rfl rfl layM 63 (by decide) w529 rfl d_M_gather_87 ?_
        refine lv_iload hx hb d_M_gather_90 (lv_at hl 4 rfl) ?_
        refine nild (f := (fun z9 => nI (x.keySeries z9))) hx hb hK hP 30 1 rfl rfl ((r * 64) + w) (by omega) (by decide) d_M_gather_92 ?_
        refine lv_icmp_ge hx hb d_M_gather_93 (tgt := 100) rfl (fun g10 => ?_) (fun g10 => ?_)
        · have g10 := (nI_leI (a := x.keySeries ((r * 64) + w)) (b := x.pointSeries q) (by omega) (by omega)).mp g10
          refine lv_iconst (v := 0) hx hb d_M_gather_100 (by decide) ?_
          exact J101 false (by simp [MS.gSo, *]) H _ ls hP hD hS (lv_sub hl [8, 7, 9, 10, 11, 6, 5, 4, 3, 2, 1, 0] rfl)
        · have g10 := mt (nI_leI (a := x.keySeries ((r * 64) + w)) (b := x.pointSeries q) (by omega) (by omega)).mpr g10
          refine lv_iconst (v := 1) hx hb d_M_gather_96 (by decide) ?_
          refine lv_goto hx hb d_M_gather_97 (tgt := 101) rfl ?_
          exact J101 true (by simp [MS.gSo, *]) H _ ls hP hD hS (lv_sub hl [8, 7, 9, 10, 11, 6, 5, 4, 3, 2, 1, 0] rfl)
theorem d_M_gather_171 : decode prog_14_method_69_code 171 = .ok (.iload_n 2, 1) := by decide +kernel
theorem d_M_gather_172 : decode prog_14_method_69_code 172 = .ok (.iconst 1, 1) := by decide +kernel
theorem d_M_gather_173 : decode prog_14_method_69_code 173 = .ok (.if_icmp .ne 26, 3) := by decide +kernel
theorem d_M_gather_193 : decode prog_14_method_69_code 193 = .ok (.lconst 1, 1) := by decide +kernel
set_option maxHeartbeats 4000000 in
set_option maxRecDepth 100000 in
theorem k_gather_1 (l : Launch) (D : va_G) (dA : Nat → ClassId) (sz : Nat) (h : Nat) (ad : Nat → Nat) (x : MS) (t : Nat) (q : Nat) (r : Nat) (w : Nat) (h1 : t < 20) (h2 : r < 256) (h3 : w < 64) (h4 : q < 12000) (h5 : x.pointSeries q < 256) (h6 : x.keySeries ((r * 64) + w) < 256) : Met l ⟨"SeriesVaultModel", "gather", "(IIIII)V"⟩ [Cond.code ⟨"SeriesVaultModel", "gather", "(IIIII)V"⟩ prog_14_method_69_code 17 none] { frames := 2, cells := 0, slots := 0, locals := 22 } (pC D dA [.ref h, .int (nI t), .int 1, .int (nI q), .int (nI r), .int (nI w)] (MW dA h ad x) sz) (va_Qv (fun (u9 : Unit) => True) (fun (u9 : Unit) t9 => bW D (va_A (MW dA h ad x) sz) (MW dA h ad (MS.s_isCell (MS.s_cells x (va_up x.cells ((t * 256 + r) * 64 + w) (x.cells ((t * 256 + r) * 64 + w) + 1))) (va_up x.isCell ((t * 256 + r) * 64 + w) true))) t9) (va_A (MW dA h ad x) sz)) 0 0 (va_A (MW dA h ad x) sz) := by
  refine mkC (y := ⟨"SeriesVaultModel", "gather", "(IIIII)V"⟩) (cc := prog_14_method_69_code) (maxL := 17) (av := [.ref h, .int (nI t), .int 1, .int (nI q), .int (nI r), .int (nI w)]) (ws := MW dA h ad x) (sz := sz) (Qc := fun A => va_Qv (fun (u9 : Unit) => True) (fun (u9 : Unit) t9 => bW D A (MW dA h ad (MS.s_isCell (MS.s_cells x (va_up x.cells ((t * 256 + r) * 64 + w) (x.cells ((t * 256 + r) * 64 + w) + 1))) (va_up x.isCell ((t * 256 + r) * 64 + w) true))) t9) A) (by decide) (Nat.le_of_ble_eq_true rfl) ?_
  intro A p e s m below meth c ls hsz hB
  obtain ⟨hx, hb, hr, hml, hown, hin, hlk, hE, hK, hP, hD, hS, hA, hN, hl⟩ := hB
  have hown : s.vm.findClass "SeriesVaultModel" = some m.cls := hown
  have hl : lv_has ls 17 [(0, .ref h), (1, .int (nI t)), (2, .int 1), (3, .int (nI q)), (4, .int (nI r)), (5, .int (nI w))] := hl
  obtain ⟨H, hH⟩ : ∃ z, z = s.heap := ⟨_, rfl⟩
  have hP : va_P D vwCl (MW dA h ad x) H := by rw [hH]; exact hP
  have hS : va_S A s.heap H [] := by rw [hH]; exact hS
  rw [← hH]
  refine lv_iload_n hx hb d_M_gather_0 rfl (lv_at hl 1 rfl) ?_
  refine lv_iload hx hb d_M_gather_1 (lv_at hl 4 rfl) ?_
  refine lv_iload hx hb d_M_gather_3 (lv_at hl 5 rfl) ?_
  have hPc := hP.sub (ws' := []) [] rfl
  have hDc := hD.sub (ws' := []) [] (by decide) rfl
  refine jnI (rnS (As := [.int (nI t), .int (nI r), .int (nI w)]) (rest := []) hx hb hml hown hE hK (hN _ _ hS) hPc hDc (k_cellAt l D dA H.size t r w) w971 w970 w972 w328 rfl rfl ⟨⟨by decide, by decide⟩, rfl⟩ ⟨(Nat.le_of_ble_eq_true rfl), (Nat.le_of_ble_eq_true rfl)⟩ rfl hl.1 rfl (Nat.le_of_ble_eq_true rfl) d_M_gather_5 ⟨(Nat.le_of_ble_eq_true rfl), (Nat.le_of_ble_eq_true rfl)⟩) hP hD hS hA [] [0, 1, 2, 3, 4, 5, 6, 7, 8, 9, 10, 11, 12, 13, 14, 15, 16, 17, 18, 19, 20, 21, 22, 23, 24, 25, 26, 27, 28, 29, 30, 31, 32, 33, 34, 35, 36, 37, 38] (wr := MW dA h ad x) rfl rfl (by decide) (by decide) (fun r1 u9 H locs hp9 hP hD hS => ?_)
  have hP : va_P D vwCl (MW dA h ad x) H := hP
  have hD : va_D A (MW dA h ad x) := hD
  replace hp9 : nI ((t * 256 + r) * 64 + w) = r1 := Eq.symm hp9
  subst hp9
  refine lv_istore hx hb d_M_gather_8 hl (by decide) rfl (fun ls hl => ?_)
  have hl : lv_has ls 17 [(6, .int (nI ((t * 256 + r) * 64 + w))), (0, .ref h), (1, .int (nI t)), (2, .int 1), (3, .int (nI q)), (4, .int (nI r)), (5, .int (nI w))] := hl
  refine lv_iload hx hb d_M_gather_10 (lv_at hl 5 rfl) ?_
  refine lv_bipush (v := 64) hx hb d_M_gather_12 (by decide) ?_
  refine lv_imul hx hb d_M_gather_14 (tpi (y := nI (r * 64)) (pk_mul (r) (64)) ?_)
  refine lv_iload hx hb d_M_gather_15 (lv_at hl 6 rfl) ?_
  refine lv_iadd hx hb d_M_gather_17 (tpi (y := nI ((r * 64) + w)) (nI_add (r * 64) (w)) ?_)
  refine lv_istore hx hb d_M_gather_18 hl (by decide) rfl (fun ls hl => ?_)
  have hl : lv_has ls 17 [(7, .int (nI ((r * 64) + w))), (6, .int (nI ((t * 256 + r) * 64 + w))), (0, .ref h), (1, .int (nI t)), (2, .int 1), (3, .int (nI q)), (4, .int (nI r)), (5, .int (nI w))] := hl
  refine lv_aload_n hx hb d_M_gather_20 rfl (lv_at hl 2 rfl) ?_
  refine gF (v := .ref (ad 17)) hx hb hown hE hK hP 0 rfl rfl layM 17 (by decide) w503 rfl d_M_gather_21 ?_
  refine lv_iload_n hx hb d_M_gather_24 rfl (lv_at hl 5 rfl) ?_
  refine nild (f := (fun z9 => nI (x.pointSeries z9))) hx hb hK hP 6 1 rfl rfl (q) (by omega) (by decide) d_M_gather_25 ?_
  refine lv_istore hx hb d_M_gather_26 hl (by decide) rfl (fun ls hl => ?_)
  have hl : lv_has ls 17 [(8, .int (nI (x.pointSeries q))), (7, .int (nI ((r * 64) + w))), (6, .int (nI ((t * 256 + r) * 64 + w))), (0, .ref h), (1, .int (nI t)), (2, .int 1), (3, .int (nI q)), (4, .int (nI r)), (5, .int (nI w))] := hl
  refine lv_aload_n hx hb d_M_gather_28 rfl (lv_at hl 3 rfl) ?_
  refine gF (v := .ref (ad 19)) hx hb hown hE hK hP 0 rfl rfl layM 19 (by decide) w505 rfl d_M_gather_29 ?_
  refine lv_iload_n hx hb d_M_gather_32 rfl (lv_at hl 6 rfl) ?_
  refine nlld (f := x.pointValues) hx hb hK hP 8 2 rfl rfl (q) (by omega) (by decide) d_M_gather_33 ?_
  refine lv_lstore hx hb d_M_gather_34 hl (by decide) rfl (fun ls hl => ?_)
  have hl : lv_has ls 17 [(9, .long (x.pointValues q)), (8, .int (nI (x.pointSeries q))), (7, .int (nI ((r * 64) + w))), (6, .int (nI ((t * 256 + r) * 64 + w))), (0, .ref h), (1, .int (nI t)), (2, .int 1), (3, .int (nI q)), (4, .int (nI r)), (5, .int (nI w))] := hl
  refine lv_aload_n hx hb d_M_gather_36 rfl (lv_at hl 4 rfl) ?_
  refine gF (v := .ref (ad 18)) hx hb hown hE hK hP 0 rfl rfl layM 18 (by decide) w504 rfl d_M_gather_37 ?_
  refine lv_iload_n hx hb d_M_gather_40 rfl (lv_at hl 7 rfl) ?_
  refine nlld (f := x.pointTimes) hx hb hK hP 7 2 rfl rfl (q) (by omega) (by decide) d_M_gather_41 ?_
  refine lv_lstore hx hb d_M_gather_42 hl (by decide) rfl (fun ls hl => ?_)
  have hl : lv_has ls 17 [(11, .long (x.pointTimes q)), (9, .long (x.pointValues q)), (8, .int (nI (x.pointSeries q))), (7, .int (nI ((r * 64) + w))), (6, .int (nI ((t * 256 + r) * 64 + w))), (0, .ref h), (1, .int (nI t)), (2, .int 1), (3, .int (nI q)), (4, .int (nI r)), (5, .int (nI w))] := hl
  refine lv_aload_n hx hb d_M_gather_44 rfl (lv_at hl 5 rfl) ?_
  refine gF (v := .ref (ad 54)) hx hb hown hE hK hP 0 rfl rfl layM 54 (by decide) w526 rfl d_M_gather_45 ?_
  refine lv_iload hx hb d_M_gather_48 (lv_at hl 4 rfl) ?_
  refine nzld (f := (fun z9 => bI (x.isCell z9))) hx hb hK hP 27 3 rfl rfl ((t * 256 + r) * 64 + w) (by omega) (by decide) d_M_gather_50 ?_
  refine lv_istore hx hb d_M_gather_51 hl (by decide) rfl (fun ls hl => ?_)
  have hl : lv_has ls 17 [(13, .int (bI (x.isCell ((t * 256 + r) * 64 + w)))), (11, .long (x.pointTimes q)), (9, .long (x.pointValues q)), (8, .int (nI (x.pointSeries q))), (7, .int (nI ((r * 64) + w))), (6, .int (nI ((t * 256 + r) * 64 + w))), (0, .ref h), (1, .int (nI t)), (2, .int 1), (3, .int (nI q)), (4, .int (nI r)), (5, .int (nI w))] := hl
  have J101 : ∀ (so : Bool) (j1 : x.gSo ((t * 256 + r) * 64 + w) ((r * 64) + w) (x.pointSeries q) (x.pointTimes q) = so), ∀ (H : Heap) (locs : List Loc) (ls : Array Slot) (hP : va_P D vwCl (MW dA h ad x) H) (hD : va_D A (MW dA h ad x)) (hS : va_S A s.heap H locs) (hl : lv_has ls 17 [(2, .int 1), (1, .int (nI t)), (3, .int (nI q)), (4, .int (nI r)), (5, .int (nI w)), (0, .ref h), (6, .int (nI ((t * 256 + r) * 64 + w))), (7, .int (nI ((r * 64) + w))), (8, .int (nI (x.pointSeries q))), (9, .long (x.pointValues q)), (11, .long (x.pointTimes q)), (13, .int (bI (x.isCell ((t * 256 + r) * 64 + w))))]), W p l e ({ frames := 2, cells := 0, slots := 0, locals := 22 } : Room) s m ([.ref h, .int (nI t), .int 1, .int (nI q), .int (nI r), .int (nI w)] : List Value).toArray below meth c H locs 0 0 (MQ below (va_Qv (fun (u9 : Unit) => True) (fun (u9 : Unit) t9 => bW D A (MW dA h ad (MS.s_isCell (MS.s_cells x (va_up x.cells ((t * 256 + r) * 64 + w) (x.cells ((t * 256 + r) * 64 + w) + 1))) (va_up x.isCell ((t * 256 + r) * 64 + w) true))) t9) A) ([.ref h, .int (nI t), .int 1, .int (nI q), .int (nI r), .int (nI w)] : List Value).toArray s 0 0 A) (F0 m 101 ls [.int (bI so)]) := by
    intro so j1 H locs ls hP hD hS hl
    refine lv_istore hx hb d_M_gather_101 hl (by decide) rfl (fun ls hl => ?_)
    have hl : lv_has ls 17 [(14, .int (bI so)), (2, .int 1), (1, .int (nI t)), (3, .int (nI q)), (4, .int (nI r)), (5, .int (nI w)), (0, .ref h), (6, .int (nI ((t * 256 + r) * 64 + w))), (7, .int (nI ((r * 64) + w))), (8, .int (nI (x.pointSeries q))), (9, .long (x.pointValues q)), (11, .long (x.pointTimes q)), (13, .int (bI (x.isCell ((t * 256 + r) * 64 + w))))] := hl
    have J151 : ∀ (la : Bool) (j2 : x.gLa ((t * 256 + r) * 64 + w) ((r * 64) + w) (x.pointSeries q) (x.pointTimes q) = la), ∀ (H : Heap) (locs : List Loc) (ls : Array Slot) (hP : va_P D vwCl (MW dA h ad x) H) (hD : va_D A (MW dA h ad x)) (hS : va_S A s.heap H locs) (hl : lv_has ls 17 [(14, .int (bI so)), (2, .int 1), (1, .int (nI t)), (3, .int (nI q)), (4, .int (nI r)), (5, .int (nI w)), (0, .ref h), (6, .int (nI ((t * 256 + r) * 64 + w))), (7, .int (nI ((r * 64) + w))), (8, .int (nI (x.pointSeries q))), (9, .long (x.pointValues q)), (11, .long (x.pointTimes q)), (13, .int (bI (x.isCell ((t * 256 + r) * 64 + w))))]), W p l e ({ frames := 2, cells := 0, slots := 0, locals := 22 } : Room) s m ([.ref h, .int (nI t), .int 1, .int (nI q), .int (nI r), .int (nI w)] : List Value).toArray below meth c H locs 0 0 (MQ below (va_Qv (fun (u9 : Unit) => True) (fun (u9 : Unit) t9 => bW D A (MW dA h ad (MS.s_isCell (MS.s_cells x (va_up x.cells ((t * 256 + r) * 64 + w) (x.cells ((t * 256 + r) * 64 + w) + 1))) (va_up x.isCell ((t * 256 + r) * 64 + w) true))) t9) A) ([.ref h, .int (nI t), .int 1, .int (nI q), .int (nI r), .int (nI w)] : List Value).toArray s 0 0 A) (F0 m 151 ls [.int (bI la)]) := by
      intro la j2 H locs ls hP hD hS hl
      refine lv_istore hx hb d_M_gather_151 hl (by decide) rfl (fun ls hl => ?_)
      have hl : lv_has ls 17 [(15, .int (bI la)), (14, .int (bI so)), (2, .int 1), (1, .int (nI t)), (3, .int (nI q)), (4, .int (nI r)), (5, .int (nI w)), (0, .ref h), (6, .int (nI ((t * 256 + r) * 64 + w))), (7, .int (nI ((r * 64) + w))), (8, .int (nI (x.pointSeries q))), (9, .long (x.pointValues q)), (11, .long (x.pointTimes q)), (13, .int (bI (x.isCell ((t * 256 + r) * 64 + w))))] := hl
      refine lv_iload_n hx hb d_M_gather_153 rfl (lv_at hl 2 rfl) ?_
      refine lv_iconst (v := 4) hx hb d_M_gather_154 (by decide) ?_
      refine lv_icmp_ne hx hb d_M_gather_155 (tgt := 163) rfl (fun _ => ?_) (fun h9 => absurd h9 (by decide))
      refine lv_iload hx hb d_M_gather_163 (lv_at hl 0 rfl) ?_
      refine lv_istore hx hb d_M_gather_165 hl (by decide) rfl (fun ls hl => ?_)
      have hl : lv_has ls 17 [(16, .int (bI la)), (15, .int (bI la)), (14, .int (bI so)), (2, .int 1), (1, .int (nI t)), (3, .int (nI q)), (4, .int (nI r)), (5, .int (nI w)), (0, .ref h), (6, .int (nI ((t * 256 + r) * 64 + w))), (7, .int (nI ((r * 64) + w))), (8, .int (nI (x.pointSeries q))), (9, .long (x.pointValues q)), (11, .long (x.pointTimes q)), (13, .int (bI (x.isCell ((t * 256 + r) * 64 + w))))] := hl
      refine lv_iload_n hx hb d_M_gather_167 rfl (lv_at hl 3 rfl) ?_
      refine lv_if_eq hx hb d_M_gather_168 (tgt := 176) rfl (fun h9 => absurd h9 (by decide)) (fun _ => ?_)
      refine lv_iload_n hx hb d_M_gather_171 rfl (lv_at hl 3 rfl) ?_
      refine lv_iconst (v := 1) hx hb d_M_gather_172 (by decide) ?_
      refine lv_icmp_ne hx hb d_M_gather_173 (tgt := 199) rfl (fun h9 => absurd (by decide) h9) (fun _ => ?_)
      refine lv_aload_n hx hb d_M_gather_176 rfl (lv_at hl 8 rfl) ?_
      refine gF (v := .ref (ad 53)) hx hb hown hE hK hP 0 rfl rfl layM 53 (by decide) w524 rfl d_M_gather_177 ?_
      refine lv_iload hx hb d_M_gather_180 (lv_at hl 9 rfl) ?_
      refine lv_dup2_11 hx hb d_M_gather_182 rfl rfl ?_
      refine nlld (f := x.cells) hx hb hK hP 26 2 rfl rfl ((t * 256 + r) * 64 + w) (by omega) (by decide) d_M_gather_183 ?_
      refine lv_iload_n hx hb d_M_gather_184 rfl (lv_at hl 3 rfl) ?_
      refine lv_if_ne hx hb d_M_gather_185 (tgt := 193) rfl (fun _ => ?_) (fun h9 => absurd h9 (by decide))
      refine lv_lconst (v := 1) hx hb d_M_gather_193 (by decide) ?_
      refine lv_ladd hx hb d_M_gather_194 ?_
      refine nlst hx hb hK hP hD hS 26 2 rfl rfl ((t * 256 + r) * 64 + w) (by omega) (by decide) d_M_gather_195 (fun H locs hP hD hS => ?_)
      have hP : va_P D vwCl (MW dA h ad (MS.s_cells x (va_up x.cells ((t * 256 + r) * 64 + w) ((x.cells ((t * 256 + r) * 64 + w)) + 1)))) H := hP
      have hD : va_D A (MW dA h ad (MS.s_cells x (va_up x.cells ((t * 256 + r) * 64 + w) ((x.cells ((t * 256 + r) * 64 + w)) + 1)))) := hD
      refine lv_goto hx hb d_M_gather_196 (tgt := 360) rfl ?_
      refine lv_aload_n hx hb d_M_gather_360 rfl (lv_at hl 8 rfl) ?_
      refine gF (v := .ref (ad 54)) hx hb hown hE hK hP 0 rfl rfl layM 54 (by decide) w526 rfl d_M_gather_361 ?_
      refine lv_iload hx hb d_M_gather_364 (lv_at hl 9 rfl) ?_
      refine lv_iconst (v := 1) hx hb d_M_gather_366 (by decide) ?_
      refine nzstB (v := true) hx hb hK hP hD hS 27 3 rfl rfl ((t * 256 + r) * 64 + w) (by omega) (by decide) d_M_gather_367 (fun H locs hP hD hS => ?_)
      have hP : va_P D vwCl (MW dA h ad (MS.s_isCell (MS.s_cells x (va_up x.cells ((t * 256 + r) * 64 + w) ((x.cells ((t * 256 + r) * 64 + w)) + 1))) (va_up x.isCell ((t * 256 + r) * 64 + w) true))) H := hP
      have hD : va_D A (MW dA h ad (MS.s_isCell (MS.s_cells x (va_up x.cells ((t * 256 + r) * 64 + w) ((x.cells ((t * 256 + r) * 64 + w)) + 1))) (va_up x.isCell ((t * 256 + r) * 64 + w) true))) := hD
      have e9 : (MS.s_isCell (MS.s_cells x (va_up x.cells ((t * 256 + r) * 64 + w) ((x.cells ((t * 256 + r) * 64 + w)) + 1))) (va_up x.isCell ((t * 256 + r) * 64 + w) true) : MS) = MS.s_isCell (MS.s_cells x (va_up x.cells ((t * 256 + r) * 64 + w) (x.cells ((t * 256 + r) * 64 + w) + 1))) (va_up x.isCell ((t * 256 + r) * 64 + w) true) := by rw [show (va_up x.cells ((t * 256 + r) * 64 + w) (x.cells ((t * 256 + r) * 64 + w) + 1)) = (va_up x.cells ((t * 256 + r) * 64 + w) ((x.cells ((t * 256 + r) * 64 + w)) + 1)) from by simp [*]] <;> rfl
      exact rfV hx hb hr hlk hS () trivial (cvP e9 hP) (cvD e9 hD) (Nat.le_of_ble_eq_true rfl) (Nat.le_of_ble_eq_true rfl) d_M_gather_368
    refine lv_iload hx hb d_M_gather_103 (lv_at hl 12 rfl) ?_
    refine lv_if_eq hx hb d_M_gather_105 (tgt := 146) rfl (fun g3 => ?_) (fun g3 => ?_)
    · have g3 := bI_0 g3
      refine lv_iconst (v := 1) hx hb d_M_gather_146 (by decide) ?_
      refine lv_goto hx hb d_M_gather_147 (tgt := 151) rfl ?_
      exact J151 true (by simp [MS.gLa, *]) H _ ls hP hD hS (lv_sub hl [0, 1, 2, 3, 4, 5, 6, 7, 8, 9, 10, 11, 12] rfl)
    · have g3 := bI_n0 g3
      refine lv_lload hx hb d_M_gather_108 (lv_at hl 11 rfl) ?_
      refine lv_aload_n hx hb d_M_gather_110 rfl (lv_at hl 6 rfl) ?_
      refine gF (v := .ref (ad 62)) hx hb hown hE hK hP 0 rfl rfl layM 62 (by decide) w528 rfl d_M_gather_111 ?_
      refine lv_iload hx hb d_M_gather_114 (lv_at hl 8 rfl) ?_
      refine nlld (f := x.keyTimes) hx hb hK hP 29 2 rfl rfl ((r * 64) + w) (by omega) (by decide) d_M_gather_116 ?_
      refine W.lcmp hx hb d_M_gather_117 ?_
      refine lv_if_gt hx hb d_M_gather_118 (tgt := 146) rfl (fun g4 => ?_) (fun g4 => ?_)
      · have g4 := (lg_cmp_gt _ _).mp g4
        refine lv_iconst (v := 1) hx hb d_M_gather_146 (by decide) ?_
        refine lv_goto hx hb d_M_gather_147 (tgt := 151) rfl ?_
        exact J151 true (by simp [MS.gLa, *]) H _ ls hP hD hS (lv_sub hl [0, 1, 2, 3, 4, 5, 6, 7, 8, 9, 10, 11, 12] rfl)
      · have g4 := mt (lg_cmp_gt _ _).mpr g4
        refine lv_lload hx hb d_M_gather_121 (lv_at hl 11 rfl) ?_
        refine lv_aload_n hx hb d_M_gather_123 rfl (lv_at hl 6 rfl) ?_
        refine gF (v := .ref (ad 62)) hx hb hown hE hK hP 0 rfl rfl layM 62 (by decide) w528 rfl d_M_gather_124 ?_
        refine lv_iload hx hb d_M_gather_127 (lv_at hl 8 rfl) ?_
        refine nlld (f := x.keyTimes) hx hb hK hP 29 2 rfl rfl ((r * 64) + w) (by omega) (by decide) d_M_gather_129 ?_
        refine W.lcmp hx hb d_M_gather_130 ?_
        refine lv_if_ne hx hb d_M_gather_131 (tgt := 150) rfl (fun g5 => ?_) (fun g5 => ?_)
        · have g5 := mt (lg_cmp_eq _ _).mpr g5
          refine lv_iconst (v := 0) hx hb d_M_gather_150 (by decide) ?_
          exact J151 false (by simp [MS.gLa, *]) H _ ls hP hD hS (lv_sub hl [0, 1, 2, 3, 4, 5, 6, 7, 8, 9, 10, 11, 12] rfl)
        · have g5 := (lg_cmp_eq _ _).mp g5
          refine lv_iload hx hb d_M_gather_134 (lv_at hl 9 rfl) ?_
          refine lv_aload_n hx hb d_M_gather_136 rfl (lv_at hl 6 rfl) ?_
          refine gF (v := .ref (ad 63)) hx hb hown hE hK hP 0 rfl rfl layM 63 (by decide) w529 rfl d_M_gather_137 ?_
          refine lv_iload hx hb d_M_gather_140 (lv_at hl 8 rfl) ?_
          refine nild (f := (fun z9 => nI (x.keySeries z9))) hx hb hK hP 30 1 rfl rfl ((r * 64) + w) (by omega) (by decide) d_M_gather_142 ?_
          refine lv_icmp_ge hx hb d_M_gather_143 (tgt := 150) rfl (fun g6 => ?_) (fun g6 => ?_)
          · have g6 := (nI_leI (a := x.keySeries ((r * 64) + w)) (b := x.pointSeries q) (by omega) (by omega)).mp g6
            refine lv_iconst (v := 0) hx hb d_M_gather_150 (by decide) ?_
            exact J151 false (by simp [MS.gLa, *]) H _ ls hP hD hS (lv_sub hl [0, 1, 2, 3, 4, 5, 6, 7, 8, 9, 10, 11, 12] rfl)
          · have g6 := mt (nI_leI (a := x.keySeries ((r * 64) + w)) (b := x.pointSeries q) (by omega) (by omega)).mpr g6
            refine lv_iconst (v := 1) hx hb d_M_gather_146 (by decide) ?_
            refine lv_goto hx hb d_M_gather_147 (tgt := 151) rfl ?_
            exact J151 true (by simp [MS.gLa, *]) H _ ls hP hD hS (lv_sub hl [0, 1, 2, 3, 4, 5, 6, 7, 8, 9, 10, 11, 12] rfl)
  refine lv_iload hx hb d_M_gather_53 (lv_at hl 0 rfl) ?_
  refine lv_if_eq hx hb d_M_gather_55 (tgt := 96) rfl (fun g7 => ?_) (fun g7 => ?_)
  · have g7 := bI_0 g7
    refine lv_iconst (v := 1) hx hb d_M_gather_96 (by decide) ?_
    refine lv_goto hx hb d_M_gather_97 (tgt := 101) rfl ?_
    exact J101 true (by simp [MS.gSo, *]) H _ ls hP hD hS (lv_sub hl [8, 7, 9, 10, 11, 6, 5, 4, 3, 2, 1, 0] rfl)
  · have g7 := bI_n0 g7
    refine lv_lload hx hb d_M_gather_58 (lv_at hl 1 rfl) ?_
    refine lv_aload_n hx hb d_M_gather_60 rfl (lv_at hl 6 rfl) ?_
    refine gF (v := .ref (ad 62)) hx hb hown hE hK hP 0 rfl rfl layM 62 (by decide) w528 rfl d_M_gather_61 ?_
    refine lv_iload hx hb d_M_gather_64 (lv_at hl 4 rfl) ?_
    refine nlld (f := x.keyTimes) hx hb hK hP 29 2 rfl rfl ((r * 64) + w) (by omega) (by decide) d_M_gather_66 ?_
    refine W.lcmp hx hb d_M_gather_67 ?_
    refine lv_if_lt hx hb d_M_gather_68 (tgt := 96) rfl (fun g8 => ?_) (fun g8 => ?_)
    · have g8 := (lg_cmp_lt _ _).mp g8
      refine lv_iconst (v := 1) hx hb d_M_gather_96 (by decide) ?_
      refine lv_goto hx hb d_M_gather_97 (tgt := 101) rfl ?_
      exact J101 true (by simp [MS.gSo, *]) H _ ls hP hD hS (lv_sub hl [8, 7, 9, 10, 11, 6, 5, 4, 3, 2, 1, 0] rfl)
    · have g8 := mt (lg_cmp_lt _ _).mpr g8
      refine lv_lload hx hb d_M_gather_71 (lv_at hl 1 rfl) ?_
      refine lv_aload_n hx hb d_M_gather_73 rfl (lv_at hl 6 rfl) ?_
      refine gF (v := .ref (ad 62)) hx hb hown hE hK hP 0 rfl rfl layM 62 (by decide) w528 rfl d_M_gather_74 ?_
      refine lv_iload hx hb d_M_gather_77 (lv_at hl 4 rfl) ?_
      refine nlld (f := x.keyTimes) hx hb hK hP 29 2 rfl rfl ((r * 64) + w) (by omega) (by decide) d_M_gather_79 ?_
      refine W.lcmp hx hb d_M_gather_80 ?_
      refine lv_if_ne hx hb d_M_gather_81 (tgt := 100) rfl (fun g9 => ?_) (fun g9 => ?_)
      · have g9 := mt (lg_cmp_eq _ _).mpr g9
        refine lv_iconst (v := 0) hx hb d_M_gather_100 (by decide) ?_
        exact J101 false (by simp [MS.gSo, *]) H _ ls hP hD hS (lv_sub hl [8, 7, 9, 10, 11, 6, 5, 4, 3, 2, 1, 0] rfl)
      · have g9 := (lg_cmp_eq _ _).mp g9
        refine lv_iload hx hb d_M_gather_84 (lv_at hl 3 rfl) ?_
        refine lv_aload_n hx hb d_M_gather_86 rfl (lv_at hl 6 rfl) ?_
        refine gF (v := .ref (ad 63)) hx hb hown hE hK hP 0 rfl rfl layM 63 (by decide) w529 rfl d_M_gather_87 ?_
        refine lv_iload hx hb d_M_gather_90 (lv_at hl 4 rfl) ?_
        refine nild (f := (fun z9 => nI (x.keySeries z9))) hx hb hK hP 30 1 rfl rfl ((r * 64) + w) (by omega) (by decide) d_M_gather_92 ?_
        refine lv_icmp_ge hx hb d_M_gather_93 (tgt := 100) rfl (fun g10 => ?_) (fun g10 => ?_)
        · have g10 := (nI_leI (a := x.keySeries ((r * 64) + w)) (b := x.pointSeries q) (by omega) (by omega)).mp g10
          refine lv_iconst (v := 0) hx hb d_M_gather_100 (by decide) ?_
          exact J101 false (by simp [MS.gSo, *]) H _ ls hP hD hS (lv_sub hl [8, 7, 9, 10, 11, 6, 5, 4, 3, 2, 1, 0] rfl)
        · have g10 := mt (nI_leI (a := x.keySeries ((r * 64) + w)) (b := x.pointSeries q) (by omega) (by omega)).mpr g10
          refine lv_iconst (v := 1) hx hb d_M_gather_96 (by decide) ?_
          refine lv_goto hx hb d_M_gather_97 (tgt := 101) rfl ?_
          exact J101 true (by simp [MS.gSo, *]) H _ ls hP hD hS (lv_sub hl [8, 7, 9, 10, 11, 6, 5, 4, 3, 2, 1, 0] rfl)
theorem d_M_gather_199 : decode prog_14_method_69_code 199 = .ok (.iload_n 2, 1) := by decide +kernel
theorem d_M_gather_200 : decode prog_14_method_69_code 200 = .ok (.iconst 2, 1) := by decide +kernel
theorem d_M_gather_201 : decode prog_14_method_69_code 201 = .ok (.if_icmp .eq 8, 3) := by decide +kernel
theorem d_M_gather_209 : decode prog_14_method_69_code 209 = .ok (.aload_n 0, 1) := by decide +kernel
theorem d_M_gather_210 : decode prog_14_method_69_code 210 = .ok (.getfield 104, 3) := by decide +kernel
theorem d_M_gather_213 : decode prog_14_method_69_code 213 = .ok (.iload 6, 2) := by decide +kernel
theorem d_M_gather_215 : decode prog_14_method_69_code 215 = .ok (.iload 13, 2) := by decide +kernel
theorem d_M_gather_217 : decode prog_14_method_69_code 217 = .ok (.ifCond .eq 37, 3) := by decide +kernel
theorem d_M_gather_254 : decode prog_14_method_69_code 254 = .ok (.lload 9, 2) := by decide +kernel
theorem d_M_gather_256 : decode prog_14_method_69_code 256 = .ok (.goto 10, 3) := by decide +kernel
theorem d_M_gather_266 : decode prog_14_method_69_code 266 = .ok (.lastore, 1) := by decide +kernel
theorem d_M_gather_267 : decode prog_14_method_69_code 267 = .ok (.goto 93, 3) := by decide +kernel
theorem d_M_gather_220 : decode prog_14_method_69_code 220 = .ok (.iload_n 2, 1) := by decide +kernel
theorem d_M_gather_221 : decode prog_14_method_69_code 221 = .ok (.iconst 2, 1) := by decide +kernel
theorem d_M_gather_222 : decode prog_14_method_69_code 222 = .ok (.if_icmp .ne 19, 3) := by decide +kernel
theorem d_M_gather_225 : decode prog_14_method_69_code 225 = .ok (.lload 9, 2) := by decide +kernel
theorem d_M_gather_227 : decode prog_14_method_69_code 227 = .ok (.aload_n 0, 1) := by decide +kernel
theorem d_M_gather_228 : decode prog_14_method_69_code 228 = .ok (.getfield 104, 3) := by decide +kernel
theorem d_M_gather_231 : decode prog_14_method_69_code 231 = .ok (.iload 6, 2) := by decide +kernel
theorem d_M_gather_233 : decode prog_14_method_69_code 233 = .ok (.laload, 1) := by decide +kernel
theorem d_M_gather_234 : decode prog_14_method_69_code 234 = .ok (.lcmp, 1) := by decide +kernel
theorem d_M_gather_235 : decode prog_14_method_69_code 235 = .ok (.ifCond .ge 24, 3) := by decide +kernel
theorem d_M_gather_259 : decode prog_14_method_69_code 259 = .ok (.aload_n 0, 1) := by decide +kernel
theorem d_M_gather_260 : decode prog_14_method_69_code 260 = .ok (.getfield 104, 3) := by decide +kernel
theorem d_M_gather_263 : decode prog_14_method_69_code 263 = .ok (.iload 6, 2) := by decide +kernel
theorem d_M_gather_265 : decode prog_14_method_69_code 265 = .ok (.laload, 1) := by decide +kernel
theorem d_M_gather_238 : decode prog_14_method_69_code 238 = .ok (.goto 16, 3) := by decide +kernel
set_option maxHeartbeats 4000000 in
set_option maxRecDepth 100000 in
theorem k_gather_2 (l : Launch) (D : va_G) (dA : Nat → ClassId) (sz : Nat) (h : Nat) (ad : Nat → Nat) (x : MS) (t : Nat) (q : Nat) (r : Nat) (w : Nat) (h1 : t < 20) (h2 : r < 256) (h3 : w < 64) (h4 : q < 12000) (h5 : x.pointSeries q < 256) (h6 : x.keySeries ((r * 64) + w) < 256) : Met l ⟨"SeriesVaultModel", "gather", "(IIIII)V"⟩ [Cond.code ⟨"SeriesVaultModel", "gather", "(IIIII)V"⟩ prog_14_method_69_code 17 none] { frames := 2, cells := 0, slots := 0, locals := 22 } (pC D dA [.ref h, .int (nI t), .int 2, .int (nI q), .int (nI r), .int (nI w)] (MW dA h ad x) sz) (va_Qv (fun (u9 : Unit) => True) (fun (u9 : Unit) t9 => bW D (va_A (MW dA h ad x) sz) (MW dA h ad (MS.s_isCell (MS.s_cells x (va_up x.cells ((t * 256 + r) * 64 + w) (gLe (x.isCell ((t * 256 + r) * 64 + w)) (x.pointValues q) (x.cells ((t * 256 + r) * 64 + w))))) (va_up x.isCell ((t * 256 + r) * 64 + w) true))) t9) (va_A (MW dA h ad x) sz)) 0 0 (va_A (MW dA h ad x) sz) := by
  refine mkC (y := ⟨"SeriesVaultModel", "gather", "(IIIII)V"⟩) (cc := prog_14_method_69_code) (maxL := 17) (av := [.ref h, .int (nI t), .int 2, .int (nI q), .int (nI r), .int (nI w)]) (ws := MW dA h ad x) (sz := sz) (Qc := fun A => va_Qv (fun (u9 : Unit) => True) (fun (u9 : Unit) t9 => bW D A (MW dA h ad (MS.s_isCell (MS.s_cells x (va_up x.cells ((t * 256 + r) * 64 + w) (gLe (x.isCell ((t * 256 + r) * 64 + w)) (x.pointValues q) (x.cells ((t * 256 + r) * 64 + w))))) (va_up x.isCell ((t * 256 + r) * 64 + w) true))) t9) A) (by decide) (Nat.le_of_ble_eq_true rfl) ?_
  intro A p e s m below meth c ls hsz hB
  obtain ⟨hx, hb, hr, hml, hown, hin, hlk, hE, hK, hP, hD, hS, hA, hN, hl⟩ := hB
  have hown : s.vm.findClass "SeriesVaultModel" = some m.cls := hown
  have hl : lv_has ls 17 [(0, .ref h), (1, .int (nI t)), (2, .int 2), (3, .int (nI q)), (4, .int (nI r)), (5, .int (nI w))] := hl
  obtain ⟨H, hH⟩ : ∃ z, z = s.heap := ⟨_, rfl⟩
  have hP : va_P D vwCl (MW dA h ad x) H := by rw [hH]; exact hP
  have hS : va_S A s.heap H [] := by rw [hH]; exact hS
  rw [← hH]
  refine lv_iload_n hx hb d_M_gather_0 rfl (lv_at hl 1 rfl) ?_
  refine lv_iload hx hb d_M_gather_1 (lv_at hl 4 rfl) ?_
  refine lv_iload hx hb d_M_gather_3 (lv_at hl 5 rfl) ?_
  have hPc := hP.sub (ws' := []) [] rfl
  have hDc := hD.sub (ws' := []) [] (by decide) rfl
  refine jnI (rnS (As := [.int (nI t), .int (nI r), .int (nI w)]) (rest := []) hx hb hml hown hE hK (hN _ _ hS) hPc hDc (k_cellAt l D dA H.size t r w) w971 w970 w972 w328 rfl rfl ⟨⟨by decide, by decide⟩, rfl⟩ ⟨(Nat.le_of_ble_eq_true rfl), (Nat.le_of_ble_eq_true rfl)⟩ rfl hl.1 rfl (Nat.le_of_ble_eq_true rfl) d_M_gather_5 ⟨(Nat.le_of_ble_eq_true rfl), (Nat.le_of_ble_eq_true rfl)⟩) hP hD hS hA [] [0, 1, 2, 3, 4, 5, 6, 7, 8, 9, 10, 11, 12, 13, 14, 15, 16, 17, 18, 19, 20, 21, 22, 23, 24, 25, 26, 27, 28, 29, 30, 31, 32, 33, 34, 35, 36, 37, 38] (wr := MW dA h ad x) rfl rfl (by decide) (by decide) (fun r1 u9 H locs hp9 hP hD hS => ?_)
  have hP : va_P D vwCl (MW dA h ad x) H := hP
  have hD : va_D A (MW dA h ad x) := hD
  replace hp9 : nI ((t * 256 + r) * 64 + w) = r1 := Eq.symm hp9
  subst hp9
  refine lv_istore hx hb d_M_gather_8 hl (by decide) rfl (fun ls hl => ?_)
  have hl : lv_has ls 17 [(6, .int (nI ((t * 256 + r) * 64 + w))), (0, .ref h), (1, .int (nI t)), (2, .int 2), (3, .int (nI q)), (4, .int (nI r)), (5, .int (nI w))] := hl
  refine lv_iload hx hb d_M_gather_10 (lv_at hl 5 rfl) ?_
  refine lv_bipush (v := 64) hx hb d_M_gather_12 (by decide) ?_
  refine lv_imul hx hb d_M_gather_14 (tpi (y := nI (r * 64)) (pk_mul (r) (64)) ?_)
  refine lv_iload hx hb d_M_gather_15 (lv_at hl 6 rfl) ?_
  refine lv_iadd hx hb d_M_gather_17 (tpi (y := nI ((r * 64) + w)) (nI_add (r * 64) (w)) ?_)
  refine lv_istore hx hb d_M_gather_18 hl (by decide) rfl (fun ls hl => ?_)
  have hl : lv_has ls 17 [(7, .int (nI ((r * 64) + w))), (6, .int (nI ((t * 256 + r) * 64 + w))), (0, .ref h), (1, .int (nI t)), (2, .int 2), (3, .int (nI q)), (4, .int (nI r)), (5, .int (nI w))] := hl
  refine lv_aload_n hx hb d_M_gather_20 rfl (lv_at hl 2 rfl) ?_
  refine gF (v := .ref (ad 17)) hx hb hown hE hK hP 0 rfl rfl layM 17 (by decide) w503 rfl d_M_gather_21 ?_
  refine lv_iload_n hx hb d_M_gather_24 rfl (lv_at hl 5 rfl) ?_
  refine nild (f := (fun z9 => nI (x.pointSeries z9))) hx hb hK hP 6 1 rfl rfl (q) (by omega) (by decide) d_M_gather_25 ?_
  refine lv_istore hx hb d_M_gather_26 hl (by decide) rfl (fun ls hl => ?_)
  have hl : lv_has ls 17 [(8, .int (nI (x.pointSeries q))), (7, .int (nI ((r * 64) + w))), (6, .int (nI ((t * 256 + r) * 64 + w))), (0, .ref h), (1, .int (nI t)), (2, .int 2), (3, .int (nI q)), (4, .int (nI r)), (5, .int (nI w))] := hl
  refine lv_aload_n hx hb d_M_gather_28 rfl (lv_at hl 3 rfl) ?_
  refine gF (v := .ref (ad 19)) hx hb hown hE hK hP 0 rfl rfl layM 19 (by decide) w505 rfl d_M_gather_29 ?_
  refine lv_iload_n hx hb d_M_gather_32 rfl (lv_at hl 6 rfl) ?_
  refine nlld (f := x.pointValues) hx hb hK hP 8 2 rfl rfl (q) (by omega) (by decide) d_M_gather_33 ?_
  refine lv_lstore hx hb d_M_gather_34 hl (by decide) rfl (fun ls hl => ?_)
  have hl : lv_has ls 17 [(9, .long (x.pointValues q)), (8, .int (nI (x.pointSeries q))), (7, .int (nI ((r * 64) + w))), (6, .int (nI ((t * 256 + r) * 64 + w))), (0, .ref h), (1, .int (nI t)), (2, .int 2), (3, .int (nI q)), (4, .int (nI r)), (5, .int (nI w))] := hl
  refine lv_aload_n hx hb d_M_gather_36 rfl (lv_at hl 4 rfl) ?_
  refine gF (v := .ref (ad 18)) hx hb hown hE hK hP 0 rfl rfl layM 18 (by decide) w504 rfl d_M_gather_37 ?_
  refine lv_iload_n hx hb d_M_gather_40 rfl (lv_at hl 7 rfl) ?_
  refine nlld (f := x.pointTimes) hx hb hK hP 7 2 rfl rfl (q) (by omega) (by decide) d_M_gather_41 ?_
  refine lv_lstore hx hb d_M_gather_42 hl (by decide) rfl (fun ls hl => ?_)
  have hl : lv_has ls 17 [(11, .long (x.pointTimes q)), (9, .long (x.pointValues q)), (8, .int (nI (x.pointSeries q))), (7, .int (nI ((r * 64) + w))), (6, .int (nI ((t * 256 + r) * 64 + w))), (0, .ref h), (1, .int (nI t)), (2, .int 2), (3, .int (nI q)), (4, .int (nI r)), (5, .int (nI w))] := hl
  refine lv_aload_n hx hb d_M_gather_44 rfl (lv_at hl 5 rfl) ?_
  refine gF (v := .ref (ad 54)) hx hb hown hE hK hP 0 rfl rfl layM 54 (by decide) w526 rfl d_M_gather_45 ?_
  refine lv_iload hx hb d_M_gather_48 (lv_at hl 4 rfl) ?_
  refine nzld (f := (fun z9 => bI (x.isCell z9))) hx hb hK hP 27 3 rfl rfl ((t * 256 + r) * 64 + w) (by omega) (by decide) d_M_gather_50 ?_
  refine lv_istore hx hb d_M_gather_51 hl (by decide) rfl (fun ls hl => ?_)
  have hl : lv_has ls 17 [(13, .int (bI (x.isCell ((t * 256 + r) * 64 + w)))), (11, .long (x.pointTimes q)), (9, .long (x.pointValues q)), (8, .int (nI (x.pointSeries q))), (7, .int (nI ((r * 64) + w))), (6, .int (nI ((t * 256 + r) * 64 + w))), (0, .ref h), (1, .int (nI t)), (2, .int 2), (3, .int (nI q)), (4, .int (nI r)), (5, .int (nI w))] := hl
  have J101 : ∀ (so : Bool) (j1 : x.gSo ((t * 256 + r) * 64 + w) ((r * 64) + w) (x.pointSeries q) (x.pointTimes q) = so), ∀ (H : Heap) (locs : List Loc) (ls : Array Slot) (hP : va_P D vwCl (MW dA h ad x) H) (hD : va_D A (MW dA h ad x)) (hS : va_S A s.heap H locs) (hl : lv_has ls 17 [(2, .int 2), (1, .int (nI t)), (3, .int (nI q)), (4, .int (nI r)), (5, .int (nI w)), (0, .ref h), (6, .int (nI ((t * 256 + r) * 64 + w))), (7, .int (nI ((r * 64) + w))), (8, .int (nI (x.pointSeries q))), (9, .long (x.pointValues q)), (11, .long (x.pointTimes q)), (13, .int (bI (x.isCell ((t * 256 + r) * 64 + w))))]), W p l e ({ frames := 2, cells := 0, slots := 0, locals := 22 } : Room) s m ([.ref h, .int (nI t), .int 2, .int (nI q), .int (nI r), .int (nI w)] : List Value).toArray below meth c H locs 0 0 (MQ below (va_Qv (fun (u9 : Unit) => True) (fun (u9 : Unit) t9 => bW D A (MW dA h ad (MS.s_isCell (MS.s_cells x (va_up x.cells ((t * 256 + r) * 64 + w) (gLe (x.isCell ((t * 256 + r) * 64 + w)) (x.pointValues q) (x.cells ((t * 256 + r) * 64 + w))))) (va_up x.isCell ((t * 256 + r) * 64 + w) true))) t9) A) ([.ref h, .int (nI t), .int 2, .int (nI q), .int (nI r), .int (nI w)] : List Value).toArray s 0 0 A) (F0 m 101 ls [.int (bI so)]) := by
    intro so j1 H locs ls hP hD hS hl
    refine lv_istore hx hb d_M_gather_101 hl (by decide) rfl (fun ls hl => ?_)
    have hl : lv_has ls 17 [(14, .int (bI so)), (2, .int 2), (1, .int (nI t)), (3, .int (nI q)), (4, .int (nI r)), (5, .int (nI w)), (0, .ref h), (6, .int (nI ((t * 256 + r) * 64 + w))), (7, .int (nI ((r * 64) + w))), (8, .int (nI (x.pointSeries q))), (9, .long (x.pointValues q)), (11, .long (x.pointTimes q)), (13, .int (bI (x.isCell ((t * 256 + r) * 64 + w))))] := hl
    have J151 : ∀ (la : Bool) (j2 : x.gLa ((t * 256 + r) * 64 + w) ((r * 64) + w) (x.pointSeries q) (x.pointTimes q) = la), ∀ (H : Heap) (locs : List Loc) (ls : Array Slot) (hP : va_P D vwCl (MW dA h ad x) H) (hD : va_D A (MW dA h ad x)) (hS : va_S A s.heap H locs) (hl : lv_has ls 17 [(14, .int (bI so)), (2, .int 2), (1, .int (nI t)), (3, .int (nI q)), (4, .int (nI r)), (5, .int (nI w)), (0, .ref h), (6, .int (nI ((t * 256 + r) * 64 + w))), (7, .int (nI ((r * 64) + w))), (8, .int (nI (x.pointSeries q))), (9, .long (x.pointValues q)), (11, .long (x.pointTimes q)), (13, .int (bI (x.isCell ((t * 256 + r) * 64 + w))))]), W p l e ({ frames := 2, cells := 0, slots := 0, locals := 22 } : Room) s m ([.ref h, .int (nI t), .int 2, .int (nI q), .int (nI r), .int (nI w)] : List Value).toArray below meth c H locs 0 0 (MQ below (va_Qv (fun (u9 : Unit) => True) (fun (u9 : Unit) t9 => bW D A (MW dA h ad (MS.s_isCell (MS.s_cells x (va_up x.cells ((t * 256 + r) * 64 + w) (gLe (x.isCell ((t * 256 + r) * 64 + w)) (x.pointValues q) (x.cells ((t * 256 + r) * 64 + w))))) (va_up x.isCell ((t * 256 + r) * 64 + w) true))) t9) A) ([.ref h, .int (nI t), .int 2, .int (nI q), .int (nI r), .int (nI w)] : List Value).toArray s 0 0 A) (F0 m 151 ls [.int (bI la)]) := by
      intro la j2 H locs ls hP hD hS hl
      refine lv_istore hx hb d_M_gather_151 hl (by decide) rfl (fun ls hl => ?_)
      have hl : lv_has ls 17 [(15, .int (bI la)), (14, .int (bI so)), (2, .int 2), (1, .int (nI t)), (3, .int (nI q)), (4, .int (nI r)), (5, .int (nI w)), (0, .ref h), (6, .int (nI ((t * 256 + r) * 64 + w))), (7, .int (nI ((r * 64) + w))), (8, .int (nI (x.pointSeries q))), (9, .long (x.pointValues q)), (11, .long (x.pointTimes q)), (13, .int (bI (x.isCell ((t * 256 + r) * 64 + w))))] := hl
      refine lv_iload_n hx hb d_M_gather_153 rfl (lv_at hl 2 rfl) ?_
      refine lv_iconst (v := 4) hx hb d_M_gather_154 (by decide) ?_
      refine lv_icmp_ne hx hb d_M_gather_155 (tgt := 163) rfl (fun _ => ?_) (fun h9 => absurd h9 (by decide))
      refine lv_iload hx hb d_M_gather_163 (lv_at hl 0 rfl) ?_
      refine lv_istore hx hb d_M_gather_165 hl (by decide) rfl (fun ls hl => ?_)
      have hl : lv_has ls 17 [(16, .int (bI la)), (15, .int (bI la)), (14, .int (bI so)), (2, .int 2), (1, .int (nI t)), (3, .int (nI q)), (4, .int (nI r)), (5, .int (nI w)), (0, .ref h), (6, .int (nI ((t * 256 + r) * 64 + w))), (7, .int (nI ((r * 64) + w))), (8, .int (nI (x.pointSeries q))), (9, .long (x.pointValues q)), (11, .long (x.pointTimes q)), (13, .int (bI (x.isCell ((t * 256 + r) * 64 + w))))] := hl
      refine lv_iload_n hx hb d_M_gather_167 rfl (lv_at hl 3 rfl) ?_
      refine lv_if_eq hx hb d_M_gather_168 (tgt := 176) rfl (fun h9 => absurd h9 (by decide)) (fun _ => ?_)
      refine lv_iload_n hx hb d_M_gather_171 rfl (lv_at hl 3 rfl) ?_
      refine lv_iconst (v := 1) hx hb d_M_gather_172 (by decide) ?_
      refine lv_icmp_ne hx hb d_M_gather_173 (tgt := 199) rfl (fun _ => ?_) (fun h9 => absurd h9 (by decide))
      refine lv_iload_n hx hb d_M_gather_199 rfl (lv_at hl 3 rfl) ?_
      refine lv_iconst (v := 2) hx hb d_M_gather_200 (by decide) ?_
      refine lv_icmp_eq hx hb d_M_gather_201 (tgt := 209) rfl (fun _ => ?_) (fun h9 => absurd (by decide) h9)
      refine lv_aload_n hx hb d_M_gather_209 rfl (lv_at hl 8 rfl) ?_
      refine gF (v := .ref (ad 53)) hx hb hown hE hK hP 0 rfl rfl layM 53 (by decide) w524 rfl d_M_gather_210 ?_
      refine lv_iload hx hb d_M_gather_213 (lv_at hl 9 rfl) ?_
      refine lv_iload hx hb d_M_gather_215 (lv_at hl 14 rfl) ?_
      refine lv_if_eq hx hb d_M_gather_217 (tgt := 254) rfl (fun g3 => ?_) (fun g3 => ?_)
      · have g3 := bI_0 g3
        refine lv_lload hx hb d_M_gather_254 (lv_at hl 12 rfl) ?_
        refine lv_goto hx hb d_M_gather_256 (tgt := 266) rfl ?_
        refine nlst hx hb hK hP hD hS 26 2 rfl rfl ((t * 256 + r) * 64 + w) (by omega) (by decide) d_M_gather_266 (fun H locs hP hD hS => ?_)
        have hP : va_P D vwCl (MW dA h ad (MS.s_cells x (va_up x.cells ((t * 256 + r) * 64 + w) (x.pointValues q)))) H := hP
        have hD : va_D A (MW dA h ad (MS.s_cells x (va_up x.cells ((t * 256 + r) * 64 + w) (x.pointValues q)))) := hD
        refine lv_goto hx hb d_M_gather_267 (tgt := 360) rfl ?_
        refine lv_aload_n hx hb d_M_gather_360 rfl (lv_at hl 8 rfl) ?_
        refine gF (v := .ref (ad 54)) hx hb hown hE hK hP 0 rfl rfl layM 54 (by decide) w526 rfl d_M_gather_361 ?_
        refine lv_iload hx hb d_M_gather_364 (lv_at hl 9 rfl) ?_
        refine lv_iconst (v := 1) hx hb d_M_gather_366 (by decide) ?_
        refine nzstB (v := true) hx hb hK hP hD hS 27 3 rfl rfl ((t * 256 + r) * 64 + w) (by omega) (by decide) d_M_gather_367 (fun H locs hP hD hS => ?_)
        have hP : va_P D vwCl (MW dA h ad (MS.s_isCell (MS.s_cells x (va_up x.cells ((t * 256 + r) * 64 + w) (x.pointValues q))) (va_up x.isCell ((t * 256 + r) * 64 + w) true))) H := hP
        have hD : va_D A (MW dA h ad (MS.s_isCell (MS.s_cells x (va_up x.cells ((t * 256 + r) * 64 + w) (x.pointValues q))) (va_up x.isCell ((t * 256 + r) * 64 + w) true))) := hD
        have e9 : (MS.s_isCell (MS.s_cells x (va_up x.cells ((t * 256 + r) * 64 + w) (x.pointValues q))) (va_up x.isCell ((t * 256 + r) * 64 + w) true) : MS) = MS.s_isCell (MS.s_cells x (va_up x.cells ((t * 256 + r) * 64 + w) (gLe (x.isCell ((t * 256 + r) * 64 + w)) (x.pointValues q) (x.cells ((t * 256 + r) * 64 + w))))) (va_up x.isCell ((t * 256 + r) * 64 + w) true) := by rw [show (va_up x.cells ((t * 256 + r) * 64 + w) (gLe (x.isCell ((t * 256 + r) * 64 + w)) (x.pointValues q) (x.cells ((t * 256 + r) * 64 + w)))) = (va_up x.cells ((t * 256 + r) * 64 + w) (x.pointValues q)) from by (simp [gLe, *])] <;> rfl
        exact rfV hx hb hr hlk hS () trivial (cvP e9 hP) (cvD e9 hD) (Nat.le_of_ble_eq_true rfl) (Nat.le_of_ble_eq_true rfl) d_M_gather_368
      · have g3 := bI_n0 g3
        refine lv_iload_n hx hb d_M_gather_220 rfl (lv_at hl 3 rfl) ?_
        refine lv_iconst (v := 2) hx hb d_M_gather_221 (by decide) ?_
        refine lv_icmp_ne hx hb d_M_gather_222 (tgt := 241) rfl (fun h9 => absurd (by decide) h9) (fun _ => ?_)
        refine lv_lload hx hb d_M_gather_225 (lv_at hl 12 rfl) ?_
        refine lv_aload_n hx hb d_M_gather_227 rfl (lv_at hl 8 rfl) ?_
        refine gF (v := .ref (ad 53)) hx hb hown hE hK hP 0 rfl rfl layM 53 (by decide) w524 rfl d_M_gather_228 ?_
        refine lv_iload hx hb d_M_gather_231 (lv_at hl 9 rfl) ?_
        refine nlld (f := x.cells) hx hb hK hP 26 2 rfl rfl ((t * 256 + r) * 64 + w) (by omega) (by decide) d_M_gather_233 ?_
        refine W.lcmp hx hb d_M_gather_234 ?_
        refine lv_if_ge hx hb d_M_gather_235 (tgt := 259) rfl (fun g4 => ?_) (fun g4 => ?_)
        · have g4 := (lg_cmp_ge _ _).mp g4
          refine lv_aload_n hx hb d_M_gather_259 rfl (lv_at hl 8 rfl) ?_
          refine gF (v := .ref (ad 53)) hx hb hown hE hK hP 0 rfl rfl layM 53 (by decide) w524 rfl d_M_gather_260 ?_
          refine lv_iload hx hb d_M_gather_263 (lv_at hl 9 rfl) ?_
          refine nlld (f := x.cells) hx hb hK hP 26 2 rfl rfl ((t * 256 + r) * 64 + w) (by omega) (by decide) d_M_gather_265 ?_
          refine nlst hx hb hK hP hD hS 26 2 rfl rfl ((t * 256 + r) * 64 + w) (by omega) (by decide) d_M_gather_266 (fun H locs hP hD hS => ?_)
          have hP : va_P D vwCl (MW dA h ad (MS.s_cells x (va_up x.cells ((t * 256 + r) * 64 + w) (x.cells ((t * 256 + r) * 64 + w))))) H := hP
          have hD : va_D A (MW dA h ad (MS.s_cells x (va_up x.cells ((t * 256 + r) * 64 + w) (x.cells ((t * 256 + r) * 64 + w))))) := hD
          refine lv_goto hx hb d_M_gather_267 (tgt := 360) rfl ?_
          refine lv_aload_n hx hb d_M_gather_360 rfl (lv_at hl 8 rfl) ?_
          refine gF (v := .ref (ad 54)) hx hb hown hE hK hP 0 rfl rfl layM 54 (by decide) w526 rfl d_M_gather_361 ?_
          refine lv_iload hx hb d_M_gather_364 (lv_at hl 9 rfl) ?_
          refine lv_iconst (v := 1) hx hb d_M_gather_366 (by decide) ?_
          refine nzstB (v := true) hx hb hK hP hD hS 27 3 rfl rfl ((t * 256 + r) * 64 + w) (by omega) (by decide) d_M_gather_367 (fun H locs hP hD hS => ?_)
          have hP : va_P D vwCl (MW dA h ad (MS.s_isCell (MS.s_cells x (va_up x.cells ((t * 256 + r) * 64 + w) (x.cells ((t * 256 + r) * 64 + w)))) (va_up x.isCell ((t * 256 + r) * 64 + w) true))) H := hP
          have hD : va_D A (MW dA h ad (MS.s_isCell (MS.s_cells x (va_up x.cells ((t * 256 + r) * 64 + w) (x.cells ((t * 256 + r) * 64 + w)))) (va_up x.isCell ((t * 256 + r) * 64 + w) true))) := hD
          have e9 : (MS.s_isCell (MS.s_cells x (va_up x.cells ((t * 256 + r) * 64 + w) (x.cells ((t * 256 + r) * 64 + w)))) (va_up x.isCell ((t * 256 + r) * 64 + w) true) : MS) = MS.s_isCell (MS.s_cells x (va_up x.cells ((t * 256 + r) * 64 + w) (gLe (x.isCell ((t * 256 + r) * 64 + w)) (x.pointValues q) (x.cells ((t * 256 + r) * 64 + w))))) (va_up x.isCell ((t * 256 + r) * 64 + w) true) := by rw [show (va_up x.cells ((t * 256 + r) * 64 + w) (gLe (x.isCell ((t * 256 + r) * 64 + w)) (x.pointValues q) (x.cells ((t * 256 + r) * 64 + w)))) = (va_up x.cells ((t * 256 + r) * 64 + w) (x.cells ((t * 256 + r) * 64 + w))) from by (simp [gLe, *])] <;> rfl
          exact rfV hx hb hr hlk hS () trivial (cvP e9 hP) (cvD e9 hD) (Nat.le_of_ble_eq_true rfl) (Nat.le_of_ble_eq_true rfl) d_M_gather_368
        · have g4 := mt (lg_cmp_ge _ _).mpr g4
          refine lv_goto hx hb d_M_gather_238 (tgt := 254) rfl ?_
          refine lv_lload hx hb d_M_gather_254 (lv_at hl 12 rfl) ?_
          refine lv_goto hx hb d_M_gather_256 (tgt := 266) rfl ?_
          refine nlst hx hb hK hP hD hS 26 2 rfl rfl ((t * 256 + r) * 64 + w) (by omega) (by decide) d_M_gather_266 (fun H locs hP hD hS => ?_)
          have hP : va_P D vwCl (MW dA h ad (MS.s_cells x (va_up x.cells ((t * 256 + r) * 64 + w) (x.pointValues q)))) H := hP
          have hD : va_D A (MW dA h ad (MS.s_cells x (va_up x.cells ((t * 256 + r) * 64 + w) (x.pointValues q)))) := hD
          refine lv_goto hx hb d_M_gather_267 (tgt := 360) rfl ?_
          refine lv_aload_n hx hb d_M_gather_360 rfl (lv_at hl 8 rfl) ?_
          refine gF (v := .ref (ad 54)) hx hb hown hE hK hP 0 rfl rfl layM 54 (by decide) w526 rfl d_M_gather_361 ?_
          refine lv_iload hx hb d_M_gather_364 (lv_at hl 9 rfl) ?_
          refine lv_iconst (v := 1) hx hb d_M_gather_366 (by decide) ?_
          refine nzstB (v := true) hx hb hK hP hD hS 27 3 rfl rfl ((t * 256 + r) * 64 + w) (by omega) (by decide) d_M_gather_367 (fun H locs hP hD hS => ?_)
          have hP : va_P D vwCl (MW dA h ad (MS.s_isCell (MS.s_cells x (va_up x.cells ((t * 256 + r) * 64 + w) (x.pointValues q))) (va_up x.isCell ((t * 256 + r) * 64 + w) true))) H := hP
          have hD : va_D A (MW dA h ad (MS.s_isCell (MS.s_cells x (va_up x.cells ((t * 256 + r) * 64 + w) (x.pointValues q))) (va_up x.isCell ((t * 256 + r) * 64 + w) true))) := hD
          have e9 : (MS.s_isCell (MS.s_cells x (va_up x.cells ((t * 256 + r) * 64 + w) (x.pointValues q))) (va_up x.isCell ((t * 256 + r) * 64 + w) true) : MS) = MS.s_isCell (MS.s_cells x (va_up x.cells ((t * 256 + r) * 64 + w) (gLe (x.isCell ((t * 256 + r) * 64 + w)) (x.pointValues q) (x.cells ((t * 256 + r) * 64 + w))))) (va_up x.isCell ((t * 256 + r) * 64 + w) true) := by rw [show (va_up x.cells ((t * 256 + r) * 64 + w) (gLe (x.isCell ((t * 256 + r) * 64 + w)) (x.pointValues q) (x.cells ((t * 256 + r) * 64 + w)))) = (va_up x.cells ((t * 256 + r) * 64 + w) (x.pointValues q)) from by (simp [gLe, *])] <;> rfl
          exact rfV hx hb hr hlk hS () trivial (cvP e9 hP) (cvD e9 hD) (Nat.le_of_ble_eq_true rfl) (Nat.le_of_ble_eq_true rfl) d_M_gather_368
    refine lv_iload hx hb d_M_gather_103 (lv_at hl 12 rfl) ?_
    refine lv_if_eq hx hb d_M_gather_105 (tgt := 146) rfl (fun g5 => ?_) (fun g5 => ?_)
    · have g5 := bI_0 g5
      refine lv_iconst (v := 1) hx hb d_M_gather_146 (by decide) ?_
      refine lv_goto hx hb d_M_gather_147 (tgt := 151) rfl ?_
      exact J151 true (by simp [MS.gLa, *]) H _ ls hP hD hS (lv_sub hl [0, 1, 2, 3, 4, 5, 6, 7, 8, 9, 10, 11, 12] rfl)
    · have g5 := bI_n0 g5
      refine lv_lload hx hb d_M_gather_108 (lv_at hl 11 rfl) ?_
      refine lv_aload_n hx hb d_M_gather_110 rfl (lv_at hl 6 rfl) ?_
      refine gF (v := .ref (ad 62)) hx hb hown hE hK hP 0 rfl rfl layM 62 (by decide) w528 rfl d_M_gather_111 ?_
      refine lv_iload hx hb d_M_gather_114 (lv_at hl 8 rfl) ?_
      refine nlld (f := x.keyTimes) hx hb hK hP 29 2 rfl rfl ((r * 64) + w) (by omega) (by decide) d_M_gather_116 ?_
      refine W.lcmp hx hb d_M_gather_117 ?_
      refine lv_if_gt hx hb d_M_gather_118 (tgt := 146) rfl (fun g6 => ?_) (fun g6 => ?_)
      · have g6 := (lg_cmp_gt _ _).mp g6
        refine lv_iconst (v := 1) hx hb d_M_gather_146 (by decide) ?_
        refine lv_goto hx hb d_M_gather_147 (tgt := 151) rfl ?_
        exact J151 true (by simp [MS.gLa, *]) H _ ls hP hD hS (lv_sub hl [0, 1, 2, 3, 4, 5, 6, 7, 8, 9, 10, 11, 12] rfl)
      · have g6 := mt (lg_cmp_gt _ _).mpr g6
        refine lv_lload hx hb d_M_gather_121 (lv_at hl 11 rfl) ?_
        refine lv_aload_n hx hb d_M_gather_123 rfl (lv_at hl 6 rfl) ?_
        refine gF (v := .ref (ad 62)) hx hb hown hE hK hP 0 rfl rfl layM 62 (by decide) w528 rfl d_M_gather_124 ?_
        refine lv_iload hx hb d_M_gather_127 (lv_at hl 8 rfl) ?_
        refine nlld (f := x.keyTimes) hx hb hK hP 29 2 rfl rfl ((r * 64) + w) (by omega) (by decide) d_M_gather_129 ?_
        refine W.lcmp hx hb d_M_gather_130 ?_
        refine lv_if_ne hx hb d_M_gather_131 (tgt := 150) rfl (fun g7 => ?_) (fun g7 => ?_)
        · have g7 := mt (lg_cmp_eq _ _).mpr g7
          refine lv_iconst (v := 0) hx hb d_M_gather_150 (by decide) ?_
          exact J151 false (by simp [MS.gLa, *]) H _ ls hP hD hS (lv_sub hl [0, 1, 2, 3, 4, 5, 6, 7, 8, 9, 10, 11, 12] rfl)
        · have g7 := (lg_cmp_eq _ _).mp g7
          refine lv_iload hx hb d_M_gather_134 (lv_at hl 9 rfl) ?_
          refine lv_aload_n hx hb d_M_gather_136 rfl (lv_at hl 6 rfl) ?_
          refine gF (v := .ref (ad 63)) hx hb hown hE hK hP 0 rfl rfl layM 63 (by decide) w529 rfl d_M_gather_137 ?_
          refine lv_iload hx hb d_M_gather_140 (lv_at hl 8 rfl) ?_
          refine nild (f := (fun z9 => nI (x.keySeries z9))) hx hb hK hP 30 1 rfl rfl ((r * 64) + w) (by omega) (by decide) d_M_gather_142 ?_
          refine lv_icmp_ge hx hb d_M_gather_143 (tgt := 150) rfl (fun g8 => ?_) (fun g8 => ?_)
          · have g8 := (nI_leI (a := x.keySeries ((r * 64) + w)) (b := x.pointSeries q) (by omega) (by omega)).mp g8
            refine lv_iconst (v := 0) hx hb d_M_gather_150 (by decide) ?_
            exact J151 false (by simp [MS.gLa, *]) H _ ls hP hD hS (lv_sub hl [0, 1, 2, 3, 4, 5, 6, 7, 8, 9, 10, 11, 12] rfl)
          · have g8 := mt (nI_leI (a := x.keySeries ((r * 64) + w)) (b := x.pointSeries q) (by omega) (by omega)).mpr g8
            refine lv_iconst (v := 1) hx hb d_M_gather_146 (by decide) ?_
            refine lv_goto hx hb d_M_gather_147 (tgt := 151) rfl ?_
            exact J151 true (by simp [MS.gLa, *]) H _ ls hP hD hS (lv_sub hl [0, 1, 2, 3, 4, 5, 6, 7, 8, 9, 10, 11, 12] rfl)
  refine lv_iload hx hb d_M_gather_53 (lv_at hl 0 rfl) ?_
  refine lv_if_eq hx hb d_M_gather_55 (tgt := 96) rfl (fun g9 => ?_) (fun g9 => ?_)
  · have g9 := bI_0 g9
    refine lv_iconst (v := 1) hx hb d_M_gather_96 (by decide) ?_
    refine lv_goto hx hb d_M_gather_97 (tgt := 101) rfl ?_
    exact J101 true (by simp [MS.gSo, *]) H _ ls hP hD hS (lv_sub hl [8, 7, 9, 10, 11, 6, 5, 4, 3, 2, 1, 0] rfl)
  · have g9 := bI_n0 g9
    refine lv_lload hx hb d_M_gather_58 (lv_at hl 1 rfl) ?_
    refine lv_aload_n hx hb d_M_gather_60 rfl (lv_at hl 6 rfl) ?_
    refine gF (v := .ref (ad 62)) hx hb hown hE hK hP 0 rfl rfl layM 62 (by decide) w528 rfl d_M_gather_61 ?_
    refine lv_iload hx hb d_M_gather_64 (lv_at hl 4 rfl) ?_
    refine nlld (f := x.keyTimes) hx hb hK hP 29 2 rfl rfl ((r * 64) + w) (by omega) (by decide) d_M_gather_66 ?_
    refine W.lcmp hx hb d_M_gather_67 ?_
    refine lv_if_lt hx hb d_M_gather_68 (tgt := 96) rfl (fun g10 => ?_) (fun g10 => ?_)
    · have g10 := (lg_cmp_lt _ _).mp g10
      refine lv_iconst (v := 1) hx hb d_M_gather_96 (by decide) ?_
      refine lv_goto hx hb d_M_gather_97 (tgt := 101) rfl ?_
      exact J101 true (by simp [MS.gSo, *]) H _ ls hP hD hS (lv_sub hl [8, 7, 9, 10, 11, 6, 5, 4, 3, 2, 1, 0] rfl)
    · have g10 := mt (lg_cmp_lt _ _).mpr g10
      refine lv_lload hx hb d_M_gather_71 (lv_at hl 1 rfl) ?_
      refine lv_aload_n hx hb d_M_gather_73 rfl (lv_at hl 6 rfl) ?_
      refine gF (v := .ref (ad 62)) hx hb hown hE hK hP 0 rfl rfl layM 62 (by decide) w528 rfl d_M_gather_74 ?_
      refine lv_iload hx hb d_M_gather_77 (lv_at hl 4 rfl) ?_
      refine nlld (f := x.keyTimes) hx hb hK hP 29 2 rfl rfl ((r * 64) + w) (by omega) (by decide) d_M_gather_79 ?_
      refine W.lcmp hx hb d_M_gather_80 ?_
      refine lv_if_ne hx hb d_M_gather_81 (tgt := 100) rfl (fun g11 => ?_) (fun g11 => ?_)
      · have g11 := mt (lg_cmp_eq _ _).mpr g11
        refine lv_iconst (v := 0) hx hb d_M_gather_100 (by decide) ?_
        exact J101 false (by simp [MS.gSo, *]) H _ ls hP hD hS (lv_sub hl [8, 7, 9, 10, 11, 6, 5, 4, 3, 2, 1, 0] rfl)
      · have g11 := (lg_cmp_eq _ _).mp g11
        refine lv_iload hx hb d_M_gather_84 (lv_at hl 3 rfl) ?_
        refine lv_aload_n hx hb d_M_gather_86 rfl (lv_at hl 6 rfl) ?_
        refine gF (v := .ref (ad 63)) hx hb hown hE hK hP 0 rfl rfl layM 63 (by decide) w529 rfl d_M_gather_87 ?_
        refine lv_iload hx hb d_M_gather_90 (lv_at hl 4 rfl) ?_
        refine nild (f := (fun z9 => nI (x.keySeries z9))) hx hb hK hP 30 1 rfl rfl ((r * 64) + w) (by omega) (by decide) d_M_gather_92 ?_
        refine lv_icmp_ge hx hb d_M_gather_93 (tgt := 100) rfl (fun g12 => ?_) (fun g12 => ?_)
        · have g12 := (nI_leI (a := x.keySeries ((r * 64) + w)) (b := x.pointSeries q) (by omega) (by omega)).mp g12
          refine lv_iconst (v := 0) hx hb d_M_gather_100 (by decide) ?_
          exact J101 false (by simp [MS.gSo, *]) H _ ls hP hD hS (lv_sub hl [8, 7, 9, 10, 11, 6, 5, 4, 3, 2, 1, 0] rfl)
        · have g12 := mt (nI_leI (a := x.keySeries ((r * 64) + w)) (b := x.pointSeries q) (by omega) (by omega)).mpr g12
          refine lv_iconst (v := 1) hx hb d_M_gather_96 (by decide) ?_
          refine lv_goto hx hb d_M_gather_97 (tgt := 101) rfl ?_
          exact J101 true (by simp [MS.gSo, *]) H _ ls hP hD hS (lv_sub hl [8, 7, 9, 10, 11, 6, 5, 4, 3, 2, 1, 0] rfl)
theorem d_M_gather_204 : decode prog_14_method_69_code 204 = .ok (.iload_n 2, 1) := by decide +kernel
theorem d_M_gather_205 : decode prog_14_method_69_code 205 = .ok (.iconst 3, 1) := by decide +kernel
theorem d_M_gather_206 : decode prog_14_method_69_code 206 = .ok (.if_icmp .ne 64, 3) := by decide +kernel
theorem d_M_gather_241 : decode prog_14_method_69_code 241 = .ok (.lload 9, 2) := by decide +kernel
theorem d_M_gather_243 : decode prog_14_method_69_code 243 = .ok (.aload_n 0, 1) := by decide +kernel
theorem d_M_gather_244 : decode prog_14_method_69_code 244 = .ok (.getfield 104, 3) := by decide +kernel
theorem d_M_gather_247 : decode prog_14_method_69_code 247 = .ok (.iload 6, 2) := by decide +kernel
theorem d_M_gather_249 : decode prog_14_method_69_code 249 = .ok (.laload, 1) := by decide +kernel
theorem d_M_gather_250 : decode prog_14_method_69_code 250 = .ok (.lcmp, 1) := by decide +kernel
theorem d_M_gather_251 : decode prog_14_method_69_code 251 = .ok (.ifCond .le 8, 3) := by decide +kernel
set_option maxHeartbeats 4000000 in
set_option maxRecDepth 100000 in
theorem k_gather_3 (l : Launch) (D : va_G) (dA : Nat → ClassId) (sz : Nat) (h : Nat) (ad : Nat → Nat) (x : MS) (t : Nat) (q : Nat) (r : Nat) (w : Nat) (h1 : t < 20) (h2 : r < 256) (h3 : w < 64) (h4 : q < 12000) (h5 : x.pointSeries q < 256) (h6 : x.keySeries ((r * 64) + w) < 256) : Met l ⟨"SeriesVaultModel", "gather", "(IIIII)V"⟩ [Cond.code ⟨"SeriesVaultModel", "gather", "(IIIII)V"⟩ prog_14_method_69_code 17 none] { frames := 2, cells := 0, slots := 0, locals := 22 } (pC D dA [.ref h, .int (nI t), .int 3, .int (nI q), .int (nI r), .int (nI w)] (MW dA h ad x) sz) (va_Qv (fun (u9 : Unit) => True) (fun (u9 : Unit) t9 => bW D (va_A (MW dA h ad x) sz) (MW dA h ad (MS.s_isCell (MS.s_cells x (va_up x.cells ((t * 256 + r) * 64 + w) (gMo (x.isCell ((t * 256 + r) * 64 + w)) (x.pointValues q) (x.cells ((t * 256 + r) * 64 + w))))) (va_up x.isCell ((t * 256 + r) * 64 + w) true))) t9) (va_A (MW dA h ad x) sz)) 0 0 (va_A (MW dA h ad x) sz) := by
  refine mkC (y := ⟨"SeriesVaultModel", "gather", "(IIIII)V"⟩) (cc := prog_14_method_69_code) (maxL := 17) (av := [.ref h, .int (nI t), .int 3, .int (nI q), .int (nI r), .int (nI w)]) (ws := MW dA h ad x) (sz := sz) (Qc := fun A => va_Qv (fun (u9 : Unit) => True) (fun (u9 : Unit) t9 => bW D A (MW dA h ad (MS.s_isCell (MS.s_cells x (va_up x.cells ((t * 256 + r) * 64 + w) (gMo (x.isCell ((t * 256 + r) * 64 + w)) (x.pointValues q) (x.cells ((t * 256 + r) * 64 + w))))) (va_up x.isCell ((t * 256 + r) * 64 + w) true))) t9) A) (by decide) (Nat.le_of_ble_eq_true rfl) ?_
  intro A p e s m below meth c ls hsz hB
  obtain ⟨hx, hb, hr, hml, hown, hin, hlk, hE, hK, hP, hD, hS, hA, hN, hl⟩ := hB
  have hown : s.vm.findClass "SeriesVaultModel" = some m.cls := hown
  have hl : lv_has ls 17 [(0, .ref h), (1, .int (nI t)), (2, .int 3), (3, .int (nI q)), (4, .int (nI r)), (5, .int (nI w))] := hl
  obtain ⟨H, hH⟩ : ∃ z, z = s.heap := ⟨_, rfl⟩
  have hP : va_P D vwCl (MW dA h ad x) H := by rw [hH]; exact hP
  have hS : va_S A s.heap H [] := by rw [hH]; exact hS
  rw [← hH]
  refine lv_iload_n hx hb d_M_gather_0 rfl (lv_at hl 1 rfl) ?_
  refine lv_iload hx hb d_M_gather_1 (lv_at hl 4 rfl) ?_
  refine lv_iload hx hb d_M_gather_3 (lv_at hl 5 rfl) ?_
  have hPc := hP.sub (ws' := []) [] rfl
  have hDc := hD.sub (ws' := []) [] (by decide) rfl
  refine jnI (rnS (As := [.int (nI t), .int (nI r), .int (nI w)]) (rest := []) hx hb hml hown hE hK (hN _ _ hS) hPc hDc (k_cellAt l D dA H.size t r w) w971 w970 w972 w328 rfl rfl ⟨⟨by decide, by decide⟩, rfl⟩ ⟨(Nat.le_of_ble_eq_true rfl), (Nat.le_of_ble_eq_true rfl)⟩ rfl hl.1 rfl (Nat.le_of_ble_eq_true rfl) d_M_gather_5 ⟨(Nat.le_of_ble_eq_true rfl), (Nat.le_of_ble_eq_true rfl)⟩) hP hD hS hA [] [0, 1, 2, 3, 4, 5, 6, 7, 8, 9, 10, 11, 12, 13, 14, 15, 16, 17, 18, 19, 20, 21, 22, 23, 24, 25, 26, 27, 28, 29, 30, 31, 32, 33, 34, 35, 36, 37, 38] (wr := MW dA h ad x) rfl rfl (by decide) (by decide) (fun r1 u9 H locs hp9 hP hD hS => ?_)
  have hP : va_P D vwCl (MW dA h ad x) H := hP
  have hD : va_D A (MW dA h ad x) := hD
  replace hp9 : nI ((t * 256 + r) * 64 + w) = r1 := Eq.symm hp9
  subst hp9
  refine lv_istore hx hb d_M_gather_8 hl (by decide) rfl (fun ls hl => ?_)
  have hl : lv_has ls 17 [(6, .int (nI ((t * 256 + r) * 64 + w))), (0, .ref h), (1, .int (nI t)), (2, .int 3), (3, .int (nI q)), (4, .int (nI r)), (5, .int (nI w))] := hl
  refine lv_iload hx hb d_M_gather_10 (lv_at hl 5 rfl) ?_
  refine lv_bipush (v := 64) hx hb d_M_gather_12 (by decide) ?_
  refine lv_imul hx hb d_M_gather_14 (tpi (y := nI (r * 64)) (pk_mul (r) (64)) ?_)
  refine lv_iload hx hb d_M_gather_15 (lv_at hl 6 rfl) ?_
  refine lv_iadd hx hb d_M_gather_17 (tpi (y := nI ((r * 64) + w)) (nI_add (r * 64) (w)) ?_)
  refine lv_istore hx hb d_M_gather_18 hl (by decide) rfl (fun ls hl => ?_)
  have hl : lv_has ls 17 [(7, .int (nI ((r * 64) + w))), (6, .int (nI ((t * 256 + r) * 64 + w))), (0, .ref h), (1, .int (nI t)), (2, .int 3), (3, .int (nI q)), (4, .int (nI r)), (5, .int (nI w))] := hl
  refine lv_aload_n hx hb d_M_gather_20 rfl (lv_at hl 2 rfl) ?_
  refine gF (v := .ref (ad 17)) hx hb hown hE hK hP 0 rfl rfl layM 17 (by decide) w503 rfl d_M_gather_21 ?_
  refine lv_iload_n hx hb d_M_gather_24 rfl (lv_at hl 5 rfl) ?_
  refine nild (f := (fun z9 => nI (x.pointSeries z9))) hx hb hK hP 6 1 rfl rfl (q) (by omega) (by decide) d_M_gather_25 ?_
  refine lv_istore hx hb d_M_gather_26 hl (by decide) rfl (fun ls hl => ?_)
  have hl : lv_has ls 17 [(8, .int (nI (x.pointSeries q))), (7, .int (nI ((r * 64) + w))), (6, .int (nI ((t * 256 + r) * 64 + w))), (0, .ref h), (1, .int (nI t)), (2, .int 3), (3, .int (nI q)), (4, .int (nI r)), (5, .int (nI w))] := hl
  refine lv_aload_n hx hb d_M_gather_28 rfl (lv_at hl 3 rfl) ?_
  refine gF (v := .ref (ad 19)) hx hb hown hE hK hP 0 rfl rfl layM 19 (by decide) w505 rfl d_M_gather_29 ?_
  refine lv_iload_n hx hb d_M_gather_32 rfl (lv_at hl 6 rfl) ?_
  refine nlld (f := x.pointValues) hx hb hK hP 8 2 rfl rfl (q) (by omega) (by decide) d_M_gather_33 ?_
  refine lv_lstore hx hb d_M_gather_34 hl (by decide) rfl (fun ls hl => ?_)
  have hl : lv_has ls 17 [(9, .long (x.pointValues q)), (8, .int (nI (x.pointSeries q))), (7, .int (nI ((r * 64) + w))), (6, .int (nI ((t * 256 + r) * 64 + w))), (0, .ref h), (1, .int (nI t)), (2, .int 3), (3, .int (nI q)), (4, .int (nI r)), (5, .int (nI w))] := hl
  refine lv_aload_n hx hb d_M_gather_36 rfl (lv_at hl 4 rfl) ?_
  refine gF (v := .ref (ad 18)) hx hb hown hE hK hP 0 rfl rfl layM 18 (by decide) w504 rfl d_M_gather_37 ?_
  refine lv_iload_n hx hb d_M_gather_40 rfl (lv_at hl 7 rfl) ?_
  refine nlld (f := x.pointTimes) hx hb hK hP 7 2 rfl rfl (q) (by omega) (by decide) d_M_gather_41 ?_
  refine lv_lstore hx hb d_M_gather_42 hl (by decide) rfl (fun ls hl => ?_)
  have hl : lv_has ls 17 [(11, .long (x.pointTimes q)), (9, .long (x.pointValues q)), (8, .int (nI (x.pointSeries q))), (7, .int (nI ((r * 64) + w))), (6, .int (nI ((t * 256 + r) * 64 + w))), (0, .ref h), (1, .int (nI t)), (2, .int 3), (3, .int (nI q)), (4, .int (nI r)), (5, .int (nI w))] := hl
  refine lv_aload_n hx hb d_M_gather_44 rfl (lv_at hl 5 rfl) ?_
  refine gF (v := .ref (ad 54)) hx hb hown hE hK hP 0 rfl rfl layM 54 (by decide) w526 rfl d_M_gather_45 ?_
  refine lv_iload hx hb d_M_gather_48 (lv_at hl 4 rfl) ?_
  refine nzld (f := (fun z9 => bI (x.isCell z9))) hx hb hK hP 27 3 rfl rfl ((t * 256 + r) * 64 + w) (by omega) (by decide) d_M_gather_50 ?_
  refine lv_istore hx hb d_M_gather_51 hl (by decide) rfl (fun ls hl => ?_)
  have hl : lv_has ls 17 [(13, .int (bI (x.isCell ((t * 256 + r) * 64 + w)))), (11, .long (x.pointTimes q)), (9, .long (x.pointValues q)), (8, .int (nI (x.pointSeries q))), (7, .int (nI ((r * 64) + w))), (6, .int (nI ((t * 256 + r) * 64 + w))), (0, .ref h), (1, .int (nI t)), (2, .int 3), (3, .int (nI q)), (4, .int (nI r)), (5, .int (nI w))] := hl
  have J101 : ∀ (so : Bool) (j1 : x.gSo ((t * 256 + r) * 64 + w) ((r * 64) + w) (x.pointSeries q) (x.pointTimes q) = so), ∀ (H : Heap) (locs : List Loc) (ls : Array Slot) (hP : va_P D vwCl (MW dA h ad x) H) (hD : va_D A (MW dA h ad x)) (hS : va_S A s.heap H locs) (hl : lv_has ls 17 [(2, .int 3), (1, .int (nI t)), (3, .int (nI q)), (4, .int (nI r)), (5, .int (nI w)), (0, .ref h), (6, .int (nI ((t * 256 + r) * 64 + w))), (7, .int (nI ((r * 64) + w))), (8, .int (nI (x.pointSeries q))), (9, .long (x.pointValues q)), (11, .long (x.pointTimes q)), (13, .int (bI (x.isCell ((t * 256 + r) * 64 + w))))]), W p l e ({ frames := 2, cells := 0, slots := 0, locals := 22 } : Room) s m ([.ref h, .int (nI t), .int 3, .int (nI q), .int (nI r), .int (nI w)] : List Value).toArray below meth c H locs 0 0 (MQ below (va_Qv (fun (u9 : Unit) => True) (fun (u9 : Unit) t9 => bW D A (MW dA h ad (MS.s_isCell (MS.s_cells x (va_up x.cells ((t * 256 + r) * 64 + w) (gMo (x.isCell ((t * 256 + r) * 64 + w)) (x.pointValues q) (x.cells ((t * 256 + r) * 64 + w))))) (va_up x.isCell ((t * 256 + r) * 64 + w) true))) t9) A) ([.ref h, .int (nI t), .int 3, .int (nI q), .int (nI r), .int (nI w)] : List Value).toArray s 0 0 A) (F0 m 101 ls [.int (bI so)]) := by
    intro so j1 H locs ls hP hD hS hl
    refine lv_istore hx hb d_M_gather_101 hl (by decide) rfl (fun ls hl => ?_)
    have hl : lv_has ls 17 [(14, .int (bI so)), (2, .int 3), (1, .int (nI t)), (3, .int (nI q)), (4, .int (nI r)), (5, .int (nI w)), (0, .ref h), (6, .int (nI ((t * 256 + r) * 64 + w))), (7, .int (nI ((r * 64) + w))), (8, .int (nI (x.pointSeries q))), (9, .long (x.pointValues q)), (11, .long (x.pointTimes q)), (13, .int (bI (x.isCell ((t * 256 + r) * 64 + w))))] := hl
    have J151 : ∀ (la : Bool) (j2 : x.gLa ((t * 256 + r) * 64 + w) ((r * 64) + w) (x.pointSeries q) (x.pointTimes q) = la), ∀ (H : Heap) (locs : List Loc) (ls : Array Slot) (hP : va_P D vwCl (MW dA h ad x) H) (hD : va_D A (MW dA h ad x)) (hS : va_S A s.heap H locs) (hl : lv_has ls 17 [(14, .int (bI so)), (2, .int 3), (1, .int (nI t)), (3, .int (nI q)), (4, .int (nI r)), (5, .int (nI w)), (0, .ref h), (6, .int (nI ((t * 256 + r) * 64 + w))), (7, .int (nI ((r * 64) + w))), (8, .int (nI (x.pointSeries q))), (9, .long (x.pointValues q)), (11, .long (x.pointTimes q)), (13, .int (bI (x.isCell ((t * 256 + r) * 64 + w))))]), W p l e ({ frames := 2, cells := 0, slots := 0, locals := 22 } : Room) s m ([.ref h, .int (nI t), .int 3, .int (nI q), .int (nI r), .int (nI w)] : List Value).toArray below meth c H locs 0 0 (MQ below (va_Qv (fun (u9 : Unit) => True) (fun (u9 : Unit) t9 => bW D A (MW dA h ad (MS.s_isCell (MS.s_cells x (va_up x.cells ((t * 256 + r) * 64 + w) (gMo (x.isCell ((t * 256 + r) * 64 + w)) (x.pointValues q) (x.cells ((t * 256 + r) * 64 + w))))) (va_up x.isCell ((t * 256 + r) * 64 + w) true))) t9) A) ([.ref h, .int (nI t), .int 3, .int (nI q), .int (nI r), .int (nI w)] : List Value).toArray s 0 0 A) (F0 m 151 ls [.int (bI la)]) := by
      intro la j2 H locs ls hP hD hS hl
      refine lv_istore hx hb d_M_gather_151 hl (by decide) rfl (fun ls hl => ?_)
      have hl : lv_has ls 17 [(15, .int (bI la)), (14, .int (bI so)), (2, .int 3), (1, .int (nI t)), (3, .int (nI q)), (4, .int (nI r)), (5, .int (nI w)), (0, .ref h), (6, .int (nI ((t * 256 + r) * 64 + w))), (7, .int (nI ((r * 64) + w))), (8, .int (nI (x.pointSeries q))), (9, .long (x.pointValues q)), (11, .long (x.pointTimes q)), (13, .int (bI (x.isCell ((t * 256 + r) * 64 + w))))] := hl
      refine lv_iload_n hx hb d_M_gather_153 rfl (lv_at hl 2 rfl) ?_
      refine lv_iconst (v := 4) hx hb d_M_gather_154 (by decide) ?_
      refine lv_icmp_ne hx hb d_M_gather_155 (tgt := 163) rfl (fun _ => ?_) (fun h9 => absurd h9 (by decide))
      refine lv_iload hx hb d_M_gather_163 (lv_at hl 0 rfl) ?_
      refine lv_istore hx hb d_M_gather_165 hl (by decide) rfl (fun ls hl => ?_)
      have hl : lv_has ls 17 [(16, .int (bI la)), (15, .int (bI la)), (14, .int (bI so)), (2, .int 3), (1, .int (nI t)), (3, .int (nI q)), (4, .int (nI r)), (5, .int (nI w)), (0, .ref h), (6, .int (nI ((t * 256 + r) * 64 + w))), (7, .int (nI ((r * 64) + w))), (8, .int (nI (x.pointSeries q))), (9, .long (x.pointValues q)), (11, .long (x.pointTimes q)), (13, .int (bI (x.isCell ((t * 256 + r) * 64 + w))))] := hl
      refine lv_iload_n hx hb d_M_gather_167 rfl (lv_at hl 3 rfl) ?_
      refine lv_if_eq hx hb d_M_gather_168 (tgt := 176) rfl (fun h9 => absurd h9 (by decide)) (fun _ => ?_)
      refine lv_iload_n hx hb d_M_gather_171 rfl (lv_at hl 3 rfl) ?_
      refine lv_iconst (v := 1) hx hb d_M_gather_172 (by decide) ?_
      refine lv_icmp_ne hx hb d_M_gather_173 (tgt := 199) rfl (fun _ => ?_) (fun h9 => absurd h9 (by decide))
      refine lv_iload_n hx hb d_M_gather_199 rfl (lv_at hl 3 rfl) ?_
      refine lv_iconst (v := 2) hx hb d_M_gather_200 (by decide) ?_
      refine lv_icmp_eq hx hb d_M_gather_201 (tgt := 209) rfl (fun h9 => absurd h9 (by decide)) (fun _ => ?_)
      refine lv_iload_n hx hb d_M_gather_204 rfl (lv_at hl 3 rfl) ?_
      refine lv_iconst (v := 3) hx hb d_M_gather_205 (by decide) ?_
      refine lv_icmp_ne hx hb d_M_gather_206 (tgt := 270) rfl (fun h9 => absurd (by decide) h9) (fun _ => ?_)
      refine lv_aload_n hx hb d_M_gather_209 rfl (lv_at hl 8 rfl) ?_
      refine gF (v := .ref (ad 53)) hx hb hown hE hK hP 0 rfl rfl layM 53 (by decide) w524 rfl d_M_gather_210 ?_
      refine lv_iload hx hb d_M_gather_213 (lv_at hl 9 rfl) ?_
      refine lv_iload hx hb d_M_gather_215 (lv_at hl 14 rfl) ?_
      refine lv_if_eq hx hb d_M_gather_217 (tgt := 254) rfl (fun g3 => ?_) (fun g3 => ?_)
      · have g3 := bI_0 g3
        refine lv_lload hx hb d_M_gather_254 (lv_at hl 12 rfl) ?_
        refine lv_goto hx hb d_M_gather_256 (tgt := 266) rfl ?_
        refine nlst hx hb hK hP hD hS 26 2 rfl rfl ((t * 256 + r) * 64 + w) (by omega) (by decide) d_M_gather_266 (fun H locs hP hD hS => ?_)
        have hP : va_P D vwCl (MW dA h ad (MS.s_cells x (va_up x.cells ((t * 256 + r) * 64 + w) (x.pointValues q)))) H := hP
        have hD : va_D A (MW dA h ad (MS.s_cells x (va_up x.cells ((t * 256 + r) * 64 + w) (x.pointValues q)))) := hD
        refine lv_goto hx hb d_M_gather_267 (tgt := 360) rfl ?_
        refine lv_aload_n hx hb d_M_gather_360 rfl (lv_at hl 8 rfl) ?_
        refine gF (v := .ref (ad 54)) hx hb hown hE hK hP 0 rfl rfl layM 54 (by decide) w526 rfl d_M_gather_361 ?_
        refine lv_iload hx hb d_M_gather_364 (lv_at hl 9 rfl) ?_
        refine lv_iconst (v := 1) hx hb d_M_gather_366 (by decide) ?_
        refine nzstB (v := true) hx hb hK hP hD hS 27 3 rfl rfl ((t * 256 + r) * 64 + w) (by omega) (by decide) d_M_gather_367 (fun H locs hP hD hS => ?_)
        have hP : va_P D vwCl (MW dA h ad (MS.s_isCell (MS.s_cells x (va_up x.cells ((t * 256 + r) * 64 + w) (x.pointValues q))) (va_up x.isCell ((t * 256 + r) * 64 + w) true))) H := hP
        have hD : va_D A (MW dA h ad (MS.s_isCell (MS.s_cells x (va_up x.cells ((t * 256 + r) * 64 + w) (x.pointValues q))) (va_up x.isCell ((t * 256 + r) * 64 + w) true))) := hD
        have e9 : (MS.s_isCell (MS.s_cells x (va_up x.cells ((t * 256 + r) * 64 + w) (x.pointValues q))) (va_up x.isCell ((t * 256 + r) * 64 + w) true) : MS) = MS.s_isCell (MS.s_cells x (va_up x.cells ((t * 256 + r) * 64 + w) (gMo (x.isCell ((t * 256 + r) * 64 + w)) (x.pointValues q) (x.cells ((t * 256 + r) * 64 + w))))) (va_up x.isCell ((t * 256 + r) * 64 + w) true) := by rw [show (va_up x.cells ((t * 256 + r) * 64 + w) (gMo (x.isCell ((t * 256 + r) * 64 + w)) (x.pointValues q) (x.cells ((t * 256 + r) * 64 + w)))) = (va_up x.cells ((t * 256 + r) * 64 + w) (x.pointValues q)) from by (simp [gMo, *])] <;> rfl
        exact rfV hx hb hr hlk hS () trivial (cvP e9 hP) (cvD e9 hD) (Nat.le_of_ble_eq_true rfl) (Nat.le_of_ble_eq_true rfl) d_M_gather_368
      · have g3 := bI_n0 g3
        refine lv_iload_n hx hb d_M_gather_220 rfl (lv_at hl 3 rfl) ?_
        refine lv_iconst (v := 2) hx hb d_M_gather_221 (by decide) ?_
        refine lv_icmp_ne hx hb d_M_gather_222 (tgt := 241) rfl (fun _ => ?_) (fun h9 => absurd h9 (by decide))
        refine lv_lload hx hb d_M_gather_241 (lv_at hl 12 rfl) ?_
        refine lv_aload_n hx hb d_M_gather_243 rfl (lv_at hl 8 rfl) ?_
        refine gF (v := .ref (ad 53)) hx hb hown hE hK hP 0 rfl rfl layM 53 (by decide) w524 rfl d_M_gather_244 ?_
        refine lv_iload hx hb d_M_gather_247 (lv_at hl 9 rfl) ?_
        refine nlld (f := x.cells) hx hb hK hP 26 2 rfl rfl ((t * 256 + r) * 64 + w) (by omega) (by decide) d_M_gather_249 ?_
        refine W.lcmp hx hb d_M_gather_250 ?_
        refine lv_if_le hx hb d_M_gather_251 (tgt := 259) rfl (fun g4 => ?_) (fun g4 => ?_)
        · have g4 := (lg_cmp_le _ _).mp g4
          refine lv_aload_n hx hb d_M_gather_259 rfl (lv_at hl 8 rfl) ?_
          refine gF (v := .ref (ad 53)) hx hb hown hE hK hP 0 rfl rfl layM 53 (by decide) w524 rfl d_M_gather_260 ?_
          refine lv_iload hx hb d_M_gather_263 (lv_at hl 9 rfl) ?_
          refine nlld (f := x.cells) hx hb hK hP 26 2 rfl rfl ((t * 256 + r) * 64 + w) (by omega) (by decide) d_M_gather_265 ?_
          refine nlst hx hb hK hP hD hS 26 2 rfl rfl ((t * 256 + r) * 64 + w) (by omega) (by decide) d_M_gather_266 (fun H locs hP hD hS => ?_)
          have hP : va_P D vwCl (MW dA h ad (MS.s_cells x (va_up x.cells ((t * 256 + r) * 64 + w) (x.cells ((t * 256 + r) * 64 + w))))) H := hP
          have hD : va_D A (MW dA h ad (MS.s_cells x (va_up x.cells ((t * 256 + r) * 64 + w) (x.cells ((t * 256 + r) * 64 + w))))) := hD
          refine lv_goto hx hb d_M_gather_267 (tgt := 360) rfl ?_
          refine lv_aload_n hx hb d_M_gather_360 rfl (lv_at hl 8 rfl) ?_
          refine gF (v := .ref (ad 54)) hx hb hown hE hK hP 0 rfl rfl layM 54 (by decide) w526 rfl d_M_gather_361 ?_
          refine lv_iload hx hb d_M_gather_364 (lv_at hl 9 rfl) ?_
          refine lv_iconst (v := 1) hx hb d_M_gather_366 (by decide) ?_
          refine nzstB (v := true) hx hb hK hP hD hS 27 3 rfl rfl ((t * 256 + r) * 64 + w) (by omega) (by decide) d_M_gather_367 (fun H locs hP hD hS => ?_)
          have hP : va_P D vwCl (MW dA h ad (MS.s_isCell (MS.s_cells x (va_up x.cells ((t * 256 + r) * 64 + w) (x.cells ((t * 256 + r) * 64 + w)))) (va_up x.isCell ((t * 256 + r) * 64 + w) true))) H := hP
          have hD : va_D A (MW dA h ad (MS.s_isCell (MS.s_cells x (va_up x.cells ((t * 256 + r) * 64 + w) (x.cells ((t * 256 + r) * 64 + w)))) (va_up x.isCell ((t * 256 + r) * 64 + w) true))) := hD
          have e9 : (MS.s_isCell (MS.s_cells x (va_up x.cells ((t * 256 + r) * 64 + w) (x.cells ((t * 256 + r) * 64 + w)))) (va_up x.isCell ((t * 256 + r) * 64 + w) true) : MS) = MS.s_isCell (MS.s_cells x (va_up x.cells ((t * 256 + r) * 64 + w) (gMo (x.isCell ((t * 256 + r) * 64 + w)) (x.pointValues q) (x.cells ((t * 256 + r) * 64 + w))))) (va_up x.isCell ((t * 256 + r) * 64 + w) true) := by rw [show (va_up x.cells ((t * 256 + r) * 64 + w) (gMo (x.isCell ((t * 256 + r) * 64 + w)) (x.pointValues q) (x.cells ((t * 256 + r) * 64 + w)))) = (va_up x.cells ((t * 256 + r) * 64 + w) (x.cells ((t * 256 + r) * 64 + w))) from by (simp [gMo, *])] <;> rfl
          exact rfV hx hb hr hlk hS () trivial (cvP e9 hP) (cvD e9 hD) (Nat.le_of_ble_eq_true rfl) (Nat.le_of_ble_eq_true rfl) d_M_gather_368
        · have g4 := mt (lg_cmp_le _ _).mpr g4
          refine lv_lload hx hb d_M_gather_254 (lv_at hl 12 rfl) ?_
          refine lv_goto hx hb d_M_gather_256 (tgt := 266) rfl ?_
          refine nlst hx hb hK hP hD hS 26 2 rfl rfl ((t * 256 + r) * 64 + w) (by omega) (by decide) d_M_gather_266 (fun H locs hP hD hS => ?_)
          have hP : va_P D vwCl (MW dA h ad (MS.s_cells x (va_up x.cells ((t * 256 + r) * 64 + w) (x.pointValues q)))) H := hP
          have hD : va_D A (MW dA h ad (MS.s_cells x (va_up x.cells ((t * 256 + r) * 64 + w) (x.pointValues q)))) := hD
          refine lv_goto hx hb d_M_gather_267 (tgt := 360) rfl ?_
          refine lv_aload_n hx hb d_M_gather_360 rfl (lv_at hl 8 rfl) ?_
          refine gF (v := .ref (ad 54)) hx hb hown hE hK hP 0 rfl rfl layM 54 (by decide) w526 rfl d_M_gather_361 ?_
          refine lv_iload hx hb d_M_gather_364 (lv_at hl 9 rfl) ?_
          refine lv_iconst (v := 1) hx hb d_M_gather_366 (by decide) ?_
          refine nzstB (v := true) hx hb hK hP hD hS 27 3 rfl rfl ((t * 256 + r) * 64 + w) (by omega) (by decide) d_M_gather_367 (fun H locs hP hD hS => ?_)
          have hP : va_P D vwCl (MW dA h ad (MS.s_isCell (MS.s_cells x (va_up x.cells ((t * 256 + r) * 64 + w) (x.pointValues q))) (va_up x.isCell ((t * 256 + r) * 64 + w) true))) H := hP
          have hD : va_D A (MW dA h ad (MS.s_isCell (MS.s_cells x (va_up x.cells ((t * 256 + r) * 64 + w) (x.pointValues q))) (va_up x.isCell ((t * 256 + r) * 64 + w) true))) := hD
          have e9 : (MS.s_isCell (MS.s_cells x (va_up x.cells ((t * 256 + r) * 64 + w) (x.pointValues q))) (va_up x.isCell ((t * 256 + r) * 64 + w) true) : MS) = MS.s_isCell (MS.s_cells x (va_up x.cells ((t * 256 + r) * 64 + w) (gMo (x.isCell ((t * 256 + r) * 64 + w)) (x.pointValues q) (x.cells ((t * 256 + r) * 64 + w))))) (va_up x.isCell ((t * 256 + r) * 64 + w) true) := by rw [show (va_up x.cells ((t * 256 + r) * 64 + w) (gMo (x.isCell ((t * 256 + r) * 64 + w)) (x.pointValues q) (x.cells ((t * 256 + r) * 64 + w)))) = (va_up x.cells ((t * 256 + r) * 64 + w) (x.pointValues q)) from by (simp [gMo, *])] <;> rfl
          exact rfV hx hb hr hlk hS () trivial (cvP e9 hP) (cvD e9 hD) (Nat.le_of_ble_eq_true rfl) (Nat.le_of_ble_eq_true rfl) d_M_gather_368
    refine lv_iload hx hb d_M_gather_103 (lv_at hl 12 rfl) ?_
    refine lv_if_eq hx hb d_M_gather_105 (tgt := 146) rfl (fun g5 => ?_) (fun g5 => ?_)
    · have g5 := bI_0 g5
      refine lv_iconst (v := 1) hx hb d_M_gather_146 (by decide) ?_
      refine lv_goto hx hb d_M_gather_147 (tgt := 151) rfl ?_
      exact J151 true (by simp [MS.gLa, *]) H _ ls hP hD hS (lv_sub hl [0, 1, 2, 3, 4, 5, 6, 7, 8, 9, 10, 11, 12] rfl)
    · have g5 := bI_n0 g5
      refine lv_lload hx hb d_M_gather_108 (lv_at hl 11 rfl) ?_
      refine lv_aload_n hx hb d_M_gather_110 rfl (lv_at hl 6 rfl) ?_
      refine gF (v := .ref (ad 62)) hx hb hown hE hK hP 0 rfl rfl layM 62 (by decide) w528 rfl d_M_gather_111 ?_
      refine lv_iload hx hb d_M_gather_114 (lv_at hl 8 rfl) ?_
      refine nlld (f := x.keyTimes) hx hb hK hP 29 2 rfl rfl ((r * 64) + w) (by omega) (by decide) d_M_gather_116 ?_
      refine W.lcmp hx hb d_M_gather_117 ?_
      refine lv_if_gt hx hb d_M_gather_118 (tgt := 146) rfl (fun g6 => ?_) (fun g6 => ?_)
      · have g6 := (lg_cmp_gt _ _).mp g6
        refine lv_iconst (v := 1) hx hb d_M_gather_146 (by decide) ?_
        refine lv_goto hx hb d_M_gather_147 (tgt := 151) rfl ?_
        exact J151 true (by simp [MS.gLa, *]) H _ ls hP hD hS (lv_sub hl [0, 1, 2, 3, 4, 5, 6, 7, 8, 9, 10, 11, 12] rfl)
      · have g6 := mt (lg_cmp_gt _ _).mpr g6
        refine lv_lload hx hb d_M_gather_121 (lv_at hl 11 rfl) ?_
        refine lv_aload_n hx hb d_M_gather_123 rfl (lv_at hl 6 rfl) ?_
        refine gF (v := .ref (ad 62)) hx hb hown hE hK hP 0 rfl rfl layM 62 (by decide) w528 rfl d_M_gather_124 ?_
        refine lv_iload hx hb d_M_gather_127 (lv_at hl 8 rfl) ?_
        refine nlld (f := x.keyTimes) hx hb hK hP 29 2 rfl rfl ((r * 64) + w) (by omega) (by decide) d_M_gather_129 ?_
        refine W.lcmp hx hb d_M_gather_130 ?_
        refine lv_if_ne hx hb d_M_gather_131 (tgt := 150) rfl (fun g7 => ?_) (fun g7 => ?_)
        · have g7 := mt (lg_cmp_eq _ _).mpr g7
          refine lv_iconst (v := 0) hx hb d_M_gather_150 (by decide) ?_
          exact J151 false (by simp [MS.gLa, *]) H _ ls hP hD hS (lv_sub hl [0, 1, 2, 3, 4, 5, 6, 7, 8, 9, 10, 11, 12] rfl)
        · have g7 := (lg_cmp_eq _ _).mp g7
          refine lv_iload hx hb d_M_gather_134 (lv_at hl 9 rfl) ?_
          refine lv_aload_n hx hb d_M_gather_136 rfl (lv_at hl 6 rfl) ?_
          refine gF (v := .ref (ad 63)) hx hb hown hE hK hP 0 rfl rfl layM 63 (by decide) w529 rfl d_M_gather_137 ?_
          refine lv_iload hx hb d_M_gather_140 (lv_at hl 8 rfl) ?_
          refine nild (f := (fun z9 => nI (x.keySeries z9))) hx hb hK hP 30 1 rfl rfl ((r * 64) + w) (by omega) (by decide) d_M_gather_142 ?_
          refine lv_icmp_ge hx hb d_M_gather_143 (tgt := 150) rfl (fun g8 => ?_) (fun g8 => ?_)
          · have g8 := (nI_leI (a := x.keySeries ((r * 64) + w)) (b := x.pointSeries q) (by omega) (by omega)).mp g8
            refine lv_iconst (v := 0) hx hb d_M_gather_150 (by decide) ?_
            exact J151 false (by simp [MS.gLa, *]) H _ ls hP hD hS (lv_sub hl [0, 1, 2, 3, 4, 5, 6, 7, 8, 9, 10, 11, 12] rfl)
          · have g8 := mt (nI_leI (a := x.keySeries ((r * 64) + w)) (b := x.pointSeries q) (by omega) (by omega)).mpr g8
            refine lv_iconst (v := 1) hx hb d_M_gather_146 (by decide) ?_
            refine lv_goto hx hb d_M_gather_147 (tgt := 151) rfl ?_
            exact J151 true (by simp [MS.gLa, *]) H _ ls hP hD hS (lv_sub hl [0, 1, 2, 3, 4, 5, 6, 7, 8, 9, 10, 11, 12] rfl)
  refine lv_iload hx hb d_M_gather_53 (lv_at hl 0 rfl) ?_
  refine lv_if_eq hx hb d_M_gather_55 (tgt := 96) rfl (fun g9 => ?_) (fun g9 => ?_)
  · have g9 := bI_0 g9
    refine lv_iconst (v := 1) hx hb d_M_gather_96 (by decide) ?_
    refine lv_goto hx hb d_M_gather_97 (tgt := 101) rfl ?_
    exact J101 true (by simp [MS.gSo, *]) H _ ls hP hD hS (lv_sub hl [8, 7, 9, 10, 11, 6, 5, 4, 3, 2, 1, 0] rfl)
  · have g9 := bI_n0 g9
    refine lv_lload hx hb d_M_gather_58 (lv_at hl 1 rfl) ?_
    refine lv_aload_n hx hb d_M_gather_60 rfl (lv_at hl 6 rfl) ?_
    refine gF (v := .ref (ad 62)) hx hb hown hE hK hP 0 rfl rfl layM 62 (by decide) w528 rfl d_M_gather_61 ?_
    refine lv_iload hx hb d_M_gather_64 (lv_at hl 4 rfl) ?_
    refine nlld (f := x.keyTimes) hx hb hK hP 29 2 rfl rfl ((r * 64) + w) (by omega) (by decide) d_M_gather_66 ?_
    refine W.lcmp hx hb d_M_gather_67 ?_
    refine lv_if_lt hx hb d_M_gather_68 (tgt := 96) rfl (fun g10 => ?_) (fun g10 => ?_)
    · have g10 := (lg_cmp_lt _ _).mp g10
      refine lv_iconst (v := 1) hx hb d_M_gather_96 (by decide) ?_
      refine lv_goto hx hb d_M_gather_97 (tgt := 101) rfl ?_
      exact J101 true (by simp [MS.gSo, *]) H _ ls hP hD hS (lv_sub hl [8, 7, 9, 10, 11, 6, 5, 4, 3, 2, 1, 0] rfl)
    · have g10 := mt (lg_cmp_lt _ _).mpr g10
      refine lv_lload hx hb d_M_gather_71 (lv_at hl 1 rfl) ?_
      refine lv_aload_n hx hb d_M_gather_73 rfl (lv_at hl 6 rfl) ?_
      refine gF (v := .ref (ad 62)) hx hb hown hE hK hP 0 rfl rfl layM 62 (by decide) w528 rfl d_M_gather_74 ?_
      refine lv_iload hx hb d_M_gather_77 (lv_at hl 4 rfl) ?_
      refine nlld (f := x.keyTimes) hx hb hK hP 29 2 rfl rfl ((r * 64) + w) (by omega) (by decide) d_M_gather_79 ?_
      refine W.lcmp hx hb d_M_gather_80 ?_
      refine lv_if_ne hx hb d_M_gather_81 (tgt := 100) rfl (fun g11 => ?_) (fun g11 => ?_)
      · have g11 := mt (lg_cmp_eq _ _).mpr g11
        refine lv_iconst (v := 0) hx hb d_M_gather_100 (by decide) ?_
        exact J101 false (by simp [MS.gSo, *]) H _ ls hP hD hS (lv_sub hl [8, 7, 9, 10, 11, 6, 5, 4, 3, 2, 1, 0] rfl)
      · have g11 := (lg_cmp_eq _ _).mp g11
        refine lv_iload hx hb d_M_gather_84 (lv_at hl 3 rfl) ?_
        refine lv_aload_n hx hb d_M_gather_86 rfl (lv_at hl 6 rfl) ?_
        refine gF (v := .ref (ad 63)) hx hb hown hE hK hP 0 rfl rfl layM 63 (by decide) w529 rfl d_M_gather_87 ?_
        refine lv_iload hx hb d_M_gather_90 (lv_at hl 4 rfl) ?_
        refine nild (f := (fun z9 => nI (x.keySeries z9))) hx hb hK hP 30 1 rfl rfl ((r * 64) + w) (by omega) (by decide) d_M_gather_92 ?_
        refine lv_icmp_ge hx hb d_M_gather_93 (tgt := 100) rfl (fun g12 => ?_) (fun g12 => ?_)
        · have g12 := (nI_leI (a := x.keySeries ((r * 64) + w)) (b := x.pointSeries q) (by omega) (by omega)).mp g12
          refine lv_iconst (v := 0) hx hb d_M_gather_100 (by decide) ?_
          exact J101 false (by simp [MS.gSo, *]) H _ ls hP hD hS (lv_sub hl [8, 7, 9, 10, 11, 6, 5, 4, 3, 2, 1, 0] rfl)
        · have g12 := mt (nI_leI (a := x.keySeries ((r * 64) + w)) (b := x.pointSeries q) (by omega) (by omega)).mpr g12
          refine lv_iconst (v := 1) hx hb d_M_gather_96 (by decide) ?_
          refine lv_goto hx hb d_M_gather_97 (tgt := 101) rfl ?_
          exact J101 true (by simp [MS.gSo, *]) H _ ls hP hD hS (lv_sub hl [8, 7, 9, 10, 11, 6, 5, 4, 3, 2, 1, 0] rfl)
theorem d_M_gather_270 : decode prog_14_method_69_code 270 = .ok (.iload_n 2, 1) := by decide +kernel
theorem d_M_gather_271 : decode prog_14_method_69_code 271 = .ok (.bipush 6, 2) := by decide +kernel
theorem d_M_gather_273 : decode prog_14_method_69_code 273 = .ok (.if_icmp .ne 55, 3) := by decide +kernel
theorem d_M_gather_276 : decode prog_14_method_69_code 276 = .ok (.aload_n 0, 1) := by decide +kernel
theorem d_M_gather_277 : decode prog_14_method_69_code 277 = .ok (.getfield 123, 3) := by decide +kernel
theorem d_M_gather_280 : decode prog_14_method_69_code 280 = .ok (.iload 8, 2) := by decide +kernel
theorem d_M_gather_282 : decode prog_14_method_69_code 282 = .ok (.baload, 1) := by decide +kernel
theorem d_M_gather_283 : decode prog_14_method_69_code 283 = .ok (.ifCond .ne 4, 3) := by decide +kernel
theorem d_M_gather_286 : decode prog_14_method_69_code 286 = .ok (.return_, 1) := by decide +kernel
set_option maxHeartbeats 4000000 in
set_option maxRecDepth 100000 in
theorem k_gather_6n (l : Launch) (D : va_G) (dA : Nat → ClassId) (sz : Nat) (h : Nat) (ad : Nat → Nat) (x : MS) (t : Nat) (q : Nat) (r : Nat) (w : Nat) (h1 : t < 20) (h2 : r < 256) (h3 : w < 64) (h4 : q < 12000) (h5 : x.pointSeries q < 256) (h6 : x.keySeries ((r * 64) + w) < 256) (hb3 : x.hasBefore (x.pointSeries q) = false) : Met l ⟨"SeriesVaultModel", "gather", "(IIIII)V"⟩ [Cond.code ⟨"SeriesVaultModel", "gather", "(IIIII)V"⟩ prog_14_method_69_code 17 none] { frames := 2, cells := 0, slots := 0, locals := 22 } (pC D dA [.ref h, .int (nI t), .int 6, .int (nI q), .int (nI r), .int (nI w)] (MW dA h ad x) sz) (va_Qv (fun (u9 : Unit) => True) (fun (u9 : Unit) t9 => bW D (va_A (MW dA h ad x) sz) (MW dA h ad x) t9) (va_A (MW dA h ad x) sz)) 0 0 (va_A (MW dA h ad x) sz) := by
  refine mkC (y := ⟨"SeriesVaultModel", "gather", "(IIIII)V"⟩) (cc := prog_14_method_69_code) (maxL := 17) (av := [.ref h, .int (nI t), .int 6, .int (nI q), .int (nI r), .int (nI w)]) (ws := MW dA h ad x) (sz := sz) (Qc := fun A => va_Qv (fun (u9 : Unit) => True) (fun (u9 : Unit) t9 => bW D A (MW dA h ad x) t9) A) (by decide) (Nat.le_of_ble_eq_true rfl) ?_
  intro A p e s m below meth c ls hsz hB
  obtain ⟨hx, hb, hr, hml, hown, hin, hlk, hE, hK, hP, hD, hS, hA, hN, hl⟩ := hB
  have hown : s.vm.findClass "SeriesVaultModel" = some m.cls := hown
  have hl : lv_has ls 17 [(0, .ref h), (1, .int (nI t)), (2, .int 6), (3, .int (nI q)), (4, .int (nI r)), (5, .int (nI w))] := hl
  obtain ⟨H, hH⟩ : ∃ z, z = s.heap := ⟨_, rfl⟩
  have hP : va_P D vwCl (MW dA h ad x) H := by rw [hH]; exact hP
  have hS : va_S A s.heap H [] := by rw [hH]; exact hS
  rw [← hH]
  refine lv_iload_n hx hb d_M_gather_0 rfl (lv_at hl 1 rfl) ?_
  refine lv_iload hx hb d_M_gather_1 (lv_at hl 4 rfl) ?_
  refine lv_iload hx hb d_M_gather_3 (lv_at hl 5 rfl) ?_
  have hPc := hP.sub (ws' := []) [] rfl
  have hDc := hD.sub (ws' := []) [] (by decide) rfl
  refine jnI (rnS (As := [.int (nI t), .int (nI r), .int (nI w)]) (rest := []) hx hb hml hown hE hK (hN _ _ hS) hPc hDc (k_cellAt l D dA H.size t r w) w971 w970 w972 w328 rfl rfl ⟨⟨by decide, by decide⟩, rfl⟩ ⟨(Nat.le_of_ble_eq_true rfl), (Nat.le_of_ble_eq_true rfl)⟩ rfl hl.1 rfl (Nat.le_of_ble_eq_true rfl) d_M_gather_5 ⟨(Nat.le_of_ble_eq_true rfl), (Nat.le_of_ble_eq_true rfl)⟩) hP hD hS hA [] [0, 1, 2, 3, 4, 5, 6, 7, 8, 9, 10, 11, 12, 13, 14, 15, 16, 17, 18, 19, 20, 21, 22, 23, 24, 25, 26, 27, 28, 29, 30, 31, 32, 33, 34, 35, 36, 37, 38] (wr := MW dA h ad x) rfl rfl (by decide) (by decide) (fun r1 u9 H locs hp9 hP hD hS => ?_)
  have hP : va_P D vwCl (MW dA h ad x) H := hP
  have hD : va_D A (MW dA h ad x) := hD
  replace hp9 : nI ((t * 256 + r) * 64 + w) = r1 := Eq.symm hp9
  subst hp9
  refine lv_istore hx hb d_M_gather_8 hl (by decide) rfl (fun ls hl => ?_)
  have hl : lv_has ls 17 [(6, .int (nI ((t * 256 + r) * 64 + w))), (0, .ref h), (1, .int (nI t)), (2, .int 6), (3, .int (nI q)), (4, .int (nI r)), (5, .int (nI w))] := hl
  refine lv_iload hx hb d_M_gather_10 (lv_at hl 5 rfl) ?_
  refine lv_bipush (v := 64) hx hb d_M_gather_12 (by decide) ?_
  refine lv_imul hx hb d_M_gather_14 (tpi (y := nI (r * 64)) (pk_mul (r) (64)) ?_)
  refine lv_iload hx hb d_M_gather_15 (lv_at hl 6 rfl) ?_
  refine lv_iadd hx hb d_M_gather_17 (tpi (y := nI ((r * 64) + w)) (nI_add (r * 64) (w)) ?_)
  refine lv_istore hx hb d_M_gather_18 hl (by decide) rfl (fun ls hl => ?_)
  have hl : lv_has ls 17 [(7, .int (nI ((r * 64) + w))), (6, .int (nI ((t * 256 + r) * 64 + w))), (0, .ref h), (1, .int (nI t)), (2, .int 6), (3, .int (nI q)), (4, .int (nI r)), (5, .int (nI w))] := hl
  refine lv_aload_n hx hb d_M_gather_20 rfl (lv_at hl 2 rfl) ?_
  refine gF (v := .ref (ad 17)) hx hb hown hE hK hP 0 rfl rfl layM 17 (by decide) w503 rfl d_M_gather_21 ?_
  refine lv_iload_n hx hb d_M_gather_24 rfl (lv_at hl 5 rfl) ?_
  refine nild (f := (fun z9 => nI (x.pointSeries z9))) hx hb hK hP 6 1 rfl rfl (q) (by omega) (by decide) d_M_gather_25 ?_
  refine lv_istore hx hb d_M_gather_26 hl (by decide) rfl (fun ls hl => ?_)
  have hl : lv_has ls 17 [(8, .int (nI (x.pointSeries q))), (7, .int (nI ((r * 64) + w))), (6, .int (nI ((t * 256 + r) * 64 + w))), (0, .ref h), (1, .int (nI t)), (2, .int 6), (3, .int (nI q)), (4, .int (nI r)), (5, .int (nI w))] := hl
  refine lv_aload_n hx hb d_M_gather_28 rfl (lv_at hl 3 rfl) ?_
  refine gF (v := .ref (ad 19)) hx hb hown hE hK hP 0 rfl rfl layM 19 (by decide) w505 rfl d_M_gather_29 ?_
  refine lv_iload_n hx hb d_M_gather_32 rfl (lv_at hl 6 rfl) ?_
  refine nlld (f := x.pointValues) hx hb hK hP 8 2 rfl rfl (q) (by omega) (by decide) d_M_gather_33 ?_
  refine lv_lstore hx hb d_M_gather_34 hl (by decide) rfl (fun ls hl => ?_)
  have hl : lv_has ls 17 [(9, .long (x.pointValues q)), (8, .int (nI (x.pointSeries q))), (7, .int (nI ((r * 64) + w))), (6, .int (nI ((t * 256 + r) * 64 + w))), (0, .ref h), (1, .int (nI t)), (2, .int 6), (3, .int (nI q)), (4, .int (nI r)), (5, .int (nI w))] := hl
  refine lv_aload_n hx hb d_M_gather_36 rfl (lv_at hl 4 rfl) ?_
  refine gF (v := .ref (ad 18)) hx hb hown hE hK hP 0 rfl rfl layM 18 (by decide) w504 rfl d_M_gather_37 ?_
  refine lv_iload_n hx hb d_M_gather_40 rfl (lv_at hl 7 rfl) ?_
  refine nlld (f := x.pointTimes) hx hb hK hP 7 2 rfl rfl (q) (by omega) (by decide) d_M_gather_41 ?_
  refine lv_lstore hx hb d_M_gather_42 hl (by decide) rfl (fun ls hl => ?_)
  have hl : lv_has ls 17 [(11, .long (x.pointTimes q)), (9, .long (x.pointValues q)), (8, .int (nI (x.pointSeries q))), (7, .int (nI ((r * 64) + w))), (6, .int (nI ((t * 256 + r) * 64 + w))), (0, .ref h), (1, .int (nI t)), (2, .int 6), (3, .int (nI q)), (4, .int (nI r)), (5, .int (nI w))] := hl
  refine lv_aload_n hx hb d_M_gather_44 rfl (lv_at hl 5 rfl) ?_
  refine gF (v := .ref (ad 54)) hx hb hown hE hK hP 0 rfl rfl layM 54 (by decide) w526 rfl d_M_gather_45 ?_
  refine lv_iload hx hb d_M_gather_48 (lv_at hl 4 rfl) ?_
  refine nzld (f := (fun z9 => bI (x.isCell z9))) hx hb hK hP 27 3 rfl rfl ((t * 256 + r) * 64 + w) (by omega) (by decide) d_M_gather_50 ?_
  refine lv_istore hx hb d_M_gather_51 hl (by decide) rfl (fun ls hl => ?_)
  have hl : lv_has ls 17 [(13, .int (bI (x.isCell ((t * 256 + r) * 64 + w)))), (11, .long (x.pointTimes q)), (9, .long (x.pointValues q)), (8, .int (nI (x.pointSeries q))), (7, .int (nI ((r * 64) + w))), (6, .int (nI ((t * 256 + r) * 64 + w))), (0, .ref h), (1, .int (nI t)), (2, .int 6), (3, .int (nI q)), (4, .int (nI r)), (5, .int (nI w))] := hl
  have J101 : ∀ (so : Bool) (j1 : x.gSo ((t * 256 + r) * 64 + w) ((r * 64) + w) (x.pointSeries q) (x.pointTimes q) = so), ∀ (H : Heap) (locs : List Loc) (ls : Array Slot) (hP : va_P D vwCl (MW dA h ad x) H) (hD : va_D A (MW dA h ad x)) (hS : va_S A s.heap H locs) (hl : lv_has ls 17 [(2, .int 6), (1, .int (nI t)), (3, .int (nI q)), (4, .int (nI r)), (5, .int (nI w)), (0, .ref h), (6, .int (nI ((t * 256 + r) * 64 + w))), (7, .int (nI ((r * 64) + w))), (8, .int (nI (x.pointSeries q))), (9, .long (x.pointValues q)), (11, .long (x.pointTimes q)), (13, .int (bI (x.isCell ((t * 256 + r) * 64 + w))))]), W p l e ({ frames := 2, cells := 0, slots := 0, locals := 22 } : Room) s m ([.ref h, .int (nI t), .int 6, .int (nI q), .int (nI r), .int (nI w)] : List Value).toArray below meth c H locs 0 0 (MQ below (va_Qv (fun (u9 : Unit) => True) (fun (u9 : Unit) t9 => bW D A (MW dA h ad x) t9) A) ([.ref h, .int (nI t), .int 6, .int (nI q), .int (nI r), .int (nI w)] : List Value).toArray s 0 0 A) (F0 m 101 ls [.int (bI so)]) := by
    intro so j1 H locs ls hP hD hS hl
    refine lv_istore hx hb d_M_gather_101 hl (by decide) rfl (fun ls hl => ?_)
    have hl : lv_has ls 17 [(14, .int (bI so)), (2, .int 6), (1, .int (nI t)), (3, .int (nI q)), (4, .int (nI r)), (5, .int (nI w)), (0, .ref h), (6, .int (nI ((t * 256 + r) * 64 + w))), (7, .int (nI ((r * 64) + w))), (8, .int (nI (x.pointSeries q))), (9, .long (x.pointValues q)), (11, .long (x.pointTimes q)), (13, .int (bI (x.isCell ((t * 256 + r) * 64 + w))))] := hl
    have J151 : ∀ (la : Bool) (j2 : x.gLa ((t * 256 + r) * 64 + w) ((r * 64) + w) (x.pointSeries q) (x.pointTimes q) = la), ∀ (H : Heap) (locs : List Loc) (ls : Array Slot) (hP : va_P D vwCl (MW dA h ad x) H) (hD : va_D A (MW dA h ad x)) (hS : va_S A s.heap H locs) (hl : lv_has ls 17 [(14, .int (bI so)), (2, .int 6), (1, .int (nI t)), (3, .int (nI q)), (4, .int (nI r)), (5, .int (nI w)), (0, .ref h), (6, .int (nI ((t * 256 + r) * 64 + w))), (7, .int (nI ((r * 64) + w))), (8, .int (nI (x.pointSeries q))), (9, .long (x.pointValues q)), (11, .long (x.pointTimes q)), (13, .int (bI (x.isCell ((t * 256 + r) * 64 + w))))]), W p l e ({ frames := 2, cells := 0, slots := 0, locals := 22 } : Room) s m ([.ref h, .int (nI t), .int 6, .int (nI q), .int (nI r), .int (nI w)] : List Value).toArray below meth c H locs 0 0 (MQ below (va_Qv (fun (u9 : Unit) => True) (fun (u9 : Unit) t9 => bW D A (MW dA h ad x) t9) A) ([.ref h, .int (nI t), .int 6, .int (nI q), .int (nI r), .int (nI w)] : List Value).toArray s 0 0 A) (F0 m 151 ls [.int (bI la)]) := by
      intro la j2 H locs ls hP hD hS hl
      refine lv_istore hx hb d_M_gather_151 hl (by decide) rfl (fun ls hl => ?_)
      have hl : lv_has ls 17 [(15, .int (bI la)), (14, .int (bI so)), (2, .int 6), (1, .int (nI t)), (3, .int (nI q)), (4, .int (nI r)), (5, .int (nI w)), (0, .ref h), (6, .int (nI ((t * 256 + r) * 64 + w))), (7, .int (nI ((r * 64) + w))), (8, .int (nI (x.pointSeries q))), (9, .long (x.pointValues q)), (11, .long (x.pointTimes q)), (13, .int (bI (x.isCell ((t * 256 + r) * 64 + w))))] := hl
      refine lv_iload_n hx hb d_M_gather_153 rfl (lv_at hl 2 rfl) ?_
      refine lv_iconst (v := 4) hx hb d_M_gather_154 (by decide) ?_
      refine lv_icmp_ne hx hb d_M_gather_155 (tgt := 163) rfl (fun _ => ?_) (fun h9 => absurd h9 (by decide))
      refine lv_iload hx hb d_M_gather_163 (lv_at hl 0 rfl) ?_
      refine lv_istore hx hb d_M_gather_165 hl (by decide) rfl (fun ls hl => ?_)
      have hl : lv_has ls 17 [(16, .int (bI la)), (15, .int (bI la)), (14, .int (bI so)), (2, .int 6), (1, .int (nI t)), (3, .int (nI q)), (4, .int (nI r)), (5, .int (nI w)), (0, .ref h), (6, .int (nI ((t * 256 + r) * 64 + w))), (7, .int (nI ((r * 64) + w))), (8, .int (nI (x.pointSeries q))), (9, .long (x.pointValues q)), (11, .long (x.pointTimes q)), (13, .int (bI (x.isCell ((t * 256 + r) * 64 + w))))] := hl
      refine lv_iload_n hx hb d_M_gather_167 rfl (lv_at hl 3 rfl) ?_
      refine lv_if_eq hx hb d_M_gather_168 (tgt := 176) rfl (fun h9 => absurd h9 (by decide)) (fun _ => ?_)
      refine lv_iload_n hx hb d_M_gather_171 rfl (lv_at hl 3 rfl) ?_
      refine lv_iconst (v := 1) hx hb d_M_gather_172 (by decide) ?_
      refine lv_icmp_ne hx hb d_M_gather_173 (tgt := 199) rfl (fun _ => ?_) (fun h9 => absurd h9 (by decide))
      refine lv_iload_n hx hb d_M_gather_199 rfl (lv_at hl 3 rfl) ?_
      refine lv_iconst (v := 2) hx hb d_M_gather_200 (by decide) ?_
      refine lv_icmp_eq hx hb d_M_gather_201 (tgt := 209) rfl (fun h9 => absurd h9 (by decide)) (fun _ => ?_)
      refine lv_iload_n hx hb d_M_gather_204 rfl (lv_at hl 3 rfl) ?_
      refine lv_iconst (v := 3) hx hb d_M_gather_205 (by decide) ?_
      refine lv_icmp_ne hx hb d_M_gather_206 (tgt := 270) rfl (fun _ => ?_) (fun h9 => absurd h9 (by decide))
      refine lv_iload_n hx hb d_M_gather_270 rfl (lv_at hl 3 rfl) ?_
      refine lv_bipush (v := 6) hx hb d_M_gather_271 (by decide) ?_
      refine lv_icmp_ne hx hb d_M_gather_273 (tgt := 328) rfl (fun h9 => absurd (by decide) h9) (fun _ => ?_)
      refine lv_aload_n hx hb d_M_gather_276 rfl (lv_at hl 8 rfl) ?_
      refine gF (v := .ref (ad 65)) hx hb hown hE hK hP 0 rfl rfl layM 65 (by decide) w531 rfl d_M_gather_277 ?_
      refine lv_iload hx hb d_M_gather_280 (lv_at hl 11 rfl) ?_
      refine nzld (f := (fun z9 => bI (x.hasBefore z9))) hx hb hK hP 32 3 rfl rfl (x.pointSeries q) (by omega) (by decide) d_M_gather_282 ?_
      refine lv_if_ne hx hb d_M_gather_283 (tgt := 287) rfl (fun h9 => absurd (by rw [hb3]; decide) h9) (fun _ => ?_)
      exact rfV hx hb hr hlk hS () trivial hP hD (Nat.le_of_ble_eq_true rfl) (Nat.le_of_ble_eq_true rfl) d_M_gather_286
    refine lv_iload hx hb d_M_gather_103 (lv_at hl 12 rfl) ?_
    refine lv_if_eq hx hb d_M_gather_105 (tgt := 146) rfl (fun g3 => ?_) (fun g3 => ?_)
    · have g3 := bI_0 g3
      refine lv_iconst (v := 1) hx hb d_M_gather_146 (by decide) ?_
      refine lv_goto hx hb d_M_gather_147 (tgt := 151) rfl ?_
      exact J151 true (by simp [MS.gLa, *]) H _ ls hP hD hS (lv_sub hl [0, 1, 2, 3, 4, 5, 6, 7, 8, 9, 10, 11, 12] rfl)
    · have g3 := bI_n0 g3
      refine lv_lload hx hb d_M_gather_108 (lv_at hl 11 rfl) ?_
      refine lv_aload_n hx hb d_M_gather_110 rfl (lv_at hl 6 rfl) ?_
      refine gF (v := .ref (ad 62)) hx hb hown hE hK hP 0 rfl rfl layM 62 (by decide) w528 rfl d_M_gather_111 ?_
      refine lv_iload hx hb d_M_gather_114 (lv_at hl 8 rfl) ?_
      refine nlld (f := x.keyTimes) hx hb hK hP 29 2 rfl rfl ((r * 64) + w) (by omega) (by decide) d_M_gather_116 ?_
      refine W.lcmp hx hb d_M_gather_117 ?_
      refine lv_if_gt hx hb d_M_gather_118 (tgt := 146) rfl (fun g4 => ?_) (fun g4 => ?_)
      · have g4 := (lg_cmp_gt _ _).mp g4
        refine lv_iconst (v := 1) hx hb d_M_gather_146 (by decide) ?_
        refine lv_goto hx hb d_M_gather_147 (tgt := 151) rfl ?_
        exact J151 true (by simp [MS.gLa, *]) H _ ls hP hD hS (lv_sub hl [0, 1, 2, 3, 4, 5, 6, 7, 8, 9, 10, 11, 12] rfl)
      · have g4 := mt (lg_cmp_gt _ _).mpr g4
        refine lv_lload hx hb d_M_gather_121 (lv_at hl 11 rfl) ?_
        refine lv_aload_n hx hb d_M_gather_123 rfl (lv_at hl 6 rfl) ?_
        refine gF (v := .ref (ad 62)) hx hb hown hE hK hP 0 rfl rfl layM 62 (by decide) w528 rfl d_M_gather_124 ?_
        refine lv_iload hx hb d_M_gather_127 (lv_at hl 8 rfl) ?_
        refine nlld (f := x.keyTimes) hx hb hK hP 29 2 rfl rfl ((r * 64) + w) (by omega) (by decide) d_M_gather_129 ?_
        refine W.lcmp hx hb d_M_gather_130 ?_
        refine lv_if_ne hx hb d_M_gather_131 (tgt := 150) rfl (fun g5 => ?_) (fun g5 => ?_)
        · have g5 := mt (lg_cmp_eq _ _).mpr g5
          refine lv_iconst (v := 0) hx hb d_M_gather_150 (by decide) ?_
          exact J151 false (by simp [MS.gLa, *]) H _ ls hP hD hS (lv_sub hl [0, 1, 2, 3, 4, 5, 6, 7, 8, 9, 10, 11, 12] rfl)
        · have g5 := (lg_cmp_eq _ _).mp g5
          refine lv_iload hx hb d_M_gather_134 (lv_at hl 9 rfl) ?_
          refine lv_aload_n hx hb d_M_gather_136 rfl (lv_at hl 6 rfl) ?_
          refine gF (v := .ref (ad 63)) hx hb hown hE hK hP 0 rfl rfl layM 63 (by decide) w529 rfl d_M_gather_137 ?_
          refine lv_iload hx hb d_M_gather_140 (lv_at hl 8 rfl) ?_
          refine nild (f := (fun z9 => nI (x.keySeries z9))) hx hb hK hP 30 1 rfl rfl ((r * 64) + w) (by omega) (by decide) d_M_gather_142 ?_
          refine lv_icmp_ge hx hb d_M_gather_143 (tgt := 150) rfl (fun g6 => ?_) (fun g6 => ?_)
          · have g6 := (nI_leI (a := x.keySeries ((r * 64) + w)) (b := x.pointSeries q) (by omega) (by omega)).mp g6
            refine lv_iconst (v := 0) hx hb d_M_gather_150 (by decide) ?_
            exact J151 false (by simp [MS.gLa, *]) H _ ls hP hD hS (lv_sub hl [0, 1, 2, 3, 4, 5, 6, 7, 8, 9, 10, 11, 12] rfl)
          · have g6 := mt (nI_leI (a := x.keySeries ((r * 64) + w)) (b := x.pointSeries q) (by omega) (by omega)).mpr g6
            refine lv_iconst (v := 1) hx hb d_M_gather_146 (by decide) ?_
            refine lv_goto hx hb d_M_gather_147 (tgt := 151) rfl ?_
            exact J151 true (by simp [MS.gLa, *]) H _ ls hP hD hS (lv_sub hl [0, 1, 2, 3, 4, 5, 6, 7, 8, 9, 10, 11, 12] rfl)
  refine lv_iload hx hb d_M_gather_53 (lv_at hl 0 rfl) ?_
  refine lv_if_eq hx hb d_M_gather_55 (tgt := 96) rfl (fun g7 => ?_) (fun g7 => ?_)
  · have g7 := bI_0 g7
    refine lv_iconst (v := 1) hx hb d_M_gather_96 (by decide) ?_
    refine lv_goto hx hb d_M_gather_97 (tgt := 101) rfl ?_
    exact J101 true (by simp [MS.gSo, *]) H _ ls hP hD hS (lv_sub hl [8, 7, 9, 10, 11, 6, 5, 4, 3, 2, 1, 0] rfl)
  · have g7 := bI_n0 g7
    refine lv_lload hx hb d_M_gather_58 (lv_at hl 1 rfl) ?_
    refine lv_aload_n hx hb d_M_gather_60 rfl (lv_at hl 6 rfl) ?_
    refine gF (v := .ref (ad 62)) hx hb hown hE hK hP 0 rfl rfl layM 62 (by decide) w528 rfl d_M_gather_61 ?_
    refine lv_iload hx hb d_M_gather_64 (lv_at hl 4 rfl) ?_
    refine nlld (f := x.keyTimes) hx hb hK hP 29 2 rfl rfl ((r * 64) + w) (by omega) (by decide) d_M_gather_66 ?_
    refine W.lcmp hx hb d_M_gather_67 ?_
    refine lv_if_lt hx hb d_M_gather_68 (tgt := 96) rfl (fun g8 => ?_) (fun g8 => ?_)
    · have g8 := (lg_cmp_lt _ _).mp g8
      refine lv_iconst (v := 1) hx hb d_M_gather_96 (by decide) ?_
      refine lv_goto hx hb d_M_gather_97 (tgt := 101) rfl ?_
      exact J101 true (by simp [MS.gSo, *]) H _ ls hP hD hS (lv_sub hl [8, 7, 9, 10, 11, 6, 5, 4, 3, 2, 1, 0] rfl)
    · have g8 := mt (lg_cmp_lt _ _).mpr g8
      refine lv_lload hx hb d_M_gather_71 (lv_at hl 1 rfl) ?_
      refine lv_aload_n hx hb d_M_gather_73 rfl (lv_at hl 6 rfl) ?_
      refine gF (v := .ref (ad 62)) hx hb hown hE hK hP 0 rfl rfl layM 62 (by decide) w528 rfl d_M_gather_74 ?_
      refine lv_iload hx hb d_M_gather_77 (lv_at hl 4 rfl) ?_
      refine nlld (f := x.keyTimes) hx hb hK hP 29 2 rfl rfl ((r * 64) + w) (by omega) (by decide) d_M_gather_79 ?_
      refine W.lcmp hx hb d_M_gather_80 ?_
      refine lv_if_ne hx hb d_M_gather_81 (tgt := 100) rfl (fun g9 => ?_) (fun g9 => ?_)
      · have g9 := mt (lg_cmp_eq _ _).mpr g9
        refine lv_iconst (v := 0) hx hb d_M_gather_100 (by decide) ?_
        exact J101 false (by simp [MS.gSo, *]) H _ ls hP hD hS (lv_sub hl [8, 7, 9, 10, 11, 6, 5, 4, 3, 2, 1, 0] rfl)
      · have g9 := (lg_cmp_eq _ _).mp g9
        refine lv_iload hx hb d_M_gather_84 (lv_at hl 3 rfl) ?_
        refine lv_aload_n hx hb d_M_gather_86 rfl (lv_at hl 6 rfl) ?_
        refine gF (v := .ref (ad 63)) hx hb hown hE hK hP 0 rfl rfl layM 63 (by decide) w529 rfl d_M_gather_87 ?_
        refine lv_iload hx hb d_M_gather_90 (lv_at hl 4 rfl) ?_
        refine nild (f := (fun z9 => nI (x.keySeries z9))) hx hb hK hP 30 1 rfl rfl ((r * 64) + w) (by omega) (by decide) d_M_gather_92 ?_
        refine lv_icmp_ge hx hb d_M_gather_93 (tgt := 100) rfl (fun g10 => ?_) (fun g10 => ?_)
        · have g10 := (nI_leI (a := x.keySeries ((r * 64) + w)) (b := x.pointSeries q) (by omega) (by omega)).mp g10
          refine lv_iconst (v := 0) hx hb d_M_gather_100 (by decide) ?_
          exact J101 false (by simp [MS.gSo, *]) H _ ls hP hD hS (lv_sub hl [8, 7, 9, 10, 11, 6, 5, 4, 3, 2, 1, 0] rfl)
        · have g10 := mt (nI_leI (a := x.keySeries ((r * 64) + w)) (b := x.pointSeries q) (by omega) (by omega)).mpr g10
          refine lv_iconst (v := 1) hx hb d_M_gather_96 (by decide) ?_
          refine lv_goto hx hb d_M_gather_97 (tgt := 101) rfl ?_
          exact J101 true (by simp [MS.gSo, *]) H _ ls hP hD hS (lv_sub hl [8, 7, 9, 10, 11, 6, 5, 4, 3, 2, 1, 0] rfl)
theorem d_M_gather_287 : decode prog_14_method_69_code 287 = .ok (.aload_n 0, 1) := by decide +kernel
theorem d_M_gather_288 : decode prog_14_method_69_code 288 = .ok (.getfield 104, 3) := by decide +kernel
theorem d_M_gather_291 : decode prog_14_method_69_code 291 = .ok (.iload 6, 2) := by decide +kernel
theorem d_M_gather_293 : decode prog_14_method_69_code 293 = .ok (.dup2, 1) := by decide +kernel
theorem d_M_gather_294 : decode prog_14_method_69_code 294 = .ok (.laload, 1) := by decide +kernel
theorem d_M_gather_295 : decode prog_14_method_69_code 295 = .ok (.aload_n 0, 1) := by decide +kernel
theorem d_M_gather_296 : decode prog_14_method_69_code 296 = .ok (.getfield 120, 3) := by decide +kernel
theorem d_M_gather_299 : decode prog_14_method_69_code 299 = .ok (.iload 8, 2) := by decide +kernel
theorem d_M_gather_301 : decode prog_14_method_69_code 301 = .ok (.laload, 1) := by decide +kernel
theorem d_M_gather_302 : decode prog_14_method_69_code 302 = .ok (.lload 9, 2) := by decide +kernel
theorem d_M_gather_304 : decode prog_14_method_69_code 304 = .ok (.lcmp, 1) := by decide +kernel
theorem d_M_gather_305 : decode prog_14_method_69_code 305 = .ok (.ifCond .le 8, 3) := by decide +kernel
theorem d_M_gather_313 : decode prog_14_method_69_code 313 = .ok (.lload 9, 2) := by decide +kernel
theorem d_M_gather_315 : decode prog_14_method_69_code 315 = .ok (.aload_n 0, 1) := by decide +kernel
theorem d_M_gather_316 : decode prog_14_method_69_code 316 = .ok (.getfield 120, 3) := by decide +kernel
theorem d_M_gather_319 : decode prog_14_method_69_code 319 = .ok (.iload 8, 2) := by decide +kernel
theorem d_M_gather_321 : decode prog_14_method_69_code 321 = .ok (.laload, 1) := by decide +kernel
theorem d_M_gather_322 : decode prog_14_method_69_code 322 = .ok (.lsub, 1) := by decide +kernel
theorem d_M_gather_323 : decode prog_14_method_69_code 323 = .ok (.ladd, 1) := by decide +kernel
theorem d_M_gather_324 : decode prog_14_method_69_code 324 = .ok (.lastore, 1) := by decide +kernel
theorem d_M_gather_325 : decode prog_14_method_69_code 325 = .ok (.goto 35, 3) := by decide +kernel
theorem d_M_gather_308 : decode prog_14_method_69_code 308 = .ok (.lload 9, 2) := by decide +kernel
theorem d_M_gather_310 : decode prog_14_method_69_code 310 = .ok (.goto 13, 3) := by decide +kernel
set_option maxHeartbeats 4000000 in
set_option maxRecDepth 100000 in
theorem k_gather_6 (l : Launch) (D : va_G) (dA : Nat → ClassId) (sz : Nat) (h : Nat) (ad : Nat → Nat) (x : MS) (t : Nat) (q : Nat) (r : Nat) (w : Nat) (h1 : t < 20) (h2 : r < 256) (h3 : w < 64) (h4 : q < 12000) (h5 : x.pointSeries q < 256) (h6 : x.keySeries ((r * 64) + w) < 256) (hb3 : x.hasBefore (x.pointSeries q) = true) : Met l ⟨"SeriesVaultModel", "gather", "(IIIII)V"⟩ [Cond.code ⟨"SeriesVaultModel", "gather", "(IIIII)V"⟩ prog_14_method_69_code 17 none] { frames := 2, cells := 0, slots := 0, locals := 22 } (pC D dA [.ref h, .int (nI t), .int 6, .int (nI q), .int (nI r), .int (nI w)] (MW dA h ad x) sz) (va_Qv (fun (u9 : Unit) => True) (fun (u9 : Unit) t9 => bW D (va_A (MW dA h ad x) sz) (MW dA h ad (MS.s_isCell (MS.s_cells x (va_up x.cells ((t * 256 + r) * 64 + w) (x.cells ((t * 256 + r) * 64 + w) + (if x.befores (x.pointSeries q) ≤ x.pointValues q then x.pointValues q - x.befores (x.pointSeries q) else x.pointValues q)))) (va_up x.isCell ((t * 256 + r) * 64 + w) true))) t9) (va_A (MW dA h ad x) sz)) 0 0 (va_A (MW dA h ad x) sz) := by
  refine mkC (y := ⟨"SeriesVaultModel", "gather", "(IIIII)V"⟩) (cc := prog_14_method_69_code) (maxL := 17) (av := [.ref h, .int (nI t), .int 6, .int (nI q), .int (nI r), .int (nI w)]) (ws := MW dA h ad x) (sz := sz) (Qc := fun A => va_Qv (fun (u9 : Unit) => True) (fun (u9 : Unit) t9 => bW D A (MW dA h ad (MS.s_isCell (MS.s_cells x (va_up x.cells ((t * 256 + r) * 64 + w) (x.cells ((t * 256 + r) * 64 + w) + (if x.befores (x.pointSeries q) ≤ x.pointValues q then x.pointValues q - x.befores (x.pointSeries q) else x.pointValues q)))) (va_up x.isCell ((t * 256 + r) * 64 + w) true))) t9) A) (by decide) (Nat.le_of_ble_eq_true rfl) ?_
  intro A p e s m below meth c ls hsz hB
  obtain ⟨hx, hb, hr, hml, hown, hin, hlk, hE, hK, hP, hD, hS, hA, hN, hl⟩ := hB
  have hown : s.vm.findClass "SeriesVaultModel" = some m.cls := hown
  have hl : lv_has ls 17 [(0, .ref h), (1, .int (nI t)), (2, .int 6), (3, .int (nI q)), (4, .int (nI r)), (5, .int (nI w))] := hl
  obtain ⟨H, hH⟩ : ∃ z, z = s.heap := ⟨_, rfl⟩
  have hP : va_P D vwCl (MW dA h ad x) H := by rw [hH]; exact hP
  have hS : va_S A s.heap H [] := by rw [hH]; exact hS
  rw [← hH]
  refine lv_iload_n hx hb d_M_gather_0 rfl (lv_at hl 1 rfl) ?_
  refine lv_iload hx hb d_M_gather_1 (lv_at hl 4 rfl) ?_
  refine lv_iload hx hb d_M_gather_3 (lv_at hl 5 rfl) ?_
  have hPc := hP.sub (ws' := []) [] rfl
  have hDc := hD.sub (ws' := []) [] (by decide) rfl
  refine jnI (rnS (As := [.int (nI t), .int (nI r), .int (nI w)]) (rest := []) hx hb hml hown hE hK (hN _ _ hS) hPc hDc (k_cellAt l D dA H.size t r w) w971 w970 w972 w328 rfl rfl ⟨⟨by decide, by decide⟩, rfl⟩ ⟨(Nat.le_of_ble_eq_true rfl), (Nat.le_of_ble_eq_true rfl)⟩ rfl hl.1 rfl (Nat.le_of_ble_eq_true rfl) d_M_gather_5 ⟨(Nat.le_of_ble_eq_true rfl), (Nat.le_of_ble_eq_true rfl)⟩) hP hD hS hA [] [0, 1, 2, 3, 4, 5, 6, 7, 8, 9, 10, 11, 12, 13, 14, 15, 16, 17, 18, 19, 20, 21, 22, 23, 24, 25, 26, 27, 28, 29, 30, 31, 32, 33, 34, 35, 36, 37, 38] (wr := MW dA h ad x) rfl rfl (by decide) (by decide) (fun r1 u9 H locs hp9 hP hD hS => ?_)
  have hP : va_P D vwCl (MW dA h ad x) H := hP
  have hD : va_D A (MW dA h ad x) := hD
  replace hp9 : nI ((t * 256 + r) * 64 + w) = r1 := Eq.symm hp9
  subst hp9
  refine lv_istore hx hb d_M_gather_8 hl (by decide) rfl (fun ls hl => ?_)
  have hl : lv_has ls 17 [(6, .int (nI ((t * 256 + r) * 64 + w))), (0, .ref h), (1, .int (nI t)), (2, .int 6), (3, .int (nI q)), (4, .int (nI r)), (5, .int (nI w))] := hl
  refine lv_iload hx hb d_M_gather_10 (lv_at hl 5 rfl) ?_
  refine lv_bipush (v := 64) hx hb d_M_gather_12 (by decide) ?_
  refine lv_imul hx hb d_M_gather_14 (tpi (y := nI (r * 64)) (pk_mul (r) (64)) ?_)
  refine lv_iload hx hb d_M_gather_15 (lv_at hl 6 rfl) ?_
  refine lv_iadd hx hb d_M_gather_17 (tpi (y := nI ((r * 64) + w)) (nI_add (r * 64) (w)) ?_)
  refine lv_istore hx hb d_M_gather_18 hl (by decide) rfl (fun ls hl => ?_)
  have hl : lv_has ls 17 [(7, .int (nI ((r * 64) + w))), (6, .int (nI ((t * 256 + r) * 64 + w))), (0, .ref h), (1, .int (nI t)), (2, .int 6), (3, .int (nI q)), (4, .int (nI r)), (5, .int (nI w))] := hl
  refine lv_aload_n hx hb d_M_gather_20 rfl (lv_at hl 2 rfl) ?_
  refine gF (v := .ref (ad 17)) hx hb hown hE hK hP 0 rfl rfl layM 17 (by decide) w503 rfl d_M_gather_21 ?_
  refine lv_iload_n hx hb d_M_gather_24 rfl (lv_at hl 5 rfl) ?_
  refine nild (f := (fun z9 => nI (x.pointSeries z9))) hx hb hK hP 6 1 rfl rfl (q) (by omega) (by decide) d_M_gather_25 ?_
  refine lv_istore hx hb d_M_gather_26 hl (by decide) rfl (fun ls hl => ?_)
  have hl : lv_has ls 17 [(8, .int (nI (x.pointSeries q))), (7, .int (nI ((r * 64) + w))), (6, .int (nI ((t * 256 + r) * 64 + w))), (0, .ref h), (1, .int (nI t)), (2, .int 6), (3, .int (nI q)), (4, .int (nI r)), (5, .int (nI w))] := hl
  refine lv_aload_n hx hb d_M_gather_28 rfl (lv_at hl 3 rfl) ?_
  refine gF (v := .ref (ad 19)) hx hb hown hE hK hP 0 rfl rfl layM 19 (by decide) w505 rfl d_M_gather_29 ?_
  refine lv_iload_n hx hb d_M_gather_32 rfl (lv_at hl 6 rfl) ?_
  refine nlld (f := x.pointValues) hx hb hK hP 8 2 rfl rfl (q) (by omega) (by decide) d_M_gather_33 ?_
  refine lv_lstore hx hb d_M_gather_34 hl (by decide) rfl (fun ls hl => ?_)
  have hl : lv_has ls 17 [(9, .long (x.pointValues q)), (8, .int (nI (x.pointSeries q))), (7, .int (nI ((r * 64) + w))), (6, .int (nI ((t * 256 + r) * 64 + w))), (0, .ref h), (1, .int (nI t)), (2, .int 6), (3, .int (nI q)), (4, .int (nI r)), (5, .int (nI w))] := hl
  refine lv_aload_n hx hb d_M_gather_36 rfl (lv_at hl 4 rfl) ?_
  refine gF (v := .ref (ad 18)) hx hb hown hE hK hP 0 rfl rfl layM 18 (by decide) w504 rfl d_M_gather_37 ?_
  refine lv_iload_n hx hb d_M_gather_40 rfl (lv_at hl 7 rfl) ?_
  refine nlld (f := x.pointTimes) hx hb hK hP 7 2 rfl rfl (q) (by omega) (by decide) d_M_gather_41 ?_
  refine lv_lstore hx hb d_M_gather_42 hl (by decide) rfl (fun ls hl => ?_)
  have hl : lv_has ls 17 [(11, .long (x.pointTimes q)), (9, .long (x.pointValues q)), (8, .int (nI (x.pointSeries q))), (7, .int (nI ((r * 64) + w))), (6, .int (nI ((t * 256 + r) * 64 + w))), (0, .ref h), (1, .int (nI t)), (2, .int 6), (3, .int (nI q)), (4, .int (nI r)), (5, .int (nI w))] := hl
  refine lv_aload_n hx hb d_M_gather_44 rfl (lv_at hl 5 rfl) ?_
  refine gF (v := .ref (ad 54)) hx hb hown hE hK hP 0 rfl rfl layM 54 (by decide) w526 rfl d_M_gather_45 ?_
  refine lv_iload hx hb d_M_gather_48 (lv_at hl 4 rfl) ?_
  refine nzld (f := (fun z9 => bI (x.isCell z9))) hx hb hK hP 27 3 rfl rfl ((t * 256 + r) * 64 + w) (by omega) (by decide) d_M_gather_50 ?_
  refine lv_istore hx hb d_M_gather_51 hl (by decide) rfl (fun ls hl => ?_)
  have hl : lv_has ls 17 [(13, .int (bI (x.isCell ((t * 256 + r) * 64 + w)))), (11, .long (x.pointTimes q)), (9, .long (x.pointValues q)), (8, .int (nI (x.pointSeries q))), (7, .int (nI ((r * 64) + w))), (6, .int (nI ((t * 256 + r) * 64 + w))), (0, .ref h), (1, .int (nI t)), (2, .int 6), (3, .int (nI q)), (4, .int (nI r)), (5, .int (nI w))] := hl
  have J101 : ∀ (so : Bool) (j1 : x.gSo ((t * 256 + r) * 64 + w) ((r * 64) + w) (x.pointSeries q) (x.pointTimes q) = so), ∀ (H : Heap) (locs : List Loc) (ls : Array Slot) (hP : va_P D vwCl (MW dA h ad x) H) (hD : va_D A (MW dA h ad x)) (hS : va_S A s.heap H locs) (hl : lv_has ls 17 [(2, .int 6), (1, .int (nI t)), (3, .int (nI q)), (4, .int (nI r)), (5, .int (nI w)), (0, .ref h), (6, .int (nI ((t * 256 + r) * 64 + w))), (7, .int (nI ((r * 64) + w))), (8, .int (nI (x.pointSeries q))), (9, .long (x.pointValues q)), (11, .long (x.pointTimes q)), (13, .int (bI (x.isCell ((t * 256 + r) * 64 + w))))]), W p l e ({ frames := 2, cells := 0, slots := 0, locals := 22 } : Room) s m ([.ref h, .int (nI t), .int 6, .int (nI q), .int (nI r), .int (nI w)] : List Value).toArray below meth c H locs 0 0 (MQ below (va_Qv (fun (u9 : Unit) => True) (fun (u9 : Unit) t9 => bW D A (MW dA h ad (MS.s_isCell (MS.s_cells x (va_up x.cells ((t * 256 + r) * 64 + w) (x.cells ((t * 256 + r) * 64 + w) + (if x.befores (x.pointSeries q) ≤ x.pointValues q then x.pointValues q - x.befores (x.pointSeries q) else x.pointValues q)))) (va_up x.isCell ((t * 256 + r) * 64 + w) true))) t9) A) ([.ref h, .int (nI t), .int 6, .int (nI q), .int (nI r), .int (nI w)] : List Value).toArray s 0 0 A) (F0 m 101 ls [.int (bI so)]) := by
    intro so j1 H locs ls hP hD hS hl
    refine lv_istore hx hb d_M_gather_101 hl (by decide) rfl (fun ls hl => ?_)
    have hl : lv_has ls 17 [(14, .int (bI so)), (2, .int 6), (1, .int (nI t)), (3, .int (nI q)), (4, .int (nI r)), (5, .int (nI w)), (0, .ref h), (6, .int (nI ((t * 256 + r) * 64 + w))), (7, .int (nI ((r * 64) + w))), (8, .int (nI (x.pointSeries q))), (9, .long (x.pointValues q)), (11, .long (x.pointTimes q)), (13, .int (bI (x.isCell ((t * 256 + r) * 64 + w))))] := hl
    have J151 : ∀ (la : Bool) (j2 : x.gLa ((t * 256 + r) * 64 + w) ((r * 64) + w) (x.pointSeries q) (x.pointTimes q) = la), ∀ (H : Heap) (locs : List Loc) (ls : Array Slot) (hP : va_P D vwCl (MW dA h ad x) H) (hD : va_D A (MW dA h ad x)) (hS : va_S A s.heap H locs) (hl : lv_has ls 17 [(14, .int (bI so)), (2, .int 6), (1, .int (nI t)), (3, .int (nI q)), (4, .int (nI r)), (5, .int (nI w)), (0, .ref h), (6, .int (nI ((t * 256 + r) * 64 + w))), (7, .int (nI ((r * 64) + w))), (8, .int (nI (x.pointSeries q))), (9, .long (x.pointValues q)), (11, .long (x.pointTimes q)), (13, .int (bI (x.isCell ((t * 256 + r) * 64 + w))))]), W p l e ({ frames := 2, cells := 0, slots := 0, locals := 22 } : Room) s m ([.ref h, .int (nI t), .int 6, .int (nI q), .int (nI r), .int (nI w)] : List Value).toArray below meth c H locs 0 0 (MQ below (va_Qv (fun (u9 : Unit) => True) (fun (u9 : Unit) t9 => bW D A (MW dA h ad (MS.s_isCell (MS.s_cells x (va_up x.cells ((t * 256 + r) * 64 + w) (x.cells ((t * 256 + r) * 64 + w) + (if x.befores (x.pointSeries q) ≤ x.pointValues q then x.pointValues q - x.befores (x.pointSeries q) else x.pointValues q)))) (va_up x.isCell ((t * 256 + r) * 64 + w) true))) t9) A) ([.ref h, .int (nI t), .int 6, .int (nI q), .int (nI r), .int (nI w)] : List Value).toArray s 0 0 A) (F0 m 151 ls [.int (bI la)]) := by
      intro la j2 H locs ls hP hD hS hl
      refine lv_istore hx hb d_M_gather_151 hl (by decide) rfl (fun ls hl => ?_)
      have hl : lv_has ls 17 [(15, .int (bI la)), (14, .int (bI so)), (2, .int 6), (1, .int (nI t)), (3, .int (nI q)), (4, .int (nI r)), (5, .int (nI w)), (0, .ref h), (6, .int (nI ((t * 256 + r) * 64 + w))), (7, .int (nI ((r * 64) + w))), (8, .int (nI (x.pointSeries q))), (9, .long (x.pointValues q)), (11, .long (x.pointTimes q)), (13, .int (bI (x.isCell ((t * 256 + r) * 64 + w))))] := hl
      refine lv_iload_n hx hb d_M_gather_153 rfl (lv_at hl 2 rfl) ?_
      refine lv_iconst (v := 4) hx hb d_M_gather_154 (by decide) ?_
      refine lv_icmp_ne hx hb d_M_gather_155 (tgt := 163) rfl (fun _ => ?_) (fun h9 => absurd h9 (by decide))
      refine lv_iload hx hb d_M_gather_163 (lv_at hl 0 rfl) ?_
      refine lv_istore hx hb d_M_gather_165 hl (by decide) rfl (fun ls hl => ?_)
      have hl : lv_has ls 17 [(16, .int (bI la)), (15, .int (bI la)), (14, .int (bI so)), (2, .int 6), (1, .int (nI t)), (3, .int (nI q)), (4, .int (nI r)), (5, .int (nI w)), (0, .ref h), (6, .int (nI ((t * 256 + r) * 64 + w))), (7, .int (nI ((r * 64) + w))), (8, .int (nI (x.pointSeries q))), (9, .long (x.pointValues q)), (11, .long (x.pointTimes q)), (13, .int (bI (x.isCell ((t * 256 + r) * 64 + w))))] := hl
      refine lv_iload_n hx hb d_M_gather_167 rfl (lv_at hl 3 rfl) ?_
      refine lv_if_eq hx hb d_M_gather_168 (tgt := 176) rfl (fun h9 => absurd h9 (by decide)) (fun _ => ?_)
      refine lv_iload_n hx hb d_M_gather_171 rfl (lv_at hl 3 rfl) ?_
      refine lv_iconst (v := 1) hx hb d_M_gather_172 (by decide) ?_
      refine lv_icmp_ne hx hb d_M_gather_173 (tgt := 199) rfl (fun _ => ?_) (fun h9 => absurd h9 (by decide))
      refine lv_iload_n hx hb d_M_gather_199 rfl (lv_at hl 3 rfl) ?_
      refine lv_iconst (v := 2) hx hb d_M_gather_200 (by decide) ?_
      refine lv_icmp_eq hx hb d_M_gather_201 (tgt := 209) rfl (fun h9 => absurd h9 (by decide)) (fun _ => ?_)
      refine lv_iload_n hx hb d_M_gather_204 rfl (lv_at hl 3 rfl) ?_
      refine lv_iconst (v := 3) hx hb d_M_gather_205 (by decide) ?_
      refine lv_icmp_ne hx hb d_M_gather_206 (tgt := 270) rfl (fun _ => ?_) (fun h9 => absurd h9 (by decide))
      refine lv_iload_n hx hb d_M_gather_270 rfl (lv_at hl 3 rfl) ?_
      refine lv_bipush (v := 6) hx hb d_M_gather_271 (by decide) ?_
      refine lv_icmp_ne hx hb d_M_gather_273 (tgt := 328) rfl (fun h9 => absurd (by decide) h9) (fun _ => ?_)
      refine lv_aload_n hx hb d_M_gather_276 rfl (lv_at hl 8 rfl) ?_
      refine gF (v := .ref (ad 65)) hx hb hown hE hK hP 0 rfl rfl layM 65 (by decide) w531 rfl d_M_gather_277 ?_
      refine lv_iload hx hb d_M_gather_280 (lv_at hl 11 rfl) ?_
      refine nzld (f := (fun z9 => bI (x.hasBefore z9))) hx hb hK hP 32 3 rfl rfl (x.pointSeries q) (by omega) (by decide) d_M_gather_282 ?_
      refine lv_if_ne hx hb d_M_gather_283 (tgt := 287) rfl (fun _ => ?_) (fun h9 => absurd h9 (by rw [hb3]; decide))
      refine lv_aload_n hx hb d_M_gather_287 rfl (lv_at hl 8 rfl) ?_
      refine gF (v := .ref (ad 53)) hx hb hown hE hK hP 0 rfl rfl layM 53 (by decide) w524 rfl d_M_gather_288 ?_
      refine lv_iload hx hb d_M_gather_291 (lv_at hl 9 rfl) ?_
      refine lv_dup2_11 hx hb d_M_gather_293 rfl rfl ?_
      refine nlld (f := x.cells) hx hb hK hP 26 2 rfl rfl ((t * 256 + r) * 64 + w) (by omega) (by decide) d_M_gather_294 ?_
      refine lv_aload_n hx hb d_M_gather_295 rfl (lv_at hl 8 rfl) ?_
      refine gF (v := .ref (ad 64)) hx hb hown hE hK hP 0 rfl rfl layM 64 (by decide) w530 rfl d_M_gather_296 ?_
      refine lv_iload hx hb d_M_gather_299 (lv_at hl 11 rfl) ?_
      refine nlld (f := x.befores) hx hb hK hP 31 2 rfl rfl (x.pointSeries q) (by omega) (by decide) d_M_gather_301 ?_
      refine lv_lload hx hb d_M_gather_302 (lv_at hl 12 rfl) ?_
      refine W.lcmp hx hb d_M_gather_304 ?_
      refine lv_if_le hx hb d_M_gather_305 (tgt := 313) rfl (fun g3 => ?_) (fun g3 => ?_)
      · have g3 := (lg_cmp_le _ _).mp g3
        refine lv_lload hx hb d_M_gather_313 (lv_at hl 12 rfl) ?_
        refine lv_aload_n hx hb d_M_gather_315 rfl (lv_at hl 8 rfl) ?_
        refine gF (v := .ref (ad 64)) hx hb hown hE hK hP 0 rfl rfl layM 64 (by decide) w530 rfl d_M_gather_316 ?_
        refine lv_iload hx hb d_M_gather_319 (lv_at hl 11 rfl) ?_
        refine nlld (f := x.befores) hx hb hK hP 31 2 rfl rfl (x.pointSeries q) (by omega) (by decide) d_M_gather_321 ?_
        refine lv_lsub hx hb d_M_gather_322 ?_
        refine lv_ladd hx hb d_M_gather_323 ?_
        refine nlst hx hb hK hP hD hS 26 2 rfl rfl ((t * 256 + r) * 64 + w) (by omega) (by decide) d_M_gather_324 (fun H locs hP hD hS => ?_)
        have hP : va_P D vwCl (MW dA h ad (MS.s_cells x (va_up x.cells ((t * 256 + r) * 64 + w) ((x.cells ((t * 256 + r) * 64 + w)) + ((x.pointValues q) - (x.befores (x.pointSeries q))))))) H := hP
        have hD : va_D A (MW dA h ad (MS.s_cells x (va_up x.cells ((t * 256 + r) * 64 + w) ((x.cells ((t * 256 + r) * 64 + w)) + ((x.pointValues q) - (x.befores (x.pointSeries q))))))) := hD
        refine lv_goto hx hb d_M_gather_325 (tgt := 360) rfl ?_
        refine lv_aload_n hx hb d_M_gather_360 rfl (lv_at hl 8 rfl) ?_
        refine gF (v := .ref (ad 54)) hx hb hown hE hK hP 0 rfl rfl layM 54 (by decide) w526 rfl d_M_gather_361 ?_
        refine lv_iload hx hb d_M_gather_364 (lv_at hl 9 rfl) ?_
        refine lv_iconst (v := 1) hx hb d_M_gather_366 (by decide) ?_
        refine nzstB (v := true) hx hb hK hP hD hS 27 3 rfl rfl ((t * 256 + r) * 64 + w) (by omega) (by decide) d_M_gather_367 (fun H locs hP hD hS => ?_)
        have hP : va_P D vwCl (MW dA h ad (MS.s_isCell (MS.s_cells x (va_up x.cells ((t * 256 + r) * 64 + w) ((x.cells ((t * 256 + r) * 64 + w)) + ((x.pointValues q) - (x.befores (x.pointSeries q)))))) (va_up x.isCell ((t * 256 + r) * 64 + w) true))) H := hP
        have hD : va_D A (MW dA h ad (MS.s_isCell (MS.s_cells x (va_up x.cells ((t * 256 + r) * 64 + w) ((x.cells ((t * 256 + r) * 64 + w)) + ((x.pointValues q) - (x.befores (x.pointSeries q)))))) (va_up x.isCell ((t * 256 + r) * 64 + w) true))) := hD
        have e9 : (MS.s_isCell (MS.s_cells x (va_up x.cells ((t * 256 + r) * 64 + w) ((x.cells ((t * 256 + r) * 64 + w)) + ((x.pointValues q) - (x.befores (x.pointSeries q)))))) (va_up x.isCell ((t * 256 + r) * 64 + w) true) : MS) = MS.s_isCell (MS.s_cells x (va_up x.cells ((t * 256 + r) * 64 + w) (x.cells ((t * 256 + r) * 64 + w) + (if x.befores (x.pointSeries q) ≤ x.pointValues q then x.pointValues q - x.befores (x.pointSeries q) else x.pointValues q)))) (va_up x.isCell ((t * 256 + r) * 64 + w) true) := by rw [show (va_up x.cells ((t * 256 + r) * 64 + w) (x.cells ((t * 256 + r) * 64 + w) + (if x.befores (x.pointSeries q) ≤ x.pointValues q then x.pointValues q - x.befores (x.pointSeries q) else x.pointValues q))) = (va_up x.cells ((t * 256 + r) * 64 + w) ((x.cells ((t * 256 + r) * 64 + w)) + ((x.pointValues q) - (x.befores (x.pointSeries q))))) from by (simp [*])] <;> rfl
        exact rfV hx hb hr hlk hS () trivial (cvP e9 hP) (cvD e9 hD) (Nat.le_of_ble_eq_true rfl) (Nat.le_of_ble_eq_true rfl) d_M_gather_368
      · have g3 := mt (lg_cmp_le _ _).mpr g3
        refine lv_lload hx hb d_M_gather_308 (lv_at hl 12 rfl) ?_
        refine lv_goto hx hb d_M_gather_310 (tgt := 323) rfl ?_
        refine lv_ladd hx hb d_M_gather_323 ?_
        refine nlst hx hb hK hP hD hS 26 2 rfl rfl ((t * 256 + r) * 64 + w) (by omega) (by decide) d_M_gather_324 (fun H locs hP hD hS => ?_)
        have hP : va_P D vwCl (MW dA h ad (MS.s_cells x (va_up x.cells ((t * 256 + r) * 64 + w) ((x.cells ((t * 256 + r) * 64 + w)) + (x.pointValues q))))) H := hP
        have hD : va_D A (MW dA h ad (MS.s_cells x (va_up x.cells ((t * 256 + r) * 64 + w) ((x.cells ((t * 256 + r) * 64 + w)) + (x.pointValues q))))) := hD
        refine lv_goto hx hb d_M_gather_325 (tgt := 360) rfl ?_
        refine lv_aload_n hx hb d_M_gather_360 rfl (lv_at hl 8 rfl) ?_
        refine gF (v := .ref (ad 54)) hx hb hown hE hK hP 0 rfl rfl layM 54 (by decide) w526 rfl d_M_gather_361 ?_
        refine lv_iload hx hb d_M_gather_364 (lv_at hl 9 rfl) ?_
        refine lv_iconst (v := 1) hx hb d_M_gather_366 (by decide) ?_
        refine nzstB (v := true) hx hb hK hP hD hS 27 3 rfl rfl ((t * 256 + r) * 64 + w) (by omega) (by decide) d_M_gather_367 (fun H locs hP hD hS => ?_)
        have hP : va_P D vwCl (MW dA h ad (MS.s_isCell (MS.s_cells x (va_up x.cells ((t * 256 + r) * 64 + w) ((x.cells ((t * 256 + r) * 64 + w)) + (x.pointValues q)))) (va_up x.isCell ((t * 256 + r) * 64 + w) true))) H := hP
        have hD : va_D A (MW dA h ad (MS.s_isCell (MS.s_cells x (va_up x.cells ((t * 256 + r) * 64 + w) ((x.cells ((t * 256 + r) * 64 + w)) + (x.pointValues q)))) (va_up x.isCell ((t * 256 + r) * 64 + w) true))) := hD
        have e9 : (MS.s_isCell (MS.s_cells x (va_up x.cells ((t * 256 + r) * 64 + w) ((x.cells ((t * 256 + r) * 64 + w)) + (x.pointValues q)))) (va_up x.isCell ((t * 256 + r) * 64 + w) true) : MS) = MS.s_isCell (MS.s_cells x (va_up x.cells ((t * 256 + r) * 64 + w) (x.cells ((t * 256 + r) * 64 + w) + (if x.befores (x.pointSeries q) ≤ x.pointValues q then x.pointValues q - x.befores (x.pointSeries q) else x.pointValues q)))) (va_up x.isCell ((t * 256 + r) * 64 + w) true) := by rw [show (va_up x.cells ((t * 256 + r) * 64 + w) (x.cells ((t * 256 + r) * 64 + w) + (if x.befores (x.pointSeries q) ≤ x.pointValues q then x.pointValues q - x.befores (x.pointSeries q) else x.pointValues q))) = (va_up x.cells ((t * 256 + r) * 64 + w) ((x.cells ((t * 256 + r) * 64 + w)) + (x.pointValues q))) from by (simp [*])] <;> rfl
        exact rfV hx hb hr hlk hS () trivial (cvP e9 hP) (cvD e9 hD) (Nat.le_of_ble_eq_true rfl) (Nat.le_of_ble_eq_true rfl) d_M_gather_368
    refine lv_iload hx hb d_M_gather_103 (lv_at hl 12 rfl) ?_
    refine lv_if_eq hx hb d_M_gather_105 (tgt := 146) rfl (fun g4 => ?_) (fun g4 => ?_)
    · have g4 := bI_0 g4
      refine lv_iconst (v := 1) hx hb d_M_gather_146 (by decide) ?_
      refine lv_goto hx hb d_M_gather_147 (tgt := 151) rfl ?_
      exact J151 true (by simp [MS.gLa, *]) H _ ls hP hD hS (lv_sub hl [0, 1, 2, 3, 4, 5, 6, 7, 8, 9, 10, 11, 12] rfl)
    · have g4 := bI_n0 g4
      refine lv_lload hx hb d_M_gather_108 (lv_at hl 11 rfl) ?_
      refine lv_aload_n hx hb d_M_gather_110 rfl (lv_at hl 6 rfl) ?_
      refine gF (v := .ref (ad 62)) hx hb hown hE hK hP 0 rfl rfl layM 62 (by decide) w528 rfl d_M_gather_111 ?_
      refine lv_iload hx hb d_M_gather_114 (lv_at hl 8 rfl) ?_
      refine nlld (f := x.keyTimes) hx hb hK hP 29 2 rfl rfl ((r * 64) + w) (by omega) (by decide) d_M_gather_116 ?_
      refine W.lcmp hx hb d_M_gather_117 ?_
      refine lv_if_gt hx hb d_M_gather_118 (tgt := 146) rfl (fun g5 => ?_) (fun g5 => ?_)
      · have g5 := (lg_cmp_gt _ _).mp g5
        refine lv_iconst (v := 1) hx hb d_M_gather_146 (by decide) ?_
        refine lv_goto hx hb d_M_gather_147 (tgt := 151) rfl ?_
        exact J151 true (by simp [MS.gLa, *]) H _ ls hP hD hS (lv_sub hl [0, 1, 2, 3, 4, 5, 6, 7, 8, 9, 10, 11, 12] rfl)
      · have g5 := mt (lg_cmp_gt _ _).mpr g5
        refine lv_lload hx hb d_M_gather_121 (lv_at hl 11 rfl) ?_
        refine lv_aload_n hx hb d_M_gather_123 rfl (lv_at hl 6 rfl) ?_
        refine gF (v := .ref (ad 62)) hx hb hown hE hK hP 0 rfl rfl layM 62 (by decide) w528 rfl d_M_gather_124 ?_
        refine lv_iload hx hb d_M_gather_127 (lv_at hl 8 rfl) ?_
        refine nlld (f := x.keyTimes) hx hb hK hP 29 2 rfl rfl ((r * 64) + w) (by omega) (by decide) d_M_gather_129 ?_
        refine W.lcmp hx hb d_M_gather_130 ?_
        refine lv_if_ne hx hb d_M_gather_131 (tgt := 150) rfl (fun g6 => ?_) (fun g6 => ?_)
        · have g6 := mt (lg_cmp_eq _ _).mpr g6
          refine lv_iconst (v := 0) hx hb d_M_gather_150 (by decide) ?_
          exact J151 false (by simp [MS.gLa, *]) H _ ls hP hD hS (lv_sub hl [0, 1, 2, 3, 4, 5, 6, 7, 8, 9, 10, 11, 12] rfl)
        · have g6 := (lg_cmp_eq _ _).mp g6
          refine lv_iload hx hb d_M_gather_134 (lv_at hl 9 rfl) ?_
          refine lv_aload_n hx hb d_M_gather_136 rfl (lv_at hl 6 rfl) ?_
          refine gF (v := .ref (ad 63)) hx hb hown hE hK hP 0 rfl rfl layM 63 (by decide) w529 rfl d_M_gather_137 ?_
          refine lv_iload hx hb d_M_gather_140 (lv_at hl 8 rfl) ?_
          refine nild (f := (fun z9 => nI (x.keySeries z9))) hx hb hK hP 30 1 rfl rfl ((r * 64) + w) (by omega) (by decide) d_M_gather_142 ?_
          refine lv_icmp_ge hx hb d_M_gather_143 (tgt := 150) rfl (fun g7 => ?_) (fun g7 => ?_)
          · have g7 := (nI_leI (a := x.keySeries ((r * 64) + w)) (b := x.pointSeries q) (by omega) (by omega)).mp g7
            refine lv_iconst (v := 0) hx hb d_M_gather_150 (by decide) ?_
            exact J151 false (by simp [MS.gLa, *]) H _ ls hP hD hS (lv_sub hl [0, 1, 2, 3, 4, 5, 6, 7, 8, 9, 10, 11, 12] rfl)
          · have g7 := mt (nI_leI (a := x.keySeries ((r * 64) + w)) (b := x.pointSeries q) (by omega) (by omega)).mpr g7
            refine lv_iconst (v := 1) hx hb d_M_gather_146 (by decide) ?_
            refine lv_goto hx hb d_M_gather_147 (tgt := 151) rfl ?_
            exact J151 true (by simp [MS.gLa, *]) H _ ls hP hD hS (lv_sub hl [0, 1, 2, 3, 4, 5, 6, 7, 8, 9, 10, 11, 12] rfl)
  refine lv_iload hx hb d_M_gather_53 (lv_at hl 0 rfl) ?_
  refine lv_if_eq hx hb d_M_gather_55 (tgt := 96) rfl (fun g8 => ?_) (fun g8 => ?_)
  · have g8 := bI_0 g8
    refine lv_iconst (v := 1) hx hb d_M_gather_96 (by decide) ?_
    refine lv_goto hx hb d_M_gather_97 (tgt := 101) rfl ?_
    exact J101 true (by simp [MS.gSo, *]) H _ ls hP hD hS (lv_sub hl [8, 7, 9, 10, 11, 6, 5, 4, 3, 2, 1, 0] rfl)
  · have g8 := bI_n0 g8
    refine lv_lload hx hb d_M_gather_58 (lv_at hl 1 rfl) ?_
    refine lv_aload_n hx hb d_M_gather_60 rfl (lv_at hl 6 rfl) ?_
    refine gF (v := .ref (ad 62)) hx hb hown hE hK hP 0 rfl rfl layM 62 (by decide) w528 rfl d_M_gather_61 ?_
    refine lv_iload hx hb d_M_gather_64 (lv_at hl 4 rfl) ?_
    refine nlld (f := x.keyTimes) hx hb hK hP 29 2 rfl rfl ((r * 64) + w) (by omega) (by decide) d_M_gather_66 ?_
    refine W.lcmp hx hb d_M_gather_67 ?_
    refine lv_if_lt hx hb d_M_gather_68 (tgt := 96) rfl (fun g9 => ?_) (fun g9 => ?_)
    · have g9 := (lg_cmp_lt _ _).mp g9
      refine lv_iconst (v := 1) hx hb d_M_gather_96 (by decide) ?_
      refine lv_goto hx hb d_M_gather_97 (tgt := 101) rfl ?_
      exact J101 true (by simp [MS.gSo, *]) H _ ls hP hD hS (lv_sub hl [8, 7, 9, 10, 11, 6, 5, 4, 3, 2, 1, 0] rfl)
    · have g9 := mt (lg_cmp_lt _ _).mpr g9
      refine lv_lload hx hb d_M_gather_71 (lv_at hl 1 rfl) ?_
      refine lv_aload_n hx hb d_M_gather_73 rfl (lv_at hl 6 rfl) ?_
      refine gF (v := .ref (ad 62)) hx hb hown hE hK hP 0 rfl rfl layM 62 (by decide) w528 rfl d_M_gather_74 ?_
      refine lv_iload hx hb d_M_gather_77 (lv_at hl 4 rfl) ?_
      refine nlld (f := x.keyTimes) hx hb hK hP 29 2 rfl rfl ((r * 64) + w) (by omega) (by decide) d_M_gather_79 ?_
      refine W.lcmp hx hb d_M_gather_80 ?_
      refine lv_if_ne hx hb d_M_gather_81 (tgt := 100) rfl (fun g10 => ?_) (fun g10 => ?_)
      · have g10 := mt (lg_cmp_eq _ _).mpr g10
        refine lv_iconst (v := 0) hx hb d_M_gather_100 (by decide) ?_
        exact J101 false (by simp [MS.gSo, *]) H _ ls hP hD hS (lv_sub hl [8, 7, 9, 10, 11, 6, 5, 4, 3, 2, 1, 0] rfl)
      · have g10 := (lg_cmp_eq _ _).mp g10
        refine lv_iload hx hb d_M_gather_84 (lv_at hl 3 rfl) ?_
        refine lv_aload_n hx hb d_M_gather_86 rfl (lv_at hl 6 rfl) ?_
        refine gF (v := .ref (ad 63)) hx hb hown hE hK hP 0 rfl rfl layM 63 (by decide) w529 rfl d_M_gather_87 ?_
        refine lv_iload hx hb d_M_gather_90 (lv_at hl 4 rfl) ?_
        refine nild (f := (fun z9 => nI (x.keySeries z9))) hx hb hK hP 30 1 rfl rfl ((r * 64) + w) (by omega) (by decide) d_M_gather_92 ?_
        refine lv_icmp_ge hx hb d_M_gather_93 (tgt := 100) rfl (fun g11 => ?_) (fun g11 => ?_)
        · have g11 := (nI_leI (a := x.keySeries ((r * 64) + w)) (b := x.pointSeries q) (by omega) (by omega)).mp g11
          refine lv_iconst (v := 0) hx hb d_M_gather_100 (by decide) ?_
          exact J101 false (by simp [MS.gSo, *]) H _ ls hP hD hS (lv_sub hl [8, 7, 9, 10, 11, 6, 5, 4, 3, 2, 1, 0] rfl)
        · have g11 := mt (nI_leI (a := x.keySeries ((r * 64) + w)) (b := x.pointSeries q) (by omega) (by omega)).mpr g11
          refine lv_iconst (v := 1) hx hb d_M_gather_96 (by decide) ?_
          refine lv_goto hx hb d_M_gather_97 (tgt := 101) rfl ?_
          exact J101 true (by simp [MS.gSo, *]) H _ ls hP hD hS (lv_sub hl [8, 7, 9, 10, 11, 6, 5, 4, 3, 2, 1, 0] rfl)
theorem d_M_gather_158 : decode prog_14_method_69_code 158 = .ok (.iload 14, 2) := by decide +kernel
theorem d_M_gather_160 : decode prog_14_method_69_code 160 = .ok (.goto 5, 3) := by decide +kernel
theorem d_M_gather_328 : decode prog_14_method_69_code 328 = .ok (.iload 16, 2) := by decide +kernel
theorem d_M_gather_330 : decode prog_14_method_69_code 330 = .ok (.ifCond .eq 30, 3) := by decide +kernel
theorem d_M_gather_333 : decode prog_14_method_69_code 333 = .ok (.aload_n 0, 1) := by decide +kernel
theorem d_M_gather_334 : decode prog_14_method_69_code 334 = .ok (.getfield 104, 3) := by decide +kernel
theorem d_M_gather_337 : decode prog_14_method_69_code 337 = .ok (.iload 6, 2) := by decide +kernel
theorem d_M_gather_339 : decode prog_14_method_69_code 339 = .ok (.lload 9, 2) := by decide +kernel
theorem d_M_gather_341 : decode prog_14_method_69_code 341 = .ok (.lastore, 1) := by decide +kernel
theorem d_M_gather_342 : decode prog_14_method_69_code 342 = .ok (.aload_n 0, 1) := by decide +kernel
theorem d_M_gather_343 : decode prog_14_method_69_code 343 = .ok (.getfield 114, 3) := by decide +kernel
theorem d_M_gather_346 : decode prog_14_method_69_code 346 = .ok (.iload 7, 2) := by decide +kernel
theorem d_M_gather_348 : decode prog_14_method_69_code 348 = .ok (.lload 11, 2) := by decide +kernel
theorem d_M_gather_350 : decode prog_14_method_69_code 350 = .ok (.lastore, 1) := by decide +kernel
theorem d_M_gather_351 : decode prog_14_method_69_code 351 = .ok (.aload_n 0, 1) := by decide +kernel
theorem d_M_gather_352 : decode prog_14_method_69_code 352 = .ok (.getfield 117, 3) := by decide +kernel
theorem d_M_gather_355 : decode prog_14_method_69_code 355 = .ok (.iload 7, 2) := by decide +kernel
theorem d_M_gather_357 : decode prog_14_method_69_code 357 = .ok (.iload 8, 2) := by decide +kernel
theorem d_M_gather_359 : decode prog_14_method_69_code 359 = .ok (.iastore, 1) := by decide +kernel
set_option maxHeartbeats 4000000 in
set_option maxRecDepth 100000 in
theorem k_gather_4 (l : Launch) (D : va_G) (dA : Nat → ClassId) (sz : Nat) (h : Nat) (ad : Nat → Nat) (x : MS) (t : Nat) (q : Nat) (r : Nat) (w : Nat) (h1 : t < 20) (h2 : r < 256) (h3 : w < 64) (h4 : q < 12000) (h5 : x.pointSeries q < 256) (h6 : x.keySeries ((r * 64) + w) < 256) (hso : x.gSo ((t * 256 + r) * 64 + w) ((r * 64) + w) (x.pointSeries q) (x.pointTimes q) = true) : Met l ⟨"SeriesVaultModel", "gather", "(IIIII)V"⟩ [Cond.code ⟨"SeriesVaultModel", "gather", "(IIIII)V"⟩ prog_14_method_69_code 17 none] { frames := 2, cells := 0, slots := 0, locals := 22 } (pC D dA [.ref h, .int (nI t), .int 4, .int (nI q), .int (nI r), .int (nI w)] (MW dA h ad x) sz) (va_Qv (fun (u9 : Unit) => True) (fun (u9 : Unit) t9 => bW D (va_A (MW dA h ad x) sz) (MW dA h ad (MS.s_keySeries (MS.s_keyTimes (MS.s_isCell (MS.s_cells x (va_up x.cells ((t * 256 + r) * 64 + w) (x.pointValues q))) (va_up x.isCell ((t * 256 + r) * 64 + w) true)) (va_up x.keyTimes ((r * 64) + w) (x.pointTimes q))) (va_up x.keySeries ((r * 64) + w) (x.pointSeries q)))) t9) (va_A (MW dA h ad x) sz)) 0 0 (va_A (MW dA h ad x) sz) := by
  refine mkC (y := ⟨"SeriesVaultModel", "gather", "(IIIII)V"⟩) (cc := prog_14_method_69_code) (maxL := 17) (av := [.ref h, .int (nI t), .int 4, .int (nI q), .int (nI r), .int (nI w)]) (ws := MW dA h ad x) (sz := sz) (Qc := fun A => va_Qv (fun (u9 : Unit) => True) (fun (u9 : Unit) t9 => bW D A (MW dA h ad (MS.s_keySeries (MS.s_keyTimes (MS.s_isCell (MS.s_cells x (va_up x.cells ((t * 256 + r) * 64 + w) (x.pointValues q))) (va_up x.isCell ((t * 256 + r) * 64 + w) true)) (va_up x.keyTimes ((r * 64) + w) (x.pointTimes q))) (va_up x.keySeries ((r * 64) + w) (x.pointSeries q)))) t9) A) (by decide) (Nat.le_of_ble_eq_true rfl) ?_
  intro A p e s m below meth c ls hsz hB
  obtain ⟨hx, hb, hr, hml, hown, hin, hlk, hE, hK, hP, hD, hS, hA, hN, hl⟩ := hB
  have hown : s.vm.findClass "SeriesVaultModel" = some m.cls := hown
  have hl : lv_has ls 17 [(0, .ref h), (1, .int (nI t)), (2, .int 4), (3, .int (nI q)), (4, .int (nI r)), (5, .int (nI w))] := hl
  obtain ⟨H, hH⟩ : ∃ z, z = s.heap := ⟨_, rfl⟩
  have hP : va_P D vwCl (MW dA h ad x) H := by rw [hH]; exact hP
  have hS : va_S A s.heap H [] := by rw [hH]; exact hS
  rw [← hH]
  refine lv_iload_n hx hb d_M_gather_0 rfl (lv_at hl 1 rfl) ?_
  refine lv_iload hx hb d_M_gather_1 (lv_at hl 4 rfl) ?_
  refine lv_iload hx hb d_M_gather_3 (lv_at hl 5 rfl) ?_
  have hPc := hP.sub (ws' := []) [] rfl
  have hDc := hD.sub (ws' := []) [] (by decide) rfl
  refine jnI (rnS (As := [.int (nI t), .int (nI r), .int (nI w)]) (rest := []) hx hb hml hown hE hK (hN _ _ hS) hPc hDc (k_cellAt l D dA H.size t r w) w971 w970 w972 w328 rfl rfl ⟨⟨by decide, by decide⟩, rfl⟩ ⟨(Nat.le_of_ble_eq_true rfl), (Nat.le_of_ble_eq_true rfl)⟩ rfl hl.1 rfl (Nat.le_of_ble_eq_true rfl) d_M_gather_5 ⟨(Nat.le_of_ble_eq_true rfl), (Nat.le_of_ble_eq_true rfl)⟩) hP hD hS hA [] [0, 1, 2, 3, 4, 5, 6, 7, 8, 9, 10, 11, 12, 13, 14, 15, 16, 17, 18, 19, 20, 21, 22, 23, 24, 25, 26, 27, 28, 29, 30, 31, 32, 33, 34, 35, 36, 37, 38] (wr := MW dA h ad x) rfl rfl (by decide) (by decide) (fun r1 u9 H locs hp9 hP hD hS => ?_)
  have hP : va_P D vwCl (MW dA h ad x) H := hP
  have hD : va_D A (MW dA h ad x) := hD
  replace hp9 : nI ((t * 256 + r) * 64 + w) = r1 := Eq.symm hp9
  subst hp9
  refine lv_istore hx hb d_M_gather_8 hl (by decide) rfl (fun ls hl => ?_)
  have hl : lv_has ls 17 [(6, .int (nI ((t * 256 + r) * 64 + w))), (0, .ref h), (1, .int (nI t)), (2, .int 4), (3, .int (nI q)), (4, .int (nI r)), (5, .int (nI w))] := hl
  refine lv_iload hx hb d_M_gather_10 (lv_at hl 5 rfl) ?_
  refine lv_bipush (v := 64) hx hb d_M_gather_12 (by decide) ?_
  refine lv_imul hx hb d_M_gather_14 (tpi (y := nI (r * 64)) (pk_mul (r) (64)) ?_)
  refine lv_iload hx hb d_M_gather_15 (lv_at hl 6 rfl) ?_
  refine lv_iadd hx hb d_M_gather_17 (tpi (y := nI ((r * 64) + w)) (nI_add (r * 64) (w)) ?_)
  refine lv_istore hx hb d_M_gather_18 hl (by decide) rfl (fun ls hl => ?_)
  have hl : lv_has ls 17 [(7, .int (nI ((r * 64) + w))), (6, .int (nI ((t * 256 + r) * 64 + w))), (0, .ref h), (1, .int (nI t)), (2, .int 4), (3, .int (nI q)), (4, .int (nI r)), (5, .int (nI w))] := hl
  refine lv_aload_n hx hb d_M_gather_20 rfl (lv_at hl 2 rfl) ?_
  refine gF (v := .ref (ad 17)) hx hb hown hE hK hP 0 rfl rfl layM 17 (by decide) w503 rfl d_M_gather_21 ?_
  refine lv_iload_n hx hb d_M_gather_24 rfl (lv_at hl 5 rfl) ?_
  refine nild (f := (fun z9 => nI (x.pointSeries z9))) hx hb hK hP 6 1 rfl rfl (q) (by omega) (by decide) d_M_gather_25 ?_
  refine lv_istore hx hb d_M_gather_26 hl (by decide) rfl (fun ls hl => ?_)
  have hl : lv_has ls 17 [(8, .int (nI (x.pointSeries q))), (7, .int (nI ((r * 64) + w))), (6, .int (nI ((t * 256 + r) * 64 + w))), (0, .ref h), (1, .int (nI t)), (2, .int 4), (3, .int (nI q)), (4, .int (nI r)), (5, .int (nI w))] := hl
  refine lv_aload_n hx hb d_M_gather_28 rfl (lv_at hl 3 rfl) ?_
  refine gF (v := .ref (ad 19)) hx hb hown hE hK hP 0 rfl rfl layM 19 (by decide) w505 rfl d_M_gather_29 ?_
  refine lv_iload_n hx hb d_M_gather_32 rfl (lv_at hl 6 rfl) ?_
  refine nlld (f := x.pointValues) hx hb hK hP 8 2 rfl rfl (q) (by omega) (by decide) d_M_gather_33 ?_
  refine lv_lstore hx hb d_M_gather_34 hl (by decide) rfl (fun ls hl => ?_)
  have hl : lv_has ls 17 [(9, .long (x.pointValues q)), (8, .int (nI (x.pointSeries q))), (7, .int (nI ((r * 64) + w))), (6, .int (nI ((t * 256 + r) * 64 + w))), (0, .ref h), (1, .int (nI t)), (2, .int 4), (3, .int (nI q)), (4, .int (nI r)), (5, .int (nI w))] := hl
  refine lv_aload_n hx hb d_M_gather_36 rfl (lv_at hl 4 rfl) ?_
  refine gF (v := .ref (ad 18)) hx hb hown hE hK hP 0 rfl rfl layM 18 (by decide) w504 rfl d_M_gather_37 ?_
  refine lv_iload_n hx hb d_M_gather_40 rfl (lv_at hl 7 rfl) ?_
  refine nlld (f := x.pointTimes) hx hb hK hP 7 2 rfl rfl (q) (by omega) (by decide) d_M_gather_41 ?_
  refine lv_lstore hx hb d_M_gather_42 hl (by decide) rfl (fun ls hl => ?_)
  have hl : lv_has ls 17 [(11, .long (x.pointTimes q)), (9, .long (x.pointValues q)), (8, .int (nI (x.pointSeries q))), (7, .int (nI ((r * 64) + w))), (6, .int (nI ((t * 256 + r) * 64 + w))), (0, .ref h), (1, .int (nI t)), (2, .int 4), (3, .int (nI q)), (4, .int (nI r)), (5, .int (nI w))] := hl
  refine lv_aload_n hx hb d_M_gather_44 rfl (lv_at hl 5 rfl) ?_
  refine gF (v := .ref (ad 54)) hx hb hown hE hK hP 0 rfl rfl layM 54 (by decide) w526 rfl d_M_gather_45 ?_
  refine lv_iload hx hb d_M_gather_48 (lv_at hl 4 rfl) ?_
  refine nzld (f := (fun z9 => bI (x.isCell z9))) hx hb hK hP 27 3 rfl rfl ((t * 256 + r) * 64 + w) (by omega) (by decide) d_M_gather_50 ?_
  refine lv_istore hx hb d_M_gather_51 hl (by decide) rfl (fun ls hl => ?_)
  have hl : lv_has ls 17 [(13, .int (bI (x.isCell ((t * 256 + r) * 64 + w)))), (11, .long (x.pointTimes q)), (9, .long (x.pointValues q)), (8, .int (nI (x.pointSeries q))), (7, .int (nI ((r * 64) + w))), (6, .int (nI ((t * 256 + r) * 64 + w))), (0, .ref h), (1, .int (nI t)), (2, .int 4), (3, .int (nI q)), (4, .int (nI r)), (5, .int (nI w))] := hl
  have J101 : ∀ (so : Bool) (j1 : x.gSo ((t * 256 + r) * 64 + w) ((r * 64) + w) (x.pointSeries q) (x.pointTimes q) = so), ∀ (H : Heap) (locs : List Loc) (ls : Array Slot) (hP : va_P D vwCl (MW dA h ad x) H) (hD : va_D A (MW dA h ad x)) (hS : va_S A s.heap H locs) (hl : lv_has ls 17 [(2, .int 4), (1, .int (nI t)), (3, .int (nI q)), (4, .int (nI r)), (5, .int (nI w)), (0, .ref h), (6, .int (nI ((t * 256 + r) * 64 + w))), (7, .int (nI ((r * 64) + w))), (8, .int (nI (x.pointSeries q))), (9, .long (x.pointValues q)), (11, .long (x.pointTimes q)), (13, .int (bI (x.isCell ((t * 256 + r) * 64 + w))))]), W p l e ({ frames := 2, cells := 0, slots := 0, locals := 22 } : Room) s m ([.ref h, .int (nI t), .int 4, .int (nI q), .int (nI r), .int (nI w)] : List Value).toArray below meth c H locs 0 0 (MQ below (va_Qv (fun (u9 : Unit) => True) (fun (u9 : Unit) t9 => bW D A (MW dA h ad (MS.s_keySeries (MS.s_keyTimes (MS.s_isCell (MS.s_cells x (va_up x.cells ((t * 256 + r) * 64 + w) (x.pointValues q))) (va_up x.isCell ((t * 256 + r) * 64 + w) true)) (va_up x.keyTimes ((r * 64) + w) (x.pointTimes q))) (va_up x.keySeries ((r * 64) + w) (x.pointSeries q)))) t9) A) ([.ref h, .int (nI t), .int 4, .int (nI q), .int (nI r), .int (nI w)] : List Value).toArray s 0 0 A) (F0 m 101 ls [.int (bI so)]) := by
    intro so j1 H locs ls hP hD hS hl
    refine lv_istore hx hb d_M_gather_101 hl (by decide) rfl (fun ls hl => ?_)
    have hl : lv_has ls 17 [(14, .int (bI so)), (2, .int 4), (1, .int (nI t)), (3, .int (nI q)), (4, .int (nI r)), (5, .int (nI w)), (0, .ref h), (6, .int (nI ((t * 256 + r) * 64 + w))), (7, .int (nI ((r * 64) + w))), (8, .int (nI (x.pointSeries q))), (9, .long (x.pointValues q)), (11, .long (x.pointTimes q)), (13, .int (bI (x.isCell ((t * 256 + r) * 64 + w))))] := hl
    have J151 : ∀ (la : Bool) (j2 : x.gLa ((t * 256 + r) * 64 + w) ((r * 64) + w) (x.pointSeries q) (x.pointTimes q) = la), ∀ (H : Heap) (locs : List Loc) (ls : Array Slot) (hP : va_P D vwCl (MW dA h ad x) H) (hD : va_D A (MW dA h ad x)) (hS : va_S A s.heap H locs) (hl : lv_has ls 17 [(14, .int (bI so)), (2, .int 4), (1, .int (nI t)), (3, .int (nI q)), (4, .int (nI r)), (5, .int (nI w)), (0, .ref h), (6, .int (nI ((t * 256 + r) * 64 + w))), (7, .int (nI ((r * 64) + w))), (8, .int (nI (x.pointSeries q))), (9, .long (x.pointValues q)), (11, .long (x.pointTimes q)), (13, .int (bI (x.isCell ((t * 256 + r) * 64 + w))))]), W p l e ({ frames := 2, cells := 0, slots := 0, locals := 22 } : Room) s m ([.ref h, .int (nI t), .int 4, .int (nI q), .int (nI r), .int (nI w)] : List Value).toArray below meth c H locs 0 0 (MQ below (va_Qv (fun (u9 : Unit) => True) (fun (u9 : Unit) t9 => bW D A (MW dA h ad (MS.s_keySeries (MS.s_keyTimes (MS.s_isCell (MS.s_cells x (va_up x.cells ((t * 256 + r) * 64 + w) (x.pointValues q))) (va_up x.isCell ((t * 256 + r) * 64 + w) true)) (va_up x.keyTimes ((r * 64) + w) (x.pointTimes q))) (va_up x.keySeries ((r * 64) + w) (x.pointSeries q)))) t9) A) ([.ref h, .int (nI t), .int 4, .int (nI q), .int (nI r), .int (nI w)] : List Value).toArray s 0 0 A) (F0 m 151 ls [.int (bI la)]) := by
      intro la j2 H locs ls hP hD hS hl
      refine lv_istore hx hb d_M_gather_151 hl (by decide) rfl (fun ls hl => ?_)
      have hl : lv_has ls 17 [(15, .int (bI la)), (14, .int (bI so)), (2, .int 4), (1, .int (nI t)), (3, .int (nI q)), (4, .int (nI r)), (5, .int (nI w)), (0, .ref h), (6, .int (nI ((t * 256 + r) * 64 + w))), (7, .int (nI ((r * 64) + w))), (8, .int (nI (x.pointSeries q))), (9, .long (x.pointValues q)), (11, .long (x.pointTimes q)), (13, .int (bI (x.isCell ((t * 256 + r) * 64 + w))))] := hl
      refine lv_iload_n hx hb d_M_gather_153 rfl (lv_at hl 2 rfl) ?_
      refine lv_iconst (v := 4) hx hb d_M_gather_154 (by decide) ?_
      refine lv_icmp_ne hx hb d_M_gather_155 (tgt := 163) rfl (fun h9 => absurd (by decide) h9) (fun _ => ?_)
      refine lv_iload hx hb d_M_gather_158 (lv_at hl 1 rfl) ?_
      refine lv_goto hx hb d_M_gather_160 (tgt := 165) rfl ?_
      refine lv_istore hx hb d_M_gather_165 hl (by decide) rfl (fun ls hl => ?_)
      have hl : lv_has ls 17 [(16, .int (bI so)), (15, .int (bI la)), (14, .int (bI so)), (2, .int 4), (1, .int (nI t)), (3, .int (nI q)), (4, .int (nI r)), (5, .int (nI w)), (0, .ref h), (6, .int (nI ((t * 256 + r) * 64 + w))), (7, .int (nI ((r * 64) + w))), (8, .int (nI (x.pointSeries q))), (9, .long (x.pointValues q)), (11, .long (x.pointTimes q)), (13, .int (bI (x.isCell ((t * 256 + r) * 64 + w))))] := hl
      refine lv_iload_n hx hb d_M_gather_167 rfl (lv_at hl 3 rfl) ?_
      refine lv_if_eq hx hb d_M_gather_168 (tgt := 176) rfl (fun h9 => absurd h9 (by decide)) (fun _ => ?_)
      refine lv_iload_n hx hb d_M_gather_171 rfl (lv_at hl 3 rfl) ?_
      refine lv_iconst (v := 1) hx hb d_M_gather_172 (by decide) ?_
      refine lv_icmp_ne hx hb d_M_gather_173 (tgt := 199) rfl (fun _ => ?_) (fun h9 => absurd h9 (by decide))
      refine lv_iload_n hx hb d_M_gather_199 rfl (lv_at hl 3 rfl) ?_
      refine lv_iconst (v := 2) hx hb d_M_gather_200 (by decide) ?_
      refine lv_icmp_eq hx hb d_M_gather_201 (tgt := 209) rfl (fun h9 => absurd h9 (by decide)) (fun _ => ?_)
      refine lv_iload_n hx hb d_M_gather_204 rfl (lv_at hl 3 rfl) ?_
      refine lv_iconst (v := 3) hx hb d_M_gather_205 (by decide) ?_
      refine lv_icmp_ne hx hb d_M_gather_206 (tgt := 270) rfl (fun _ => ?_) (fun h9 => absurd h9 (by decide))
      refine lv_iload_n hx hb d_M_gather_270 rfl (lv_at hl 3 rfl) ?_
      refine lv_bipush (v := 6) hx hb d_M_gather_271 (by decide) ?_
      refine lv_icmp_ne hx hb d_M_gather_273 (tgt := 328) rfl (fun _ => ?_) (fun h9 => absurd h9 (by decide))
      refine lv_iload hx hb d_M_gather_328 (lv_at hl 0 rfl) ?_
      refine lv_if_eq hx hb d_M_gather_330 (tgt := 360) rfl (fun h9 => absurd h9 (by rw [show so = true from j1.symm.trans hso]; decide)) (fun _ => ?_)
      refine lv_aload_n hx hb d_M_gather_333 rfl (lv_at hl 8 rfl) ?_
      refine gF (v := .ref (ad 53)) hx hb hown hE hK hP 0 rfl rfl layM 53 (by decide) w524 rfl d_M_gather_334 ?_
      refine lv_iload hx hb d_M_gather_337 (lv_at hl 9 rfl) ?_
      refine lv_lload hx hb d_M_gather_339 (lv_at hl 12 rfl) ?_
      refine nlst hx hb hK hP hD hS 26 2 rfl rfl ((t * 256 + r) * 64 + w) (by omega) (by decide) d_M_gather_341 (fun H locs hP hD hS => ?_)
      have hP : va_P D vwCl (MW dA h ad (MS.s_cells x (va_up x.cells ((t * 256 + r) * 64 + w) (x.pointValues q)))) H := hP
      have hD : va_D A (MW dA h ad (MS.s_cells x (va_up x.cells ((t * 256 + r) * 64 + w) (x.pointValues q)))) := hD
      refine lv_aload_n hx hb d_M_gather_342 rfl (lv_at hl 8 rfl) ?_
      refine gF (v := .ref (ad 62)) hx hb hown hE hK hP 0 rfl rfl layM 62 (by decide) w528 rfl d_M_gather_343 ?_
      refine lv_iload hx hb d_M_gather_346 (lv_at hl 10 rfl) ?_
      refine lv_lload hx hb d_M_gather_348 (lv_at hl 13 rfl) ?_
      refine nlst hx hb hK hP hD hS 29 2 rfl rfl ((r * 64) + w) (by omega) (by decide) d_M_gather_350 (fun H locs hP hD hS => ?_)
      have hP : va_P D vwCl (MW dA h ad (MS.s_keyTimes (MS.s_cells x (va_up x.cells ((t * 256 + r) * 64 + w) (x.pointValues q))) (va_up x.keyTimes ((r * 64) + w) (x.pointTimes q)))) H := hP
      have hD : va_D A (MW dA h ad (MS.s_keyTimes (MS.s_cells x (va_up x.cells ((t * 256 + r) * 64 + w) (x.pointValues q))) (va_up x.keyTimes ((r * 64) + w) (x.pointTimes q)))) := hD
      refine lv_aload_n hx hb d_M_gather_351 rfl (lv_at hl 8 rfl) ?_
      refine gF (v := .ref (ad 63)) hx hb hown hE hK hP 0 rfl rfl layM 63 (by decide) w529 rfl d_M_gather_352 ?_
      refine lv_iload hx hb d_M_gather_355 (lv_at hl 10 rfl) ?_
      refine lv_iload hx hb d_M_gather_357 (lv_at hl 11 rfl) ?_
      refine nistN (v := x.pointSeries q) hx hb hK hP hD hS 30 1 rfl rfl ((r * 64) + w) (by omega) (by decide) d_M_gather_359 (fun H locs hP hD hS => ?_)
      have hP : va_P D vwCl (MW dA h ad (MS.s_keySeries (MS.s_keyTimes (MS.s_cells x (va_up x.cells ((t * 256 + r) * 64 + w) (x.pointValues q))) (va_up x.keyTimes ((r * 64) + w) (x.pointTimes q))) (va_up x.keySeries ((r * 64) + w) (x.pointSeries q)))) H := hP
      have hD : va_D A (MW dA h ad (MS.s_keySeries (MS.s_keyTimes (MS.s_cells x (va_up x.cells ((t * 256 + r) * 64 + w) (x.pointValues q))) (va_up x.keyTimes ((r * 64) + w) (x.pointTimes q))) (va_up x.keySeries ((r * 64) + w) (x.pointSeries q)))) := hD
      refine lv_aload_n hx hb d_M_gather_360 rfl (lv_at hl 8 rfl) ?_
      refine gF (v := .ref (ad 54)) hx hb hown hE hK hP 0 rfl rfl layM 54 (by decide) w526 rfl d_M_gather_361 ?_
      refine lv_iload hx hb d_M_gather_364 (lv_at hl 9 rfl) ?_
      refine lv_iconst (v := 1) hx hb d_M_gather_366 (by decide) ?_
      refine nzstB (v := true) hx hb hK hP hD hS 27 3 rfl rfl ((t * 256 + r) * 64 + w) (by omega) (by decide) d_M_gather_367 (fun H locs hP hD hS => ?_)
      have hP : va_P D vwCl (MW dA h ad (MS.s_keySeries (MS.s_keyTimes (MS.s_isCell (MS.s_cells x (va_up x.cells ((t * 256 + r) * 64 + w) (x.pointValues q))) (va_up x.isCell ((t * 256 + r) * 64 + w) true)) (va_up x.keyTimes ((r * 64) + w) (x.pointTimes q))) (va_up x.keySeries ((r * 64) + w) (x.pointSeries q)))) H := hP
      have hD : va_D A (MW dA h ad (MS.s_keySeries (MS.s_keyTimes (MS.s_isCell (MS.s_cells x (va_up x.cells ((t * 256 + r) * 64 + w) (x.pointValues q))) (va_up x.isCell ((t * 256 + r) * 64 + w) true)) (va_up x.keyTimes ((r * 64) + w) (x.pointTimes q))) (va_up x.keySeries ((r * 64) + w) (x.pointSeries q)))) := hD
      exact rfV hx hb hr hlk hS () trivial hP hD (Nat.le_of_ble_eq_true rfl) (Nat.le_of_ble_eq_true rfl) d_M_gather_368
    refine lv_iload hx hb d_M_gather_103 (lv_at hl 12 rfl) ?_
    refine lv_if_eq hx hb d_M_gather_105 (tgt := 146) rfl (fun g3 => ?_) (fun g3 => ?_)
    · have g3 := bI_0 g3
      refine lv_iconst (v := 1) hx hb d_M_gather_146 (by decide) ?_
      refine lv_goto hx hb d_M_gather_147 (tgt := 151) rfl ?_
      exact J151 true (by simp [MS.gLa, *]) H _ ls hP hD hS (lv_sub hl [0, 1, 2, 3, 4, 5, 6, 7, 8, 9, 10, 11, 12] rfl)
    · have g3 := bI_n0 g3
      refine lv_lload hx hb d_M_gather_108 (lv_at hl 11 rfl) ?_
      refine lv_aload_n hx hb d_M_gather_110 rfl (lv_at hl 6 rfl) ?_
      refine gF (v := .ref (ad 62)) hx hb hown hE hK hP 0 rfl rfl layM 62 (by decide) w528 rfl d_M_gather_111 ?_
      refine lv_iload hx hb d_M_gather_114 (lv_at hl 8 rfl) ?_
      refine nlld (f := x.keyTimes) hx hb hK hP 29 2 rfl rfl ((r * 64) + w) (by omega) (by decide) d_M_gather_116 ?_
      refine W.lcmp hx hb d_M_gather_117 ?_
      refine lv_if_gt hx hb d_M_gather_118 (tgt := 146) rfl (fun g4 => ?_) (fun g4 => ?_)
      · have g4 := (lg_cmp_gt _ _).mp g4
        refine lv_iconst (v := 1) hx hb d_M_gather_146 (by decide) ?_
        refine lv_goto hx hb d_M_gather_147 (tgt := 151) rfl ?_
        exact J151 true (by simp [MS.gLa, *]) H _ ls hP hD hS (lv_sub hl [0, 1, 2, 3, 4, 5, 6, 7, 8, 9, 10, 11, 12] rfl)
      · have g4 := mt (lg_cmp_gt _ _).mpr g4
        refine lv_lload hx hb d_M_gather_121 (lv_at hl 11 rfl) ?_
        refine lv_aload_n hx hb d_M_gather_123 rfl (lv_at hl 6 rfl) ?_
        refine gF (v := .ref (ad 62)) hx hb hown hE hK hP 0 rfl rfl layM 62 (by decide) w528 rfl d_M_gather_124 ?_
        refine lv_iload hx hb d_M_gather_127 (lv_at hl 8 rfl) ?_
        refine nlld (f := x.keyTimes) hx hb hK hP 29 2 rfl rfl ((r * 64) + w) (by omega) (by decide) d_M_gather_129 ?_
        refine W.lcmp hx hb d_M_gather_130 ?_
        refine lv_if_ne hx hb d_M_gather_131 (tgt := 150) rfl (fun g5 => ?_) (fun g5 => ?_)
        · have g5 := mt (lg_cmp_eq _ _).mpr g5
          refine lv_iconst (v := 0) hx hb d_M_gather_150 (by decide) ?_
          exact J151 false (by simp [MS.gLa, *]) H _ ls hP hD hS (lv_sub hl [0, 1, 2, 3, 4, 5, 6, 7, 8, 9, 10, 11, 12] rfl)
        · have g5 := (lg_cmp_eq _ _).mp g5
          refine lv_iload hx hb d_M_gather_134 (lv_at hl 9 rfl) ?_
          refine lv_aload_n hx hb d_M_gather_136 rfl (lv_at hl 6 rfl) ?_
          refine gF (v := .ref (ad 63)) hx hb hown hE hK hP 0 rfl rfl layM 63 (by decide) w529 rfl d_M_gather_137 ?_
          refine lv_iload hx hb d_M_gather_140 (lv_at hl 8 rfl) ?_
          refine nild (f := (fun z9 => nI (x.keySeries z9))) hx hb hK hP 30 1 rfl rfl ((r * 64) + w) (by omega) (by decide) d_M_gather_142 ?_
          refine lv_icmp_ge hx hb d_M_gather_143 (tgt := 150) rfl (fun g6 => ?_) (fun g6 => ?_)
          · have g6 := (nI_leI (a := x.keySeries ((r * 64) + w)) (b := x.pointSeries q) (by omega) (by omega)).mp g6
            refine lv_iconst (v := 0) hx hb d_M_gather_150 (by decide) ?_
            exact J151 false (by simp [MS.gLa, *]) H _ ls hP hD hS (lv_sub hl [0, 1, 2, 3, 4, 5, 6, 7, 8, 9, 10, 11, 12] rfl)
          · have g6 := mt (nI_leI (a := x.keySeries ((r * 64) + w)) (b := x.pointSeries q) (by omega) (by omega)).mpr g6
            refine lv_iconst (v := 1) hx hb d_M_gather_146 (by decide) ?_
            refine lv_goto hx hb d_M_gather_147 (tgt := 151) rfl ?_
            exact J151 true (by simp [MS.gLa, *]) H _ ls hP hD hS (lv_sub hl [0, 1, 2, 3, 4, 5, 6, 7, 8, 9, 10, 11, 12] rfl)
  refine lv_iload hx hb d_M_gather_53 (lv_at hl 0 rfl) ?_
  refine lv_if_eq hx hb d_M_gather_55 (tgt := 96) rfl (fun g7 => ?_) (fun g7 => ?_)
  · have g7 := bI_0 g7
    refine lv_iconst (v := 1) hx hb d_M_gather_96 (by decide) ?_
    refine lv_goto hx hb d_M_gather_97 (tgt := 101) rfl ?_
    exact J101 true (by simp [MS.gSo, *]) H _ ls hP hD hS (lv_sub hl [8, 7, 9, 10, 11, 6, 5, 4, 3, 2, 1, 0] rfl)
  · have g7 := bI_n0 g7
    refine lv_lload hx hb d_M_gather_58 (lv_at hl 1 rfl) ?_
    refine lv_aload_n hx hb d_M_gather_60 rfl (lv_at hl 6 rfl) ?_
    refine gF (v := .ref (ad 62)) hx hb hown hE hK hP 0 rfl rfl layM 62 (by decide) w528 rfl d_M_gather_61 ?_
    refine lv_iload hx hb d_M_gather_64 (lv_at hl 4 rfl) ?_
    refine nlld (f := x.keyTimes) hx hb hK hP 29 2 rfl rfl ((r * 64) + w) (by omega) (by decide) d_M_gather_66 ?_
    refine W.lcmp hx hb d_M_gather_67 ?_
    refine lv_if_lt hx hb d_M_gather_68 (tgt := 96) rfl (fun g8 => ?_) (fun g8 => ?_)
    · have g8 := (lg_cmp_lt _ _).mp g8
      refine lv_iconst (v := 1) hx hb d_M_gather_96 (by decide) ?_
      refine lv_goto hx hb d_M_gather_97 (tgt := 101) rfl ?_
      exact J101 true (by simp [MS.gSo, *]) H _ ls hP hD hS (lv_sub hl [8, 7, 9, 10, 11, 6, 5, 4, 3, 2, 1, 0] rfl)
    · have g8 := mt (lg_cmp_lt _ _).mpr g8
      refine lv_lload hx hb d_M_gather_71 (lv_at hl 1 rfl) ?_
      refine lv_aload_n hx hb d_M_gather_73 rfl (lv_at hl 6 rfl) ?_
      refine gF (v := .ref (ad 62)) hx hb hown hE hK hP 0 rfl rfl layM 62 (by decide) w528 rfl d_M_gather_74 ?_
      refine lv_iload hx hb d_M_gather_77 (lv_at hl 4 rfl) ?_
      refine nlld (f := x.keyTimes) hx hb hK hP 29 2 rfl rfl ((r * 64) + w) (by omega) (by decide) d_M_gather_79 ?_
      refine W.lcmp hx hb d_M_gather_80 ?_
      refine lv_if_ne hx hb d_M_gather_81 (tgt := 100) rfl (fun g9 => ?_) (fun g9 => ?_)
      · have g9 := mt (lg_cmp_eq _ _).mpr g9
        refine lv_iconst (v := 0) hx hb d_M_gather_100 (by decide) ?_
        exact J101 false (by simp [MS.gSo, *]) H _ ls hP hD hS (lv_sub hl [8, 7, 9, 10, 11, 6, 5, 4, 3, 2, 1, 0] rfl)
      · have g9 := (lg_cmp_eq _ _).mp g9
        refine lv_iload hx hb d_M_gather_84 (lv_at hl 3 rfl) ?_
        refine lv_aload_n hx hb d_M_gather_86 rfl (lv_at hl 6 rfl) ?_
        refine gF (v := .ref (ad 63)) hx hb hown hE hK hP 0 rfl rfl layM 63 (by decide) w529 rfl d_M_gather_87 ?_
        refine lv_iload hx hb d_M_gather_90 (lv_at hl 4 rfl) ?_
        refine nild (f := (fun z9 => nI (x.keySeries z9))) hx hb hK hP 30 1 rfl rfl ((r * 64) + w) (by omega) (by decide) d_M_gather_92 ?_
        refine lv_icmp_ge hx hb d_M_gather_93 (tgt := 100) rfl (fun g10 => ?_) (fun g10 => ?_)
        · have g10 := (nI_leI (a := x.keySeries ((r * 64) + w)) (b := x.pointSeries q) (by omega) (by omega)).mp g10
          refine lv_iconst (v := 0) hx hb d_M_gather_100 (by decide) ?_
          exact J101 false (by simp [MS.gSo, *]) H _ ls hP hD hS (lv_sub hl [8, 7, 9, 10, 11, 6, 5, 4, 3, 2, 1, 0] rfl)
        · have g10 := mt (nI_leI (a := x.keySeries ((r * 64) + w)) (b := x.pointSeries q) (by omega) (by omega)).mpr g10
          refine lv_iconst (v := 1) hx hb d_M_gather_96 (by decide) ?_
          refine lv_goto hx hb d_M_gather_97 (tgt := 101) rfl ?_
          exact J101 true (by simp [MS.gSo, *]) H _ ls hP hD hS (lv_sub hl [8, 7, 9, 10, 11, 6, 5, 4, 3, 2, 1, 0] rfl)
set_option maxHeartbeats 4000000 in
set_option maxRecDepth 100000 in
theorem k_gather_4n (l : Launch) (D : va_G) (dA : Nat → ClassId) (sz : Nat) (h : Nat) (ad : Nat → Nat) (x : MS) (t : Nat) (q : Nat) (r : Nat) (w : Nat) (h1 : t < 20) (h2 : r < 256) (h3 : w < 64) (h4 : q < 12000) (h5 : x.pointSeries q < 256) (h6 : x.keySeries ((r * 64) + w) < 256) (hso : x.gSo ((t * 256 + r) * 64 + w) ((r * 64) + w) (x.pointSeries q) (x.pointTimes q) = false) : Met l ⟨"SeriesVaultModel", "gather", "(IIIII)V"⟩ [Cond.code ⟨"SeriesVaultModel", "gather", "(IIIII)V"⟩ prog_14_method_69_code 17 none] { frames := 2, cells := 0, slots := 0, locals := 22 } (pC D dA [.ref h, .int (nI t), .int 4, .int (nI q), .int (nI r), .int (nI w)] (MW dA h ad x) sz) (va_Qv (fun (u9 : Unit) => True) (fun (u9 : Unit) t9 => bW D (va_A (MW dA h ad x) sz) (MW dA h ad (MS.s_isCell x (va_up x.isCell ((t * 256 + r) * 64 + w) true))) t9) (va_A (MW dA h ad x) sz)) 0 0 (va_A (MW dA h ad x) sz) := by
  refine mkC (y := ⟨"SeriesVaultModel", "gather", "(IIIII)V"⟩) (cc := prog_14_method_69_code) (maxL := 17) (av := [.ref h, .int (nI t), .int 4, .int (nI q), .int (nI r), .int (nI w)]) (ws := MW dA h ad x) (sz := sz) (Qc := fun A => va_Qv (fun (u9 : Unit) => True) (fun (u9 : Unit) t9 => bW D A (MW dA h ad (MS.s_isCell x (va_up x.isCell ((t * 256 + r) * 64 + w) true))) t9) A) (by decide) (Nat.le_of_ble_eq_true rfl) ?_
  intro A p e s m below meth c ls hsz hB
  obtain ⟨hx, hb, hr, hml, hown, hin, hlk, hE, hK, hP, hD, hS, hA, hN, hl⟩ := hB
  have hown : s.vm.findClass "SeriesVaultModel" = some m.cls := hown
  have hl : lv_has ls 17 [(0, .ref h), (1, .int (nI t)), (2, .int 4), (3, .int (nI q)), (4, .int (nI r)), (5, .int (nI w))] := hl
  obtain ⟨H, hH⟩ : ∃ z, z = s.heap := ⟨_, rfl⟩
  have hP : va_P D vwCl (MW dA h ad x) H := by rw [hH]; exact hP
  have hS : va_S A s.heap H [] := by rw [hH]; exact hS
  rw [← hH]
  refine lv_iload_n hx hb d_M_gather_0 rfl (lv_at hl 1 rfl) ?_
  refine lv_iload hx hb d_M_gather_1 (lv_at hl 4 rfl) ?_
  refine lv_iload hx hb d_M_gather_3 (lv_at hl 5 rfl) ?_
  have hPc := hP.sub (ws' := []) [] rfl
  have hDc := hD.sub (ws' := []) [] (by decide) rfl
  refine jnI (rnS (As := [.int (nI t), .int (nI r), .int (nI w)]) (rest := []) hx hb hml hown hE hK (hN _ _ hS) hPc hDc (k_cellAt l D dA H.size t r w) w971 w970 w972 w328 rfl rfl ⟨⟨by decide, by decide⟩, rfl⟩ ⟨(Nat.le_of_ble_eq_true rfl), (Nat.le_of_ble_eq_true rfl)⟩ rfl hl.1 rfl (Nat.le_of_ble_eq_true rfl) d_M_gather_5 ⟨(Nat.le_of_ble_eq_true rfl), (Nat.le_of_ble_eq_true rfl)⟩) hP hD hS hA [] [0, 1, 2, 3, 4, 5, 6, 7, 8, 9, 10, 11, 12, 13, 14, 15, 16, 17, 18, 19, 20, 21, 22, 23, 24, 25, 26, 27, 28, 29, 30, 31, 32, 33, 34, 35, 36, 37, 38] (wr := MW dA h ad x) rfl rfl (by decide) (by decide) (fun r1 u9 H locs hp9 hP hD hS => ?_)
  have hP : va_P D vwCl (MW dA h ad x) H := hP
  have hD : va_D A (MW dA h ad x) := hD
  replace hp9 : nI ((t * 256 + r) * 64 + w) = r1 := Eq.symm hp9
  subst hp9
  refine lv_istore hx hb d_M_gather_8 hl (by decide) rfl (fun ls hl => ?_)
  have hl : lv_has ls 17 [(6, .int (nI ((t * 256 + r) * 64 + w))), (0, .ref h), (1, .int (nI t)), (2, .int 4), (3, .int (nI q)), (4, .int (nI r)), (5, .int (nI w))] := hl
  refine lv_iload hx hb d_M_gather_10 (lv_at hl 5 rfl) ?_
  refine lv_bipush (v := 64) hx hb d_M_gather_12 (by decide) ?_
  refine lv_imul hx hb d_M_gather_14 (tpi (y := nI (r * 64)) (pk_mul (r) (64)) ?_)
  refine lv_iload hx hb d_M_gather_15 (lv_at hl 6 rfl) ?_
  refine lv_iadd hx hb d_M_gather_17 (tpi (y := nI ((r * 64) + w)) (nI_add (r * 64) (w)) ?_)
  refine lv_istore hx hb d_M_gather_18 hl (by decide) rfl (fun ls hl => ?_)
  have hl : lv_has ls 17 [(7, .int (nI ((r * 64) + w))), (6, .int (nI ((t * 256 + r) * 64 + w))), (0, .ref h), (1, .int (nI t)), (2, .int 4), (3, .int (nI q)), (4, .int (nI r)), (5, .int (nI w))] := hl
  refine lv_aload_n hx hb d_M_gather_20 rfl (lv_at hl 2 rfl) ?_
  refine gF (v := .ref (ad 17)) hx hb hown hE hK hP 0 rfl rfl layM 17 (by decide) w503 rfl d_M_gather_21 ?_
  refine lv_iload_n hx hb d_M_gather_24 rfl (lv_at hl 5 rfl) ?_
  refine nild (f := (fun z9 => nI (x.pointSeries z9))) hx hb hK hP 6 1 rfl rfl (q) (by omega) (by decide) d_M_gather_25 ?_
  refine lv_istore hx hb d_M_gather_26 hl (by decide) rfl (fun ls hl => ?_)
  have hl : lv_has ls 17 [(8, .int (nI (x.pointSeries q))), (7, .int (nI ((r * 64) + w))), (6, .int (nI ((t * 256 + r) * 64 + w))), (0, .ref h), (1, .int (nI t)), (2, .int 4), (3, .int (nI q)), (4, .int (nI r)), (5, .int (nI w))] := hl
  refine lv_aload_n hx hb d_M_gather_28 rfl (lv_at hl 3 rfl) ?_
  refine gF (v := .ref (ad 19)) hx hb hown hE hK hP 0 rfl rfl layM 19 (by decide) w505 rfl d_M_gather_29 ?_
  refine lv_iload_n hx hb d_M_gather_32 rfl (lv_at hl 6 rfl) ?_
  refine nlld (f := x.pointValues) hx hb hK hP 8 2 rfl rfl (q) (by omega) (by decide) d_M_gather_33 ?_
  refine lv_lstore hx hb d_M_gather_34 hl (by decide) rfl (fun ls hl => ?_)
  have hl : lv_has ls 17 [(9, .long (x.pointValues q)), (8, .int (nI (x.pointSeries q))), (7, .int (nI ((r * 64) + w))), (6, .int (nI ((t * 256 + r) * 64 + w))), (0, .ref h), (1, .int (nI t)), (2, .int 4), (3, .int (nI q)), (4, .int (nI r)), (5, .int (nI w))] := hl
  refine lv_aload_n hx hb d_M_gather_36 rfl (lv_at hl 4 rfl) ?_
  refine gF (v := .ref (ad 18)) hx hb hown hE hK hP 0 rfl rfl layM 18 (by decide) w504 rfl d_M_gather_37 ?_
  refine lv_iload_n hx hb d_M_gather_40 rfl (lv_at hl 7 rfl) ?_
  refine nlld (f := x.pointTimes) hx hb hK hP 7 2 rfl rfl (q) (by omega) (by decide) d_M_gather_41 ?_
  refine lv_lstore hx hb d_M_gather_42 hl (by decide) rfl (fun ls hl => ?_)
  have hl : lv_has ls 17 [(11, .long (x.pointTimes q)), (9, .long (x.pointValues q)), (8, .int (nI (x.pointSeries q))), (7, .int (nI ((r * 64) + w))), (6, .int (nI ((t * 256 + r) * 64 + w))), (0, .ref h), (1, .int (nI t)), (2, .int 4), (3, .int (nI q)), (4, .int (nI r)), (5, .int (nI w))] := hl
  refine lv_aload_n hx hb d_M_gather_44 rfl (lv_at hl 5 rfl) ?_
  refine gF (v := .ref (ad 54)) hx hb hown hE hK hP 0 rfl rfl layM 54 (by decide) w526 rfl d_M_gather_45 ?_
  refine lv_iload hx hb d_M_gather_48 (lv_at hl 4 rfl) ?_
  refine nzld (f := (fun z9 => bI (x.isCell z9))) hx hb hK hP 27 3 rfl rfl ((t * 256 + r) * 64 + w) (by omega) (by decide) d_M_gather_50 ?_
  refine lv_istore hx hb d_M_gather_51 hl (by decide) rfl (fun ls hl => ?_)
  have hl : lv_has ls 17 [(13, .int (bI (x.isCell ((t * 256 + r) * 64 + w)))), (11, .long (x.pointTimes q)), (9, .long (x.pointValues q)), (8, .int (nI (x.pointSeries q))), (7, .int (nI ((r * 64) + w))), (6, .int (nI ((t * 256 + r) * 64 + w))), (0, .ref h), (1, .int (nI t)), (2, .int 4), (3, .int (nI q)), (4, .int (nI r)), (5, .int (nI w))] := hl
  have J101 : ∀ (so : Bool) (j1 : x.gSo ((t * 256 + r) * 64 + w) ((r * 64) + w) (x.pointSeries q) (x.pointTimes q) = so), ∀ (H : Heap) (locs : List Loc) (ls : Array Slot) (hP : va_P D vwCl (MW dA h ad x) H) (hD : va_D A (MW dA h ad x)) (hS : va_S A s.heap H locs) (hl : lv_has ls 17 [(2, .int 4), (1, .int (nI t)), (3, .int (nI q)), (4, .int (nI r)), (5, .int (nI w)), (0, .ref h), (6, .int (nI ((t * 256 + r) * 64 + w))), (7, .int (nI ((r * 64) + w))), (8, .int (nI (x.pointSeries q))), (9, .long (x.pointValues q)), (11, .long (x.pointTimes q)), (13, .int (bI (x.isCell ((t * 256 + r) * 64 + w))))]), W p l e ({ frames := 2, cells := 0, slots := 0, locals := 22 } : Room) s m ([.ref h, .int (nI t), .int 4, .int (nI q), .int (nI r), .int (nI w)] : List Value).toArray below meth c H locs 0 0 (MQ below (va_Qv (fun (u9 : Unit) => True) (fun (u9 : Unit) t9 => bW D A (MW dA h ad (MS.s_isCell x (va_up x.isCell ((t * 256 + r) * 64 + w) true))) t9) A) ([.ref h, .int (nI t), .int 4, .int (nI q), .int (nI r), .int (nI w)] : List Value).toArray s 0 0 A) (F0 m 101 ls [.int (bI so)]) := by
    intro so j1 H locs ls hP hD hS hl
    refine lv_istore hx hb d_M_gather_101 hl (by decide) rfl (fun ls hl => ?_)
    have hl : lv_has ls 17 [(14, .int (bI so)), (2, .int 4), (1, .int (nI t)), (3, .int (nI q)), (4, .int (nI r)), (5, .int (nI w)), (0, .ref h), (6, .int (nI ((t * 256 + r) * 64 + w))), (7, .int (nI ((r * 64) + w))), (8, .int (nI (x.pointSeries q))), (9, .long (x.pointValues q)), (11, .long (x.pointTimes q)), (13, .int (bI (x.isCell ((t * 256 + r) * 64 + w))))] := hl
    have J151 : ∀ (la : Bool) (j2 : x.gLa ((t * 256 + r) * 64 + w) ((r * 64) + w) (x.pointSeries q) (x.pointTimes q) = la), ∀ (H : Heap) (locs : List Loc) (ls : Array Slot) (hP : va_P D vwCl (MW dA h ad x) H) (hD : va_D A (MW dA h ad x)) (hS : va_S A s.heap H locs) (hl : lv_has ls 17 [(14, .int (bI so)), (2, .int 4), (1, .int (nI t)), (3, .int (nI q)), (4, .int (nI r)), (5, .int (nI w)), (0, .ref h), (6, .int (nI ((t * 256 + r) * 64 + w))), (7, .int (nI ((r * 64) + w))), (8, .int (nI (x.pointSeries q))), (9, .long (x.pointValues q)), (11, .long (x.pointTimes q)), (13, .int (bI (x.isCell ((t * 256 + r) * 64 + w))))]), W p l e ({ frames := 2, cells := 0, slots := 0, locals := 22 } : Room) s m ([.ref h, .int (nI t), .int 4, .int (nI q), .int (nI r), .int (nI w)] : List Value).toArray below meth c H locs 0 0 (MQ below (va_Qv (fun (u9 : Unit) => True) (fun (u9 : Unit) t9 => bW D A (MW dA h ad (MS.s_isCell x (va_up x.isCell ((t * 256 + r) * 64 + w) true))) t9) A) ([.ref h, .int (nI t), .int 4, .int (nI q), .int (nI r), .int (nI w)] : List Value).toArray s 0 0 A) (F0 m 151 ls [.int (bI la)]) := by
      intro la j2 H locs ls hP hD hS hl
      refine lv_istore hx hb d_M_gather_151 hl (by decide) rfl (fun ls hl => ?_)
      have hl : lv_has ls 17 [(15, .int (bI la)), (14, .int (bI so)), (2, .int 4), (1, .int (nI t)), (3, .int (nI q)), (4, .int (nI r)), (5, .int (nI w)), (0, .ref h), (6, .int (nI ((t * 256 + r) * 64 + w))), (7, .int (nI ((r * 64) + w))), (8, .int (nI (x.pointSeries q))), (9, .long (x.pointValues q)), (11, .long (x.pointTimes q)), (13, .int (bI (x.isCell ((t * 256 + r) * 64 + w))))] := hl
      refine lv_iload_n hx hb d_M_gather_153 rfl (lv_at hl 2 rfl) ?_
      refine lv_iconst (v := 4) hx hb d_M_gather_154 (by decide) ?_
      refine lv_icmp_ne hx hb d_M_gather_155 (tgt := 163) rfl (fun h9 => absurd (by decide) h9) (fun _ => ?_)
      refine lv_iload hx hb d_M_gather_158 (lv_at hl 1 rfl) ?_
      refine lv_goto hx hb d_M_gather_160 (tgt := 165) rfl ?_
      refine lv_istore hx hb d_M_gather_165 hl (by decide) rfl (fun ls hl => ?_)
      have hl : lv_has ls 17 [(16, .int (bI so)), (15, .int (bI la)), (14, .int (bI so)), (2, .int 4), (1, .int (nI t)), (3, .int (nI q)), (4, .int (nI r)), (5, .int (nI w)), (0, .ref h), (6, .int (nI ((t * 256 + r) * 64 + w))), (7, .int (nI ((r * 64) + w))), (8, .int (nI (x.pointSeries q))), (9, .long (x.pointValues q)), (11, .long (x.pointTimes q)), (13, .int (bI (x.isCell ((t * 256 + r) * 64 + w))))] := hl
      refine lv_iload_n hx hb d_M_gather_167 rfl (lv_at hl 3 rfl) ?_
      refine lv_if_eq hx hb d_M_gather_168 (tgt := 176) rfl (fun h9 => absurd h9 (by decide)) (fun _ => ?_)
      refine lv_iload_n hx hb d_M_gather_171 rfl (lv_at hl 3 rfl) ?_
      refine lv_iconst (v := 1) hx hb d_M_gather_172 (by decide) ?_
      refine lv_icmp_ne hx hb d_M_gather_173 (tgt := 199) rfl (fun _ => ?_) (fun h9 => absurd h9 (by decide))
      refine lv_iload_n hx hb d_M_gather_199 rfl (lv_at hl 3 rfl) ?_
      refine lv_iconst (v := 2) hx hb d_M_gather_200 (by decide) ?_
      refine lv_icmp_eq hx hb d_M_gather_201 (tgt := 209) rfl (fun h9 => absurd h9 (by decide)) (fun _ => ?_)
      refine lv_iload_n hx hb d_M_gather_204 rfl (lv_at hl 3 rfl) ?_
      refine lv_iconst (v := 3) hx hb d_M_gather_205 (by decide) ?_
      refine lv_icmp_ne hx hb d_M_gather_206 (tgt := 270) rfl (fun _ => ?_) (fun h9 => absurd h9 (by decide))
      refine lv_iload_n hx hb d_M_gather_270 rfl (lv_at hl 3 rfl) ?_
      refine lv_bipush (v := 6) hx hb d_M_gather_271 (by decide) ?_
      refine lv_icmp_ne hx hb d_M_gather_273 (tgt := 328) rfl (fun _ => ?_) (fun h9 => absurd h9 (by decide))
      refine lv_iload hx hb d_M_gather_328 (lv_at hl 0 rfl) ?_
      refine lv_if_eq hx hb d_M_gather_330 (tgt := 360) rfl (fun _ => ?_) (fun h9 => absurd (by rw [show so = false from j1.symm.trans hso]; decide) h9)
      refine lv_aload_n hx hb d_M_gather_360 rfl (lv_at hl 8 rfl) ?_
      refine gF (v := .ref (ad 54)) hx hb hown hE hK hP 0 rfl rfl layM 54 (by decide) w526 rfl d_M_gather_361 ?_
      refine lv_iload hx hb d_M_gather_364 (lv_at hl 9 rfl) ?_
      refine lv_iconst (v := 1) hx hb d_M_gather_366 (by decide) ?_
      refine nzstB (v := true) hx hb hK hP hD hS 27 3 rfl rfl ((t * 256 + r) * 64 + w) (by omega) (by decide) d_M_gather_367 (fun H locs hP hD hS => ?_)
      have hP : va_P D vwCl (MW dA h ad (MS.s_isCell x (va_up x.isCell ((t * 256 + r) * 64 + w) true))) H := hP
      have hD : va_D A (MW dA h ad (MS.s_isCell x (va_up x.isCell ((t * 256 + r) * 64 + w) true))) := hD
      exact rfV hx hb hr hlk hS () trivial hP hD (Nat.le_of_ble_eq_true rfl) (Nat.le_of_ble_eq_true rfl) d_M_gather_368
    refine lv_iload hx hb d_M_gather_103 (lv_at hl 12 rfl) ?_
    refine lv_if_eq hx hb d_M_gather_105 (tgt := 146) rfl (fun g3 => ?_) (fun g3 => ?_)
    · have g3 := bI_0 g3
      refine lv_iconst (v := 1) hx hb d_M_gather_146 (by decide) ?_
      refine lv_goto hx hb d_M_gather_147 (tgt := 151) rfl ?_
      exact J151 true (by simp [MS.gLa, *]) H _ ls hP hD hS (lv_sub hl [0, 1, 2, 3, 4, 5, 6, 7, 8, 9, 10, 11, 12] rfl)
    · have g3 := bI_n0 g3
      refine lv_lload hx hb d_M_gather_108 (lv_at hl 11 rfl) ?_
      refine lv_aload_n hx hb d_M_gather_110 rfl (lv_at hl 6 rfl) ?_
      refine gF (v := .ref (ad 62)) hx hb hown hE hK hP 0 rfl rfl layM 62 (by decide) w528 rfl d_M_gather_111 ?_
      refine lv_iload hx hb d_M_gather_114 (lv_at hl 8 rfl) ?_
      refine nlld (f := x.keyTimes) hx hb hK hP 29 2 rfl rfl ((r * 64) + w) (by omega) (by decide) d_M_gather_116 ?_
      refine W.lcmp hx hb d_M_gather_117 ?_
      refine lv_if_gt hx hb d_M_gather_118 (tgt := 146) rfl (fun g4 => ?_) (fun g4 => ?_)
      · have g4 := (lg_cmp_gt _ _).mp g4
        refine lv_iconst (v := 1) hx hb d_M_gather_146 (by decide) ?_
        refine lv_goto hx hb d_M_gather_147 (tgt := 151) rfl ?_
        exact J151 true (by simp [MS.gLa, *]) H _ ls hP hD hS (lv_sub hl [0, 1, 2, 3, 4, 5, 6, 7, 8, 9, 10, 11, 12] rfl)
      · have g4 := mt (lg_cmp_gt _ _).mpr g4
        refine lv_lload hx hb d_M_gather_121 (lv_at hl 11 rfl) ?_
        refine lv_aload_n hx hb d_M_gather_123 rfl (lv_at hl 6 rfl) ?_
        refine gF (v := .ref (ad 62)) hx hb hown hE hK hP 0 rfl rfl layM 62 (by decide) w528 rfl d_M_gather_124 ?_
        refine lv_iload hx hb d_M_gather_127 (lv_at hl 8 rfl) ?_
        refine nlld (f := x.keyTimes) hx hb hK hP 29 2 rfl rfl ((r * 64) + w) (by omega) (by decide) d_M_gather_129 ?_
        refine W.lcmp hx hb d_M_gather_130 ?_
        refine lv_if_ne hx hb d_M_gather_131 (tgt := 150) rfl (fun g5 => ?_) (fun g5 => ?_)
        · have g5 := mt (lg_cmp_eq _ _).mpr g5
          refine lv_iconst (v := 0) hx hb d_M_gather_150 (by decide) ?_
          exact J151 false (by simp [MS.gLa, *]) H _ ls hP hD hS (lv_sub hl [0, 1, 2, 3, 4, 5, 6, 7, 8, 9, 10, 11, 12] rfl)
        · have g5 := (lg_cmp_eq _ _).mp g5
          refine lv_iload hx hb d_M_gather_134 (lv_at hl 9 rfl) ?_
          refine lv_aload_n hx hb d_M_gather_136 rfl (lv_at hl 6 rfl) ?_
          refine gF (v := .ref (ad 63)) hx hb hown hE hK hP 0 rfl rfl layM 63 (by decide) w529 rfl d_M_gather_137 ?_
          refine lv_iload hx hb d_M_gather_140 (lv_at hl 8 rfl) ?_
          refine nild (f := (fun z9 => nI (x.keySeries z9))) hx hb hK hP 30 1 rfl rfl ((r * 64) + w) (by omega) (by decide) d_M_gather_142 ?_
          refine lv_icmp_ge hx hb d_M_gather_143 (tgt := 150) rfl (fun g6 => ?_) (fun g6 => ?_)
          · have g6 := (nI_leI (a := x.keySeries ((r * 64) + w)) (b := x.pointSeries q) (by omega) (by omega)).mp g6
            refine lv_iconst (v := 0) hx hb d_M_gather_150 (by decide) ?_
            exact J151 false (by simp [MS.gLa, *]) H _ ls hP hD hS (lv_sub hl [0, 1, 2, 3, 4, 5, 6, 7, 8, 9, 10, 11, 12] rfl)
          · have g6 := mt (nI_leI (a := x.keySeries ((r * 64) + w)) (b := x.pointSeries q) (by omega) (by omega)).mpr g6
            refine lv_iconst (v := 1) hx hb d_M_gather_146 (by decide) ?_
            refine lv_goto hx hb d_M_gather_147 (tgt := 151) rfl ?_
            exact J151 true (by simp [MS.gLa, *]) H _ ls hP hD hS (lv_sub hl [0, 1, 2, 3, 4, 5, 6, 7, 8, 9, 10, 11, 12] rfl)
  refine lv_iload hx hb d_M_gather_53 (lv_at hl 0 rfl) ?_
  refine lv_if_eq hx hb d_M_gather_55 (tgt := 96) rfl (fun g7 => ?_) (fun g7 => ?_)
  · have g7 := bI_0 g7
    refine lv_iconst (v := 1) hx hb d_M_gather_96 (by decide) ?_
    refine lv_goto hx hb d_M_gather_97 (tgt := 101) rfl ?_
    exact J101 true (by simp [MS.gSo, *]) H _ ls hP hD hS (lv_sub hl [8, 7, 9, 10, 11, 6, 5, 4, 3, 2, 1, 0] rfl)
  · have g7 := bI_n0 g7
    refine lv_lload hx hb d_M_gather_58 (lv_at hl 1 rfl) ?_
    refine lv_aload_n hx hb d_M_gather_60 rfl (lv_at hl 6 rfl) ?_
    refine gF (v := .ref (ad 62)) hx hb hown hE hK hP 0 rfl rfl layM 62 (by decide) w528 rfl d_M_gather_61 ?_
    refine lv_iload hx hb d_M_gather_64 (lv_at hl 4 rfl) ?_
    refine nlld (f := x.keyTimes) hx hb hK hP 29 2 rfl rfl ((r * 64) + w) (by omega) (by decide) d_M_gather_66 ?_
    refine W.lcmp hx hb d_M_gather_67 ?_
    refine lv_if_lt hx hb d_M_gather_68 (tgt := 96) rfl (fun g8 => ?_) (fun g8 => ?_)
    · have g8 := (lg_cmp_lt _ _).mp g8
      refine lv_iconst (v := 1) hx hb d_M_gather_96 (by decide) ?_
      refine lv_goto hx hb d_M_gather_97 (tgt := 101) rfl ?_
      exact J101 true (by simp [MS.gSo, *]) H _ ls hP hD hS (lv_sub hl [8, 7, 9, 10, 11, 6, 5, 4, 3, 2, 1, 0] rfl)
    · have g8 := mt (lg_cmp_lt _ _).mpr g8
      refine lv_lload hx hb d_M_gather_71 (lv_at hl 1 rfl) ?_
      refine lv_aload_n hx hb d_M_gather_73 rfl (lv_at hl 6 rfl) ?_
      refine gF (v := .ref (ad 62)) hx hb hown hE hK hP 0 rfl rfl layM 62 (by decide) w528 rfl d_M_gather_74 ?_
      refine lv_iload hx hb d_M_gather_77 (lv_at hl 4 rfl) ?_
      refine nlld (f := x.keyTimes) hx hb hK hP 29 2 rfl rfl ((r * 64) + w) (by omega) (by decide) d_M_gather_79 ?_
      refine W.lcmp hx hb d_M_gather_80 ?_
      refine lv_if_ne hx hb d_M_gather_81 (tgt := 100) rfl (fun g9 => ?_) (fun g9 => ?_)
      · have g9 := mt (lg_cmp_eq _ _).mpr g9
        refine lv_iconst (v := 0) hx hb d_M_gather_100 (by decide) ?_
        exact J101 false (by simp [MS.gSo, *]) H _ ls hP hD hS (lv_sub hl [8, 7, 9, 10, 11, 6, 5, 4, 3, 2, 1, 0] rfl)
      · have g9 := (lg_cmp_eq _ _).mp g9
        refine lv_iload hx hb d_M_gather_84 (lv_at hl 3 rfl) ?_
        refine lv_aload_n hx hb d_M_gather_86 rfl (lv_at hl 6 rfl) ?_
        refine gF (v := .ref (ad 63)) hx hb hown hE hK hP 0 rfl rfl layM 63 (by decide) w529 rfl d_M_gather_87 ?_
        refine lv_iload hx hb d_M_gather_90 (lv_at hl 4 rfl) ?_
        refine nild (f := (fun z9 => nI (x.keySeries z9))) hx hb hK hP 30 1 rfl rfl ((r * 64) + w) (by omega) (by decide) d_M_gather_92 ?_
        refine lv_icmp_ge hx hb d_M_gather_93 (tgt := 100) rfl (fun g10 => ?_) (fun g10 => ?_)
        · have g10 := (nI_leI (a := x.keySeries ((r * 64) + w)) (b := x.pointSeries q) (by omega) (by omega)).mp g10
          refine lv_iconst (v := 0) hx hb d_M_gather_100 (by decide) ?_
          exact J101 false (by simp [MS.gSo, *]) H _ ls hP hD hS (lv_sub hl [8, 7, 9, 10, 11, 6, 5, 4, 3, 2, 1, 0] rfl)
        · have g10 := mt (nI_leI (a := x.keySeries ((r * 64) + w)) (b := x.pointSeries q) (by omega) (by omega)).mpr g10
          refine lv_iconst (v := 1) hx hb d_M_gather_96 (by decide) ?_
          refine lv_goto hx hb d_M_gather_97 (tgt := 101) rfl ?_
          exact J101 true (by simp [MS.gSo, *]) H _ ls hP hD hS (lv_sub hl [8, 7, 9, 10, 11, 6, 5, 4, 3, 2, 1, 0] rfl)
set_option maxHeartbeats 4000000 in
set_option maxRecDepth 100000 in
theorem k_gather_5 (l : Launch) (D : va_G) (dA : Nat → ClassId) (sz : Nat) (h : Nat) (ad : Nat → Nat) (x : MS) (t : Nat) (q : Nat) (r : Nat) (w : Nat) (h1 : t < 20) (h2 : r < 256) (h3 : w < 64) (h4 : q < 12000) (h5 : x.pointSeries q < 256) (h6 : x.keySeries ((r * 64) + w) < 256) (hso : x.gLa ((t * 256 + r) * 64 + w) ((r * 64) + w) (x.pointSeries q) (x.pointTimes q) = true) : Met l ⟨"SeriesVaultModel", "gather", "(IIIII)V"⟩ [Cond.code ⟨"SeriesVaultModel", "gather", "(IIIII)V"⟩ prog_14_method_69_code 17 none] { frames := 2, cells := 0, slots := 0, locals := 22 } (pC D dA [.ref h, .int (nI t), .int 5, .int (nI q), .int (nI r), .int (nI w)] (MW dA h ad x) sz) (va_Qv (fun (u9 : Unit) => True) (fun (u9 : Unit) t9 => bW D (va_A (MW dA h ad x) sz) (MW dA h ad (MS.s_keySeries (MS.s_keyTimes (MS.s_isCell (MS.s_cells x (va_up x.cells ((t * 256 + r) * 64 + w) (x.pointValues q))) (va_up x.isCell ((t * 256 + r) * 64 + w) true)) (va_up x.keyTimes ((r * 64) + w) (x.pointTimes q))) (va_up x.keySeries ((r * 64) + w) (x.pointSeries q)))) t9) (va_A (MW dA h ad x) sz)) 0 0 (va_A (MW dA h ad x) sz) := by
  refine mkC (y := ⟨"SeriesVaultModel", "gather", "(IIIII)V"⟩) (cc := prog_14_method_69_code) (maxL := 17) (av := [.ref h, .int (nI t), .int 5, .int (nI q), .int (nI r), .int (nI w)]) (ws := MW dA h ad x) (sz := sz) (Qc := fun A => va_Qv (fun (u9 : Unit) => True) (fun (u9 : Unit) t9 => bW D A (MW dA h ad (MS.s_keySeries (MS.s_keyTimes (MS.s_isCell (MS.s_cells x (va_up x.cells ((t * 256 + r) * 64 + w) (x.pointValues q))) (va_up x.isCell ((t * 256 + r) * 64 + w) true)) (va_up x.keyTimes ((r * 64) + w) (x.pointTimes q))) (va_up x.keySeries ((r * 64) + w) (x.pointSeries q)))) t9) A) (by decide) (Nat.le_of_ble_eq_true rfl) ?_
  intro A p e s m below meth c ls hsz hB
  obtain ⟨hx, hb, hr, hml, hown, hin, hlk, hE, hK, hP, hD, hS, hA, hN, hl⟩ := hB
  have hown : s.vm.findClass "SeriesVaultModel" = some m.cls := hown
  have hl : lv_has ls 17 [(0, .ref h), (1, .int (nI t)), (2, .int 5), (3, .int (nI q)), (4, .int (nI r)), (5, .int (nI w))] := hl
  obtain ⟨H, hH⟩ : ∃ z, z = s.heap := ⟨_, rfl⟩
  have hP : va_P D vwCl (MW dA h ad x) H := by rw [hH]; exact hP
  have hS : va_S A s.heap H [] := by rw [hH]; exact hS
  rw [← hH]
  refine lv_iload_n hx hb d_M_gather_0 rfl (lv_at hl 1 rfl) ?_
  refine lv_iload hx hb d_M_gather_1 (lv_at hl 4 rfl) ?_
  refine lv_iload hx hb d_M_gather_3 (lv_at hl 5 rfl) ?_
  have hPc := hP.sub (ws' := []) [] rfl
  have hDc := hD.sub (ws' := []) [] (by decide) rfl
  refine jnI (rnS (As := [.int (nI t), .int (nI r), .int (nI w)]) (rest := []) hx hb hml hown hE hK (hN _ _ hS) hPc hDc (k_cellAt l D dA H.size t r w) w971 w970 w972 w328 rfl rfl ⟨⟨by decide, by decide⟩, rfl⟩ ⟨(Nat.le_of_ble_eq_true rfl), (Nat.le_of_ble_eq_true rfl)⟩ rfl hl.1 rfl (Nat.le_of_ble_eq_true rfl) d_M_gather_5 ⟨(Nat.le_of_ble_eq_true rfl), (Nat.le_of_ble_eq_true rfl)⟩) hP hD hS hA [] [0, 1, 2, 3, 4, 5, 6, 7, 8, 9, 10, 11, 12, 13, 14, 15, 16, 17, 18, 19, 20, 21, 22, 23, 24, 25, 26, 27, 28, 29, 30, 31, 32, 33, 34, 35, 36, 37, 38] (wr := MW dA h ad x) rfl rfl (by decide) (by decide) (fun r1 u9 H locs hp9 hP hD hS => ?_)
  have hP : va_P D vwCl (MW dA h ad x) H := hP
  have hD : va_D A (MW dA h ad x) := hD
  replace hp9 : nI ((t * 256 + r) * 64 + w) = r1 := Eq.symm hp9
  subst hp9
  refine lv_istore hx hb d_M_gather_8 hl (by decide) rfl (fun ls hl => ?_)
  have hl : lv_has ls 17 [(6, .int (nI ((t * 256 + r) * 64 + w))), (0, .ref h), (1, .int (nI t)), (2, .int 5), (3, .int (nI q)), (4, .int (nI r)), (5, .int (nI w))] := hl
  refine lv_iload hx hb d_M_gather_10 (lv_at hl 5 rfl) ?_
  refine lv_bipush (v := 64) hx hb d_M_gather_12 (by decide) ?_
  refine lv_imul hx hb d_M_gather_14 (tpi (y := nI (r * 64)) (pk_mul (r) (64)) ?_)
  refine lv_iload hx hb d_M_gather_15 (lv_at hl 6 rfl) ?_
  refine lv_iadd hx hb d_M_gather_17 (tpi (y := nI ((r * 64) + w)) (nI_add (r * 64) (w)) ?_)
  refine lv_istore hx hb d_M_gather_18 hl (by decide) rfl (fun ls hl => ?_)
  have hl : lv_has ls 17 [(7, .int (nI ((r * 64) + w))), (6, .int (nI ((t * 256 + r) * 64 + w))), (0, .ref h), (1, .int (nI t)), (2, .int 5), (3, .int (nI q)), (4, .int (nI r)), (5, .int (nI w))] := hl
  refine lv_aload_n hx hb d_M_gather_20 rfl (lv_at hl 2 rfl) ?_
  refine gF (v := .ref (ad 17)) hx hb hown hE hK hP 0 rfl rfl layM 17 (by decide) w503 rfl d_M_gather_21 ?_
  refine lv_iload_n hx hb d_M_gather_24 rfl (lv_at hl 5 rfl) ?_
  refine nild (f := (fun z9 => nI (x.pointSeries z9))) hx hb hK hP 6 1 rfl rfl (q) (by omega) (by decide) d_M_gather_25 ?_
  refine lv_istore hx hb d_M_gather_26 hl (by decide) rfl (fun ls hl => ?_)
  have hl : lv_has ls 17 [(8, .int (nI (x.pointSeries q))), (7, .int (nI ((r * 64) + w))), (6, .int (nI ((t * 256 + r) * 64 + w))), (0, .ref h), (1, .int (nI t)), (2, .int 5), (3, .int (nI q)), (4, .int (nI r)), (5, .int (nI w))] := hl
  refine lv_aload_n hx hb d_M_gather_28 rfl (lv_at hl 3 rfl) ?_
  refine gF (v := .ref (ad 19)) hx hb hown hE hK hP 0 rfl rfl layM 19 (by decide) w505 rfl d_M_gather_29 ?_
  refine lv_iload_n hx hb d_M_gather_32 rfl (lv_at hl 6 rfl) ?_
  refine nlld (f := x.pointValues) hx hb hK hP 8 2 rfl rfl (q) (by omega) (by decide) d_M_gather_33 ?_
  refine lv_lstore hx hb d_M_gather_34 hl (by decide) rfl (fun ls hl => ?_)
  have hl : lv_has ls 17 [(9, .long (x.pointValues q)), (8, .int (nI (x.pointSeries q))), (7, .int (nI ((r * 64) + w))), (6, .int (nI ((t * 256 + r) * 64 + w))), (0, .ref h), (1, .int (nI t)), (2, .int 5), (3, .int (nI q)), (4, .int (nI r)), (5, .int (nI w))] := hl
  refine lv_aload_n hx hb d_M_gather_36 rfl (lv_at hl 4 rfl) ?_
  refine gF (v := .ref (ad 18)) hx hb hown hE hK hP 0 rfl rfl layM 18 (by decide) w504 rfl d_M_gather_37 ?_
  refine lv_iload_n hx hb d_M_gather_40 rfl (lv_at hl 7 rfl) ?_
  refine nlld (f := x.pointTimes) hx hb hK hP 7 2 rfl rfl (q) (by omega) (by decide) d_M_gather_41 ?_
  refine lv_lstore hx hb d_M_gather_42 hl (by decide) rfl (fun ls hl => ?_)
  have hl : lv_has ls 17 [(11, .long (x.pointTimes q)), (9, .long (x.pointValues q)), (8, .int (nI (x.pointSeries q))), (7, .int (nI ((r * 64) + w))), (6, .int (nI ((t * 256 + r) * 64 + w))), (0, .ref h), (1, .int (nI t)), (2, .int 5), (3, .int (nI q)), (4, .int (nI r)), (5, .int (nI w))] := hl
  refine lv_aload_n hx hb d_M_gather_44 rfl (lv_at hl 5 rfl) ?_
  refine gF (v := .ref (ad 54)) hx hb hown hE hK hP 0 rfl rfl layM 54 (by decide) w526 rfl d_M_gather_45 ?_
  refine lv_iload hx hb d_M_gather_48 (lv_at hl 4 rfl) ?_
  refine nzld (f := (fun z9 => bI (x.isCell z9))) hx hb hK hP 27 3 rfl rfl ((t * 256 + r) * 64 + w) (by omega) (by decide) d_M_gather_50 ?_
  refine lv_istore hx hb d_M_gather_51 hl (by decide) rfl (fun ls hl => ?_)
  have hl : lv_has ls 17 [(13, .int (bI (x.isCell ((t * 256 + r) * 64 + w)))), (11, .long (x.pointTimes q)), (9, .long (x.pointValues q)), (8, .int (nI (x.pointSeries q))), (7, .int (nI ((r * 64) + w))), (6, .int (nI ((t * 256 + r) * 64 + w))), (0, .ref h), (1, .int (nI t)), (2, .int 5), (3, .int (nI q)), (4, .int (nI r)), (5, .int (nI w))] := hl
  have J101 : ∀ (so : Bool) (j1 : x.gSo ((t * 256 + r) * 64 + w) ((r * 64) + w) (x.pointSeries q) (x.pointTimes q) = so), ∀ (H : Heap) (locs : List Loc) (ls : Array Slot) (hP : va_P D vwCl (MW dA h ad x) H) (hD : va_D A (MW dA h ad x)) (hS : va_S A s.heap H locs) (hl : lv_has ls 17 [(2, .int 5), (1, .int (nI t)), (3, .int (nI q)), (4, .int (nI r)), (5, .int (nI w)), (0, .ref h), (6, .int (nI ((t * 256 + r) * 64 + w))), (7, .int (nI ((r * 64) + w))), (8, .int (nI (x.pointSeries q))), (9, .long (x.pointValues q)), (11, .long (x.pointTimes q)), (13, .int (bI (x.isCell ((t * 256 + r) * 64 + w))))]), W p l e ({ frames := 2, cells := 0, slots := 0, locals := 22 } : Room) s m ([.ref h, .int (nI t), .int 5, .int (nI q), .int (nI r), .int (nI w)] : List Value).toArray below meth c H locs 0 0 (MQ below (va_Qv (fun (u9 : Unit) => True) (fun (u9 : Unit) t9 => bW D A (MW dA h ad (MS.s_keySeries (MS.s_keyTimes (MS.s_isCell (MS.s_cells x (va_up x.cells ((t * 256 + r) * 64 + w) (x.pointValues q))) (va_up x.isCell ((t * 256 + r) * 64 + w) true)) (va_up x.keyTimes ((r * 64) + w) (x.pointTimes q))) (va_up x.keySeries ((r * 64) + w) (x.pointSeries q)))) t9) A) ([.ref h, .int (nI t), .int 5, .int (nI q), .int (nI r), .int (nI w)] : List Value).toArray s 0 0 A) (F0 m 101 ls [.int (bI so)]) := by
    intro so j1 H locs ls hP hD hS hl
    refine lv_istore hx hb d_M_gather_101 hl (by decide) rfl (fun ls hl => ?_)
    have hl : lv_has ls 17 [(14, .int (bI so)), (2, .int 5), (1, .int (nI t)), (3, .int (nI q)), (4, .int (nI r)), (5, .int (nI w)), (0, .ref h), (6, .int (nI ((t * 256 + r) * 64 + w))), (7, .int (nI ((r * 64) + w))), (8, .int (nI (x.pointSeries q))), (9, .long (x.pointValues q)), (11, .long (x.pointTimes q)), (13, .int (bI (x.isCell ((t * 256 + r) * 64 + w))))] := hl
    have J151 : ∀ (la : Bool) (j2 : x.gLa ((t * 256 + r) * 64 + w) ((r * 64) + w) (x.pointSeries q) (x.pointTimes q) = la), ∀ (H : Heap) (locs : List Loc) (ls : Array Slot) (hP : va_P D vwCl (MW dA h ad x) H) (hD : va_D A (MW dA h ad x)) (hS : va_S A s.heap H locs) (hl : lv_has ls 17 [(14, .int (bI so)), (2, .int 5), (1, .int (nI t)), (3, .int (nI q)), (4, .int (nI r)), (5, .int (nI w)), (0, .ref h), (6, .int (nI ((t * 256 + r) * 64 + w))), (7, .int (nI ((r * 64) + w))), (8, .int (nI (x.pointSeries q))), (9, .long (x.pointValues q)), (11, .long (x.pointTimes q)), (13, .int (bI (x.isCell ((t * 256 + r) * 64 + w))))]), W p l e ({ frames := 2, cells := 0, slots := 0, locals := 22 } : Room) s m ([.ref h, .int (nI t), .int 5, .int (nI q), .int (nI r), .int (nI w)] : List Value).toArray below meth c H locs 0 0 (MQ below (va_Qv (fun (u9 : Unit) => True) (fun (u9 : Unit) t9 => bW D A (MW dA h ad (MS.s_keySeries (MS.s_keyTimes (MS.s_isCell (MS.s_cells x (va_up x.cells ((t * 256 + r) * 64 + w) (x.pointValues q))) (va_up x.isCell ((t * 256 + r) * 64 + w) true)) (va_up x.keyTimes ((r * 64) + w) (x.pointTimes q))) (va_up x.keySeries ((r * 64) + w) (x.pointSeries q)))) t9) A) ([.ref h, .int (nI t), .int 5, .int (nI q), .int (nI r), .int (nI w)] : List Value).toArray s 0 0 A) (F0 m 151 ls [.int (bI la)]) := by
      intro la j2 H locs ls hP hD hS hl
      refine lv_istore hx hb d_M_gather_151 hl (by decide) rfl (fun ls hl => ?_)
      have hl : lv_has ls 17 [(15, .int (bI la)), (14, .int (bI so)), (2, .int 5), (1, .int (nI t)), (3, .int (nI q)), (4, .int (nI r)), (5, .int (nI w)), (0, .ref h), (6, .int (nI ((t * 256 + r) * 64 + w))), (7, .int (nI ((r * 64) + w))), (8, .int (nI (x.pointSeries q))), (9, .long (x.pointValues q)), (11, .long (x.pointTimes q)), (13, .int (bI (x.isCell ((t * 256 + r) * 64 + w))))] := hl
      refine lv_iload_n hx hb d_M_gather_153 rfl (lv_at hl 2 rfl) ?_
      refine lv_iconst (v := 4) hx hb d_M_gather_154 (by decide) ?_
      refine lv_icmp_ne hx hb d_M_gather_155 (tgt := 163) rfl (fun _ => ?_) (fun h9 => absurd h9 (by decide))
      refine lv_iload hx hb d_M_gather_163 (lv_at hl 0 rfl) ?_
      refine lv_istore hx hb d_M_gather_165 hl (by decide) rfl (fun ls hl => ?_)
      have hl : lv_has ls 17 [(16, .int (bI la)), (15, .int (bI la)), (14, .int (bI so)), (2, .int 5), (1, .int (nI t)), (3, .int (nI q)), (4, .int (nI r)), (5, .int (nI w)), (0, .ref h), (6, .int (nI ((t * 256 + r) * 64 + w))), (7, .int (nI ((r * 64) + w))), (8, .int (nI (x.pointSeries q))), (9, .long (x.pointValues q)), (11, .long (x.pointTimes q)), (13, .int (bI (x.isCell ((t * 256 + r) * 64 + w))))] := hl
      refine lv_iload_n hx hb d_M_gather_167 rfl (lv_at hl 3 rfl) ?_
      refine lv_if_eq hx hb d_M_gather_168 (tgt := 176) rfl (fun h9 => absurd h9 (by decide)) (fun _ => ?_)
      refine lv_iload_n hx hb d_M_gather_171 rfl (lv_at hl 3 rfl) ?_
      refine lv_iconst (v := 1) hx hb d_M_gather_172 (by decide) ?_
      refine lv_icmp_ne hx hb d_M_gather_173 (tgt := 199) rfl (fun _ => ?_) (fun h9 => absurd h9 (by decide))
      refine lv_iload_n hx hb d_M_gather_199 rfl (lv_at hl 3 rfl) ?_
      refine lv_iconst (v := 2) hx hb d_M_gather_200 (by decide) ?_
      refine lv_icmp_eq hx hb d_M_gather_201 (tgt := 209) rfl (fun h9 => absurd h9 (by decide)) (fun _ => ?_)
      refine lv_iload_n hx hb d_M_gather_204 rfl (lv_at hl 3 rfl) ?_
      refine lv_iconst (v := 3) hx hb d_M_gather_205 (by decide) ?_
      refine lv_icmp_ne hx hb d_M_gather_206 (tgt := 270) rfl (fun _ => ?_) (fun h9 => absurd h9 (by decide))
      refine lv_iload_n hx hb d_M_gather_270 rfl (lv_at hl 3 rfl) ?_
      refine lv_bipush (v := 6) hx hb d_M_gather_271 (by decide) ?_
      refine lv_icmp_ne hx hb d_M_gather_273 (tgt := 328) rfl (fun _ => ?_) (fun h9 => absurd h9 (by decide))
      refine lv_iload hx hb d_M_gather_328 (lv_at hl 0 rfl) ?_
      refine lv_if_eq hx hb d_M_gather_330 (tgt := 360) rfl (fun h9 => absurd h9 (by rw [show la = true from j2.symm.trans hso]; decide)) (fun _ => ?_)
      refine lv_aload_n hx hb d_M_gather_333 rfl (lv_at hl 8 rfl) ?_
      refine gF (v := .ref (ad 53)) hx hb hown hE hK hP 0 rfl rfl layM 53 (by decide) w524 rfl d_M_gather_334 ?_
      refine lv_iload hx hb d_M_gather_337 (lv_at hl 9 rfl) ?_
      refine lv_lload hx hb d_M_gather_339 (lv_at hl 12 rfl) ?_
      refine nlst hx hb hK hP hD hS 26 2 rfl rfl ((t * 256 + r) * 64 + w) (by omega) (by decide) d_M_gather_341 (fun H locs hP hD hS => ?_)
      have hP : va_P D vwCl (MW dA h ad (MS.s_cells x (va_up x.cells ((t * 256 + r) * 64 + w) (x.pointValues q)))) H := hP
      have hD : va_D A (MW dA h ad (MS.s_cells x (va_up x.cells ((t * 256 + r) * 64 + w) (x.pointValues q)))) := hD
      refine lv_aload_n hx hb d_M_gather_342 rfl (lv_at hl 8 rfl) ?_
      refine gF (v := .ref (ad 62)) hx hb hown hE hK hP 0 rfl rfl layM 62 (by decide) w528 rfl d_M_gather_343 ?_
      refine lv_iload hx hb d_M_gather_346 (lv_at hl 10 rfl) ?_
      refine lv_lload hx hb d_M_gather_348 (lv_at hl 13 rfl) ?_
      refine nlst hx hb hK hP hD hS 29 2 rfl rfl ((r * 64) + w) (by omega) (by decide) d_M_gather_350 (fun H locs hP hD hS => ?_)
      have hP : va_P D vwCl (MW dA h ad (MS.s_keyTimes (MS.s_cells x (va_up x.cells ((t * 256 + r) * 64 + w) (x.pointValues q))) (va_up x.keyTimes ((r * 64) + w) (x.pointTimes q)))) H := hP
      have hD : va_D A (MW dA h ad (MS.s_keyTimes (MS.s_cells x (va_up x.cells ((t * 256 + r) * 64 + w) (x.pointValues q))) (va_up x.keyTimes ((r * 64) + w) (x.pointTimes q)))) := hD
      refine lv_aload_n hx hb d_M_gather_351 rfl (lv_at hl 8 rfl) ?_
      refine gF (v := .ref (ad 63)) hx hb hown hE hK hP 0 rfl rfl layM 63 (by decide) w529 rfl d_M_gather_352 ?_
      refine lv_iload hx hb d_M_gather_355 (lv_at hl 10 rfl) ?_
      refine lv_iload hx hb d_M_gather_357 (lv_at hl 11 rfl) ?_
      refine nistN (v := x.pointSeries q) hx hb hK hP hD hS 30 1 rfl rfl ((r * 64) + w) (by omega) (by decide) d_M_gather_359 (fun H locs hP hD hS => ?_)
      have hP : va_P D vwCl (MW dA h ad (MS.s_keySeries (MS.s_keyTimes (MS.s_cells x (va_up x.cells ((t * 256 + r) * 64 + w) (x.pointValues q))) (va_up x.keyTimes ((r * 64) + w) (x.pointTimes q))) (va_up x.keySeries ((r * 64) + w) (x.pointSeries q)))) H := hP
      have hD : va_D A (MW dA h ad (MS.s_keySeries (MS.s_keyTimes (MS.s_cells x (va_up x.cells ((t * 256 + r) * 64 + w) (x.pointValues q))) (va_up x.keyTimes ((r * 64) + w) (x.pointTimes q))) (va_up x.keySeries ((r * 64) + w) (x.pointSeries q)))) := hD
      refine lv_aload_n hx hb d_M_gather_360 rfl (lv_at hl 8 rfl) ?_
      refine gF (v := .ref (ad 54)) hx hb hown hE hK hP 0 rfl rfl layM 54 (by decide) w526 rfl d_M_gather_361 ?_
      refine lv_iload hx hb d_M_gather_364 (lv_at hl 9 rfl) ?_
      refine lv_iconst (v := 1) hx hb d_M_gather_366 (by decide) ?_
      refine nzstB (v := true) hx hb hK hP hD hS 27 3 rfl rfl ((t * 256 + r) * 64 + w) (by omega) (by decide) d_M_gather_367 (fun H locs hP hD hS => ?_)
      have hP : va_P D vwCl (MW dA h ad (MS.s_keySeries (MS.s_keyTimes (MS.s_isCell (MS.s_cells x (va_up x.cells ((t * 256 + r) * 64 + w) (x.pointValues q))) (va_up x.isCell ((t * 256 + r) * 64 + w) true)) (va_up x.keyTimes ((r * 64) + w) (x.pointTimes q))) (va_up x.keySeries ((r * 64) + w) (x.pointSeries q)))) H := hP
      have hD : va_D A (MW dA h ad (MS.s_keySeries (MS.s_keyTimes (MS.s_isCell (MS.s_cells x (va_up x.cells ((t * 256 + r) * 64 + w) (x.pointValues q))) (va_up x.isCell ((t * 256 + r) * 64 + w) true)) (va_up x.keyTimes ((r * 64) + w) (x.pointTimes q))) (va_up x.keySeries ((r * 64) + w) (x.pointSeries q)))) := hD
      exact rfV hx hb hr hlk hS () trivial hP hD (Nat.le_of_ble_eq_true rfl) (Nat.le_of_ble_eq_true rfl) d_M_gather_368
    refine lv_iload hx hb d_M_gather_103 (lv_at hl 12 rfl) ?_
    refine lv_if_eq hx hb d_M_gather_105 (tgt := 146) rfl (fun g3 => ?_) (fun g3 => ?_)
    · have g3 := bI_0 g3
      refine lv_iconst (v := 1) hx hb d_M_gather_146 (by decide) ?_
      refine lv_goto hx hb d_M_gather_147 (tgt := 151) rfl ?_
      exact J151 true (by simp [MS.gLa, *]) H _ ls hP hD hS (lv_sub hl [0, 1, 2, 3, 4, 5, 6, 7, 8, 9, 10, 11, 12] rfl)
    · have g3 := bI_n0 g3
      refine lv_lload hx hb d_M_gather_108 (lv_at hl 11 rfl) ?_
      refine lv_aload_n hx hb d_M_gather_110 rfl (lv_at hl 6 rfl) ?_
      refine gF (v := .ref (ad 62)) hx hb hown hE hK hP 0 rfl rfl layM 62 (by decide) w528 rfl d_M_gather_111 ?_
      refine lv_iload hx hb d_M_gather_114 (lv_at hl 8 rfl) ?_
      refine nlld (f := x.keyTimes) hx hb hK hP 29 2 rfl rfl ((r * 64) + w) (by omega) (by decide) d_M_gather_116 ?_
      refine W.lcmp hx hb d_M_gather_117 ?_
      refine lv_if_gt hx hb d_M_gather_118 (tgt := 146) rfl (fun g4 => ?_) (fun g4 => ?_)
      · have g4 := (lg_cmp_gt _ _).mp g4
        refine lv_iconst (v := 1) hx hb d_M_gather_146 (by decide) ?_
        refine lv_goto hx hb d_M_gather_147 (tgt := 151) rfl ?_
        exact J151 true (by simp [MS.gLa, *]) H _ ls hP hD hS (lv_sub hl [0, 1, 2, 3, 4, 5, 6, 7, 8, 9, 10, 11, 12] rfl)
      · have g4 := mt (lg_cmp_gt _ _).mpr g4
        refine lv_lload hx hb d_M_gather_121 (lv_at hl 11 rfl) ?_
        refine lv_aload_n hx hb d_M_gather_123 rfl (lv_at hl 6 rfl) ?_
        refine gF (v := .ref (ad 62)) hx hb hown hE hK hP 0 rfl rfl layM 62 (by decide) w528 rfl d_M_gather_124 ?_
        refine lv_iload hx hb d_M_gather_127 (lv_at hl 8 rfl) ?_
        refine nlld (f := x.keyTimes) hx hb hK hP 29 2 rfl rfl ((r * 64) + w) (by omega) (by decide) d_M_gather_129 ?_
        refine W.lcmp hx hb d_M_gather_130 ?_
        refine lv_if_ne hx hb d_M_gather_131 (tgt := 150) rfl (fun g5 => ?_) (fun g5 => ?_)
        · have g5 := mt (lg_cmp_eq _ _).mpr g5
          refine lv_iconst (v := 0) hx hb d_M_gather_150 (by decide) ?_
          exact J151 false (by simp [MS.gLa, *]) H _ ls hP hD hS (lv_sub hl [0, 1, 2, 3, 4, 5, 6, 7, 8, 9, 10, 11, 12] rfl)
        · have g5 := (lg_cmp_eq _ _).mp g5
          refine lv_iload hx hb d_M_gather_134 (lv_at hl 9 rfl) ?_
          refine lv_aload_n hx hb d_M_gather_136 rfl (lv_at hl 6 rfl) ?_
          refine gF (v := .ref (ad 63)) hx hb hown hE hK hP 0 rfl rfl layM 63 (by decide) w529 rfl d_M_gather_137 ?_
          refine lv_iload hx hb d_M_gather_140 (lv_at hl 8 rfl) ?_
          refine nild (f := (fun z9 => nI (x.keySeries z9))) hx hb hK hP 30 1 rfl rfl ((r * 64) + w) (by omega) (by decide) d_M_gather_142 ?_
          refine lv_icmp_ge hx hb d_M_gather_143 (tgt := 150) rfl (fun g6 => ?_) (fun g6 => ?_)
          · have g6 := (nI_leI (a := x.keySeries ((r * 64) + w)) (b := x.pointSeries q) (by omega) (by omega)).mp g6
            refine lv_iconst (v := 0) hx hb d_M_gather_150 (by decide) ?_
            exact J151 false (by simp [MS.gLa, *]) H _ ls hP hD hS (lv_sub hl [0, 1, 2, 3, 4, 5, 6, 7, 8, 9, 10, 11, 12] rfl)
          · have g6 := mt (nI_leI (a := x.keySeries ((r * 64) + w)) (b := x.pointSeries q) (by omega) (by omega)).mpr g6
            refine lv_iconst (v := 1) hx hb d_M_gather_146 (by decide) ?_
            refine lv_goto hx hb d_M_gather_147 (tgt := 151) rfl ?_
            exact J151 true (by simp [MS.gLa, *]) H _ ls hP hD hS (lv_sub hl [0, 1, 2, 3, 4, 5, 6, 7, 8, 9, 10, 11, 12] rfl)
  refine lv_iload hx hb d_M_gather_53 (lv_at hl 0 rfl) ?_
  refine lv_if_eq hx hb d_M_gather_55 (tgt := 96) rfl (fun g7 => ?_) (fun g7 => ?_)
  · have g7 := bI_0 g7
    refine lv_iconst (v := 1) hx hb d_M_gather_96 (by decide) ?_
    refine lv_goto hx hb d_M_gather_97 (tgt := 101) rfl ?_
    exact J101 true (by simp [MS.gSo, *]) H _ ls hP hD hS (lv_sub hl [8, 7, 9, 10, 11, 6, 5, 4, 3, 2, 1, 0] rfl)
  · have g7 := bI_n0 g7
    refine lv_lload hx hb d_M_gather_58 (lv_at hl 1 rfl) ?_
    refine lv_aload_n hx hb d_M_gather_60 rfl (lv_at hl 6 rfl) ?_
    refine gF (v := .ref (ad 62)) hx hb hown hE hK hP 0 rfl rfl layM 62 (by decide) w528 rfl d_M_gather_61 ?_
    refine lv_iload hx hb d_M_gather_64 (lv_at hl 4 rfl) ?_
    refine nlld (f := x.keyTimes) hx hb hK hP 29 2 rfl rfl ((r * 64) + w) (by omega) (by decide) d_M_gather_66 ?_
    refine W.lcmp hx hb d_M_gather_67 ?_
    refine lv_if_lt hx hb d_M_gather_68 (tgt := 96) rfl (fun g8 => ?_) (fun g8 => ?_)
    · have g8 := (lg_cmp_lt _ _).mp g8
      refine lv_iconst (v := 1) hx hb d_M_gather_96 (by decide) ?_
      refine lv_goto hx hb d_M_gather_97 (tgt := 101) rfl ?_
      exact J101 true (by simp [MS.gSo, *]) H _ ls hP hD hS (lv_sub hl [8, 7, 9, 10, 11, 6, 5, 4, 3, 2, 1, 0] rfl)
    · have g8 := mt (lg_cmp_lt _ _).mpr g8
      refine lv_lload hx hb d_M_gather_71 (lv_at hl 1 rfl) ?_
      refine lv_aload_n hx hb d_M_gather_73 rfl (lv_at hl 6 rfl) ?_
      refine gF (v := .ref (ad 62)) hx hb hown hE hK hP 0 rfl rfl layM 62 (by decide) w528 rfl d_M_gather_74 ?_
      refine lv_iload hx hb d_M_gather_77 (lv_at hl 4 rfl) ?_
      refine nlld (f := x.keyTimes) hx hb hK hP 29 2 rfl rfl ((r * 64) + w) (by omega) (by decide) d_M_gather_79 ?_
      refine W.lcmp hx hb d_M_gather_80 ?_
      refine lv_if_ne hx hb d_M_gather_81 (tgt := 100) rfl (fun g9 => ?_) (fun g9 => ?_)
      · have g9 := mt (lg_cmp_eq _ _).mpr g9
        refine lv_iconst (v := 0) hx hb d_M_gather_100 (by decide) ?_
        exact J101 false (by simp [MS.gSo, *]) H _ ls hP hD hS (lv_sub hl [8, 7, 9, 10, 11, 6, 5, 4, 3, 2, 1, 0] rfl)
      · have g9 := (lg_cmp_eq _ _).mp g9
        refine lv_iload hx hb d_M_gather_84 (lv_at hl 3 rfl) ?_
        refine lv_aload_n hx hb d_M_gather_86 rfl (lv_at hl 6 rfl) ?_
        refine gF (v := .ref (ad 63)) hx hb hown hE hK hP 0 rfl rfl layM 63 (by decide) w529 rfl d_M_gather_87 ?_
        refine lv_iload hx hb d_M_gather_90 (lv_at hl 4 rfl) ?_
        refine nild (f := (fun z9 => nI (x.keySeries z9))) hx hb hK hP 30 1 rfl rfl ((r * 64) + w) (by omega) (by decide) d_M_gather_92 ?_
        refine lv_icmp_ge hx hb d_M_gather_93 (tgt := 100) rfl (fun g10 => ?_) (fun g10 => ?_)
        · have g10 := (nI_leI (a := x.keySeries ((r * 64) + w)) (b := x.pointSeries q) (by omega) (by omega)).mp g10
          refine lv_iconst (v := 0) hx hb d_M_gather_100 (by decide) ?_
          exact J101 false (by simp [MS.gSo, *]) H _ ls hP hD hS (lv_sub hl [8, 7, 9, 10, 11, 6, 5, 4, 3, 2, 1, 0] rfl)
        · have g10 := mt (nI_leI (a := x.keySeries ((r * 64) + w)) (b := x.pointSeries q) (by omega) (by omega)).mpr g10
          refine lv_iconst (v := 1) hx hb d_M_gather_96 (by decide) ?_
          refine lv_goto hx hb d_M_gather_97 (tgt := 101) rfl ?_
          exact J101 true (by simp [MS.gSo, *]) H _ ls hP hD hS (lv_sub hl [8, 7, 9, 10, 11, 6, 5, 4, 3, 2, 1, 0] rfl)
set_option maxHeartbeats 4000000 in
set_option maxRecDepth 100000 in
theorem k_gather_5n (l : Launch) (D : va_G) (dA : Nat → ClassId) (sz : Nat) (h : Nat) (ad : Nat → Nat) (x : MS) (t : Nat) (q : Nat) (r : Nat) (w : Nat) (h1 : t < 20) (h2 : r < 256) (h3 : w < 64) (h4 : q < 12000) (h5 : x.pointSeries q < 256) (h6 : x.keySeries ((r * 64) + w) < 256) (hso : x.gLa ((t * 256 + r) * 64 + w) ((r * 64) + w) (x.pointSeries q) (x.pointTimes q) = false) : Met l ⟨"SeriesVaultModel", "gather", "(IIIII)V"⟩ [Cond.code ⟨"SeriesVaultModel", "gather", "(IIIII)V"⟩ prog_14_method_69_code 17 none] { frames := 2, cells := 0, slots := 0, locals := 22 } (pC D dA [.ref h, .int (nI t), .int 5, .int (nI q), .int (nI r), .int (nI w)] (MW dA h ad x) sz) (va_Qv (fun (u9 : Unit) => True) (fun (u9 : Unit) t9 => bW D (va_A (MW dA h ad x) sz) (MW dA h ad (MS.s_isCell x (va_up x.isCell ((t * 256 + r) * 64 + w) true))) t9) (va_A (MW dA h ad x) sz)) 0 0 (va_A (MW dA h ad x) sz) := by
  refine mkC (y := ⟨"SeriesVaultModel", "gather", "(IIIII)V"⟩) (cc := prog_14_method_69_code) (maxL := 17) (av := [.ref h, .int (nI t), .int 5, .int (nI q), .int (nI r), .int (nI w)]) (ws := MW dA h ad x) (sz := sz) (Qc := fun A => va_Qv (fun (u9 : Unit) => True) (fun (u9 : Unit) t9 => bW D A (MW dA h ad (MS.s_isCell x (va_up x.isCell ((t * 256 + r) * 64 + w) true))) t9) A) (by decide) (Nat.le_of_ble_eq_true rfl) ?_
  intro A p e s m below meth c ls hsz hB
  obtain ⟨hx, hb, hr, hml, hown, hin, hlk, hE, hK, hP, hD, hS, hA, hN, hl⟩ := hB
  have hown : s.vm.findClass "SeriesVaultModel" = some m.cls := hown
  have hl : lv_has ls 17 [(0, .ref h), (1, .int (nI t)), (2, .int 5), (3, .int (nI q)), (4, .int (nI r)), (5, .int (nI w))] := hl
  obtain ⟨H, hH⟩ : ∃ z, z = s.heap := ⟨_, rfl⟩
  have hP : va_P D vwCl (MW dA h ad x) H := by rw [hH]; exact hP
  have hS : va_S A s.heap H [] := by rw [hH]; exact hS
  rw [← hH]
  refine lv_iload_n hx hb d_M_gather_0 rfl (lv_at hl 1 rfl) ?_
  refine lv_iload hx hb d_M_gather_1 (lv_at hl 4 rfl) ?_
  refine lv_iload hx hb d_M_gather_3 (lv_at hl 5 rfl) ?_
  have hPc := hP.sub (ws' := []) [] rfl
  have hDc := hD.sub (ws' := []) [] (by decide) rfl
  refine jnI (rnS (As := [.int (nI t), .int (nI r), .int (nI w)]) (rest := []) hx hb hml hown hE hK (hN _ _ hS) hPc hDc (k_cellAt l D dA H.size t r w) w971 w970 w972 w328 rfl rfl ⟨⟨by decide, by decide⟩, rfl⟩ ⟨(Nat.le_of_ble_eq_true rfl), (Nat.le_of_ble_eq_true rfl)⟩ rfl hl.1 rfl (Nat.le_of_ble_eq_true rfl) d_M_gather_5 ⟨(Nat.le_of_ble_eq_true rfl), (Nat.le_of_ble_eq_true rfl)⟩) hP hD hS hA [] [0, 1, 2, 3, 4, 5, 6, 7, 8, 9, 10, 11, 12, 13, 14, 15, 16, 17, 18, 19, 20, 21, 22, 23, 24, 25, 26, 27, 28, 29, 30, 31, 32, 33, 34, 35, 36, 37, 38] (wr := MW dA h ad x) rfl rfl (by decide) (by decide) (fun r1 u9 H locs hp9 hP hD hS => ?_)
  have hP : va_P D vwCl (MW dA h ad x) H := hP
  have hD : va_D A (MW dA h ad x) := hD
  replace hp9 : nI ((t * 256 + r) * 64 + w) = r1 := Eq.symm hp9
  subst hp9
  refine lv_istore hx hb d_M_gather_8 hl (by decide) rfl (fun ls hl => ?_)
  have hl : lv_has ls 17 [(6, .int (nI ((t * 256 + r) * 64 + w))), (0, .ref h), (1, .int (nI t)), (2, .int 5), (3, .int (nI q)), (4, .int (nI r)), (5, .int (nI w))] := hl
  refine lv_iload hx hb d_M_gather_10 (lv_at hl 5 rfl) ?_
  refine lv_bipush (v := 64) hx hb d_M_gather_12 (by decide) ?_
  refine lv_imul hx hb d_M_gather_14 (tpi (y := nI (r * 64)) (pk_mul (r) (64)) ?_)
  refine lv_iload hx hb d_M_gather_15 (lv_at hl 6 rfl) ?_
  refine lv_iadd hx hb d_M_gather_17 (tpi (y := nI ((r * 64) + w)) (nI_add (r * 64) (w)) ?_)
  refine lv_istore hx hb d_M_gather_18 hl (by decide) rfl (fun ls hl => ?_)
  have hl : lv_has ls 17 [(7, .int (nI ((r * 64) + w))), (6, .int (nI ((t * 256 + r) * 64 + w))), (0, .ref h), (1, .int (nI t)), (2, .int 5), (3, .int (nI q)), (4, .int (nI r)), (5, .int (nI w))] := hl
  refine lv_aload_n hx hb d_M_gather_20 rfl (lv_at hl 2 rfl) ?_
  refine gF (v := .ref (ad 17)) hx hb hown hE hK hP 0 rfl rfl layM 17 (by decide) w503 rfl d_M_gather_21 ?_
  refine lv_iload_n hx hb d_M_gather_24 rfl (lv_at hl 5 rfl) ?_
  refine nild (f := (fun z9 => nI (x.pointSeries z9))) hx hb hK hP 6 1 rfl rfl (q) (by omega) (by decide) d_M_gather_25 ?_
  refine lv_istore hx hb d_M_gather_26 hl (by decide) rfl (fun ls hl => ?_)
  have hl : lv_has ls 17 [(8, .int (nI (x.pointSeries q))), (7, .int (nI ((r * 64) + w))), (6, .int (nI ((t * 256 + r) * 64 + w))), (0, .ref h), (1, .int (nI t)), (2, .int 5), (3, .int (nI q)), (4, .int (nI r)), (5, .int (nI w))] := hl
  refine lv_aload_n hx hb d_M_gather_28 rfl (lv_at hl 3 rfl) ?_
  refine gF (v := .ref (ad 19)) hx hb hown hE hK hP 0 rfl rfl layM 19 (by decide) w505 rfl d_M_gather_29 ?_
  refine lv_iload_n hx hb d_M_gather_32 rfl (lv_at hl 6 rfl) ?_
  refine nlld (f := x.pointValues) hx hb hK hP 8 2 rfl rfl (q) (by omega) (by decide) d_M_gather_33 ?_
  refine lv_lstore hx hb d_M_gather_34 hl (by decide) rfl (fun ls hl => ?_)
  have hl : lv_has ls 17 [(9, .long (x.pointValues q)), (8, .int (nI (x.pointSeries q))), (7, .int (nI ((r * 64) + w))), (6, .int (nI ((t * 256 + r) * 64 + w))), (0, .ref h), (1, .int (nI t)), (2, .int 5), (3, .int (nI q)), (4, .int (nI r)), (5, .int (nI w))] := hl
  refine lv_aload_n hx hb d_M_gather_36 rfl (lv_at hl 4 rfl) ?_
  refine gF (v := .ref (ad 18)) hx hb hown hE hK hP 0 rfl rfl layM 18 (by decide) w504 rfl d_M_gather_37 ?_
  refine lv_iload_n hx hb d_M_gather_40 rfl (lv_at hl 7 rfl) ?_
  refine nlld (f := x.pointTimes) hx hb hK hP 7 2 rfl rfl (q) (by omega) (by decide) d_M_gather_41 ?_
  refine lv_lstore hx hb d_M_gather_42 hl (by decide) rfl (fun ls hl => ?_)
  have hl : lv_has ls 17 [(11, .long (x.pointTimes q)), (9, .long (x.pointValues q)), (8, .int (nI (x.pointSeries q))), (7, .int (nI ((r * 64) + w))), (6, .int (nI ((t * 256 + r) * 64 + w))), (0, .ref h), (1, .int (nI t)), (2, .int 5), (3, .int (nI q)), (4, .int (nI r)), (5, .int (nI w))] := hl
  refine lv_aload_n hx hb d_M_gather_44 rfl (lv_at hl 5 rfl) ?_
  refine gF (v := .ref (ad 54)) hx hb hown hE hK hP 0 rfl rfl layM 54 (by decide) w526 rfl d_M_gather_45 ?_
  refine lv_iload hx hb d_M_gather_48 (lv_at hl 4 rfl) ?_
  refine nzld (f := (fun z9 => bI (x.isCell z9))) hx hb hK hP 27 3 rfl rfl ((t * 256 + r) * 64 + w) (by omega) (by decide) d_M_gather_50 ?_
  refine lv_istore hx hb d_M_gather_51 hl (by decide) rfl (fun ls hl => ?_)
  have hl : lv_has ls 17 [(13, .int (bI (x.isCell ((t * 256 + r) * 64 + w)))), (11, .long (x.pointTimes q)), (9, .long (x.pointValues q)), (8, .int (nI (x.pointSeries q))), (7, .int (nI ((r * 64) + w))), (6, .int (nI ((t * 256 + r) * 64 + w))), (0, .ref h), (1, .int (nI t)), (2, .int 5), (3, .int (nI q)), (4, .int (nI r)), (5, .int (nI w))] := hl
  have J101 : ∀ (so : Bool) (j1 : x.gSo ((t * 256 + r) * 64 + w) ((r * 64) + w) (x.pointSeries q) (x.pointTimes q) = so), ∀ (H : Heap) (locs : List Loc) (ls : Array Slot) (hP : va_P D vwCl (MW dA h ad x) H) (hD : va_D A (MW dA h ad x)) (hS : va_S A s.heap H locs) (hl : lv_has ls 17 [(2, .int 5), (1, .int (nI t)), (3, .int (nI q)), (4, .int (nI r)), (5, .int (nI w)), (0, .ref h), (6, .int (nI ((t * 256 + r) * 64 + w))), (7, .int (nI ((r * 64) + w))), (8, .int (nI (x.pointSeries q))), (9, .long (x.pointValues q)), (11, .long (x.pointTimes q)), (13, .int (bI (x.isCell ((t * 256 + r) * 64 + w))))]), W p l e ({ frames := 2, cells := 0, slots := 0, locals := 22 } : Room) s m ([.ref h, .int (nI t), .int 5, .int (nI q), .int (nI r), .int (nI w)] : List Value).toArray below meth c H locs 0 0 (MQ below (va_Qv (fun (u9 : Unit) => True) (fun (u9 : Unit) t9 => bW D A (MW dA h ad (MS.s_isCell x (va_up x.isCell ((t * 256 + r) * 64 + w) true))) t9) A) ([.ref h, .int (nI t), .int 5, .int (nI q), .int (nI r), .int (nI w)] : List Value).toArray s 0 0 A) (F0 m 101 ls [.int (bI so)]) := by
    intro so j1 H locs ls hP hD hS hl
    refine lv_istore hx hb d_M_gather_101 hl (by decide) rfl (fun ls hl => ?_)
    have hl : lv_has ls 17 [(14, .int (bI so)), (2, .int 5), (1, .int (nI t)), (3, .int (nI q)), (4, .int (nI r)), (5, .int (nI w)), (0, .ref h), (6, .int (nI ((t * 256 + r) * 64 + w))), (7, .int (nI ((r * 64) + w))), (8, .int (nI (x.pointSeries q))), (9, .long (x.pointValues q)), (11, .long (x.pointTimes q)), (13, .int (bI (x.isCell ((t * 256 + r) * 64 + w))))] := hl
    have J151 : ∀ (la : Bool) (j2 : x.gLa ((t * 256 + r) * 64 + w) ((r * 64) + w) (x.pointSeries q) (x.pointTimes q) = la), ∀ (H : Heap) (locs : List Loc) (ls : Array Slot) (hP : va_P D vwCl (MW dA h ad x) H) (hD : va_D A (MW dA h ad x)) (hS : va_S A s.heap H locs) (hl : lv_has ls 17 [(14, .int (bI so)), (2, .int 5), (1, .int (nI t)), (3, .int (nI q)), (4, .int (nI r)), (5, .int (nI w)), (0, .ref h), (6, .int (nI ((t * 256 + r) * 64 + w))), (7, .int (nI ((r * 64) + w))), (8, .int (nI (x.pointSeries q))), (9, .long (x.pointValues q)), (11, .long (x.pointTimes q)), (13, .int (bI (x.isCell ((t * 256 + r) * 64 + w))))]), W p l e ({ frames := 2, cells := 0, slots := 0, locals := 22 } : Room) s m ([.ref h, .int (nI t), .int 5, .int (nI q), .int (nI r), .int (nI w)] : List Value).toArray below meth c H locs 0 0 (MQ below (va_Qv (fun (u9 : Unit) => True) (fun (u9 : Unit) t9 => bW D A (MW dA h ad (MS.s_isCell x (va_up x.isCell ((t * 256 + r) * 64 + w) true))) t9) A) ([.ref h, .int (nI t), .int 5, .int (nI q), .int (nI r), .int (nI w)] : List Value).toArray s 0 0 A) (F0 m 151 ls [.int (bI la)]) := by
      intro la j2 H locs ls hP hD hS hl
      refine lv_istore hx hb d_M_gather_151 hl (by decide) rfl (fun ls hl => ?_)
      have hl : lv_has ls 17 [(15, .int (bI la)), (14, .int (bI so)), (2, .int 5), (1, .int (nI t)), (3, .int (nI q)), (4, .int (nI r)), (5, .int (nI w)), (0, .ref h), (6, .int (nI ((t * 256 + r) * 64 + w))), (7, .int (nI ((r * 64) + w))), (8, .int (nI (x.pointSeries q))), (9, .long (x.pointValues q)), (11, .long (x.pointTimes q)), (13, .int (bI (x.isCell ((t * 256 + r) * 64 + w))))] := hl
      refine lv_iload_n hx hb d_M_gather_153 rfl (lv_at hl 2 rfl) ?_
      refine lv_iconst (v := 4) hx hb d_M_gather_154 (by decide) ?_
      refine lv_icmp_ne hx hb d_M_gather_155 (tgt := 163) rfl (fun _ => ?_) (fun h9 => absurd h9 (by decide))
      refine lv_iload hx hb d_M_gather_163 (lv_at hl 0 rfl) ?_
      refine lv_istore hx hb d_M_gather_165 hl (by decide) rfl (fun ls hl => ?_)
      have hl : lv_has ls 17 [(16, .int (bI la)), (15, .int (bI la)), (14, .int (bI so)), (2, .int 5), (1, .int (nI t)), (3, .int (nI q)), (4, .int (nI r)), (5, .int (nI w)), (0, .ref h), (6, .int (nI ((t * 256 + r) * 64 + w))), (7, .int (nI ((r * 64) + w))), (8, .int (nI (x.pointSeries q))), (9, .long (x.pointValues q)), (11, .long (x.pointTimes q)), (13, .int (bI (x.isCell ((t * 256 + r) * 64 + w))))] := hl
      refine lv_iload_n hx hb d_M_gather_167 rfl (lv_at hl 3 rfl) ?_
      refine lv_if_eq hx hb d_M_gather_168 (tgt := 176) rfl (fun h9 => absurd h9 (by decide)) (fun _ => ?_)
      refine lv_iload_n hx hb d_M_gather_171 rfl (lv_at hl 3 rfl) ?_
      refine lv_iconst (v := 1) hx hb d_M_gather_172 (by decide) ?_
      refine lv_icmp_ne hx hb d_M_gather_173 (tgt := 199) rfl (fun _ => ?_) (fun h9 => absurd h9 (by decide))
      refine lv_iload_n hx hb d_M_gather_199 rfl (lv_at hl 3 rfl) ?_
      refine lv_iconst (v := 2) hx hb d_M_gather_200 (by decide) ?_
      refine lv_icmp_eq hx hb d_M_gather_201 (tgt := 209) rfl (fun h9 => absurd h9 (by decide)) (fun _ => ?_)
      refine lv_iload_n hx hb d_M_gather_204 rfl (lv_at hl 3 rfl) ?_
      refine lv_iconst (v := 3) hx hb d_M_gather_205 (by decide) ?_
      refine lv_icmp_ne hx hb d_M_gather_206 (tgt := 270) rfl (fun _ => ?_) (fun h9 => absurd h9 (by decide))
      refine lv_iload_n hx hb d_M_gather_270 rfl (lv_at hl 3 rfl) ?_
      refine lv_bipush (v := 6) hx hb d_M_gather_271 (by decide) ?_
      refine lv_icmp_ne hx hb d_M_gather_273 (tgt := 328) rfl (fun _ => ?_) (fun h9 => absurd h9 (by decide))
      refine lv_iload hx hb d_M_gather_328 (lv_at hl 0 rfl) ?_
      refine lv_if_eq hx hb d_M_gather_330 (tgt := 360) rfl (fun _ => ?_) (fun h9 => absurd (by rw [show la = false from j2.symm.trans hso]; decide) h9)
      refine lv_aload_n hx hb d_M_gather_360 rfl (lv_at hl 8 rfl) ?_
      refine gF (v := .ref (ad 54)) hx hb hown hE hK hP 0 rfl rfl layM 54 (by decide) w526 rfl d_M_gather_361 ?_
      refine lv_iload hx hb d_M_gather_364 (lv_at hl 9 rfl) ?_
      refine lv_iconst (v := 1) hx hb d_M_gather_366 (by decide) ?_
      refine nzstB (v := true) hx hb hK hP hD hS 27 3 rfl rfl ((t * 256 + r) * 64 + w) (by omega) (by decide) d_M_gather_367 (fun H locs hP hD hS => ?_)
      have hP : va_P D vwCl (MW dA h ad (MS.s_isCell x (va_up x.isCell ((t * 256 + r) * 64 + w) true))) H := hP
      have hD : va_D A (MW dA h ad (MS.s_isCell x (va_up x.isCell ((t * 256 + r) * 64 + w) true))) := hD
      exact rfV hx hb hr hlk hS () trivial hP hD (Nat.le_of_ble_eq_true rfl) (Nat.le_of_ble_eq_true rfl) d_M_gather_368
    refine lv_iload hx hb d_M_gather_103 (lv_at hl 12 rfl) ?_
    refine lv_if_eq hx hb d_M_gather_105 (tgt := 146) rfl (fun g3 => ?_) (fun g3 => ?_)
    · have g3 := bI_0 g3
      refine lv_iconst (v := 1) hx hb d_M_gather_146 (by decide) ?_
      refine lv_goto hx hb d_M_gather_147 (tgt := 151) rfl ?_
      exact J151 true (by simp [MS.gLa, *]) H _ ls hP hD hS (lv_sub hl [0, 1, 2, 3, 4, 5, 6, 7, 8, 9, 10, 11, 12] rfl)
    · have g3 := bI_n0 g3
      refine lv_lload hx hb d_M_gather_108 (lv_at hl 11 rfl) ?_
      refine lv_aload_n hx hb d_M_gather_110 rfl (lv_at hl 6 rfl) ?_
      refine gF (v := .ref (ad 62)) hx hb hown hE hK hP 0 rfl rfl layM 62 (by decide) w528 rfl d_M_gather_111 ?_
      refine lv_iload hx hb d_M_gather_114 (lv_at hl 8 rfl) ?_
      refine nlld (f := x.keyTimes) hx hb hK hP 29 2 rfl rfl ((r * 64) + w) (by omega) (by decide) d_M_gather_116 ?_
      refine W.lcmp hx hb d_M_gather_117 ?_
      refine lv_if_gt hx hb d_M_gather_118 (tgt := 146) rfl (fun g4 => ?_) (fun g4 => ?_)
      · have g4 := (lg_cmp_gt _ _).mp g4
        refine lv_iconst (v := 1) hx hb d_M_gather_146 (by decide) ?_
        refine lv_goto hx hb d_M_gather_147 (tgt := 151) rfl ?_
        exact J151 true (by simp [MS.gLa, *]) H _ ls hP hD hS (lv_sub hl [0, 1, 2, 3, 4, 5, 6, 7, 8, 9, 10, 11, 12] rfl)
      · have g4 := mt (lg_cmp_gt _ _).mpr g4
        refine lv_lload hx hb d_M_gather_121 (lv_at hl 11 rfl) ?_
        refine lv_aload_n hx hb d_M_gather_123 rfl (lv_at hl 6 rfl) ?_
        refine gF (v := .ref (ad 62)) hx hb hown hE hK hP 0 rfl rfl layM 62 (by decide) w528 rfl d_M_gather_124 ?_
        refine lv_iload hx hb d_M_gather_127 (lv_at hl 8 rfl) ?_
        refine nlld (f := x.keyTimes) hx hb hK hP 29 2 rfl rfl ((r * 64) + w) (by omega) (by decide) d_M_gather_129 ?_
        refine W.lcmp hx hb d_M_gather_130 ?_
        refine lv_if_ne hx hb d_M_gather_131 (tgt := 150) rfl (fun g5 => ?_) (fun g5 => ?_)
        · have g5 := mt (lg_cmp_eq _ _).mpr g5
          refine lv_iconst (v := 0) hx hb d_M_gather_150 (by decide) ?_
          exact J151 false (by simp [MS.gLa, *]) H _ ls hP hD hS (lv_sub hl [0, 1, 2, 3, 4, 5, 6, 7, 8, 9, 10, 11, 12] rfl)
        · have g5 := (lg_cmp_eq _ _).mp g5
          refine lv_iload hx hb d_M_gather_134 (lv_at hl 9 rfl) ?_
          refine lv_aload_n hx hb d_M_gather_136 rfl (lv_at hl 6 rfl) ?_
          refine gF (v := .ref (ad 63)) hx hb hown hE hK hP 0 rfl rfl layM 63 (by decide) w529 rfl d_M_gather_137 ?_
          refine lv_iload hx hb d_M_gather_140 (lv_at hl 8 rfl) ?_
          refine nild (f := (fun z9 => nI (x.keySeries z9))) hx hb hK hP 30 1 rfl rfl ((r * 64) + w) (by omega) (by decide) d_M_gather_142 ?_
          refine lv_icmp_ge hx hb d_M_gather_143 (tgt := 150) rfl (fun g6 => ?_) (fun g6 => ?_)
          · have g6 := (nI_leI (a := x.keySeries ((r * 64) + w)) (b := x.pointSeries q) (by omega) (by omega)).mp g6
            refine lv_iconst (v := 0) hx hb d_M_gather_150 (by decide) ?_
            exact J151 false (by simp [MS.gLa, *]) H _ ls hP hD hS (lv_sub hl [0, 1, 2, 3, 4, 5, 6, 7, 8, 9, 10, 11, 12] rfl)
          · have g6 := mt (nI_leI (a := x.keySeries ((r * 64) + w)) (b := x.pointSeries q) (by omega) (by omega)).mpr g6
            refine lv_iconst (v := 1) hx hb d_M_gather_146 (by decide) ?_
            refine lv_goto hx hb d_M_gather_147 (tgt := 151) rfl ?_
            exact J151 true (by simp [MS.gLa, *]) H _ ls hP hD hS (lv_sub hl [0, 1, 2, 3, 4, 5, 6, 7, 8, 9, 10, 11, 12] rfl)
  refine lv_iload hx hb d_M_gather_53 (lv_at hl 0 rfl) ?_
  refine lv_if_eq hx hb d_M_gather_55 (tgt := 96) rfl (fun g7 => ?_) (fun g7 => ?_)
  · have g7 := bI_0 g7
    refine lv_iconst (v := 1) hx hb d_M_gather_96 (by decide) ?_
    refine lv_goto hx hb d_M_gather_97 (tgt := 101) rfl ?_
    exact J101 true (by simp [MS.gSo, *]) H _ ls hP hD hS (lv_sub hl [8, 7, 9, 10, 11, 6, 5, 4, 3, 2, 1, 0] rfl)
  · have g7 := bI_n0 g7
    refine lv_lload hx hb d_M_gather_58 (lv_at hl 1 rfl) ?_
    refine lv_aload_n hx hb d_M_gather_60 rfl (lv_at hl 6 rfl) ?_
    refine gF (v := .ref (ad 62)) hx hb hown hE hK hP 0 rfl rfl layM 62 (by decide) w528 rfl d_M_gather_61 ?_
    refine lv_iload hx hb d_M_gather_64 (lv_at hl 4 rfl) ?_
    refine nlld (f := x.keyTimes) hx hb hK hP 29 2 rfl rfl ((r * 64) + w) (by omega) (by decide) d_M_gather_66 ?_
    refine W.lcmp hx hb d_M_gather_67 ?_
    refine lv_if_lt hx hb d_M_gather_68 (tgt := 96) rfl (fun g8 => ?_) (fun g8 => ?_)
    · have g8 := (lg_cmp_lt _ _).mp g8
      refine lv_iconst (v := 1) hx hb d_M_gather_96 (by decide) ?_
      refine lv_goto hx hb d_M_gather_97 (tgt := 101) rfl ?_
      exact J101 true (by simp [MS.gSo, *]) H _ ls hP hD hS (lv_sub hl [8, 7, 9, 10, 11, 6, 5, 4, 3, 2, 1, 0] rfl)
    · have g8 := mt (lg_cmp_lt _ _).mpr g8
      refine lv_lload hx hb d_M_gather_71 (lv_at hl 1 rfl) ?_
      refine lv_aload_n hx hb d_M_gather_73 rfl (lv_at hl 6 rfl) ?_
      refine gF (v := .ref (ad 62)) hx hb hown hE hK hP 0 rfl rfl layM 62 (by decide) w528 rfl d_M_gather_74 ?_
      refine lv_iload hx hb d_M_gather_77 (lv_at hl 4 rfl) ?_
      refine nlld (f := x.keyTimes) hx hb hK hP 29 2 rfl rfl ((r * 64) + w) (by omega) (by decide) d_M_gather_79 ?_
      refine W.lcmp hx hb d_M_gather_80 ?_
      refine lv_if_ne hx hb d_M_gather_81 (tgt := 100) rfl (fun g9 => ?_) (fun g9 => ?_)
      · have g9 := mt (lg_cmp_eq _ _).mpr g9
        refine lv_iconst (v := 0) hx hb d_M_gather_100 (by decide) ?_
        exact J101 false (by simp [MS.gSo, *]) H _ ls hP hD hS (lv_sub hl [8, 7, 9, 10, 11, 6, 5, 4, 3, 2, 1, 0] rfl)
      · have g9 := (lg_cmp_eq _ _).mp g9
        refine lv_iload hx hb d_M_gather_84 (lv_at hl 3 rfl) ?_
        refine lv_aload_n hx hb d_M_gather_86 rfl (lv_at hl 6 rfl) ?_
        refine gF (v := .ref (ad 63)) hx hb hown hE hK hP 0 rfl rfl layM 63 (by decide) w529 rfl d_M_gather_87 ?_
        refine lv_iload hx hb d_M_gather_90 (lv_at hl 4 rfl) ?_
        refine nild (f := (fun z9 => nI (x.keySeries z9))) hx hb hK hP 30 1 rfl rfl ((r * 64) + w) (by omega) (by decide) d_M_gather_92 ?_
        refine lv_icmp_ge hx hb d_M_gather_93 (tgt := 100) rfl (fun g10 => ?_) (fun g10 => ?_)
        · have g10 := (nI_leI (a := x.keySeries ((r * 64) + w)) (b := x.pointSeries q) (by omega) (by omega)).mp g10
          refine lv_iconst (v := 0) hx hb d_M_gather_100 (by decide) ?_
          exact J101 false (by simp [MS.gSo, *]) H _ ls hP hD hS (lv_sub hl [8, 7, 9, 10, 11, 6, 5, 4, 3, 2, 1, 0] rfl)
        · have g10 := mt (nI_leI (a := x.keySeries ((r * 64) + w)) (b := x.pointSeries q) (by omega) (by omega)).mpr g10
          refine lv_iconst (v := 1) hx hb d_M_gather_96 (by decide) ?_
          refine lv_goto hx hb d_M_gather_97 (tgt := 101) rfl ?_
          exact J101 true (by simp [MS.gSo, *]) H _ ls hP hD hS (lv_sub hl [8, 7, 9, 10, 11, 6, 5, 4, 3, 2, 1, 0] rfl)
