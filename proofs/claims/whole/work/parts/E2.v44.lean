/-! Steps made. -/
def nsmB (NL : Nat → List Int32) (M : List Int32) (i : Nat) : Bool := !sameW (NL i) M
def mtB (NL : Nat → List Int32) (nn : Nat) (M : List Int32) : Bool := allB nn (nsmB NL M) && decide (nn < 6)
theorem d_A_makeBestRoom_9 : decode prog_2_method_7_code 9 = .ok (.iload_n 1, 1) := by decide +kernel
theorem d_A_makeBestRoom_10 : decode prog_2_method_7_code 10 = .ok (.iconst 2, 1) := by decide +kernel
theorem d_A_makeBestRoom_11 : decode prog_2_method_7_code 11 = .ok (.aload_n 0, 1) := by decide +kernel
theorem d_A_makeBestRoom_12 : decode prog_2_method_7_code 12 = .ok (.getfield 30, 3) := by decide +kernel
theorem d_A_makeBestRoom_15 : decode prog_2_method_7_code 15 = .ok (.arraylength, 1) := by decide +kernel
theorem d_A_makeBestRoom_16 : decode prog_2_method_7_code 16 = .ok (.imul, 1) := by decide +kernel
theorem d_A_makeBestRoom_17 : decode prog_2_method_7_code 17 = .ok (.invokestatic 156, 3) := by decide +kernel
theorem d_A_makeBestRoom_20 : decode prog_2_method_7_code 20 = .ok (.istore_n 2, 1) := by decide +kernel
theorem d_A_makeBestRoom_21 : decode prog_2_method_7_code 21 = .ok (.aload_n 0, 1) := by decide +kernel
theorem d_A_makeBestRoom_22 : decode prog_2_method_7_code 22 = .ok (.iload_n 2, 1) := by decide +kernel
theorem d_A_makeBestRoom_23 : decode prog_2_method_7_code 23 = .ok (.newarray .long, 2) := by decide +kernel
theorem d_A_makeBestRoom_25 : decode prog_2_method_7_code 25 = .ok (.putfield 30, 3) := by decide +kernel
theorem d_A_makeBestRoom_28 : decode prog_2_method_7_code 28 = .ok (.aload_n 0, 1) := by decide +kernel
theorem d_A_makeBestRoom_29 : decode prog_2_method_7_code 29 = .ok (.iload_n 2, 1) := by decide +kernel
theorem d_A_makeBestRoom_30 : decode prog_2_method_7_code 30 = .ok (.newarray .int, 2) := by decide +kernel
theorem d_A_makeBestRoom_32 : decode prog_2_method_7_code 32 = .ok (.putfield 33, 3) := by decide +kernel
theorem w1527 : Cond.methodLink "SeriesVault$Answers" 156 ⟨"java/lang/Math", "max", "(II)I"⟩ ∈ aW := aw_of (tb_7 (List.mem_of_getElem? (i := 232) rfl)) rfl
set_option maxHeartbeats 4000000 in
set_option maxRecDepth 100000 in
theorem v_makeBestRoom_1 (l : Launch) (D : va_G) (dA : Nat → ClassId) (sz : Nat) (h : Nat) (ad : Nat → Nat) (x : VS) (n : Nat) (h1 : x.bN < n) (h2 : n ≤ 16384) : Met l ⟨"SeriesVault$Answers", "makeBestRoom", "(I)V"⟩ [Cond.code ⟨"SeriesVault$Answers", "makeBestRoom", "(I)V"⟩ prog_2_method_7_code 3 none] { frames := 1, cells := 2, slots := 2 * max n (2 * x.bN), locals := 13 } (pC D dA [.ref (ad 24), .int (nI n)] (VW dA h ad x) sz) (va_Qv (fun (u9 : Nat × Nat) => True) (fun (u9 : Nat × Nat) t9 => bW D (va_A (VW dA h ad x) sz) (VW dA h ad (VS.s_bO (VS.s_bT (VS.s_bN (VS.s_bA x (va_up (va_up x.bA 0 u9.1) 1 u9.2)) (max n (2 * x.bN))) (fun _ => 0)) (fun _ => 0))) t9) (va_A (VW dA h ad x) sz)) 2 (2 * max n (2 * x.bN)) (va_A (VW dA h ad x) sz) := by
  refine mkC (y := ⟨"SeriesVault$Answers", "makeBestRoom", "(I)V"⟩) (cc := prog_2_method_7_code) (maxL := 3) (av := [.ref (ad 24), .int (nI n)]) (ws := VW dA h ad x) (sz := sz) (Qc := fun A => va_Qv (fun (u9 : Nat × Nat) => True) (fun (u9 : Nat × Nat) t9 => bW D A (VW dA h ad (VS.s_bO (VS.s_bT (VS.s_bN (VS.s_bA x (va_up (va_up x.bA 0 u9.1) 1 u9.2)) (max n (2 * x.bN))) (fun _ => 0)) (fun _ => 0))) t9) A) (by decide) (Nat.le_of_ble_eq_true rfl) ?_
  intro A p e s m below meth c ls hsz hB
  obtain ⟨hx, hb, hr, hml, hown, hin, hlk, hE, hK, hP, hD, hS, hA, hN, hl⟩ := hB
  have hown : s.vm.findClass "SeriesVault$Answers" = some m.cls := hown
  have hl : lv_has ls 3 [(0, .ref (ad 24)), (1, .int (nI n))] := hl
  obtain ⟨H, hH⟩ : ∃ z, z = s.heap := ⟨_, rfl⟩
  have hP : va_P D vwCl (VW dA h ad x) H := by rw [hH]; exact hP
  have hS : va_S A s.heap H [] := by rw [hH]; exact hS
  rw [← hH]
  refine lv_iload_n hx hb d_A_makeBestRoom_0 rfl (lv_at hl 1 rfl) ?_
  refine lv_aload_n hx hb d_A_makeBestRoom_1 rfl (lv_at hl 0 rfl) ?_
  refine gF (v := .ref (x.bA 0)) hx hb hown hE hK hP 37 rfl rfl layA 5 (by decide) w803 rfl d_A_makeBestRoom_2 ?_
  refine va_alen (v := nI x.bN) hx hb hK hP (41) 2 rfl rfl rfl d_A_makeBestRoom_5 ?_
  refine lv_icmp_le hx hb d_A_makeBestRoom_6 (tgt := 35) rfl (fun h9 => absurd h9 (mt (nI_leI (a := n) (b := x.bN) (by omega) (by omega)).mp (Nat.not_le.mpr h1))) (fun _ => ?_)
  refine lv_iload_n hx hb d_A_makeBestRoom_9 rfl (lv_at hl 1 rfl) ?_
  refine lv_iconst (v := 2) hx hb d_A_makeBestRoom_10 (by decide) ?_
  refine lv_aload_n hx hb d_A_makeBestRoom_11 rfl (lv_at hl 0 rfl) ?_
  refine gF (v := .ref (x.bA 0)) hx hb hown hE hK hP 37 rfl rfl layA 5 (by decide) w803 rfl d_A_makeBestRoom_12 ?_
  refine va_alen (v := nI x.bN) hx hb hK hP (41) 2 rfl rfl rfl d_A_makeBestRoom_15 ?_
  refine lv_imul hx hb d_A_makeBestRoom_16 (tpi (y := nI (2 * x.bN)) (pk_mul (2) (x.bN)) ?_)
  refine va_mmax hx hb (hml.trans hl.1.symm) hown (hE.t w1527 rfl) (hE.t w764 rfl) (hE.t w549 rfl) (hE.t w765 rfl) (Nat.le_of_ble_eq_true rfl) (Nat.le_of_ble_eq_true rfl) (show 0 ≤ 2 by omega) (show 0 ≤ 2 * max n (2 * x.bN) by omega) d_A_makeBestRoom_17 (tpi (y := nI (max n (2 * x.bN))) (nI_max (a := n) (b := 2 * x.bN) (by omega) (by omega)) ?_)
  refine lv_istore_n hx hb d_A_makeBestRoom_20 rfl hl (by decide) rfl (fun ls hl => ?_)
  have hl : lv_has ls 3 [(2, .int (nI (max n (2 * x.bN)))), (0, .ref (ad 24)), (1, .int (nI n))] := hl
  refine lv_aload_n hx hb d_A_makeBestRoom_21 rfl (lv_at hl 1 rfl) ?_
  refine lv_iload_n hx hb d_A_makeBestRoom_22 rfl (lv_at hl 0 rfl) ?_
  refine nnA (atype := .long) (ty := .long) (N' := max n (2 * x.bN)) (a0 := (max n (2 * x.bN), .inr (.inl (fun _ => 0)))) hx hb hE rfl w186 hK hP hD hS hA 2 rfl (fun _ => rfl) (by omega) (show (max n (2 * x.bN)) * 8 ≤ 536870912 by omega) (show 0 + 1 ≤ 2 by omega) (show 0 + (max n (2 * x.bN)) ≤ 2 * max n (2 * x.bN) by omega) d_A_makeBestRoom_23 (fun q0 H hP hD hS => ?_)
  have hP : va_P D vwCl ([(q0, .inl (dA 2, max n (2 * x.bN), .inr (.inl (fun _ => 0))))] ++ (VW dA h ad x)) H := hP
  have hD : va_D A ([(q0, .inl (dA 2, max n (2 * x.bN), .inr (.inl (fun _ => 0))))] ++ (VW dA h ad x)) := hD
  refine pF (v := .ref q0) hx hb hown hE hK hP hD hS 38 rfl rfl layA tyA tokA nmA 5 (by decide) w803 rfl rfl rfl (Nat.le_of_ble_eq_true rfl) d_A_makeBestRoom_25 (fun H locs hP hD hS => ?_)
  have hP : va_P D vwCl ([(q0, .inl (dA 2, max n (2 * x.bN), .inr (.inl (fun _ => 0))))] ++ (VWf dA h ad x (VS.s_bA x (va_up x.bA 0 q0)))) H := hP
  have hD : va_D A ([(q0, .inl (dA 2, max n (2 * x.bN), .inr (.inl (fun _ => 0))))] ++ (VWf dA h ad x (VS.s_bA x (va_up x.bA 0 q0)))) := hD
  refine lv_aload_n hx hb d_A_makeBestRoom_28 rfl (lv_at hl 1 rfl) ?_
  refine lv_iload_n hx hb d_A_makeBestRoom_29 rfl (lv_at hl 0 rfl) ?_
  refine nnA (atype := .int) (ty := .int) (N' := max n (2 * x.bN)) (a0 := (max n (2 * x.bN), .inl (fun z9 => nI ((fun _ => 0) z9)))) hx hb hE rfl w184 hK hP hD hS hA 1 rfl (fun _ => rfl) (by omega) (show (max n (2 * x.bN)) * 4 ≤ 536870912 by omega) (show (0 + 1) + 1 ≤ 2 by omega) (show (0 + (max n (2 * x.bN))) + (max n (2 * x.bN)) ≤ 2 * max n (2 * x.bN) by omega) d_A_makeBestRoom_30 (fun q1 H hP hD hS => ?_)
  have hP : va_P D vwCl ([(q1, .inl (dA 1, max n (2 * x.bN), .inl (fun z9 => nI ((fun _ => 0) z9))))] ++ ([(q0, .inl (dA 2, max n (2 * x.bN), .inr (.inl (fun _ => 0))))] ++ (VWf dA h ad x (VS.s_bA x (va_up x.bA 0 q0))))) H := hP
  have hD : va_D A ([(q1, .inl (dA 1, max n (2 * x.bN), .inl (fun z9 => nI ((fun _ => 0) z9))))] ++ ([(q0, .inl (dA 2, max n (2 * x.bN), .inr (.inl (fun _ => 0))))] ++ (VWf dA h ad x (VS.s_bA x (va_up x.bA 0 q0))))) := hD
  refine pF (v := .ref q1) hx hb hown hE hK hP hD hS 39 rfl rfl layA tyA tokA nmA 6 (by decide) w804 rfl rfl rfl (Nat.le_of_ble_eq_true rfl) d_A_makeBestRoom_32 (fun H locs hP hD hS => ?_)
  have hP : va_P D vwCl ([(q1, .inl (dA 1, max n (2 * x.bN), .inl (fun z9 => nI ((fun _ => 0) z9))))] ++ ([(q0, .inl (dA 2, max n (2 * x.bN), .inr (.inl (fun _ => 0))))] ++ (VWf dA h ad x (VS.s_bA x (va_up (va_up x.bA 0 q0) 1 q1))))) H := hP
  have hD : va_D A ([(q1, .inl (dA 1, max n (2 * x.bN), .inl (fun z9 => nI ((fun _ => 0) z9))))] ++ ([(q0, .inl (dA 2, max n (2 * x.bN), .inr (.inl (fun _ => 0))))] ++ (VWf dA h ad x (VS.s_bA x (va_up (va_up x.bA 0 q0) 1 q1))))) := hD
  have hP := pmP (show List.Perm (α := Nat × va_E) ([(q1, .inl (dA 1, max n (2 * x.bN), .inl (fun z9 => nI ((fun _ => 0) z9))))] ++ ([(q0, .inl (dA 2, max n (2 * x.bN), .inr (.inl (fun _ => 0))))] ++ (VWf dA h ad x (VS.s_bA x (va_up (va_up x.bA 0 q0) 1 q1))))) ([(q0, .inl (dA 2, max n (2 * x.bN), .inr (.inl (fun _ => 0))))] ++ ([(q1, .inl (dA 1, max n (2 * x.bN), .inl (fun z9 => nI ((fun _ => 0) z9))))] ++ (VWf dA h ad x (VS.s_bA x (va_up (va_up x.bA 0 q0) 1 q1))))) from List.perm_append_comm_assoc ([(q1, .inl (dA 1, max n (2 * x.bN), .inl (fun z9 => nI ((fun _ => 0) z9))))]) ([(q0, .inl (dA 2, max n (2 * x.bN), .inr (.inl (fun _ => 0))))]) (VWf dA h ad x (VS.s_bA x (va_up (va_up x.bA 0 q0) 1 q1)))) hP
  have hD := pmD (show List.Perm (α := Nat × va_E) ([(q1, .inl (dA 1, max n (2 * x.bN), .inl (fun z9 => nI ((fun _ => 0) z9))))] ++ ([(q0, .inl (dA 2, max n (2 * x.bN), .inr (.inl (fun _ => 0))))] ++ (VWf dA h ad x (VS.s_bA x (va_up (va_up x.bA 0 q0) 1 q1))))) ([(q0, .inl (dA 2, max n (2 * x.bN), .inr (.inl (fun _ => 0))))] ++ ([(q1, .inl (dA 1, max n (2 * x.bN), .inl (fun z9 => nI ((fun _ => 0) z9))))] ++ (VWf dA h ad x (VS.s_bA x (va_up (va_up x.bA 0 q0) 1 q1))))) from List.perm_append_comm_assoc ([(q1, .inl (dA 1, max n (2 * x.bN), .inl (fun z9 => nI ((fun _ => 0) z9))))]) ([(q0, .inl (dA 2, max n (2 * x.bN), .inr (.inl (fun _ => 0))))]) (VWf dA h ad x (VS.s_bA x (va_up (va_up x.bA 0 q0) 1 q1)))) hD
  have hP := swP 42 hP
  have hD := swD 42 hD
  have hP := swP 42 hP
  have hD := swD 42 hD
  have hP : va_P D vwCl (VW dA h ad (VS.s_bO (VS.s_bT (VS.s_bN (VS.s_bA x (va_up (va_up x.bA 0 q0) 1 q1)) (max n (2 * x.bN))) (fun _ => 0)) (fun _ => 0))) H := hP
  have hD : va_D A (VW dA h ad (VS.s_bO (VS.s_bT (VS.s_bN (VS.s_bA x (va_up (va_up x.bA 0 q0) 1 q1)) (max n (2 * x.bN))) (fun _ => 0)) (fun _ => 0))) := hD
  exact rfV hx hb hr hlk hS (⟨q0, q1⟩) trivial hP hD (show 0 + 1 + 1 ≤ 2 by omega) (show 0 + (max n (2 * x.bN)) + (max n (2 * x.bN)) ≤ 2 * max n (2 * x.bN) by omega) d_A_makeBestRoom_35
theorem d_E_init_0 : decode prog_10_method_1_code 0 = .ok (.aload_n 0, 1) := by decide +kernel
theorem d_E_init_1 : decode prog_10_method_1_code 1 = .ok (.invokespecial 3, 3) := by decide +kernel
theorem d_E_init_4 : decode prog_10_method_1_code 4 = .ok (.aload_n 0, 1) := by decide +kernel
theorem d_E_init_5 : decode prog_10_method_1_code 5 = .ok (.iload_n 1, 1) := by decide +kernel
theorem d_E_init_6 : decode prog_10_method_1_code 6 = .ok (.putfield 9, 3) := by decide +kernel
theorem d_E_init_9 : decode prog_10_method_1_code 9 = .ok (.aload_n 0, 1) := by decide +kernel
theorem d_E_init_10 : decode prog_10_method_1_code 10 = .ok (.iload_n 2, 1) := by decide +kernel
theorem d_E_init_11 : decode prog_10_method_1_code 11 = .ok (.putfield 15, 3) := by decide +kernel
theorem d_E_init_14 : decode prog_10_method_1_code 14 = .ok (.aload_n 0, 1) := by decide +kernel
theorem d_E_init_15 : decode prog_10_method_1_code 15 = .ok (.lload_n 3, 1) := by decide +kernel
theorem d_E_init_16 : decode prog_10_method_1_code 16 = .ok (.putfield 18, 3) := by decide +kernel
theorem d_E_init_19 : decode prog_10_method_1_code 19 = .ok (.iload_n 1, 1) := by decide +kernel
theorem d_E_init_20 : decode prog_10_method_1_code 20 = .ok (.sipush 264, 3) := by decide +kernel
theorem d_E_init_23 : decode prog_10_method_1_code 23 = .ok (.if_icmp .ne 7, 3) := by decide +kernel
theorem d_E_init_26 : decode prog_10_method_1_code 26 = .ok (.iconst 1, 1) := by decide +kernel
theorem d_E_init_27 : decode prog_10_method_1_code 27 = .ok (.goto 4, 3) := by decide +kernel
theorem d_E_init_31 : decode prog_10_method_1_code 31 = .ok (.istore 5, 2) := by decide +kernel
theorem d_E_init_33 : decode prog_10_method_1_code 33 = .ok (.aload_n 0, 1) := by decide +kernel
theorem d_E_init_34 : decode prog_10_method_1_code 34 = .ok (.iload 5, 2) := by decide +kernel
theorem d_E_init_36 : decode prog_10_method_1_code 36 = .ok (.ifCond .eq 8, 3) := by decide +kernel
theorem d_E_init_39 : decode prog_10_method_1_code 39 = .ok (.bipush 6, 2) := by decide +kernel
theorem d_E_init_41 : decode prog_10_method_1_code 41 = .ok (.goto 4, 3) := by decide +kernel
theorem d_E_init_45 : decode prog_10_method_1_code 45 = .ok (.anewarray 24, 3) := by decide +kernel
theorem d_E_init_48 : decode prog_10_method_1_code 48 = .ok (.putfield 26, 3) := by decide +kernel
theorem d_E_init_51 : decode prog_10_method_1_code 51 = .ok (.aload_n 0, 1) := by decide +kernel
theorem d_E_init_52 : decode prog_10_method_1_code 52 = .ok (.new 30, 3) := by decide +kernel
theorem d_E_init_55 : decode prog_10_method_1_code 55 = .ok (.dup, 1) := by decide +kernel
theorem d_E_init_56 : decode prog_10_method_1_code 56 = .ok (.invokespecial 32, 3) := by decide +kernel
theorem d_E_init_59 : decode prog_10_method_1_code 59 = .ok (.putfield 33, 3) := by decide +kernel
theorem d_E_init_62 : decode prog_10_method_1_code 62 = .ok (.aload_n 0, 1) := by decide +kernel
theorem d_E_init_63 : decode prog_10_method_1_code 63 = .ok (.new 30, 3) := by decide +kernel
theorem d_E_init_66 : decode prog_10_method_1_code 66 = .ok (.dup, 1) := by decide +kernel
theorem d_E_init_67 : decode prog_10_method_1_code 67 = .ok (.invokespecial 32, 3) := by decide +kernel
theorem d_E_init_70 : decode prog_10_method_1_code 70 = .ok (.putfield 37, 3) := by decide +kernel
theorem d_E_init_73 : decode prog_10_method_1_code 73 = .ok (.aload_n 0, 1) := by decide +kernel
theorem d_E_init_74 : decode prog_10_method_1_code 74 = .ok (.iload 5, 2) := by decide +kernel
theorem d_E_init_76 : decode prog_10_method_1_code 76 = .ok (.ifCond .eq 7, 3) := by decide +kernel
theorem d_E_init_79 : decode prog_10_method_1_code 79 = .ok (.iconst 2, 1) := by decide +kernel
theorem d_E_init_80 : decode prog_10_method_1_code 80 = .ok (.goto 4, 3) := by decide +kernel
theorem d_E_init_84 : decode prog_10_method_1_code 84 = .ok (.newarray .int, 2) := by decide +kernel
theorem d_E_init_86 : decode prog_10_method_1_code 86 = .ok (.putfield 40, 3) := by decide +kernel
theorem d_E_init_89 : decode prog_10_method_1_code 89 = .ok (.return_, 1) := by decide +kernel
theorem w1528 : Cond.methodLink "SeriesVault$Step" 3 ⟨"java/lang/Object", "<init>", "()V"⟩ ∈ aW := aw_of (tb_7 (List.mem_of_getElem? (i := 6) rfl)) rfl
theorem w1529 : Cond.fieldLink "SeriesVault$Step" 9 "SeriesVault$Step" "kind" "I" ∈ aW := aw_of (tb_7 (List.mem_of_getElem? (i := 10) rfl)) rfl
theorem w1530 : Cond.fieldLink "SeriesVault$Step" 15 "SeriesVault$Step" "place" "I" ∈ aW := aw_of (tb_7 (List.mem_of_getElem? (i := 12) rfl)) rfl
theorem w1531 : Cond.fieldLink "SeriesVault$Step" 18 "SeriesVault$Step" "number" "J" ∈ aW := aw_of (tb_7 (List.mem_of_getElem? (i := 14) rfl)) rfl
theorem w1532 : Cond.fieldLink "SeriesVault$Step" 26 "SeriesVault$Step" "names" "[LSeriesVault$Word;" ∈ aW := aw_of (tb_7 (List.mem_of_getElem? (i := 16) rfl)) rfl
theorem w1533 : Cond.classLink "SeriesVault$Step" 30 "java/util/ArrayList" ∈ aW := aw_of (tb_7 (List.mem_of_getElem? (i := 8) rfl)) rfl
theorem w1534 : Cond.methodLink "SeriesVault$Step" 32 ⟨"java/util/ArrayList", "<init>", "()V"⟩ ∈ aW := aw_of (tb_7 (List.mem_of_getElem? (i := 9) rfl)) rfl
set_option maxHeartbeats 4000000 in
set_option maxRecDepth 100000 in
theorem v_Einit_f (l : Launch) (D : va_G) (dA : Nat → ClassId) (sz : Nat) (e0 mi : Nat) (ws : va_W) (a : Nat) (pl : Nat) (nu : Int64) : Met l ⟨"SeriesVault$Step", "<init>", "(IIJ)V"⟩ [Cond.code ⟨"SeriesVault$Step", "<init>", "(IIJ)V"⟩ prog_10_method_1_code 6 none] { frames := 4, cells := 4, slots := 14, locals := 72 } (pCy D dA e0 mi [.ref a, .int 264, .int (nI pl), .long nu] ([(a, .inr (13, [.int 0, .int 0, .long 0, .null, .int 0, .null, .null, .null]))] ++ (ws)) sz) (va_Qv (fun (u9 : Nat × Nat × Nat × Nat) => True) (fun (u9 : Nat × Nat × Nat × Nat) t9 => bW D (va_A ([(a, .inr (13, [.int 0, .int 0, .long 0, .null, .int 0, .null, .null, .null]))] ++ (ws)) sz) ([(u9.1, .inl (dA 6, 6, .inr (.inr (.inr (.inr (fun _ => none))))))] ++ ([(u9.2.1, .inr (6, [.ref e0, .int 0, .int 0]))] ++ ([(u9.2.2.1, .inr (6, [.ref e0, .int 0, .int 0]))] ++ ([(u9.2.2.2, .inl (dA 1, 2, .inl (fun _ => 0)))] ++ ([(a, .inr (13, [.int 264, .int (nI pl), .long nu, .ref u9.1, .int 0, .ref u9.2.1, .ref u9.2.2.1, .ref u9.2.2.2]))] ++ (ws)))))) t9) (va_A ([(a, .inr (13, [.int 0, .int 0, .long 0, .null, .int 0, .null, .null, .null]))] ++ (ws)) sz)) 4 14 (va_A ([(a, .inr (13, [.int 0, .int 0, .long 0, .null, .int 0, .null, .null, .null]))] ++ (ws)) sz) := by
  refine mkY (y := ⟨"SeriesVault$Step", "<init>", "(IIJ)V"⟩) (cc := prog_10_method_1_code) (maxL := 6) (av := [.ref a, .int 264, .int (nI pl), .long nu]) (ws := [(a, .inr (13, [.int 0, .int 0, .long 0, .null, .int 0, .null, .null, .null]))] ++ (ws)) (sz := sz) (Qc := fun A => va_Qv (fun (u9 : Nat × Nat × Nat × Nat) => True) (fun (u9 : Nat × Nat × Nat × Nat) t9 => bW D A ([(u9.1, .inl (dA 6, 6, .inr (.inr (.inr (.inr (fun _ => none))))))] ++ ([(u9.2.1, .inr (6, [.ref e0, .int 0, .int 0]))] ++ ([(u9.2.2.1, .inr (6, [.ref e0, .int 0, .int 0]))] ++ ([(u9.2.2.2, .inl (dA 1, 2, .inl (fun _ => 0)))] ++ ([(a, .inr (13, [.int 264, .int (nI pl), .long nu, .ref u9.1, .int 0, .ref u9.2.1, .ref u9.2.2.1, .ref u9.2.2.2]))] ++ (ws)))))) t9) A) (by decide) (Nat.le_of_ble_eq_true rfl) ?_
  intro A p e s m below meth c ls hsz hZ hT hM hB
  obtain ⟨hx, hb, hr, hml, hown, hin, hlk, hE, hK, hP, hD, hS, hA, hN, hl⟩ := hB
  have hown : s.vm.findClass "SeriesVault$Step" = some m.cls := hown
  have hl : lv_has ls 6 [(0, .ref a), (1, .int 264), (2, .int (nI pl)), (3, .long nu)] := hl
  obtain ⟨H, hH⟩ : ∃ z, z = s.heap := ⟨_, rfl⟩
  have hP : va_P D vwCl ([(a, .inr (13, [.int 0, .int 0, .long 0, .null, .int 0, .null, .null, .null]))] ++ (ws)) H := by rw [hH]; exact hP
  have hS : va_S A s.heap H [] := by rw [hH]; exact hS
  rw [← hH]
  refine lv_aload_n hx hb d_E_init_0 rfl (lv_at hl 0 rfl) ?_
  refine oI hx hb hown hE w1528 w182 w183 (hl.1.trans hml.symm) d_E_init_1 (Nat.le_of_ble_eq_true rfl) (Nat.le_of_ble_eq_true rfl) ?_
  refine lv_aload_n hx hb d_E_init_4 rfl (lv_at hl 0 rfl) ?_
  refine lv_iload_n hx hb d_E_init_5 rfl (lv_at hl 1 rfl) ?_
  refine pFF (v := .int 264) hx hb hown hE hK hP hD hS 0 rfl rfl layE tyE tokE nmE 0 (by decide) w1529 rfl hin rfl rfl rfl (Nat.le_of_ble_eq_true rfl) d_E_init_6 (fun H locs hP hD hS => ?_)
  have hP : va_P D vwCl ([(a, .inr (13, [.int 264, .int 0, .long 0, .null, .int 0, .null, .null, .null]))] ++ (ws)) H := hP
  have hD : va_D A ([(a, .inr (13, [.int 264, .int 0, .long 0, .null, .int 0, .null, .null, .null]))] ++ (ws)) := hD
  refine lv_aload_n hx hb d_E_init_9 rfl (lv_at hl 0 rfl) ?_
  refine lv_iload_n hx hb d_E_init_10 rfl (lv_at hl 2 rfl) ?_
  refine pFF (v := .int (nI pl)) hx hb hown hE hK hP hD hS 0 rfl rfl layE tyE tokE nmE 1 (by decide) w1530 rfl hin rfl rfl rfl (Nat.le_of_ble_eq_true rfl) d_E_init_11 (fun H locs hP hD hS => ?_)
  have hP : va_P D vwCl ([(a, .inr (13, [.int 264, .int (nI pl), .long 0, .null, .int 0, .null, .null, .null]))] ++ (ws)) H := hP
  have hD : va_D A ([(a, .inr (13, [.int 264, .int (nI pl), .long 0, .null, .int 0, .null, .null, .null]))] ++ (ws)) := hD
  refine lv_aload_n hx hb d_E_init_14 rfl (lv_at hl 0 rfl) ?_
  refine lv_lload_n hx hb d_E_init_15 rfl (lv_at hl 3 rfl) ?_
  refine pFF (v := .long nu) hx hb hown hE hK hP hD hS 0 rfl rfl layE tyE tokE nmE 2 (by decide) w1531 rfl hin rfl rfl rfl (Nat.le_of_ble_eq_true rfl) d_E_init_16 (fun H locs hP hD hS => ?_)
  have hP : va_P D vwCl ([(a, .inr (13, [.int 264, .int (nI pl), .long nu, .null, .int 0, .null, .null, .null]))] ++ (ws)) H := hP
  have hD : va_D A ([(a, .inr (13, [.int 264, .int (nI pl), .long nu, .null, .int 0, .null, .null, .null]))] ++ (ws)) := hD
  refine lv_iload_n hx hb d_E_init_19 rfl (lv_at hl 1 rfl) ?_
  refine lv_sipush (v := 264) hx hb d_E_init_20 (by decide) ?_
  refine lv_icmp_ne hx hb d_E_init_23 (tgt := 30) rfl (fun h9 => absurd (by decide) h9) (fun _ => ?_)
  refine lv_iconst (v := 1) hx hb d_E_init_26 (by decide) ?_
  refine lv_goto hx hb d_E_init_27 (tgt := 31) rfl ?_
  refine lv_istore hx hb d_E_init_31 hl (by decide) rfl (fun ls hl => ?_)
  have hl : lv_has ls 6 [(5, .int 1), (0, .ref a), (1, .int 264), (2, .int (nI pl)), (3, .long nu)] := hl
  refine lv_aload_n hx hb d_E_init_33 rfl (lv_at hl 1 rfl) ?_
  refine lv_iload hx hb d_E_init_34 (lv_at hl 0 rfl) ?_
  refine lv_if_eq hx hb d_E_init_36 (tgt := 44) rfl (fun h9 => absurd h9 (by decide)) (fun _ => ?_)
  refine lv_bipush (v := 6) hx hb d_E_init_39 (by decide) ?_
  refine lv_goto hx hb d_E_init_41 (tgt := 45) rfl ?_
  refine nnQ (N' := 6) hx hb hown hE w1492 w783 hK hP hD hS hA 6 rfl (by omega) (show 6 * 4 ≤ 536870912 by omega) (show 0 + 1 ≤ 4 by omega) (show 0 + 6 ≤ 14 by omega) d_E_init_45 (fun na H hP hD hS => ?_)
  have hP : va_P D vwCl ([(na, .inl (dA 6, 6, .inr (.inr (.inr (.inr (fun _ => none))))))] ++ ([(a, .inr (13, [.int 264, .int (nI pl), .long nu, .null, .int 0, .null, .null, .null]))] ++ (ws))) H := hP
  have hD : va_D A ([(na, .inl (dA 6, 6, .inr (.inr (.inr (.inr (fun _ => none))))))] ++ ([(a, .inr (13, [.int 264, .int (nI pl), .long nu, .null, .int 0, .null, .null, .null]))] ++ (ws))) := hD
  refine pFF (v := .ref na) hx hb hown hE hK hP hD hS 1 rfl rfl layE tyE tokE nmE 3 (by decide) w1532 rfl hin rfl rfl rfl (Nat.le_of_ble_eq_true rfl) d_E_init_48 (fun H locs hP hD hS => ?_)
  have hP : va_P D vwCl ([(na, .inl (dA 6, 6, .inr (.inr (.inr (.inr (fun _ => none))))))] ++ ([(a, .inr (13, [.int 264, .int (nI pl), .long nu, .ref na, .int 0, .null, .null, .null]))] ++ (ws))) H := hP
  have hD : va_D A ([(na, .inl (dA 6, 6, .inr (.inr (.inr (.inr (fun _ => none))))))] ++ ([(a, .inr (13, [.int 264, .int (nI pl), .long nu, .ref na, .int 0, .null, .null, .null]))] ++ (ws))) := hD
  refine lv_aload_n hx hb d_E_init_51 rfl (lv_at hl 1 rfl) ?_
  refine nOf hx hb hown hE hK hP hD hS hA (ci := 6) rfl layL tyL tokL w1533 w792 w680 (fs := [.null, .int 0, .int 0]) dfL (show (0 + 1) + 1 ≤ 4 by omega) (show (0 + 6) + 3 ≤ 14 by omega) d_E_init_52 (fun ln H hP hD hS => ?_)
  have hP : va_P D vwCl ([(ln, .inr (6, [.null, .int 0, .int 0]))] ++ ([(na, .inl (dA 6, 6, .inr (.inr (.inr (.inr (fun _ => none))))))] ++ ([(a, .inr (13, [.int 264, .int (nI pl), .long nu, .ref na, .int 0, .null, .null, .null]))] ++ (ws)))) H := hP
  have hD : va_D A ([(ln, .inr (6, [.null, .int 0, .int 0]))] ++ ([(na, .inl (dA 6, 6, .inr (.inr (.inr (.inr (fun _ => none))))))] ++ ([(a, .inr (13, [.int 264, .int (nI pl), .long nu, .ref na, .int 0, .null, .null, .null]))] ++ (ws)))) := hD
  refine lv_dup hx hb d_E_init_55 rfl ?_
  refine jkV (wr := []) (rnIy (As := []) (rest := [.ref ln, .ref a]) hx hb hml hown hE hK hZ hT hM hS (hN _ _ hS) hP hD (v_Linit l D dA H.size e0 mi ([(na, .inl (dA 6, 6, .inr (.inr (.inr (.inr (fun _ => none))))))] ++ ([(a, .inr (13, [.int 264, .int (nI pl), .long nu, .ref na, .int 0, .null, .null, .null]))] ++ (ws))) ln) w794 w1534 w795 w680 rfl rfl rfl ⟨⟨by decide, by decide⟩, rfl⟩ ⟨(Nat.le_of_ble_eq_true rfl), (Nat.le_of_ble_eq_true rfl)⟩ rfl hl.1 rfl (Nat.le_of_ble_eq_true rfl) d_E_init_56 ⟨(show 0 + 1 + 1 + 0 ≤ 4 by omega), (show 0 + 6 + 3 + 0 ≤ 14 by omega)⟩) hP hD hS hA (fun u2 H locs hp9 hP hD hS => ?_)
  have hP : va_P D vwCl ([(ln, .inr (6, [.ref e0, .int 0, .int 0]))] ++ ([(na, .inl (dA 6, 6, .inr (.inr (.inr (.inr (fun _ => none))))))] ++ ([(a, .inr (13, [.int 264, .int (nI pl), .long nu, .ref na, .int 0, .null, .null, .null]))] ++ (ws)))) H := hP
  have hD : va_D A ([(ln, .inr (6, [.ref e0, .int 0, .int 0]))] ++ ([(na, .inl (dA 6, 6, .inr (.inr (.inr (.inr (fun _ => none))))))] ++ ([(a, .inr (13, [.int 264, .int (nI pl), .long nu, .ref na, .int 0, .null, .null, .null]))] ++ (ws)))) := hD
  refine pFF (v := .ref ln) hx hb hown hE hK hP hD hS 2 rfl rfl layE tyE tokE nmE 5 (by decide) w1482 rfl hin rfl rfl rfl (Nat.le_of_ble_eq_true rfl) d_E_init_59 (fun H locs hP hD hS => ?_)
  have hP : va_P D vwCl ([(ln, .inr (6, [.ref e0, .int 0, .int 0]))] ++ ([(na, .inl (dA 6, 6, .inr (.inr (.inr (.inr (fun _ => none))))))] ++ ([(a, .inr (13, [.int 264, .int (nI pl), .long nu, .ref na, .int 0, .ref ln, .null, .null]))] ++ (ws)))) H := hP
  have hD : va_D A ([(ln, .inr (6, [.ref e0, .int 0, .int 0]))] ++ ([(na, .inl (dA 6, 6, .inr (.inr (.inr (.inr (fun _ => none))))))] ++ ([(a, .inr (13, [.int 264, .int (nI pl), .long nu, .ref na, .int 0, .ref ln, .null, .null]))] ++ (ws)))) := hD
  refine lv_aload_n hx hb d_E_init_62 rfl (lv_at hl 1 rfl) ?_
  refine nOf hx hb hown hE hK hP hD hS hA (ci := 6) rfl layL tyL tokL w1533 w792 w680 (fs := [.null, .int 0, .int 0]) dfL (show (0 + 1 + 1 + 0) + 1 ≤ 4 by omega) (show (0 + 6 + 3 + 0) + 3 ≤ 14 by omega) d_E_init_63 (fun lt H hP hD hS => ?_)
  have hP : va_P D vwCl ([(lt, .inr (6, [.null, .int 0, .int 0]))] ++ ([(ln, .inr (6, [.ref e0, .int 0, .int 0]))] ++ ([(na, .inl (dA 6, 6, .inr (.inr (.inr (.inr (fun _ => none))))))] ++ ([(a, .inr (13, [.int 264, .int (nI pl), .long nu, .ref na, .int 0, .ref ln, .null, .null]))] ++ (ws))))) H := hP
  have hD : va_D A ([(lt, .inr (6, [.null, .int 0, .int 0]))] ++ ([(ln, .inr (6, [.ref e0, .int 0, .int 0]))] ++ ([(na, .inl (dA 6, 6, .inr (.inr (.inr (.inr (fun _ => none))))))] ++ ([(a, .inr (13, [.int 264, .int (nI pl), .long nu, .ref na, .int 0, .ref ln, .null, .null]))] ++ (ws))))) := hD
  refine lv_dup hx hb d_E_init_66 rfl ?_
  refine jkV (wr := []) (rnIy (As := []) (rest := [.ref lt, .ref a]) hx hb hml hown hE hK hZ hT hM hS (hN _ _ hS) hP hD (v_Linit l D dA H.size e0 mi ([(ln, .inr (6, [.ref e0, .int 0, .int 0]))] ++ ([(na, .inl (dA 6, 6, .inr (.inr (.inr (.inr (fun _ => none))))))] ++ ([(a, .inr (13, [.int 264, .int (nI pl), .long nu, .ref na, .int 0, .ref ln, .null, .null]))] ++ (ws)))) lt) w794 w1534 w795 w680 rfl rfl rfl ⟨⟨by decide, by decide⟩, rfl⟩ ⟨(Nat.le_of_ble_eq_true rfl), (Nat.le_of_ble_eq_true rfl)⟩ rfl hl.1 rfl (Nat.le_of_ble_eq_true rfl) d_E_init_67 ⟨(show 0 + 1 + 1 + 0 + 1 + 0 ≤ 4 by omega), (show 0 + 6 + 3 + 0 + 3 + 0 ≤ 14 by omega)⟩) hP hD hS hA (fun u4 H locs hp9 hP hD hS => ?_)
  have hP : va_P D vwCl ([(lt, .inr (6, [.ref e0, .int 0, .int 0]))] ++ ([(ln, .inr (6, [.ref e0, .int 0, .int 0]))] ++ ([(na, .inl (dA 6, 6, .inr (.inr (.inr (.inr (fun _ => none))))))] ++ ([(a, .inr (13, [.int 264, .int (nI pl), .long nu, .ref na, .int 0, .ref ln, .null, .null]))] ++ (ws))))) H := hP
  have hD : va_D A ([(lt, .inr (6, [.ref e0, .int 0, .int 0]))] ++ ([(ln, .inr (6, [.ref e0, .int 0, .int 0]))] ++ ([(na, .inl (dA 6, 6, .inr (.inr (.inr (.inr (fun _ => none))))))] ++ ([(a, .inr (13, [.int 264, .int (nI pl), .long nu, .ref na, .int 0, .ref ln, .null, .null]))] ++ (ws))))) := hD
  refine pFF (v := .ref lt) hx hb hown hE hK hP hD hS 3 rfl rfl layE tyE tokE nmE 6 (by decide) w1494 rfl hin rfl rfl rfl (Nat.le_of_ble_eq_true rfl) d_E_init_70 (fun H locs hP hD hS => ?_)
  have hP : va_P D vwCl ([(lt, .inr (6, [.ref e0, .int 0, .int 0]))] ++ ([(ln, .inr (6, [.ref e0, .int 0, .int 0]))] ++ ([(na, .inl (dA 6, 6, .inr (.inr (.inr (.inr (fun _ => none))))))] ++ ([(a, .inr (13, [.int 264, .int (nI pl), .long nu, .ref na, .int 0, .ref ln, .ref lt, .null]))] ++ (ws))))) H := hP
  have hD : va_D A ([(lt, .inr (6, [.ref e0, .int 0, .int 0]))] ++ ([(ln, .inr (6, [.ref e0, .int 0, .int 0]))] ++ ([(na, .inl (dA 6, 6, .inr (.inr (.inr (.inr (fun _ => none))))))] ++ ([(a, .inr (13, [.int 264, .int (nI pl), .long nu, .ref na, .int 0, .ref ln, .ref lt, .null]))] ++ (ws))))) := hD
  refine lv_aload_n hx hb d_E_init_73 rfl (lv_at hl 1 rfl) ?_
  refine lv_iload hx hb d_E_init_74 (lv_at hl 0 rfl) ?_
  refine lv_if_eq hx hb d_E_init_76 (tgt := 83) rfl (fun h9 => absurd h9 (by decide)) (fun _ => ?_)
  refine lv_iconst (v := 2) hx hb d_E_init_79 (by decide) ?_
  refine lv_goto hx hb d_E_init_80 (tgt := 84) rfl ?_
  refine nnA (atype := .int) (ty := .int) (N' := 2) (a0 := (2, .inl (fun _ => 0))) hx hb hE rfl w184 hK hP hD hS hA 1 rfl (fun _ => rfl) (by omega) (show 2 * 4 ≤ 536870912 by omega) (show (0 + 1 + 1 + 0 + 1 + 0) + 1 ≤ 4 by omega) (show (0 + 6 + 3 + 0 + 3 + 0) + 2 ≤ 14 by omega) d_E_init_84 (fun mk H hP hD hS => ?_)
  have hP : va_P D vwCl ([(mk, .inl (dA 1, 2, .inl (fun _ => 0)))] ++ ([(lt, .inr (6, [.ref e0, .int 0, .int 0]))] ++ ([(ln, .inr (6, [.ref e0, .int 0, .int 0]))] ++ ([(na, .inl (dA 6, 6, .inr (.inr (.inr (.inr (fun _ => none))))))] ++ ([(a, .inr (13, [.int 264, .int (nI pl), .long nu, .ref na, .int 0, .ref ln, .ref lt, .null]))] ++ (ws)))))) H := hP
  have hD : va_D A ([(mk, .inl (dA 1, 2, .inl (fun _ => 0)))] ++ ([(lt, .inr (6, [.ref e0, .int 0, .int 0]))] ++ ([(ln, .inr (6, [.ref e0, .int 0, .int 0]))] ++ ([(na, .inl (dA 6, 6, .inr (.inr (.inr (.inr (fun _ => none))))))] ++ ([(a, .inr (13, [.int 264, .int (nI pl), .long nu, .ref na, .int 0, .ref ln, .ref lt, .null]))] ++ (ws)))))) := hD
  refine pF (v := .ref mk) hx hb hown hE hK hP hD hS 4 rfl rfl layE tyE tokE nmE 7 (by decide) w1487 rfl rfl rfl (Nat.le_of_ble_eq_true rfl) d_E_init_86 (fun H locs hP hD hS => ?_)
  have hP : va_P D vwCl ([(mk, .inl (dA 1, 2, .inl (fun _ => 0)))] ++ ([(lt, .inr (6, [.ref e0, .int 0, .int 0]))] ++ ([(ln, .inr (6, [.ref e0, .int 0, .int 0]))] ++ ([(na, .inl (dA 6, 6, .inr (.inr (.inr (.inr (fun _ => none))))))] ++ ([(a, .inr (13, [.int 264, .int (nI pl), .long nu, .ref na, .int 0, .ref ln, .ref lt, .ref mk]))] ++ (ws)))))) H := hP
  have hD : va_D A ([(mk, .inl (dA 1, 2, .inl (fun _ => 0)))] ++ ([(lt, .inr (6, [.ref e0, .int 0, .int 0]))] ++ ([(ln, .inr (6, [.ref e0, .int 0, .int 0]))] ++ ([(na, .inl (dA 6, 6, .inr (.inr (.inr (.inr (fun _ => none))))))] ++ ([(a, .inr (13, [.int 264, .int (nI pl), .long nu, .ref na, .int 0, .ref ln, .ref lt, .ref mk]))] ++ (ws)))))) := hD
  have hP := pmP (show List.Perm (α := Nat × va_E) ([(mk, .inl (dA 1, 2, .inl (fun _ => 0)))] ++ ([(lt, .inr (6, [.ref e0, .int 0, .int 0]))] ++ ([(ln, .inr (6, [.ref e0, .int 0, .int 0]))] ++ ([(na, .inl (dA 6, 6, .inr (.inr (.inr (.inr (fun _ => none))))))] ++ ([(a, .inr (13, [.int 264, .int (nI pl), .long nu, .ref na, .int 0, .ref ln, .ref lt, .ref mk]))] ++ (ws)))))) ([(na, .inl (dA 6, 6, .inr (.inr (.inr (.inr (fun _ => none))))))] ++ ([(mk, .inl (dA 1, 2, .inl (fun _ => 0)))] ++ ([(lt, .inr (6, [.ref e0, .int 0, .int 0]))] ++ ([(ln, .inr (6, [.ref e0, .int 0, .int 0]))] ++ ([(a, .inr (13, [.int 264, .int (nI pl), .long nu, .ref na, .int 0, .ref ln, .ref lt, .ref mk]))] ++ (ws)))))) from (List.Perm.append_left ([(mk, .inl (dA 1, 2, .inl (fun _ => 0)))]) ((List.Perm.append_left ([(lt, .inr (6, [.ref e0, .int 0, .int 0]))]) (List.perm_append_comm_assoc ([(ln, .inr (6, [.ref e0, .int 0, .int 0]))]) ([(na, .inl (dA 6, 6, .inr (.inr (.inr (.inr (fun _ => none))))))]) ([(a, .inr (13, [.int 264, .int (nI pl), .long nu, .ref na, .int 0, .ref ln, .ref lt, .ref mk]))] ++ (ws)))).trans (List.perm_append_comm_assoc ([(lt, .inr (6, [.ref e0, .int 0, .int 0]))]) ([(na, .inl (dA 6, 6, .inr (.inr (.inr (.inr (fun _ => none))))))]) ([(ln, .inr (6, [.ref e0, .int 0, .int 0]))] ++ ([(a, .inr (13, [.int 264, .int (nI pl), .long nu, .ref na, .int 0, .ref ln, .ref lt, .ref mk]))] ++ (ws)))))).trans (List.perm_append_comm_assoc ([(mk, .inl (dA 1, 2, .inl (fun _ => 0)))]) ([(na, .inl (dA 6, 6, .inr (.inr (.inr (.inr (fun _ => none))))))]) ([(lt, .inr (6, [.ref e0, .int 0, .int 0]))] ++ ([(ln, .inr (6, [.ref e0, .int 0, .int 0]))] ++ ([(a, .inr (13, [.int 264, .int (nI pl), .long nu, .ref na, .int 0, .ref ln, .ref lt, .ref mk]))] ++ (ws)))))) hP
  have hD := pmD (show List.Perm (α := Nat × va_E) ([(mk, .inl (dA 1, 2, .inl (fun _ => 0)))] ++ ([(lt, .inr (6, [.ref e0, .int 0, .int 0]))] ++ ([(ln, .inr (6, [.ref e0, .int 0, .int 0]))] ++ ([(na, .inl (dA 6, 6, .inr (.inr (.inr (.inr (fun _ => none))))))] ++ ([(a, .inr (13, [.int 264, .int (nI pl), .long nu, .ref na, .int 0, .ref ln, .ref lt, .ref mk]))] ++ (ws)))))) ([(na, .inl (dA 6, 6, .inr (.inr (.inr (.inr (fun _ => none))))))] ++ ([(mk, .inl (dA 1, 2, .inl (fun _ => 0)))] ++ ([(lt, .inr (6, [.ref e0, .int 0, .int 0]))] ++ ([(ln, .inr (6, [.ref e0, .int 0, .int 0]))] ++ ([(a, .inr (13, [.int 264, .int (nI pl), .long nu, .ref na, .int 0, .ref ln, .ref lt, .ref mk]))] ++ (ws)))))) from (List.Perm.append_left ([(mk, .inl (dA 1, 2, .inl (fun _ => 0)))]) ((List.Perm.append_left ([(lt, .inr (6, [.ref e0, .int 0, .int 0]))]) (List.perm_append_comm_assoc ([(ln, .inr (6, [.ref e0, .int 0, .int 0]))]) ([(na, .inl (dA 6, 6, .inr (.inr (.inr (.inr (fun _ => none))))))]) ([(a, .inr (13, [.int 264, .int (nI pl), .long nu, .ref na, .int 0, .ref ln, .ref lt, .ref mk]))] ++ (ws)))).trans (List.perm_append_comm_assoc ([(lt, .inr (6, [.ref e0, .int 0, .int 0]))]) ([(na, .inl (dA 6, 6, .inr (.inr (.inr (.inr (fun _ => none))))))]) ([(ln, .inr (6, [.ref e0, .int 0, .int 0]))] ++ ([(a, .inr (13, [.int 264, .int (nI pl), .long nu, .ref na, .int 0, .ref ln, .ref lt, .ref mk]))] ++ (ws)))))).trans (List.perm_append_comm_assoc ([(mk, .inl (dA 1, 2, .inl (fun _ => 0)))]) ([(na, .inl (dA 6, 6, .inr (.inr (.inr (.inr (fun _ => none))))))]) ([(lt, .inr (6, [.ref e0, .int 0, .int 0]))] ++ ([(ln, .inr (6, [.ref e0, .int 0, .int 0]))] ++ ([(a, .inr (13, [.int 264, .int (nI pl), .long nu, .ref na, .int 0, .ref ln, .ref lt, .ref mk]))] ++ (ws)))))) hD
  have hP := pmP (show List.Perm (α := Nat × va_E) ([(na, .inl (dA 6, 6, .inr (.inr (.inr (.inr (fun _ => none))))))] ++ ([(mk, .inl (dA 1, 2, .inl (fun _ => 0)))] ++ ([(lt, .inr (6, [.ref e0, .int 0, .int 0]))] ++ ([(ln, .inr (6, [.ref e0, .int 0, .int 0]))] ++ ([(a, .inr (13, [.int 264, .int (nI pl), .long nu, .ref na, .int 0, .ref ln, .ref lt, .ref mk]))] ++ (ws)))))) ([(na, .inl (dA 6, 6, .inr (.inr (.inr (.inr (fun _ => none))))))] ++ ([(ln, .inr (6, [.ref e0, .int 0, .int 0]))] ++ ([(mk, .inl (dA 1, 2, .inl (fun _ => 0)))] ++ ([(lt, .inr (6, [.ref e0, .int 0, .int 0]))] ++ ([(a, .inr (13, [.int 264, .int (nI pl), .long nu, .ref na, .int 0, .ref ln, .ref lt, .ref mk]))] ++ (ws)))))) from List.Perm.append_left ([(na, .inl (dA 6, 6, .inr (.inr (.inr (.inr (fun _ => none))))))]) ((List.Perm.append_left ([(mk, .inl (dA 1, 2, .inl (fun _ => 0)))]) (List.perm_append_comm_assoc ([(lt, .inr (6, [.ref e0, .int 0, .int 0]))]) ([(ln, .inr (6, [.ref e0, .int 0, .int 0]))]) ([(a, .inr (13, [.int 264, .int (nI pl), .long nu, .ref na, .int 0, .ref ln, .ref lt, .ref mk]))] ++ (ws)))).trans (List.perm_append_comm_assoc ([(mk, .inl (dA 1, 2, .inl (fun _ => 0)))]) ([(ln, .inr (6, [.ref e0, .int 0, .int 0]))]) ([(lt, .inr (6, [.ref e0, .int 0, .int 0]))] ++ ([(a, .inr (13, [.int 264, .int (nI pl), .long nu, .ref na, .int 0, .ref ln, .ref lt, .ref mk]))] ++ (ws)))))) hP
  have hD := pmD (show List.Perm (α := Nat × va_E) ([(na, .inl (dA 6, 6, .inr (.inr (.inr (.inr (fun _ => none))))))] ++ ([(mk, .inl (dA 1, 2, .inl (fun _ => 0)))] ++ ([(lt, .inr (6, [.ref e0, .int 0, .int 0]))] ++ ([(ln, .inr (6, [.ref e0, .int 0, .int 0]))] ++ ([(a, .inr (13, [.int 264, .int (nI pl), .long nu, .ref na, .int 0, .ref ln, .ref lt, .ref mk]))] ++ (ws)))))) ([(na, .inl (dA 6, 6, .inr (.inr (.inr (.inr (fun _ => none))))))] ++ ([(ln, .inr (6, [.ref e0, .int 0, .int 0]))] ++ ([(mk, .inl (dA 1, 2, .inl (fun _ => 0)))] ++ ([(lt, .inr (6, [.ref e0, .int 0, .int 0]))] ++ ([(a, .inr (13, [.int 264, .int (nI pl), .long nu, .ref na, .int 0, .ref ln, .ref lt, .ref mk]))] ++ (ws)))))) from List.Perm.append_left ([(na, .inl (dA 6, 6, .inr (.inr (.inr (.inr (fun _ => none))))))]) ((List.Perm.append_left ([(mk, .inl (dA 1, 2, .inl (fun _ => 0)))]) (List.perm_append_comm_assoc ([(lt, .inr (6, [.ref e0, .int 0, .int 0]))]) ([(ln, .inr (6, [.ref e0, .int 0, .int 0]))]) ([(a, .inr (13, [.int 264, .int (nI pl), .long nu, .ref na, .int 0, .ref ln, .ref lt, .ref mk]))] ++ (ws)))).trans (List.perm_append_comm_assoc ([(mk, .inl (dA 1, 2, .inl (fun _ => 0)))]) ([(ln, .inr (6, [.ref e0, .int 0, .int 0]))]) ([(lt, .inr (6, [.ref e0, .int 0, .int 0]))] ++ ([(a, .inr (13, [.int 264, .int (nI pl), .long nu, .ref na, .int 0, .ref ln, .ref lt, .ref mk]))] ++ (ws)))))) hD
  have hP := pmP (show List.Perm (α := Nat × va_E) ([(na, .inl (dA 6, 6, .inr (.inr (.inr (.inr (fun _ => none))))))] ++ ([(ln, .inr (6, [.ref e0, .int 0, .int 0]))] ++ ([(mk, .inl (dA 1, 2, .inl (fun _ => 0)))] ++ ([(lt, .inr (6, [.ref e0, .int 0, .int 0]))] ++ ([(a, .inr (13, [.int 264, .int (nI pl), .long nu, .ref na, .int 0, .ref ln, .ref lt, .ref mk]))] ++ (ws)))))) ([(na, .inl (dA 6, 6, .inr (.inr (.inr (.inr (fun _ => none))))))] ++ ([(ln, .inr (6, [.ref e0, .int 0, .int 0]))] ++ ([(lt, .inr (6, [.ref e0, .int 0, .int 0]))] ++ ([(mk, .inl (dA 1, 2, .inl (fun _ => 0)))] ++ ([(a, .inr (13, [.int 264, .int (nI pl), .long nu, .ref na, .int 0, .ref ln, .ref lt, .ref mk]))] ++ (ws)))))) from List.Perm.append_left ([(na, .inl (dA 6, 6, .inr (.inr (.inr (.inr (fun _ => none))))))]) (List.Perm.append_left ([(ln, .inr (6, [.ref e0, .int 0, .int 0]))]) (List.perm_append_comm_assoc ([(mk, .inl (dA 1, 2, .inl (fun _ => 0)))]) ([(lt, .inr (6, [.ref e0, .int 0, .int 0]))]) ([(a, .inr (13, [.int 264, .int (nI pl), .long nu, .ref na, .int 0, .ref ln, .ref lt, .ref mk]))] ++ (ws))))) hP
  have hD := pmD (show List.Perm (α := Nat × va_E) ([(na, .inl (dA 6, 6, .inr (.inr (.inr (.inr (fun _ => none))))))] ++ ([(ln, .inr (6, [.ref e0, .int 0, .int 0]))] ++ ([(mk, .inl (dA 1, 2, .inl (fun _ => 0)))] ++ ([(lt, .inr (6, [.ref e0, .int 0, .int 0]))] ++ ([(a, .inr (13, [.int 264, .int (nI pl), .long nu, .ref na, .int 0, .ref ln, .ref lt, .ref mk]))] ++ (ws)))))) ([(na, .inl (dA 6, 6, .inr (.inr (.inr (.inr (fun _ => none))))))] ++ ([(ln, .inr (6, [.ref e0, .int 0, .int 0]))] ++ ([(lt, .inr (6, [.ref e0, .int 0, .int 0]))] ++ ([(mk, .inl (dA 1, 2, .inl (fun _ => 0)))] ++ ([(a, .inr (13, [.int 264, .int (nI pl), .long nu, .ref na, .int 0, .ref ln, .ref lt, .ref mk]))] ++ (ws)))))) from List.Perm.append_left ([(na, .inl (dA 6, 6, .inr (.inr (.inr (.inr (fun _ => none))))))]) (List.Perm.append_left ([(ln, .inr (6, [.ref e0, .int 0, .int 0]))]) (List.perm_append_comm_assoc ([(mk, .inl (dA 1, 2, .inl (fun _ => 0)))]) ([(lt, .inr (6, [.ref e0, .int 0, .int 0]))]) ([(a, .inr (13, [.int 264, .int (nI pl), .long nu, .ref na, .int 0, .ref ln, .ref lt, .ref mk]))] ++ (ws))))) hD
  exact rfV hx hb hr hlk hS (⟨na, ln, lt, mk⟩) trivial hP hD (show 0 + 1 + 1 + 0 + 1 + 0 + 1 ≤ 4 by omega) (show 0 + 6 + 3 + 0 + 3 + 0 + 2 ≤ 14 by omega) d_E_init_89
theorem d_E_init_30 : decode prog_10_method_1_code 30 = .ok (.iconst 0, 1) := by decide +kernel
theorem d_E_init_44 : decode prog_10_method_1_code 44 = .ok (.iconst 0, 1) := by decide +kernel
theorem d_E_init_83 : decode prog_10_method_1_code 83 = .ok (.iconst 0, 1) := by decide +kernel
set_option maxHeartbeats 4000000 in
set_option maxRecDepth 100000 in
theorem v_Einit_o (l : Launch) (D : va_G) (dA : Nat → ClassId) (sz : Nat) (e0 mi : Nat) (ws : va_W) (a : Nat) (kd : Int32) (pl : Nat) (nu : Int64) (hk : ¬ kd = 264) : Met l ⟨"SeriesVault$Step", "<init>", "(IIJ)V"⟩ [Cond.code ⟨"SeriesVault$Step", "<init>", "(IIJ)V"⟩ prog_10_method_1_code 6 none] { frames := 4, cells := 4, slots := 6, locals := 72 } (pCy D dA e0 mi [.ref a, .int kd, .int (nI pl), .long nu] ([(a, .inr (13, [.int 0, .int 0, .long 0, .null, .int 0, .null, .null, .null]))] ++ (ws)) sz) (va_Qv (fun (u9 : Nat × Nat × Nat × Nat) => True) (fun (u9 : Nat × Nat × Nat × Nat) t9 => bW D (va_A ([(a, .inr (13, [.int 0, .int 0, .long 0, .null, .int 0, .null, .null, .null]))] ++ (ws)) sz) ([(u9.1, .inl (dA 6, 0, .inr (.inr (.inr (.inr (fun _ => none))))))] ++ ([(u9.2.1, .inr (6, [.ref e0, .int 0, .int 0]))] ++ ([(u9.2.2.1, .inr (6, [.ref e0, .int 0, .int 0]))] ++ ([(u9.2.2.2, .inl (dA 1, 0, .inl (fun _ => 0)))] ++ ([(a, .inr (13, [.int kd, .int (nI pl), .long nu, .ref u9.1, .int 0, .ref u9.2.1, .ref u9.2.2.1, .ref u9.2.2.2]))] ++ (ws)))))) t9) (va_A ([(a, .inr (13, [.int 0, .int 0, .long 0, .null, .int 0, .null, .null, .null]))] ++ (ws)) sz)) 4 6 (va_A ([(a, .inr (13, [.int 0, .int 0, .long 0, .null, .int 0, .null, .null, .null]))] ++ (ws)) sz) := by
  refine mkY (y := ⟨"SeriesVault$Step", "<init>", "(IIJ)V"⟩) (cc := prog_10_method_1_code) (maxL := 6) (av := [.ref a, .int kd, .int (nI pl), .long nu]) (ws := [(a, .inr (13, [.int 0, .int 0, .long 0, .null, .int 0, .null, .null, .null]))] ++ (ws)) (sz := sz) (Qc := fun A => va_Qv (fun (u9 : Nat × Nat × Nat × Nat) => True) (fun (u9 : Nat × Nat × Nat × Nat) t9 => bW D A ([(u9.1, .inl (dA 6, 0, .inr (.inr (.inr (.inr (fun _ => none))))))] ++ ([(u9.2.1, .inr (6, [.ref e0, .int 0, .int 0]))] ++ ([(u9.2.2.1, .inr (6, [.ref e0, .int 0, .int 0]))] ++ ([(u9.2.2.2, .inl (dA 1, 0, .inl (fun _ => 0)))] ++ ([(a, .inr (13, [.int kd, .int (nI pl), .long nu, .ref u9.1, .int 0, .ref u9.2.1, .ref u9.2.2.1, .ref u9.2.2.2]))] ++ (ws)))))) t9) A) (by decide) (Nat.le_of_ble_eq_true rfl) ?_
  intro A p e s m below meth c ls hsz hZ hT hM hB
  obtain ⟨hx, hb, hr, hml, hown, hin, hlk, hE, hK, hP, hD, hS, hA, hN, hl⟩ := hB
  have hown : s.vm.findClass "SeriesVault$Step" = some m.cls := hown
  have hl : lv_has ls 6 [(0, .ref a), (1, .int kd), (2, .int (nI pl)), (3, .long nu)] := hl
  obtain ⟨H, hH⟩ : ∃ z, z = s.heap := ⟨_, rfl⟩
  have hP : va_P D vwCl ([(a, .inr (13, [.int 0, .int 0, .long 0, .null, .int 0, .null, .null, .null]))] ++ (ws)) H := by rw [hH]; exact hP
  have hS : va_S A s.heap H [] := by rw [hH]; exact hS
  rw [← hH]
  refine lv_aload_n hx hb d_E_init_0 rfl (lv_at hl 0 rfl) ?_
  refine oI hx hb hown hE w1528 w182 w183 (hl.1.trans hml.symm) d_E_init_1 (Nat.le_of_ble_eq_true rfl) (Nat.le_of_ble_eq_true rfl) ?_
  refine lv_aload_n hx hb d_E_init_4 rfl (lv_at hl 0 rfl) ?_
  refine lv_iload_n hx hb d_E_init_5 rfl (lv_at hl 1 rfl) ?_
  refine pFF (v := .int kd) hx hb hown hE hK hP hD hS 0 rfl rfl layE tyE tokE nmE 0 (by decide) w1529 rfl hin rfl rfl rfl (Nat.le_of_ble_eq_true rfl) d_E_init_6 (fun H locs hP hD hS => ?_)
  have hP : va_P D vwCl ([(a, .inr (13, [.int kd, .int 0, .long 0, .null, .int 0, .null, .null, .null]))] ++ (ws)) H := hP
  have hD : va_D A ([(a, .inr (13, [.int kd, .int 0, .long 0, .null, .int 0, .null, .null, .null]))] ++ (ws)) := hD
  refine lv_aload_n hx hb d_E_init_9 rfl (lv_at hl 0 rfl) ?_
  refine lv_iload_n hx hb d_E_init_10 rfl (lv_at hl 2 rfl) ?_
  refine pFF (v := .int (nI pl)) hx hb hown hE hK hP hD hS 0 rfl rfl layE tyE tokE nmE 1 (by decide) w1530 rfl hin rfl rfl rfl (Nat.le_of_ble_eq_true rfl) d_E_init_11 (fun H locs hP hD hS => ?_)
  have hP : va_P D vwCl ([(a, .inr (13, [.int kd, .int (nI pl), .long 0, .null, .int 0, .null, .null, .null]))] ++ (ws)) H := hP
  have hD : va_D A ([(a, .inr (13, [.int kd, .int (nI pl), .long 0, .null, .int 0, .null, .null, .null]))] ++ (ws)) := hD
  refine lv_aload_n hx hb d_E_init_14 rfl (lv_at hl 0 rfl) ?_
  refine lv_lload_n hx hb d_E_init_15 rfl (lv_at hl 3 rfl) ?_
  refine pFF (v := .long nu) hx hb hown hE hK hP hD hS 0 rfl rfl layE tyE tokE nmE 2 (by decide) w1531 rfl hin rfl rfl rfl (Nat.le_of_ble_eq_true rfl) d_E_init_16 (fun H locs hP hD hS => ?_)
  have hP : va_P D vwCl ([(a, .inr (13, [.int kd, .int (nI pl), .long nu, .null, .int 0, .null, .null, .null]))] ++ (ws)) H := hP
  have hD : va_D A ([(a, .inr (13, [.int kd, .int (nI pl), .long nu, .null, .int 0, .null, .null, .null]))] ++ (ws)) := hD
  refine lv_iload_n hx hb d_E_init_19 rfl (lv_at hl 1 rfl) ?_
  refine lv_sipush (v := 264) hx hb d_E_init_20 (by decide) ?_
  refine lv_icmp_ne hx hb d_E_init_23 (tgt := 30) rfl (fun _ => ?_) (fun h9 => absurd h9 hk)
  refine lv_iconst (v := 0) hx hb d_E_init_30 (by decide) ?_
  refine lv_istore hx hb d_E_init_31 hl (by decide) rfl (fun ls hl => ?_)
  have hl : lv_has ls 6 [(5, .int 0), (0, .ref a), (1, .int kd), (2, .int (nI pl)), (3, .long nu)] := hl
  refine lv_aload_n hx hb d_E_init_33 rfl (lv_at hl 1 rfl) ?_
  refine lv_iload hx hb d_E_init_34 (lv_at hl 0 rfl) ?_
  refine lv_if_eq hx hb d_E_init_36 (tgt := 44) rfl (fun _ => ?_) (fun h9 => absurd (by decide) h9)
  refine lv_iconst (v := 0) hx hb d_E_init_44 (by decide) ?_
  refine nnQ (N' := 0) hx hb hown hE w1492 w783 hK hP hD hS hA 6 rfl (by omega) (show 0 * 4 ≤ 536870912 by omega) (show 0 + 1 ≤ 4 by omega) (show 0 + 0 ≤ 6 by omega) d_E_init_45 (fun na H hP hD hS => ?_)
  have hP : va_P D vwCl ([(na, .inl (dA 6, 0, .inr (.inr (.inr (.inr (fun _ => none))))))] ++ ([(a, .inr (13, [.int kd, .int (nI pl), .long nu, .null, .int 0, .null, .null, .null]))] ++ (ws))) H := hP
  have hD : va_D A ([(na, .inl (dA 6, 0, .inr (.inr (.inr (.inr (fun _ => none))))))] ++ ([(a, .inr (13, [.int kd, .int (nI pl), .long nu, .null, .int 0, .null, .null, .null]))] ++ (ws))) := hD
  refine pFF (v := .ref na) hx hb hown hE hK hP hD hS 1 rfl rfl layE tyE tokE nmE 3 (by decide) w1532 rfl hin rfl rfl rfl (Nat.le_of_ble_eq_true rfl) d_E_init_48 (fun H locs hP hD hS => ?_)
  have hP : va_P D vwCl ([(na, .inl (dA 6, 0, .inr (.inr (.inr (.inr (fun _ => none))))))] ++ ([(a, .inr (13, [.int kd, .int (nI pl), .long nu, .ref na, .int 0, .null, .null, .null]))] ++ (ws))) H := hP
  have hD : va_D A ([(na, .inl (dA 6, 0, .inr (.inr (.inr (.inr (fun _ => none))))))] ++ ([(a, .inr (13, [.int kd, .int (nI pl), .long nu, .ref na, .int 0, .null, .null, .null]))] ++ (ws))) := hD
  refine lv_aload_n hx hb d_E_init_51 rfl (lv_at hl 1 rfl) ?_
  refine nOf hx hb hown hE hK hP hD hS hA (ci := 6) rfl layL tyL tokL w1533 w792 w680 (fs := [.null, .int 0, .int 0]) dfL (show (0 + 1) + 1 ≤ 4 by omega) (show (0 + 0) + 3 ≤ 6 by omega) d_E_init_52 (fun ln H hP hD hS => ?_)
  have hP : va_P D vwCl ([(ln, .inr (6, [.null, .int 0, .int 0]))] ++ ([(na, .inl (dA 6, 0, .inr (.inr (.inr (.inr (fun _ => none))))))] ++ ([(a, .inr (13, [.int kd, .int (nI pl), .long nu, .ref na, .int 0, .null, .null, .null]))] ++ (ws)))) H := hP
  have hD : va_D A ([(ln, .inr (6, [.null, .int 0, .int 0]))] ++ ([(na, .inl (dA 6, 0, .inr (.inr (.inr (.inr (fun _ => none))))))] ++ ([(a, .inr (13, [.int kd, .int (nI pl), .long nu, .ref na, .int 0, .null, .null, .null]))] ++ (ws)))) := hD
  refine lv_dup hx hb d_E_init_55 rfl ?_
  refine jkV (wr := []) (rnIy (As := []) (rest := [.ref ln, .ref a]) hx hb hml hown hE hK hZ hT hM hS (hN _ _ hS) hP hD (v_Linit l D dA H.size e0 mi ([(na, .inl (dA 6, 0, .inr (.inr (.inr (.inr (fun _ => none))))))] ++ ([(a, .inr (13, [.int kd, .int (nI pl), .long nu, .ref na, .int 0, .null, .null, .null]))] ++ (ws))) ln) w794 w1534 w795 w680 rfl rfl rfl ⟨⟨by decide, by decide⟩, rfl⟩ ⟨(Nat.le_of_ble_eq_true rfl), (Nat.le_of_ble_eq_true rfl)⟩ rfl hl.1 rfl (Nat.le_of_ble_eq_true rfl) d_E_init_56 ⟨(show 0 + 1 + 1 + 0 ≤ 4 by omega), (show 0 + 0 + 3 + 0 ≤ 6 by omega)⟩) hP hD hS hA (fun u2 H locs hp9 hP hD hS => ?_)
  have hP : va_P D vwCl ([(ln, .inr (6, [.ref e0, .int 0, .int 0]))] ++ ([(na, .inl (dA 6, 0, .inr (.inr (.inr (.inr (fun _ => none))))))] ++ ([(a, .inr (13, [.int kd, .int (nI pl), .long nu, .ref na, .int 0, .null, .null, .null]))] ++ (ws)))) H := hP
  have hD : va_D A ([(ln, .inr (6, [.ref e0, .int 0, .int 0]))] ++ ([(na, .inl (dA 6, 0, .inr (.inr (.inr (.inr (fun _ => none))))))] ++ ([(a, .inr (13, [.int kd, .int (nI pl), .long nu, .ref na, .int 0, .null, .null, .null]))] ++ (ws)))) := hD
  refine pFF (v := .ref ln) hx hb hown hE hK hP hD hS 2 rfl rfl layE tyE tokE nmE 5 (by decide) w1482 rfl hin rfl rfl rfl (Nat.le_of_ble_eq_true rfl) d_E_init_59 (fun H locs hP hD hS => ?_)
  have hP : va_P D vwCl ([(ln, .inr (6, [.ref e0, .int 0, .int 0]))] ++ ([(na, .inl (dA 6, 0, .inr (.inr (.inr (.inr (fun _ => none))))))] ++ ([(a, .inr (13, [.int kd, .int (nI pl), .long nu, .ref na, .int 0, .ref ln, .null, .null]))] ++ (ws)))) H := hP
  have hD : va_D A ([(ln, .inr (6, [.ref e0, .int 0, .int 0]))] ++ ([(na, .inl (dA 6, 0, .inr (.inr (.inr (.inr (fun _ => none))))))] ++ ([(a, .inr (13, [.int kd, .int (nI pl), .long nu, .ref na, .int 0, .ref ln, .null, .null]))] ++ (ws)))) := hD
  refine lv_aload_n hx hb d_E_init_62 rfl (lv_at hl 1 rfl) ?_
  refine nOf hx hb hown hE hK hP hD hS hA (ci := 6) rfl layL tyL tokL w1533 w792 w680 (fs := [.null, .int 0, .int 0]) dfL (show (0 + 1 + 1 + 0) + 1 ≤ 4 by omega) (show (0 + 0 + 3 + 0) + 3 ≤ 6 by omega) d_E_init_63 (fun lt H hP hD hS => ?_)
  have hP : va_P D vwCl ([(lt, .inr (6, [.null, .int 0, .int 0]))] ++ ([(ln, .inr (6, [.ref e0, .int 0, .int 0]))] ++ ([(na, .inl (dA 6, 0, .inr (.inr (.inr (.inr (fun _ => none))))))] ++ ([(a, .inr (13, [.int kd, .int (nI pl), .long nu, .ref na, .int 0, .ref ln, .null, .null]))] ++ (ws))))) H := hP
  have hD : va_D A ([(lt, .inr (6, [.null, .int 0, .int 0]))] ++ ([(ln, .inr (6, [.ref e0, .int 0, .int 0]))] ++ ([(na, .inl (dA 6, 0, .inr (.inr (.inr (.inr (fun _ => none))))))] ++ ([(a, .inr (13, [.int kd, .int (nI pl), .long nu, .ref na, .int 0, .ref ln, .null, .null]))] ++ (ws))))) := hD
  refine lv_dup hx hb d_E_init_66 rfl ?_
  refine jkV (wr := []) (rnIy (As := []) (rest := [.ref lt, .ref a]) hx hb hml hown hE hK hZ hT hM hS (hN _ _ hS) hP hD (v_Linit l D dA H.size e0 mi ([(ln, .inr (6, [.ref e0, .int 0, .int 0]))] ++ ([(na, .inl (dA 6, 0, .inr (.inr (.inr (.inr (fun _ => none))))))] ++ ([(a, .inr (13, [.int kd, .int (nI pl), .long nu, .ref na, .int 0, .ref ln, .null, .null]))] ++ (ws)))) lt) w794 w1534 w795 w680 rfl rfl rfl ⟨⟨by decide, by decide⟩, rfl⟩ ⟨(Nat.le_of_ble_eq_true rfl), (Nat.le_of_ble_eq_true rfl)⟩ rfl hl.1 rfl (Nat.le_of_ble_eq_true rfl) d_E_init_67 ⟨(show 0 + 1 + 1 + 0 + 1 + 0 ≤ 4 by omega), (show 0 + 0 + 3 + 0 + 3 + 0 ≤ 6 by omega)⟩) hP hD hS hA (fun u4 H locs hp9 hP hD hS => ?_)
  have hP : va_P D vwCl ([(lt, .inr (6, [.ref e0, .int 0, .int 0]))] ++ ([(ln, .inr (6, [.ref e0, .int 0, .int 0]))] ++ ([(na, .inl (dA 6, 0, .inr (.inr (.inr (.inr (fun _ => none))))))] ++ ([(a, .inr (13, [.int kd, .int (nI pl), .long nu, .ref na, .int 0, .ref ln, .null, .null]))] ++ (ws))))) H := hP
  have hD : va_D A ([(lt, .inr (6, [.ref e0, .int 0, .int 0]))] ++ ([(ln, .inr (6, [.ref e0, .int 0, .int 0]))] ++ ([(na, .inl (dA 6, 0, .inr (.inr (.inr (.inr (fun _ => none))))))] ++ ([(a, .inr (13, [.int kd, .int (nI pl), .long nu, .ref na, .int 0, .ref ln, .null, .null]))] ++ (ws))))) := hD
  refine pFF (v := .ref lt) hx hb hown hE hK hP hD hS 3 rfl rfl layE tyE tokE nmE 6 (by decide) w1494 rfl hin rfl rfl rfl (Nat.le_of_ble_eq_true rfl) d_E_init_70 (fun H locs hP hD hS => ?_)
  have hP : va_P D vwCl ([(lt, .inr (6, [.ref e0, .int 0, .int 0]))] ++ ([(ln, .inr (6, [.ref e0, .int 0, .int 0]))] ++ ([(na, .inl (dA 6, 0, .inr (.inr (.inr (.inr (fun _ => none))))))] ++ ([(a, .inr (13, [.int kd, .int (nI pl), .long nu, .ref na, .int 0, .ref ln, .ref lt, .null]))] ++ (ws))))) H := hP
  have hD : va_D A ([(lt, .inr (6, [.ref e0, .int 0, .int 0]))] ++ ([(ln, .inr (6, [.ref e0, .int 0, .int 0]))] ++ ([(na, .inl (dA 6, 0, .inr (.inr (.inr (.inr (fun _ => none))))))] ++ ([(a, .inr (13, [.int kd, .int (nI pl), .long nu, .ref na, .int 0, .ref ln, .ref lt, .null]))] ++ (ws))))) := hD
  refine lv_aload_n hx hb d_E_init_73 rfl (lv_at hl 1 rfl) ?_
  refine lv_iload hx hb d_E_init_74 (lv_at hl 0 rfl) ?_
  refine lv_if_eq hx hb d_E_init_76 (tgt := 83) rfl (fun _ => ?_) (fun h9 => absurd (by decide) h9)
  refine lv_iconst (v := 0) hx hb d_E_init_83 (by decide) ?_
  refine nnA (atype := .int) (ty := .int) (N' := 0) (a0 := (0, .inl (fun _ => 0))) hx hb hE rfl w184 hK hP hD hS hA 1 rfl (fun _ => rfl) (by omega) (show 0 * 4 ≤ 536870912 by omega) (show (0 + 1 + 1 + 0 + 1 + 0) + 1 ≤ 4 by omega) (show (0 + 0 + 3 + 0 + 3 + 0) + 0 ≤ 6 by omega) d_E_init_84 (fun mk H hP hD hS => ?_)
  have hP : va_P D vwCl ([(mk, .inl (dA 1, 0, .inl (fun _ => 0)))] ++ ([(lt, .inr (6, [.ref e0, .int 0, .int 0]))] ++ ([(ln, .inr (6, [.ref e0, .int 0, .int 0]))] ++ ([(na, .inl (dA 6, 0, .inr (.inr (.inr (.inr (fun _ => none))))))] ++ ([(a, .inr (13, [.int kd, .int (nI pl), .long nu, .ref na, .int 0, .ref ln, .ref lt, .null]))] ++ (ws)))))) H := hP
  have hD : va_D A ([(mk, .inl (dA 1, 0, .inl (fun _ => 0)))] ++ ([(lt, .inr (6, [.ref e0, .int 0, .int 0]))] ++ ([(ln, .inr (6, [.ref e0, .int 0, .int 0]))] ++ ([(na, .inl (dA 6, 0, .inr (.inr (.inr (.inr (fun _ => none))))))] ++ ([(a, .inr (13, [.int kd, .int (nI pl), .long nu, .ref na, .int 0, .ref ln, .ref lt, .null]))] ++ (ws)))))) := hD
  refine pF (v := .ref mk) hx hb hown hE hK hP hD hS 4 rfl rfl layE tyE tokE nmE 7 (by decide) w1487 rfl rfl rfl (Nat.le_of_ble_eq_true rfl) d_E_init_86 (fun H locs hP hD hS => ?_)
  have hP : va_P D vwCl ([(mk, .inl (dA 1, 0, .inl (fun _ => 0)))] ++ ([(lt, .inr (6, [.ref e0, .int 0, .int 0]))] ++ ([(ln, .inr (6, [.ref e0, .int 0, .int 0]))] ++ ([(na, .inl (dA 6, 0, .inr (.inr (.inr (.inr (fun _ => none))))))] ++ ([(a, .inr (13, [.int kd, .int (nI pl), .long nu, .ref na, .int 0, .ref ln, .ref lt, .ref mk]))] ++ (ws)))))) H := hP
  have hD : va_D A ([(mk, .inl (dA 1, 0, .inl (fun _ => 0)))] ++ ([(lt, .inr (6, [.ref e0, .int 0, .int 0]))] ++ ([(ln, .inr (6, [.ref e0, .int 0, .int 0]))] ++ ([(na, .inl (dA 6, 0, .inr (.inr (.inr (.inr (fun _ => none))))))] ++ ([(a, .inr (13, [.int kd, .int (nI pl), .long nu, .ref na, .int 0, .ref ln, .ref lt, .ref mk]))] ++ (ws)))))) := hD
  have hP := pmP (show List.Perm (α := Nat × va_E) ([(mk, .inl (dA 1, 0, .inl (fun _ => 0)))] ++ ([(lt, .inr (6, [.ref e0, .int 0, .int 0]))] ++ ([(ln, .inr (6, [.ref e0, .int 0, .int 0]))] ++ ([(na, .inl (dA 6, 0, .inr (.inr (.inr (.inr (fun _ => none))))))] ++ ([(a, .inr (13, [.int kd, .int (nI pl), .long nu, .ref na, .int 0, .ref ln, .ref lt, .ref mk]))] ++ (ws)))))) ([(na, .inl (dA 6, 0, .inr (.inr (.inr (.inr (fun _ => none))))))] ++ ([(mk, .inl (dA 1, 0, .inl (fun _ => 0)))] ++ ([(lt, .inr (6, [.ref e0, .int 0, .int 0]))] ++ ([(ln, .inr (6, [.ref e0, .int 0, .int 0]))] ++ ([(a, .inr (13, [.int kd, .int (nI pl), .long nu, .ref na, .int 0, .ref ln, .ref lt, .ref mk]))] ++ (ws)))))) from (List.Perm.append_left ([(mk, .inl (dA 1, 0, .inl (fun _ => 0)))]) ((List.Perm.append_left ([(lt, .inr (6, [.ref e0, .int 0, .int 0]))]) (List.perm_append_comm_assoc ([(ln, .inr (6, [.ref e0, .int 0, .int 0]))]) ([(na, .inl (dA 6, 0, .inr (.inr (.inr (.inr (fun _ => none))))))]) ([(a, .inr (13, [.int kd, .int (nI pl), .long nu, .ref na, .int 0, .ref ln, .ref lt, .ref mk]))] ++ (ws)))).trans (List.perm_append_comm_assoc ([(lt, .inr (6, [.ref e0, .int 0, .int 0]))]) ([(na, .inl (dA 6, 0, .inr (.inr (.inr (.inr (fun _ => none))))))]) ([(ln, .inr (6, [.ref e0, .int 0, .int 0]))] ++ ([(a, .inr (13, [.int kd, .int (nI pl), .long nu, .ref na, .int 0, .ref ln, .ref lt, .ref mk]))] ++ (ws)))))).trans (List.perm_append_comm_assoc ([(mk, .inl (dA 1, 0, .inl (fun _ => 0)))]) ([(na, .inl (dA 6, 0, .inr (.inr (.inr (.inr (fun _ => none))))))]) ([(lt, .inr (6, [.ref e0, .int 0, .int 0]))] ++ ([(ln, .inr (6, [.ref e0, .int 0, .int 0]))] ++ ([(a, .inr (13, [.int kd, .int (nI pl), .long nu, .ref na, .int 0, .ref ln, .ref lt, .ref mk]))] ++ (ws)))))) hP
  have hD := pmD (show List.Perm (α := Nat × va_E) ([(mk, .inl (dA 1, 0, .inl (fun _ => 0)))] ++ ([(lt, .inr (6, [.ref e0, .int 0, .int 0]))] ++ ([(ln, .inr (6, [.ref e0, .int 0, .int 0]))] ++ ([(na, .inl (dA 6, 0, .inr (.inr (.inr (.inr (fun _ => none))))))] ++ ([(a, .inr (13, [.int kd, .int (nI pl), .long nu, .ref na, .int 0, .ref ln, .ref lt, .ref mk]))] ++ (ws)))))) ([(na, .inl (dA 6, 0, .inr (.inr (.inr (.inr (fun _ => none))))))] ++ ([(mk, .inl (dA 1, 0, .inl (fun _ => 0)))] ++ ([(lt, .inr (6, [.ref e0, .int 0, .int 0]))] ++ ([(ln, .inr (6, [.ref e0, .int 0, .int 0]))] ++ ([(a, .inr (13, [.int kd, .int (nI pl), .long nu, .ref na, .int 0, .ref ln, .ref lt, .ref mk]))] ++ (ws)))))) from (List.Perm.append_left ([(mk, .inl (dA 1, 0, .inl (fun _ => 0)))]) ((List.Perm.append_left ([(lt, .inr (6, [.ref e0, .int 0, .int 0]))]) (List.perm_append_comm_assoc ([(ln, .inr (6, [.ref e0, .int 0, .int 0]))]) ([(na, .inl (dA 6, 0, .inr (.inr (.inr (.inr (fun _ => none))))))]) ([(a, .inr (13, [.int kd, .int (nI pl), .long nu, .ref na, .int 0, .ref ln, .ref lt, .ref mk]))] ++ (ws)))).trans (List.perm_append_comm_assoc ([(lt, .inr (6, [.ref e0, .int 0, .int 0]))]) ([(na, .inl (dA 6, 0, .inr (.inr (.inr (.inr (fun _ => none))))))]) ([(ln, .inr (6, [.ref e0, .int 0, .int 0]))] ++ ([(a, .inr (13, [.int kd, .int (nI pl), .long nu, .ref na, .int 0, .ref ln, .ref lt, .ref mk]))] ++ (ws)))))).trans (List.perm_append_comm_assoc ([(mk, .inl (dA 1, 0, .inl (fun _ => 0)))]) ([(na, .inl (dA 6, 0, .inr (.inr (.inr (.inr (fun _ => none))))))]) ([(lt, .inr (6, [.ref e0, .int 0, .int 0]))] ++ ([(ln, .inr (6, [.ref e0, .int 0, .int 0]))] ++ ([(a, .inr (13, [.int kd, .int (nI pl), .long nu, .ref na, .int 0, .ref ln, .ref lt, .ref mk]))] ++ (ws)))))) hD
  have hP := pmP (show List.Perm (α := Nat × va_E) ([(na, .inl (dA 6, 0, .inr (.inr (.inr (.inr (fun _ => none))))))] ++ ([(mk, .inl (dA 1, 0, .inl (fun _ => 0)))] ++ ([(lt, .inr (6, [.ref e0, .int 0, .int 0]))] ++ ([(ln, .inr (6, [.ref e0, .int 0, .int 0]))] ++ ([(a, .inr (13, [.int kd, .int (nI pl), .long nu, .ref na, .int 0, .ref ln, .ref lt, .ref mk]))] ++ (ws)))))) ([(na, .inl (dA 6, 0, .inr (.inr (.inr (.inr (fun _ => none))))))] ++ ([(ln, .inr (6, [.ref e0, .int 0, .int 0]))] ++ ([(mk, .inl (dA 1, 0, .inl (fun _ => 0)))] ++ ([(lt, .inr (6, [.ref e0, .int 0, .int 0]))] ++ ([(a, .inr (13, [.int kd, .int (nI pl), .long nu, .ref na, .int 0, .ref ln, .ref lt, .ref mk]))] ++ (ws)))))) from List.Perm.append_left ([(na, .inl (dA 6, 0, .inr (.inr (.inr (.inr (fun _ => none))))))]) ((List.Perm.append_left ([(mk, .inl (dA 1, 0, .inl (fun _ => 0)))]) (List.perm_append_comm_assoc ([(lt, .inr (6, [.ref e0, .int 0, .int 0]))]) ([(ln, .inr (6, [.ref e0, .int 0, .int 0]))]) ([(a, .inr (13, [.int kd, .int (nI pl), .long nu, .ref na, .int 0, .ref ln, .ref lt, .ref mk]))] ++ (ws)))).trans (List.perm_append_comm_assoc ([(mk, .inl (dA 1, 0, .inl (fun _ => 0)))]) ([(ln, .inr (6, [.ref e0, .int 0, .int 0]))]) ([(lt, .inr (6, [.ref e0, .int 0, .int 0]))] ++ ([(a, .inr (13, [.int kd, .int (nI pl), .long nu, .ref na, .int 0, .ref ln, .ref lt, .ref mk]))] ++ (ws)))))) hP
  have hD := pmD (show List.Perm (α := Nat × va_E) ([(na, .inl (dA 6, 0, .inr (.inr (.inr (.inr (fun _ => none))))))] ++ ([(mk, .inl (dA 1, 0, .inl (fun _ => 0)))] ++ ([(lt, .inr (6, [.ref e0, .int 0, .int 0]))] ++ ([(ln, .inr (6, [.ref e0, .int 0, .int 0]))] ++ ([(a, .inr (13, [.int kd, .int (nI pl), .long nu, .ref na, .int 0, .ref ln, .ref lt, .ref mk]))] ++ (ws)))))) ([(na, .inl (dA 6, 0, .inr (.inr (.inr (.inr (fun _ => none))))))] ++ ([(ln, .inr (6, [.ref e0, .int 0, .int 0]))] ++ ([(mk, .inl (dA 1, 0, .inl (fun _ => 0)))] ++ ([(lt, .inr (6, [.ref e0, .int 0, .int 0]))] ++ ([(a, .inr (13, [.int kd, .int (nI pl), .long nu, .ref na, .int 0, .ref ln, .ref lt, .ref mk]))] ++ (ws)))))) from List.Perm.append_left ([(na, .inl (dA 6, 0, .inr (.inr (.inr (.inr (fun _ => none))))))]) ((List.Perm.append_left ([(mk, .inl (dA 1, 0, .inl (fun _ => 0)))]) (List.perm_append_comm_assoc ([(lt, .inr (6, [.ref e0, .int 0, .int 0]))]) ([(ln, .inr (6, [.ref e0, .int 0, .int 0]))]) ([(a, .inr (13, [.int kd, .int (nI pl), .long nu, .ref na, .int 0, .ref ln, .ref lt, .ref mk]))] ++ (ws)))).trans (List.perm_append_comm_assoc ([(mk, .inl (dA 1, 0, .inl (fun _ => 0)))]) ([(ln, .inr (6, [.ref e0, .int 0, .int 0]))]) ([(lt, .inr (6, [.ref e0, .int 0, .int 0]))] ++ ([(a, .inr (13, [.int kd, .int (nI pl), .long nu, .ref na, .int 0, .ref ln, .ref lt, .ref mk]))] ++ (ws)))))) hD
  have hP := pmP (show List.Perm (α := Nat × va_E) ([(na, .inl (dA 6, 0, .inr (.inr (.inr (.inr (fun _ => none))))))] ++ ([(ln, .inr (6, [.ref e0, .int 0, .int 0]))] ++ ([(mk, .inl (dA 1, 0, .inl (fun _ => 0)))] ++ ([(lt, .inr (6, [.ref e0, .int 0, .int 0]))] ++ ([(a, .inr (13, [.int kd, .int (nI pl), .long nu, .ref na, .int 0, .ref ln, .ref lt, .ref mk]))] ++ (ws)))))) ([(na, .inl (dA 6, 0, .inr (.inr (.inr (.inr (fun _ => none))))))] ++ ([(ln, .inr (6, [.ref e0, .int 0, .int 0]))] ++ ([(lt, .inr (6, [.ref e0, .int 0, .int 0]))] ++ ([(mk, .inl (dA 1, 0, .inl (fun _ => 0)))] ++ ([(a, .inr (13, [.int kd, .int (nI pl), .long nu, .ref na, .int 0, .ref ln, .ref lt, .ref mk]))] ++ (ws)))))) from List.Perm.append_left ([(na, .inl (dA 6, 0, .inr (.inr (.inr (.inr (fun _ => none))))))]) (List.Perm.append_left ([(ln, .inr (6, [.ref e0, .int 0, .int 0]))]) (List.perm_append_comm_assoc ([(mk, .inl (dA 1, 0, .inl (fun _ => 0)))]) ([(lt, .inr (6, [.ref e0, .int 0, .int 0]))]) ([(a, .inr (13, [.int kd, .int (nI pl), .long nu, .ref na, .int 0, .ref ln, .ref lt, .ref mk]))] ++ (ws))))) hP
  have hD := pmD (show List.Perm (α := Nat × va_E) ([(na, .inl (dA 6, 0, .inr (.inr (.inr (.inr (fun _ => none))))))] ++ ([(ln, .inr (6, [.ref e0, .int 0, .int 0]))] ++ ([(mk, .inl (dA 1, 0, .inl (fun _ => 0)))] ++ ([(lt, .inr (6, [.ref e0, .int 0, .int 0]))] ++ ([(a, .inr (13, [.int kd, .int (nI pl), .long nu, .ref na, .int 0, .ref ln, .ref lt, .ref mk]))] ++ (ws)))))) ([(na, .inl (dA 6, 0, .inr (.inr (.inr (.inr (fun _ => none))))))] ++ ([(ln, .inr (6, [.ref e0, .int 0, .int 0]))] ++ ([(lt, .inr (6, [.ref e0, .int 0, .int 0]))] ++ ([(mk, .inl (dA 1, 0, .inl (fun _ => 0)))] ++ ([(a, .inr (13, [.int kd, .int (nI pl), .long nu, .ref na, .int 0, .ref ln, .ref lt, .ref mk]))] ++ (ws)))))) from List.Perm.append_left ([(na, .inl (dA 6, 0, .inr (.inr (.inr (.inr (fun _ => none))))))]) (List.Perm.append_left ([(ln, .inr (6, [.ref e0, .int 0, .int 0]))]) (List.perm_append_comm_assoc ([(mk, .inl (dA 1, 0, .inl (fun _ => 0)))]) ([(lt, .inr (6, [.ref e0, .int 0, .int 0]))]) ([(a, .inr (13, [.int kd, .int (nI pl), .long nu, .ref na, .int 0, .ref ln, .ref lt, .ref mk]))] ++ (ws))))) hD
  exact rfV hx hb hr hlk hS (⟨na, ln, lt, mk⟩) trivial hP hD (show 0 + 1 + 1 + 0 + 1 + 0 + 1 ≤ 4 by omega) (show 0 + 0 + 3 + 0 + 3 + 0 + 0 ≤ 6 by omega) d_E_init_89
theorem d_E_mayTakeName_0 : decode prog_10_method_2_code 0 = .ok (.iconst 0, 1) := by decide +kernel
theorem d_E_mayTakeName_1 : decode prog_10_method_2_code 1 = .ok (.istore_n 2, 1) := by decide +kernel
theorem d_E_mayTakeName_2 : decode prog_10_method_2_code 2 = .ok (.iload_n 2, 1) := by decide +kernel
theorem d_E_mayTakeName_3 : decode prog_10_method_2_code 3 = .ok (.aload_n 0, 1) := by decide +kernel
theorem d_E_mayTakeName_4 : decode prog_10_method_2_code 4 = .ok (.getfield 44, 3) := by decide +kernel
theorem d_E_mayTakeName_7 : decode prog_10_method_2_code 7 = .ok (.if_icmp .ge 24, 3) := by decide +kernel
theorem d_E_mayTakeName_31 : decode prog_10_method_2_code 31 = .ok (.aload_n 0, 1) := by decide +kernel
theorem d_E_mayTakeName_32 : decode prog_10_method_2_code 32 = .ok (.getfield 44, 3) := by decide +kernel
theorem d_E_mayTakeName_35 : decode prog_10_method_2_code 35 = .ok (.aload_n 0, 1) := by decide +kernel
theorem d_E_mayTakeName_36 : decode prog_10_method_2_code 36 = .ok (.getfield 26, 3) := by decide +kernel
theorem d_E_mayTakeName_39 : decode prog_10_method_2_code 39 = .ok (.arraylength, 1) := by decide +kernel
theorem d_E_mayTakeName_40 : decode prog_10_method_2_code 40 = .ok (.if_icmp .ge 7, 3) := by decide +kernel
theorem d_E_mayTakeName_47 : decode prog_10_method_2_code 47 = .ok (.iconst 0, 1) := by decide +kernel
theorem d_E_mayTakeName_48 : decode prog_10_method_2_code 48 = .ok (.ireturn, 1) := by decide +kernel
theorem d_E_mayTakeName_43 : decode prog_10_method_2_code 43 = .ok (.iconst 1, 1) := by decide +kernel
theorem d_E_mayTakeName_44 : decode prog_10_method_2_code 44 = .ok (.goto 4, 3) := by decide +kernel
theorem d_E_mayTakeName_10 : decode prog_10_method_2_code 10 = .ok (.aload_n 0, 1) := by decide +kernel
theorem d_E_mayTakeName_11 : decode prog_10_method_2_code 11 = .ok (.getfield 26, 3) := by decide +kernel
theorem d_E_mayTakeName_14 : decode prog_10_method_2_code 14 = .ok (.iload_n 2, 1) := by decide +kernel
theorem d_E_mayTakeName_15 : decode prog_10_method_2_code 15 = .ok (.aaload, 1) := by decide +kernel
theorem d_E_mayTakeName_16 : decode prog_10_method_2_code 16 = .ok (.aload_n 1, 1) := by decide +kernel
theorem d_E_mayTakeName_17 : decode prog_10_method_2_code 17 = .ok (.invokevirtual 47, 3) := by decide +kernel
theorem d_E_mayTakeName_20 : decode prog_10_method_2_code 20 = .ok (.ifCond .eq 5, 3) := by decide +kernel
theorem d_E_mayTakeName_25 : decode prog_10_method_2_code 25 = .ok (.iinc 2 1, 3) := by decide +kernel
theorem d_E_mayTakeName_28 : decode prog_10_method_2_code 28 = .ok (.goto (-26), 3) := by decide +kernel
theorem d_E_mayTakeName_23 : decode prog_10_method_2_code 23 = .ok (.iconst 0, 1) := by decide +kernel
theorem d_E_mayTakeName_24 : decode prog_10_method_2_code 24 = .ok (.ireturn, 1) := by decide +kernel
theorem w1535 : Cond.fieldLink "SeriesVault$Step" 44 "SeriesVault$Step" "nameCount" "I" ∈ aW := aw_of (tb_7 (List.mem_of_getElem? (i := 18) rfl)) rfl
set_option maxHeartbeats 4000000 in
set_option maxRecDepth 100000 in
theorem v_EmayTake (l : Launch) (D : va_G) (dA : Nat → ClassId) (sz : Nat) (ws : va_W) (sp : Nat) (kd : Int32) (pl : Nat) (nu : Int64) (na : Nat) (nn : Nat) (ln : Nat) (lt : Nat) (mk : Nat) (fn : Nat → Option Nat) (wb : Nat) (NL : Nat → List Int32) (M : List Int32) (hnm : nmOk dA ws fn nn NL) (hnn : nn ≤ 6) (hwwb : isWo dA ws wb M) (hlwb : M.length ≤ 65536) : Met l ⟨"SeriesVault$Step", "mayTakeName", "(LSeriesVault$Word;)Z"⟩ [Cond.code ⟨"SeriesVault$Step", "mayTakeName", "(LSeriesVault$Word;)Z"⟩ prog_10_method_2_code 3 (some FieldType.boolean)] { frames := 2, cells := 0, slots := 0, locals := 22 } (pC D dA [.ref sp, .ref wb] ([(sp, .inr (13, [.int kd, .int (nI pl), .long nu, .ref na, .int (nI nn), .ref ln, .ref lt, .ref mk]))] ++ ([(na, .inl (dA 6, 6, .inr (.inr (.inr (.inr fn)))))] ++ (ws))) sz) (va_Qi (fun (r9 : Int32) (u9 : Unit) => r9 = bI (mtB NL nn M)) (fun (u9 : Unit) t9 => bW D (va_A ([(sp, .inr (13, [.int kd, .int (nI pl), .long nu, .ref na, .int (nI nn), .ref ln, .ref lt, .ref mk]))] ++ ([(na, .inl (dA 6, 6, .inr (.inr (.inr (.inr fn)))))] ++ (ws))) sz) ([(sp, .inr (13, [.int kd, .int (nI pl), .long nu, .ref na, .int (nI nn), .ref ln, .ref lt, .ref mk]))] ++ ([(na, .inl (dA 6, 6, .inr (.inr (.inr (.inr fn)))))] ++ (ws))) t9) (va_A ([(sp, .inr (13, [.int kd, .int (nI pl), .long nu, .ref na, .int (nI nn), .ref ln, .ref lt, .ref mk]))] ++ ([(na, .inl (dA 6, 6, .inr (.inr (.inr (.inr fn)))))] ++ (ws))) sz)) 0 0 (va_A ([(sp, .inr (13, [.int kd, .int (nI pl), .long nu, .ref na, .int (nI nn), .ref ln, .ref lt, .ref mk]))] ++ ([(na, .inl (dA 6, 6, .inr (.inr (.inr (.inr fn)))))] ++ (ws))) sz) := by
  refine mkC (y := ⟨"SeriesVault$Step", "mayTakeName", "(LSeriesVault$Word;)Z"⟩) (cc := prog_10_method_2_code) (maxL := 3) (av := [.ref sp, .ref wb]) (ws := [(sp, .inr (13, [.int kd, .int (nI pl), .long nu, .ref na, .int (nI nn), .ref ln, .ref lt, .ref mk]))] ++ ([(na, .inl (dA 6, 6, .inr (.inr (.inr (.inr fn)))))] ++ (ws))) (sz := sz) (Qc := fun A => va_Qi (fun (r9 : Int32) (u9 : Unit) => r9 = bI (mtB NL nn M)) (fun (u9 : Unit) t9 => bW D A ([(sp, .inr (13, [.int kd, .int (nI pl), .long nu, .ref na, .int (nI nn), .ref ln, .ref lt, .ref mk]))] ++ ([(na, .inl (dA 6, 6, .inr (.inr (.inr (.inr fn)))))] ++ (ws))) t9) A) (by decide) (Nat.le_of_ble_eq_true rfl) ?_
  intro A p e s m below meth c ls hsz hB
  obtain ⟨hx, hb, hr, hml, hown, hin, hlk, hE, hK, hP, hD, hS, hA, hN, hl⟩ := hB
  have hown : s.vm.findClass "SeriesVault$Step" = some m.cls := hown
  have hl : lv_has ls 3 [(0, .ref sp), (1, .ref wb)] := hl
  obtain ⟨H, hH⟩ : ∃ z, z = s.heap := ⟨_, rfl⟩
  have hP : va_P D vwCl ([(sp, .inr (13, [.int kd, .int (nI pl), .long nu, .ref na, .int (nI nn), .ref ln, .ref lt, .ref mk]))] ++ ([(na, .inl (dA 6, 6, .inr (.inr (.inr (.inr fn)))))] ++ (ws))) H := by rw [hH]; exact hP
  have hS : va_S A s.heap H [] := by rw [hH]; exact hS
  rw [← hH]
  refine lv_iconst (v := 0) hx hb d_E_mayTakeName_0 (by decide) ?_
  refine lv_istore_n hx hb d_E_mayTakeName_1 rfl hl (by decide) rfl (fun ls hl => ?_)
  have hl : lv_has ls 3 [(2, .int 0), (0, .ref sp), (1, .ref wb)] := hl
  have L2 : ∀ (k9 : Nat) (i : Nat) (i1 : i ≤ nn) (i2 : allB i (nsmB NL M) = true) (hk9 : nn - i = k9), ∀ (H : Heap) (locs : List Loc) (ls : Array Slot) (hP : va_P D vwCl ([(sp, .inr (13, [.int kd, .int (nI pl), .long nu, .ref na, .int (nI nn), .ref ln, .ref lt, .ref mk]))] ++ ([(na, .inl (dA 6, 6, .inr (.inr (.inr (.inr fn)))))] ++ (ws))) H) (hD : va_D A ([(sp, .inr (13, [.int kd, .int (nI pl), .long nu, .ref na, .int (nI nn), .ref ln, .ref lt, .ref mk]))] ++ ([(na, .inl (dA 6, 6, .inr (.inr (.inr (.inr fn)))))] ++ (ws)))) (hS : va_S A s.heap H locs) (hl : lv_has ls 3 [(2, .int (nI i)), (0, .ref sp), (1, .ref wb)]), W p l e ({ frames := 2, cells := 0, slots := 0, locals := 22 } : Room) s m ([.ref sp, .ref wb] : List Value).toArray below meth c H locs 0 0 (MQ below (va_Qi (fun (r9 : Int32) (u9 : Unit) => r9 = bI (mtB NL nn M)) (fun (u9 : Unit) t9 => bW D A ([(sp, .inr (13, [.int kd, .int (nI pl), .long nu, .ref na, .int (nI nn), .ref ln, .ref lt, .ref mk]))] ++ ([(na, .inl (dA 6, 6, .inr (.inr (.inr (.inr fn)))))] ++ (ws))) t9) A) ([.ref sp, .ref wb] : List Value).toArray s 0 0 A) (F0 m 2 ls []) := by
    intro k9
    induction k9 using Nat.strongRecOn with
    | ind k9 ih2 =>
      intro i i1 i2 hk9 H locs ls hP hD hS hl
      refine lv_iload_n hx hb d_E_mayTakeName_2 rfl (lv_at hl 0 rfl) ?_
      refine lv_aload_n hx hb d_E_mayTakeName_3 rfl (lv_at hl 1 rfl) ?_
      refine gF (v := .int (nI nn)) hx hb hown hE hK hP 0 rfl rfl layE 4 (by decide) w1535 rfl d_E_mayTakeName_4 ?_
      refine lv_icmp_ge hx hb d_E_mayTakeName_7 (tgt := 31) rfl (fun g1 => ?_) (fun g1 => ?_)
      · have g1 := (nI_leI (a := nn) (b := i) (by omega) (by omega)).mp g1
        refine lv_aload_n hx hb d_E_mayTakeName_31 rfl (lv_at hl 1 rfl) ?_
        refine gF (v := .int (nI nn)) hx hb hown hE hK hP 0 rfl rfl layE 4 (by decide) w1535 rfl d_E_mayTakeName_32 ?_
        refine lv_aload_n hx hb d_E_mayTakeName_35 rfl (lv_at hl 1 rfl) ?_
        refine gF (v := .ref na) hx hb hown hE hK hP 0 rfl rfl layE 3 (by decide) w1532 rfl d_E_mayTakeName_36 ?_
        refine va_alen (v := 6) hx hb hK hP (1) 6 rfl rfl rfl d_E_mayTakeName_39 ?_
        refine lv_icmp_ge hx hb d_E_mayTakeName_40 (tgt := 47) rfl (fun g2 => ?_) (fun g2 => ?_)
        · have g2 := (nI_leI (a := 6) (b := nn) (by omega) (by omega)).mp g2
          refine lv_iconst (v := 0) hx hb d_E_mayTakeName_47 (by decide) ?_
          exact rfZ hx hb hr (bI_nar false) hlk hS () (by unfold mtB; rw [← show i = nn by omega, i2, Bool.true_and, decide_eq_false (show ¬ i < 6 by omega)]; rfl) hP hD (Nat.le_of_ble_eq_true rfl) (Nat.le_of_ble_eq_true rfl) d_E_mayTakeName_48
        · have g2 := mt (nI_leI (a := 6) (b := nn) (by omega) (by omega)).mpr g2
          refine lv_iconst (v := 1) hx hb d_E_mayTakeName_43 (by decide) ?_
          refine lv_goto hx hb d_E_mayTakeName_44 (tgt := 48) rfl ?_
          exact rfZ hx hb hr (bI_nar true) hlk hS () (by unfold mtB; rw [← show i = nn by omega, i2, Bool.true_and, decide_eq_true (show i < 6 by omega)]; rfl) hP hD (Nat.le_of_ble_eq_true rfl) (Nat.le_of_ble_eq_true rfl) d_E_mayTakeName_48
      · have g1 := mt (nI_leI (a := nn) (b := i) (by omega) (by omega)).mpr g1
        refine lv_aload_n hx hb d_E_mayTakeName_10 rfl (lv_at hl 1 rfl) ?_
        obtain ⟨p1, ep1, wp1, lp1⟩ := hnm i (by omega)
        have wpc := wp1
        obtain ⟨bp1, fp1, kp1, -⟩ := wpc
        refine gF (v := .ref na) hx hb hown hE hK hP 0 rfl rfl layE 3 (by decide) w1532 rfl d_E_mayTakeName_11 ?_
        refine lv_iload_n hx hb d_E_mayTakeName_14 rfl (lv_at hl 0 rfl) ?_
        refine nqld (f := fn) (n := 6) hx hb hK hP (1) 6 rfl rfl (i) (by omega) (by decide) ep1 d_E_mayTakeName_15 ?_
        refine lv_aload_n hx hb d_E_mayTakeName_16 rfl (lv_at hl 2 rfl) ?_
        obtain ⟨qp3, ep4⟩ := List.getElem?_of_mem (show ((p1, .inr (10, [.ref bp1])) : Nat × va_E) ∈ [(sp, .inr (13, [.int kd, .int (nI pl), .long nu, .ref na, .int (nI nn), .ref ln, .ref lt, .ref mk]))] ++ ([(na, .inl (dA 6, 6, .inr (.inr (.inr (.inr fn)))))] ++ (ws)) from (List.mem_append_right _ (List.mem_append_right _ kp1)))
        refine jkI (wr := []) (rnV (As := [.ref wb]) (rest := []) hx hb hml hown hE hK (hN _ _ hS) hP hD (v_Wsame l D dA H.size ([(sp, .inr (13, [.int kd, .int (nI pl), .long nu, .ref na, .int (nI nn), .ref ln, .ref lt, .ref mk]))] ++ ([(na, .inl (dA 6, 6, .inr (.inr (.inr (.inr fn)))))] ++ (ws))) p1 (NL i) wb M (isWo_m (fun _ hm => (List.mem_append_right _ (List.mem_append_right _ hm))) wp1) lp1 (isWo_m (fun _ hm => (List.mem_append_right _ (List.mem_append_right _ hm))) hwwb) hlwb) (q0 := qp3) ep4 rfl w1282 w1477 w1283 w1284 w1281 rfl rfl ⟨⟨by decide, by decide⟩, rfl⟩ ⟨(Nat.le_of_ble_eq_true rfl), (Nat.le_of_ble_eq_true rfl)⟩ rfl hl.1 rfl (Nat.le_of_ble_eq_true rfl) d_E_mayTakeName_17 ⟨(Nat.le_of_ble_eq_true rfl), (Nat.le_of_ble_eq_true rfl)⟩) hP hD hS hA (fun r5 u6 H locs hp9 hP hD hS => ?_)
        have hP : va_P D vwCl ([(sp, .inr (13, [.int kd, .int (nI pl), .long nu, .ref na, .int (nI nn), .ref ln, .ref lt, .ref mk]))] ++ ([(na, .inl (dA 6, 6, .inr (.inr (.inr (.inr fn)))))] ++ (ws))) H := hP
        have hD : va_D A ([(sp, .inr (13, [.int kd, .int (nI pl), .long nu, .ref na, .int (nI nn), .ref ln, .ref lt, .ref mk]))] ++ ([(na, .inl (dA 6, 6, .inr (.inr (.inr (.inr fn)))))] ++ (ws))) := hD
        replace hp9 : bI (sameW (NL i) M) = r5 := Eq.symm hp9
        subst hp9
        refine lv_if_eq hx hb d_E_mayTakeName_20 (tgt := 25) rfl (fun g7 => ?_) (fun g7 => ?_)
        · have g7 := bI_0 g7
          refine lv_iinc (k := 0) (v := nI (i + 1)) hx hb d_E_mayTakeName_25 hl rfl (iincN (i) 1 1 (by decide)) (by decide) rfl (fun ls hl => ?_)
          have hl : lv_has ls 3 [(2, .int (nI (i + 1))), (0, .ref sp), (1, .ref wb)] := hl
          refine lv_goto hx hb d_E_mayTakeName_28 (tgt := 2) rfl ?_
          exact ih2 _ (by omega) (i + 1) (by omega) (by rw [allB_s, i2, Bool.true_and]; show (!sameW (NL i) M) = true; rw [g7]; rfl) rfl H _ ls hP hD hS (lv_sub hl [0, 1, 2] rfl)
        · have g7 := bI_n0 g7
          refine lv_iconst (v := 0) hx hb d_E_mayTakeName_23 (by decide) ?_
          exact rfZ hx hb hr (bI_nar false) hlk hS () (by unfold mtB; rw [allB_1 (f := nsmB NL M) (k := i) (n := nn) (by omega) (show (!sameW (NL i) M) = false by rw [g7]; rfl), Bool.false_and]; rfl) hP hD (Nat.le_of_ble_eq_true rfl) (Nat.le_of_ble_eq_true rfl) d_E_mayTakeName_24
  exact L2 _ 0 (Nat.zero_le _) rfl rfl H _ ls hP hD hS (lv_sub hl [0, 1, 2] rfl)
theorem d_E_addName_0 : decode prog_10_method_3_code 0 = .ok (.aload_n 0, 1) := by decide +kernel
theorem d_E_addName_1 : decode prog_10_method_3_code 1 = .ok (.getfield 26, 3) := by decide +kernel
theorem d_E_addName_4 : decode prog_10_method_3_code 4 = .ok (.aload_n 0, 1) := by decide +kernel
theorem d_E_addName_5 : decode prog_10_method_3_code 5 = .ok (.getfield 44, 3) := by decide +kernel
theorem d_E_addName_8 : decode prog_10_method_3_code 8 = .ok (.aload_n 1, 1) := by decide +kernel
theorem d_E_addName_9 : decode prog_10_method_3_code 9 = .ok (.aastore, 1) := by decide +kernel
theorem d_E_addName_10 : decode prog_10_method_3_code 10 = .ok (.aload_n 0, 1) := by decide +kernel
theorem d_E_addName_11 : decode prog_10_method_3_code 11 = .ok (.dup, 1) := by decide +kernel
theorem d_E_addName_12 : decode prog_10_method_3_code 12 = .ok (.getfield 44, 3) := by decide +kernel
theorem d_E_addName_15 : decode prog_10_method_3_code 15 = .ok (.iconst 1, 1) := by decide +kernel
theorem d_E_addName_16 : decode prog_10_method_3_code 16 = .ok (.iadd, 1) := by decide +kernel
theorem d_E_addName_17 : decode prog_10_method_3_code 17 = .ok (.putfield 44, 3) := by decide +kernel
theorem d_E_addName_20 : decode prog_10_method_3_code 20 = .ok (.return_, 1) := by decide +kernel
set_option maxHeartbeats 4000000 in
set_option maxRecDepth 100000 in
theorem v_EaddName (l : Launch) (D : va_G) (dA : Nat → ClassId) (sz : Nat) (ws : va_W) (sp : Nat) (kd : Int32) (pl : Nat) (nu : Int64) (na : Nat) (nn : Nat) (ln : Nat) (lt : Nat) (mk : Nat) (fn : Nat → Option Nat) (wb : Nat) (M : List Int32) (hnn : nn < 6) (hwwb : isWo dA ws wb M) : Met l ⟨"SeriesVault$Step", "addName", "(LSeriesVault$Word;)V"⟩ [Cond.code ⟨"SeriesVault$Step", "addName", "(LSeriesVault$Word;)V"⟩ prog_10_method_3_code 2 none] { frames := 1, cells := 0, slots := 0, locals := 0 } (pC D dA [.ref sp, .ref wb] ([(sp, .inr (13, [.int kd, .int (nI pl), .long nu, .ref na, .int (nI nn), .ref ln, .ref lt, .ref mk]))] ++ ([(na, .inl (dA 6, 6, .inr (.inr (.inr (.inr fn)))))] ++ (ws))) sz) (va_Qv (fun (u9 : Unit) => True) (fun (u9 : Unit) t9 => bW D (va_A ([(sp, .inr (13, [.int kd, .int (nI pl), .long nu, .ref na, .int (nI nn), .ref ln, .ref lt, .ref mk]))] ++ ([(na, .inl (dA 6, 6, .inr (.inr (.inr (.inr fn)))))] ++ (ws))) sz) ([(sp, .inr (13, [.int kd, .int (nI pl), .long nu, .ref na, .int (nI (nn + 1)), .ref ln, .ref lt, .ref mk]))] ++ ([(na, .inl (dA 6, 6, .inr (.inr (.inr (.inr (va_up fn nn (some wb)))))))] ++ (ws))) t9) (va_A ([(sp, .inr (13, [.int kd, .int (nI pl), .long nu, .ref na, .int (nI nn), .ref ln, .ref lt, .ref mk]))] ++ ([(na, .inl (dA 6, 6, .inr (.inr (.inr (.inr fn)))))] ++ (ws))) sz)) 0 0 (va_A ([(sp, .inr (13, [.int kd, .int (nI pl), .long nu, .ref na, .int (nI nn), .ref ln, .ref lt, .ref mk]))] ++ ([(na, .inl (dA 6, 6, .inr (.inr (.inr (.inr fn)))))] ++ (ws))) sz) := by
  refine mkC (y := ⟨"SeriesVault$Step", "addName", "(LSeriesVault$Word;)V"⟩) (cc := prog_10_method_3_code) (maxL := 2) (av := [.ref sp, .ref wb]) (ws := [(sp, .inr (13, [.int kd, .int (nI pl), .long nu, .ref na, .int (nI nn), .ref ln, .ref lt, .ref mk]))] ++ ([(na, .inl (dA 6, 6, .inr (.inr (.inr (.inr fn)))))] ++ (ws))) (sz := sz) (Qc := fun A => va_Qv (fun (u9 : Unit) => True) (fun (u9 : Unit) t9 => bW D A ([(sp, .inr (13, [.int kd, .int (nI pl), .long nu, .ref na, .int (nI (nn + 1)), .ref ln, .ref lt, .ref mk]))] ++ ([(na, .inl (dA 6, 6, .inr (.inr (.inr (.inr (va_up fn nn (some wb)))))))] ++ (ws))) t9) A) (by decide) (Nat.le_of_ble_eq_true rfl) ?_
  intro A p e s m below meth c ls hsz hB
  obtain ⟨hx, hb, hr, hml, hown, hin, hlk, hE, hK, hP, hD, hS, hA, hN, hl⟩ := hB
  have hown : s.vm.findClass "SeriesVault$Step" = some m.cls := hown
  have hl : lv_has ls 2 [(0, .ref sp), (1, .ref wb)] := hl
  obtain ⟨H, hH⟩ : ∃ z, z = s.heap := ⟨_, rfl⟩
  have hP : va_P D vwCl ([(sp, .inr (13, [.int kd, .int (nI pl), .long nu, .ref na, .int (nI nn), .ref ln, .ref lt, .ref mk]))] ++ ([(na, .inl (dA 6, 6, .inr (.inr (.inr (.inr fn)))))] ++ (ws))) H := by rw [hH]; exact hP
  have hS : va_S A s.heap H [] := by rw [hH]; exact hS
  rw [← hH]
  have wbc := hwwb
  obtain ⟨bwb, fwb, kwb, -⟩ := wbc
  refine lv_aload_n hx hb d_E_addName_0 rfl (lv_at hl 0 rfl) ?_
  refine gF (v := .ref na) hx hb hown hE hK hP 0 rfl rfl layE 3 (by decide) w1532 rfl d_E_addName_1 ?_
  refine lv_aload_n hx hb d_E_addName_4 rfl (lv_at hl 0 rfl) ?_
  refine gF (v := .int (nI nn)) hx hb hown hE hK hP 0 rfl rfl layE 4 (by decide) w1535 rfl d_E_addName_5 ?_
  refine lv_aload_n hx hb d_E_addName_8 rfl (lv_at hl 1 rfl) ?_
  obtain ⟨qp1, ep2⟩ := List.getElem?_of_mem (show ((wb, .inr (10, [.ref bwb])) : Nat × va_E) ∈ [(sp, .inr (13, [.int kd, .int (nI pl), .long nu, .ref na, .int (nI nn), .ref ln, .ref lt, .ref mk]))] ++ ([(na, .inl (dA 6, 6, .inr (.inr (.inr (.inr fn)))))] ++ (ws)) from (List.mem_append_right _ (List.mem_append_right _ kwb)))
  refine nqst (r := ("SeriesVault$Word", TW, 1)) (f := fn) (n := 6) hx hb hK hP hD hS (1) 6 (qp1) 10 rfl rfl ep2 rfl (nn) (by omega) (by decide) d_E_addName_9 (fun H locs hP hD hS => ?_)
  have hP : va_P D vwCl ([(sp, .inr (13, [.int kd, .int (nI pl), .long nu, .ref na, .int (nI nn), .ref ln, .ref lt, .ref mk]))] ++ ([(na, .inl (dA 6, 6, .inr (.inr (.inr (.inr (va_up fn nn (some wb)))))))] ++ (ws))) H := hP
  have hD : va_D A ([(sp, .inr (13, [.int kd, .int (nI pl), .long nu, .ref na, .int (nI nn), .ref ln, .ref lt, .ref mk]))] ++ ([(na, .inl (dA 6, 6, .inr (.inr (.inr (.inr (va_up fn nn (some wb)))))))] ++ (ws))) := hD
  refine lv_aload_n hx hb d_E_addName_10 rfl (lv_at hl 0 rfl) ?_
  refine lv_dup hx hb d_E_addName_11 rfl ?_
  refine gF (v := .int (nI nn)) hx hb hown hE hK hP 0 rfl rfl layE 4 (by decide) w1535 rfl d_E_addName_12 ?_
  refine lv_iconst (v := 1) hx hb d_E_addName_15 (by decide) ?_
  refine lv_iadd hx hb d_E_addName_16 (tpi (y := nI (nn + 1)) (nI_add (nn) (1)) ?_)
  refine pF (v := .int (nI (nn + 1))) hx hb hown hE hK hP hD hS 0 rfl rfl layE tyE tokE nmE 4 (by decide) w1535 rfl rfl rfl (Nat.le_of_ble_eq_true rfl) d_E_addName_17 (fun H locs hP hD hS => ?_)
  have hP : va_P D vwCl ([(sp, .inr (13, [.int kd, .int (nI pl), .long nu, .ref na, .int (nI (nn + 1)), .ref ln, .ref lt, .ref mk]))] ++ ([(na, .inl (dA 6, 6, .inr (.inr (.inr (.inr (va_up fn nn (some wb)))))))] ++ (ws))) H := hP
  have hD : va_D A ([(sp, .inr (13, [.int kd, .int (nI pl), .long nu, .ref na, .int (nI (nn + 1)), .ref ln, .ref lt, .ref mk]))] ++ ([(na, .inl (dA 6, 6, .inr (.inr (.inr (.inr (va_up fn nn (some wb)))))))] ++ (ws))) := hD
  exact rfV hx hb hr hlk hS () trivial hP hD (Nat.le_of_ble_eq_true rfl) (Nat.le_of_ble_eq_true rfl) d_E_addName_20
