theorem d_V_feed_35 : decode prog_1_method_2_code 35 = .ok (.aload_n 0, 1) := by decide +kernel
theorem d_V_feed_36 : decode prog_1_method_2_code 36 = .ok (.aload_n 0, 1) := by decide +kernel
theorem d_V_feed_37 : decode prog_1_method_2_code 37 = .ok (.getfield 7, 3) := by decide +kernel
theorem d_V_feed_40 : decode prog_1_method_2_code 40 = .ok (.iconst 2, 1) := by decide +kernel
theorem d_V_feed_41 : decode prog_1_method_2_code 41 = .ok (.aload_n 0, 1) := by decide +kernel
theorem d_V_feed_42 : decode prog_1_method_2_code 42 = .ok (.getfield 7, 3) := by decide +kernel
theorem d_V_feed_45 : decode prog_1_method_2_code 45 = .ok (.arraylength, 1) := by decide +kernel
theorem d_V_feed_46 : decode prog_1_method_2_code 46 = .ok (.imul, 1) := by decide +kernel
theorem d_V_feed_47 : decode prog_1_method_2_code 47 = .ok (.invokestatic 79, 3) := by decide +kernel
theorem d_V_feed_50 : decode prog_1_method_2_code 50 = .ok (.putfield 7, 3) := by decide +kernel
theorem w1140 : Cond.code ⟨"java/util/Arrays", "copyOf", "([BI)[B"⟩ prog_38_method_121_code 3 (some (FieldType.array FieldType.byte)) ∈ aW := aw_of (tb_3 (List.mem_of_getElem? (i := 123) rfl)) rfl
theorem w1141 : Cond.methodLink "SeriesVault" 79 ⟨"java/util/Arrays", "copyOf", "([BI)[B"⟩ ∈ aW := aw_of (tb_3 (List.mem_of_getElem? (i := 121) rfl)) rfl
theorem w1142 : Cond.static ⟨"java/util/Arrays", "copyOf", "([BI)[B"⟩ ∈ aW := aw_of (tb_3 (List.mem_of_getElem? (i := 122) rfl)) rfl
set_option maxHeartbeats 4000000 in
set_option maxRecDepth 100000 in
theorem v_feed (l : Launch) (D : va_G) (dA : Nat → ClassId) (sz : Nat) (h : Nat) (ad : Nat → Nat) (x : VS) (a1 : Int32) (a2 : Int32) (a3 : Int32) (a4 : Int32) (a5 : Int32) (h1 : x.tapeLength + 20 ≤ 65536) (h2 : x.tapeLength ≤ x.tpN) (h3 : 256 ≤ x.tpN) (h4 : x.tpN ≤ 65536) (hby : byteF x.tape) : Met l ⟨"SeriesVault", "feed", "(IIIII)I"⟩ [Cond.code ⟨"SeriesVault", "feed", "(IIIII)I"⟩ prog_1_method_2_code 6 (some FieldType.int)] { frames := 2, cells := x.tcap - x.tpN, slots := 2 * (x.tcap - x.tpN), locals := 62 } (pC D dA [.ref h, .int a1, .int a2, .int a3, .int a4, .int a5] (VW dA h ad x) sz) (va_Qi (fun (r9 : Int32) (u9 : VS) => r9 = nI (x.tapeLength + 20) ∧ ∃ ta : Nat, u9 = x.fdF ta a1 a2 a3 a4 a5) (fun (u9 : VS) t9 => bW D (va_A (VW dA h ad x) sz) (VW dA h ad u9) t9) (va_A (VW dA h ad x) sz)) (x.tcap - x.tpN) (2 * (x.tcap - x.tpN)) (va_A (VW dA h ad x) sz) := by
  refine mkC (y := ⟨"SeriesVault", "feed", "(IIIII)I"⟩) (cc := prog_1_method_2_code) (maxL := 6) (av := [.ref h, .int a1, .int a2, .int a3, .int a4, .int a5]) (ws := VW dA h ad x) (sz := sz) (Qc := fun A => va_Qi (fun (r9 : Int32) (u9 : VS) => r9 = nI (x.tapeLength + 20) ∧ ∃ ta : Nat, u9 = x.fdF ta a1 a2 a3 a4 a5) (fun (u9 : VS) t9 => bW D A (VW dA h ad u9) t9) A) (by decide) (Nat.le_of_ble_eq_true rfl) ?_
  intro A p e s m below meth c ls hsz hB
  obtain ⟨hx, hb, hr, hml, hown, hin, hlk, hE, hK, hP, hD, hS, hA, hN, hl⟩ := hB
  have hown : s.vm.findClass "SeriesVault" = some m.cls := hown
  have hl : lv_has ls 6 [(0, .ref h), (1, .int a1), (2, .int a2), (3, .int a3), (4, .int a4), (5, .int a5)] := hl
  obtain ⟨H, hH⟩ : ∃ z, z = s.heap := ⟨_, rfl⟩
  have hP : va_P D vwCl (VW dA h ad x) H := by rw [hH]; exact hP
  have hS : va_S A s.heap H [] := by rw [hH]; exact hS
  rw [← hH]
  refine lv_aload_n hx hb d_V_feed_0 rfl (lv_at hl 0 rfl) ?_
  refine gF (v := .int (nI x.tapeLength)) hx hb hown hE hK hP 0 rfl rfl layV 1 (by decide) w259 rfl d_V_feed_1 ?_
  refine lv_bipush (v := 20) hx hb d_V_feed_4 (by decide) ?_
  refine lv_iadd hx hb d_V_feed_6 (tpi (y := nI (x.tapeLength + 20)) (nI_add (x.tapeLength) (20)) ?_)
  refine lv_ldc (v := 65536) hx hb hown (hE.t w540 rfl) d_V_feed_7 ?_
  refine lv_icmp_le hx hb d_V_feed_9 (tgt := 20) rfl (fun _ => ?_) (fun h9 => absurd ((nI_leI (a := x.tapeLength + 20) (b := 65536) (by omega) (by omega)).mpr h1) h9)
  refine lv_aload_n hx hb d_V_feed_20 rfl (lv_at hl 0 rfl) ?_
  refine gF (v := .int (nI x.tapeLength)) hx hb hown hE hK hP 0 rfl rfl layV 1 (by decide) w259 rfl d_V_feed_21 ?_
  refine lv_bipush (v := 20) hx hb d_V_feed_24 (by decide) ?_
  refine lv_iadd hx hb d_V_feed_26 (tpi (y := nI (x.tapeLength + 20)) (nI_add (x.tapeLength) (20)) ?_)
  refine lv_aload_n hx hb d_V_feed_27 rfl (lv_at hl 0 rfl) ?_
  refine gF (v := .ref x.tpA) hx hb hown hE hK hP 0 rfl rfl layV 0 (by decide) w539 rfl d_V_feed_28 ?_
  refine va_alen (v := nI x.tpN) hx hb hK hP (1) 0 rfl rfl rfl d_V_feed_31 ?_
  refine lv_icmp_le hx hb d_V_feed_32 (tgt := 53) rfl (fun g1 => ?_) (fun g1 => ?_)
  · have g1 := (nI_leI (a := x.tapeLength + 20) (b := x.tpN) (by omega) (by omega)).mp g1
    have tc : x.tcap = x.tpN := if_pos g1
    refine lv_aload_n hx hb d_V_feed_53 rfl (lv_at hl 0 rfl) ?_
    refine lv_iload_n hx hb d_V_feed_54 rfl (lv_at hl 1 rfl) ?_
    refine jfV (rnV (As := [.int a1]) (rest := []) hx hb hml hown hE hK (hN _ _ hS) hP hD (v_putOnTape l D dA H.size h ad x a1 (show x.tapeLength + 4 ≤ x.tpN from by omega) (show x.tpN ≤ 131072 from by omega)) (q0 := 0) rfl rfl w542 w541 w543 w544 w277 rfl rfl ⟨⟨by decide, by decide⟩, rfl⟩ ⟨(Nat.le_of_ble_eq_true rfl), (Nat.le_of_ble_eq_true rfl)⟩ rfl hl.1 rfl (Nat.le_of_ble_eq_true rfl) d_V_feed_55 ⟨(show 0 + 0 ≤ x.tcap - x.tpN by omega), (show 0 + 0 ≤ 2 * (x.tcap - x.tpN) by omega)⟩) hP hD hS hA (fun u3 H locs hp9 hP hD hS => ?_)
    have hP : va_P D vwCl (VW dA h ad (VS.s_tapeLength (VS.s_tape x (ptT a1 x.tape x.tapeLength)) (x.tapeLength + 1 + 1 + 1 + 1))) H := hP
    have hD : va_D A (VW dA h ad (VS.s_tapeLength (VS.s_tape x (ptT a1 x.tape x.tapeLength)) (x.tapeLength + 1 + 1 + 1 + 1))) := hD
    refine lv_aload_n hx hb d_V_feed_58 rfl (lv_at hl 0 rfl) ?_
    refine lv_iload_n hx hb d_V_feed_59 rfl (lv_at hl 2 rfl) ?_
    refine jfV (rnV (As := [.int a2]) (rest := []) hx hb hml hown hE hK (hN _ _ hS) hP hD (v_putOnTape l D dA H.size h ad (VS.s_tapeLength (VS.s_tape x (ptT a1 x.tape x.tapeLength)) (x.tapeLength + 1 + 1 + 1 + 1)) a2 (show (x.tapeLength + 1 + 1 + 1 + 1) + 4 ≤ x.tpN from by omega) (show x.tpN ≤ 131072 from by omega)) (q0 := 0) rfl rfl w542 w541 w543 w544 w277 rfl rfl ⟨⟨by decide, by decide⟩, rfl⟩ ⟨(Nat.le_of_ble_eq_true rfl), (Nat.le_of_ble_eq_true rfl)⟩ rfl hl.1 rfl (Nat.le_of_ble_eq_true rfl) d_V_feed_60 ⟨(show 0 + 0 + 0 ≤ x.tcap - x.tpN by omega), (show 0 + 0 + 0 ≤ 2 * (x.tcap - x.tpN) by omega)⟩) hP hD hS hA (fun u5 H locs hp9 hP hD hS => ?_)
    have hP : va_P D vwCl (VW dA h ad (VS.s_tapeLength (VS.s_tape x (ptT a2 (ptT a1 x.tape x.tapeLength) (x.tapeLength + 1 + 1 + 1 + 1))) ((x.tapeLength + 1 + 1 + 1 + 1) + 1 + 1 + 1 + 1))) H := hP
    have hD : va_D A (VW dA h ad (VS.s_tapeLength (VS.s_tape x (ptT a2 (ptT a1 x.tape x.tapeLength) (x.tapeLength + 1 + 1 + 1 + 1))) ((x.tapeLength + 1 + 1 + 1 + 1) + 1 + 1 + 1 + 1))) := hD
    refine lv_aload_n hx hb d_V_feed_63 rfl (lv_at hl 0 rfl) ?_
    refine lv_iload_n hx hb d_V_feed_64 rfl (lv_at hl 3 rfl) ?_
    refine jfV (rnV (As := [.int a3]) (rest := []) hx hb hml hown hE hK (hN _ _ hS) hP hD (v_putOnTape l D dA H.size h ad (VS.s_tapeLength (VS.s_tape x (ptT a2 (ptT a1 x.tape x.tapeLength) (x.tapeLength + 1 + 1 + 1 + 1))) ((x.tapeLength + 1 + 1 + 1 + 1) + 1 + 1 + 1 + 1)) a3 (show ((x.tapeLength + 1 + 1 + 1 + 1) + 1 + 1 + 1 + 1) + 4 ≤ x.tpN from by omega) (show x.tpN ≤ 131072 from by omega)) (q0 := 0) rfl rfl w542 w541 w543 w544 w277 rfl rfl ⟨⟨by decide, by decide⟩, rfl⟩ ⟨(Nat.le_of_ble_eq_true rfl), (Nat.le_of_ble_eq_true rfl)⟩ rfl hl.1 rfl (Nat.le_of_ble_eq_true rfl) d_V_feed_65 ⟨(show 0 + 0 + 0 + 0 ≤ x.tcap - x.tpN by omega), (show 0 + 0 + 0 + 0 ≤ 2 * (x.tcap - x.tpN) by omega)⟩) hP hD hS hA (fun u7 H locs hp9 hP hD hS => ?_)
    have hP : va_P D vwCl (VW dA h ad (VS.s_tapeLength (VS.s_tape x (ptT a3 (ptT a2 (ptT a1 x.tape x.tapeLength) (x.tapeLength + 1 + 1 + 1 + 1)) ((x.tapeLength + 1 + 1 + 1 + 1) + 1 + 1 + 1 + 1))) (((x.tapeLength + 1 + 1 + 1 + 1) + 1 + 1 + 1 + 1) + 1 + 1 + 1 + 1))) H := hP
    have hD : va_D A (VW dA h ad (VS.s_tapeLength (VS.s_tape x (ptT a3 (ptT a2 (ptT a1 x.tape x.tapeLength) (x.tapeLength + 1 + 1 + 1 + 1)) ((x.tapeLength + 1 + 1 + 1 + 1) + 1 + 1 + 1 + 1))) (((x.tapeLength + 1 + 1 + 1 + 1) + 1 + 1 + 1 + 1) + 1 + 1 + 1 + 1))) := hD
    refine lv_aload_n hx hb d_V_feed_68 rfl (lv_at hl 0 rfl) ?_
    refine lv_iload hx hb d_V_feed_69 (lv_at hl 4 rfl) ?_
    refine jfV (rnV (As := [.int a4]) (rest := []) hx hb hml hown hE hK (hN _ _ hS) hP hD (v_putOnTape l D dA H.size h ad (VS.s_tapeLength (VS.s_tape x (ptT a3 (ptT a2 (ptT a1 x.tape x.tapeLength) (x.tapeLength + 1 + 1 + 1 + 1)) ((x.tapeLength + 1 + 1 + 1 + 1) + 1 + 1 + 1 + 1))) (((x.tapeLength + 1 + 1 + 1 + 1) + 1 + 1 + 1 + 1) + 1 + 1 + 1 + 1)) a4 (show (((x.tapeLength + 1 + 1 + 1 + 1) + 1 + 1 + 1 + 1) + 1 + 1 + 1 + 1) + 4 ≤ x.tpN from by omega) (show x.tpN ≤ 131072 from by omega)) (q0 := 0) rfl rfl w542 w541 w543 w544 w277 rfl rfl ⟨⟨by decide, by decide⟩, rfl⟩ ⟨(Nat.le_of_ble_eq_true rfl), (Nat.le_of_ble_eq_true rfl)⟩ rfl hl.1 rfl (Nat.le_of_ble_eq_true rfl) d_V_feed_71 ⟨(show 0 + 0 + 0 + 0 + 0 ≤ x.tcap - x.tpN by omega), (show 0 + 0 + 0 + 0 + 0 ≤ 2 * (x.tcap - x.tpN) by omega)⟩) hP hD hS hA (fun u9 H locs hp9 hP hD hS => ?_)
    have hP : va_P D vwCl (VW dA h ad (VS.s_tapeLength (VS.s_tape x (ptT a4 (ptT a3 (ptT a2 (ptT a1 x.tape x.tapeLength) (x.tapeLength + 1 + 1 + 1 + 1)) ((x.tapeLength + 1 + 1 + 1 + 1) + 1 + 1 + 1 + 1)) (((x.tapeLength + 1 + 1 + 1 + 1) + 1 + 1 + 1 + 1) + 1 + 1 + 1 + 1))) ((((x.tapeLength + 1 + 1 + 1 + 1) + 1 + 1 + 1 + 1) + 1 + 1 + 1 + 1) + 1 + 1 + 1 + 1))) H := hP
    have hD : va_D A (VW dA h ad (VS.s_tapeLength (VS.s_tape x (ptT a4 (ptT a3 (ptT a2 (ptT a1 x.tape x.tapeLength) (x.tapeLength + 1 + 1 + 1 + 1)) ((x.tapeLength + 1 + 1 + 1 + 1) + 1 + 1 + 1 + 1)) (((x.tapeLength + 1 + 1 + 1 + 1) + 1 + 1 + 1 + 1) + 1 + 1 + 1 + 1))) ((((x.tapeLength + 1 + 1 + 1 + 1) + 1 + 1 + 1 + 1) + 1 + 1 + 1 + 1) + 1 + 1 + 1 + 1))) := hD
    refine lv_aload_n hx hb d_V_feed_74 rfl (lv_at hl 0 rfl) ?_
    refine lv_iload hx hb d_V_feed_75 (lv_at hl 5 rfl) ?_
    refine jfV (rnV (As := [.int a5]) (rest := []) hx hb hml hown hE hK (hN _ _ hS) hP hD (v_putOnTape l D dA H.size h ad (VS.s_tapeLength (VS.s_tape x (ptT a4 (ptT a3 (ptT a2 (ptT a1 x.tape x.tapeLength) (x.tapeLength + 1 + 1 + 1 + 1)) ((x.tapeLength + 1 + 1 + 1 + 1) + 1 + 1 + 1 + 1)) (((x.tapeLength + 1 + 1 + 1 + 1) + 1 + 1 + 1 + 1) + 1 + 1 + 1 + 1))) ((((x.tapeLength + 1 + 1 + 1 + 1) + 1 + 1 + 1 + 1) + 1 + 1 + 1 + 1) + 1 + 1 + 1 + 1)) a5 (show ((((x.tapeLength + 1 + 1 + 1 + 1) + 1 + 1 + 1 + 1) + 1 + 1 + 1 + 1) + 1 + 1 + 1 + 1) + 4 ≤ x.tpN from by omega) (show x.tpN ≤ 131072 from by omega)) (q0 := 0) rfl rfl w542 w541 w543 w544 w277 rfl rfl ⟨⟨by decide, by decide⟩, rfl⟩ ⟨(Nat.le_of_ble_eq_true rfl), (Nat.le_of_ble_eq_true rfl)⟩ rfl hl.1 rfl (Nat.le_of_ble_eq_true rfl) d_V_feed_77 ⟨(show 0 + 0 + 0 + 0 + 0 + 0 ≤ x.tcap - x.tpN by omega), (show 0 + 0 + 0 + 0 + 0 + 0 ≤ 2 * (x.tcap - x.tpN) by omega)⟩) hP hD hS hA (fun u11 H locs hp9 hP hD hS => ?_)
    have hP : va_P D vwCl (VW dA h ad (VS.s_tapeLength (VS.s_tape x (ptT a5 (ptT a4 (ptT a3 (ptT a2 (ptT a1 x.tape x.tapeLength) (x.tapeLength + 1 + 1 + 1 + 1)) ((x.tapeLength + 1 + 1 + 1 + 1) + 1 + 1 + 1 + 1)) (((x.tapeLength + 1 + 1 + 1 + 1) + 1 + 1 + 1 + 1) + 1 + 1 + 1 + 1)) ((((x.tapeLength + 1 + 1 + 1 + 1) + 1 + 1 + 1 + 1) + 1 + 1 + 1 + 1) + 1 + 1 + 1 + 1))) (((((x.tapeLength + 1 + 1 + 1 + 1) + 1 + 1 + 1 + 1) + 1 + 1 + 1 + 1) + 1 + 1 + 1 + 1) + 1 + 1 + 1 + 1))) H := hP
    have hD : va_D A (VW dA h ad (VS.s_tapeLength (VS.s_tape x (ptT a5 (ptT a4 (ptT a3 (ptT a2 (ptT a1 x.tape x.tapeLength) (x.tapeLength + 1 + 1 + 1 + 1)) ((x.tapeLength + 1 + 1 + 1 + 1) + 1 + 1 + 1 + 1)) (((x.tapeLength + 1 + 1 + 1 + 1) + 1 + 1 + 1 + 1) + 1 + 1 + 1 + 1)) ((((x.tapeLength + 1 + 1 + 1 + 1) + 1 + 1 + 1 + 1) + 1 + 1 + 1 + 1) + 1 + 1 + 1 + 1))) (((((x.tapeLength + 1 + 1 + 1 + 1) + 1 + 1 + 1 + 1) + 1 + 1 + 1 + 1) + 1 + 1 + 1 + 1) + 1 + 1 + 1 + 1))) := hD
    refine lv_aload_n hx hb d_V_feed_80 rfl (lv_at hl 0 rfl) ?_
    refine gF (v := .int (nI (((((x.tapeLength + 1 + 1 + 1 + 1) + 1 + 1 + 1 + 1) + 1 + 1 + 1 + 1) + 1 + 1 + 1 + 1) + 1 + 1 + 1 + 1))) hx hb hown hE hK hP 0 rfl rfl layV 1 (by decide) w259 rfl d_V_feed_81 ?_
    exact rfI hx hb hr hlk hS (VS.s_tapeLength (VS.s_tape x (ptT a5 (ptT a4 (ptT a3 (ptT a2 (ptT a1 x.tape x.tapeLength) (x.tapeLength + 1 + 1 + 1 + 1)) ((x.tapeLength + 1 + 1 + 1 + 1) + 1 + 1 + 1 + 1)) (((x.tapeLength + 1 + 1 + 1 + 1) + 1 + 1 + 1 + 1) + 1 + 1 + 1 + 1)) ((((x.tapeLength + 1 + 1 + 1 + 1) + 1 + 1 + 1 + 1) + 1 + 1 + 1 + 1) + 1 + 1 + 1 + 1))) (((((x.tapeLength + 1 + 1 + 1 + 1) + 1 + 1 + 1 + 1) + 1 + 1 + 1 + 1) + 1 + 1 + 1 + 1) + 1 + 1 + 1 + 1)) ⟨rfl, x.tpA, by unfold VS.fdF VS.tgF; rw [if_pos g1]; rfl⟩ hP hD (show 0 + 0 + 0 + 0 + 0 + 0 ≤ x.tcap - x.tpN by omega) (show 0 + 0 + 0 + 0 + 0 + 0 ≤ 2 * (x.tcap - x.tpN) by omega) d_V_feed_84
  · have g1 := mt (nI_leI (a := x.tapeLength + 20) (b := x.tpN) (by omega) (by omega)).mpr g1
    have tc : x.tcap = 2 * x.tpN := if_neg g1
    refine lv_aload_n hx hb d_V_feed_35 rfl (lv_at hl 0 rfl) ?_
    refine lv_aload_n hx hb d_V_feed_36 rfl (lv_at hl 0 rfl) ?_
    refine gF (v := .ref x.tpA) hx hb hown hE hK hP 0 rfl rfl layV 0 (by decide) w539 rfl d_V_feed_37 ?_
    refine lv_iconst (v := 2) hx hb d_V_feed_40 (by decide) ?_
    refine lv_aload_n hx hb d_V_feed_41 rfl (lv_at hl 0 rfl) ?_
    refine gF (v := .ref x.tpA) hx hb hown hE hK hP 0 rfl rfl layV 0 (by decide) w539 rfl d_V_feed_42 ?_
    refine va_alen (v := nI x.tpN) hx hb hK hP (1) 0 rfl rfl rfl d_V_feed_45 ?_
    refine lv_imul hx hb d_V_feed_46 (tpi (y := nI (2 * x.tpN)) (pk_mul (2) (x.tpN)) ?_)
    refine jfR (rnS (As := [.ref x.tpA, .int (nI (2 * x.tpN))]) (rest := [.ref h]) hx hb hml hown hE hK (hN _ _ hS) hP hD (v_copyOfB l D dA H.size (VW dA h ad x) (1) x.tpA x.tpN x.tape (2 * x.tpN) rfl (show x.tpN < 2 * x.tpN by omega) (show 2 * x.tpN ≤ 131072 by omega) hby) w1140 w1141 w1142 w712 rfl rfl ⟨⟨by decide, by decide⟩, rfl⟩ ⟨(Nat.le_of_ble_eq_true rfl), (Nat.le_of_ble_eq_true rfl)⟩ rfl hl.1 rfl (Nat.le_of_ble_eq_true rfl) d_V_feed_47 ⟨(show 0 + 1 ≤ x.tcap - x.tpN by omega), (show 0 + (2 * x.tpN) ≤ 2 * (x.tcap - x.tpN) by omega)⟩) hP hD hS hA (fun u9 q12 H locs hp9 hP hD hS => ?_)
    have hP : va_P D vwCl ([(q12, .inl (dA 0, 2 * x.tpN, .inl (va_cpy x.tape (fun _ => 0) 0 0 (min x.tpN (2 * x.tpN)))))] ++ VW dA h ad x) H := hP
    have hD : va_D A ([(q12, .inl (dA 0, 2 * x.tpN, .inl (va_cpy x.tape (fun _ => 0) 0 0 (min x.tpN (2 * x.tpN)))))] ++ VW dA h ad x) := hD
    refine pF (v := .ref q12) hx hb hown hE hK hP hD hS 1 rfl rfl layV tyV tokV nmV 0 (by decide) w539 rfl rfl rfl (Nat.le_of_ble_eq_true rfl) d_V_feed_50 (fun H locs hP hD hS => ?_)
    have hP : va_P D vwCl ([(q12, .inl (dA 0, 2 * x.tpN, .inl (va_cpy x.tape (fun _ => 0) 0 0 (min x.tpN (2 * x.tpN)))))] ++ VWf dA h ad x (VS.s_tpA x q12)) H := hP
    have hD : va_D A ([(q12, .inl (dA 0, 2 * x.tpN, .inl (va_cpy x.tape (fun _ => 0) 0 0 (min x.tpN (2 * x.tpN)))))] ++ VWf dA h ad x (VS.s_tpA x q12)) := hD
    have hP := swP 1 hP
    have hD := swD 1 hD
    have hP : va_P D vwCl (VW dA h ad (VS.s_tape (VS.s_tpN (VS.s_tpA x q12) (2 * x.tpN)) (va_cpy x.tape (fun _ => 0) 0 0 (min x.tpN (2 * x.tpN))))) H := hP
    have hD : va_D A (VW dA h ad (VS.s_tape (VS.s_tpN (VS.s_tpA x q12) (2 * x.tpN)) (va_cpy x.tape (fun _ => 0) 0 0 (min x.tpN (2 * x.tpN))))) := hD
    refine lv_aload_n hx hb d_V_feed_53 rfl (lv_at hl 0 rfl) ?_
    refine lv_iload_n hx hb d_V_feed_54 rfl (lv_at hl 1 rfl) ?_
    refine jfV (rnV (As := [.int a1]) (rest := []) hx hb hml hown hE hK (hN _ _ hS) hP hD (v_putOnTape l D dA H.size h ad (VS.s_tape (VS.s_tpN (VS.s_tpA x q12) (2 * x.tpN)) (va_cpy x.tape (fun _ => 0) 0 0 (min x.tpN (2 * x.tpN)))) a1 (show x.tapeLength + 4 ≤ (2 * x.tpN) from by omega) (show (2 * x.tpN) ≤ 131072 from by omega)) (q0 := 0) rfl rfl w542 w541 w543 w544 w277 rfl rfl ⟨⟨by decide, by decide⟩, rfl⟩ ⟨(Nat.le_of_ble_eq_true rfl), (Nat.le_of_ble_eq_true rfl)⟩ rfl hl.1 rfl (Nat.le_of_ble_eq_true rfl) d_V_feed_55 ⟨(show 0 + 1 + 0 ≤ x.tcap - x.tpN by omega), (show 0 + (2 * x.tpN) + 0 ≤ 2 * (x.tcap - x.tpN) by omega)⟩) hP hD hS hA (fun u14 H locs hp9 hP hD hS => ?_)
    have hP : va_P D vwCl (VW dA h ad (VS.s_tapeLength (VS.s_tape (VS.s_tpN (VS.s_tpA x q12) (2 * x.tpN)) (ptT a1 (va_cpy x.tape (fun _ => 0) 0 0 (min x.tpN (2 * x.tpN))) x.tapeLength)) (x.tapeLength + 1 + 1 + 1 + 1))) H := hP
    have hD : va_D A (VW dA h ad (VS.s_tapeLength (VS.s_tape (VS.s_tpN (VS.s_tpA x q12) (2 * x.tpN)) (ptT a1 (va_cpy x.tape (fun _ => 0) 0 0 (min x.tpN (2 * x.tpN))) x.tapeLength)) (x.tapeLength + 1 + 1 + 1 + 1))) := hD
    refine lv_aload_n hx hb d_V_feed_58 rfl (lv_at hl 0 rfl) ?_
    refine lv_iload_n hx hb d_V_feed_59 rfl (lv_at hl 2 rfl) ?_
    refine jfV (rnV (As := [.int a2]) (rest := []) hx hb hml hown hE hK (hN _ _ hS) hP hD (v_putOnTape l D dA H.size h ad (VS.s_tapeLength (VS.s_tape (VS.s_tpN (VS.s_tpA x q12) (2 * x.tpN)) (ptT a1 (va_cpy x.tape (fun _ => 0) 0 0 (min x.tpN (2 * x.tpN))) x.tapeLength)) (x.tapeLength + 1 + 1 + 1 + 1)) a2 (show (x.tapeLength + 1 + 1 + 1 + 1) + 4 ≤ (2 * x.tpN) from by omega) (show (2 * x.tpN) ≤ 131072 from by omega)) (q0 := 0) rfl rfl w542 w541 w543 w544 w277 rfl rfl ⟨⟨by decide, by decide⟩, rfl⟩ ⟨(Nat.le_of_ble_eq_true rfl), (Nat.le_of_ble_eq_true rfl)⟩ rfl hl.1 rfl (Nat.le_of_ble_eq_true rfl) d_V_feed_60 ⟨(show 0 + 1 + 0 + 0 ≤ x.tcap - x.tpN by omega), (show 0 + (2 * x.tpN) + 0 + 0 ≤ 2 * (x.tcap - x.tpN) by omega)⟩) hP hD hS hA (fun u16 H locs hp9 hP hD hS => ?_)
    have hP : va_P D vwCl (VW dA h ad (VS.s_tapeLength (VS.s_tape (VS.s_tpN (VS.s_tpA x q12) (2 * x.tpN)) (ptT a2 (ptT a1 (va_cpy x.tape (fun _ => 0) 0 0 (min x.tpN (2 * x.tpN))) x.tapeLength) (x.tapeLength + 1 + 1 + 1 + 1))) ((x.tapeLength + 1 + 1 + 1 + 1) + 1 + 1 + 1 + 1))) H := hP
    have hD : va_D A (VW dA h ad (VS.s_tapeLength (VS.s_tape (VS.s_tpN (VS.s_tpA x q12) (2 * x.tpN)) (ptT a2 (ptT a1 (va_cpy x.tape (fun _ => 0) 0 0 (min x.tpN (2 * x.tpN))) x.tapeLength) (x.tapeLength + 1 + 1 + 1 + 1))) ((x.tapeLength + 1 + 1 + 1 + 1) + 1 + 1 + 1 + 1))) := hD
    refine lv_aload_n hx hb d_V_feed_63 rfl (lv_at hl 0 rfl) ?_
    refine lv_iload_n hx hb d_V_feed_64 rfl (lv_at hl 3 rfl) ?_
    refine jfV (rnV (As := [.int a3]) (rest := []) hx hb hml hown hE hK (hN _ _ hS) hP hD (v_putOnTape l D dA H.size h ad (VS.s_tapeLength (VS.s_tape (VS.s_tpN (VS.s_tpA x q12) (2 * x.tpN)) (ptT a2 (ptT a1 (va_cpy x.tape (fun _ => 0) 0 0 (min x.tpN (2 * x.tpN))) x.tapeLength) (x.tapeLength + 1 + 1 + 1 + 1))) ((x.tapeLength + 1 + 1 + 1 + 1) + 1 + 1 + 1 + 1)) a3 (show ((x.tapeLength + 1 + 1 + 1 + 1) + 1 + 1 + 1 + 1) + 4 ≤ (2 * x.tpN) from by omega) (show (2 * x.tpN) ≤ 131072 from by omega)) (q0 := 0) rfl rfl w542 w541 w543 w544 w277 rfl rfl ⟨⟨by decide, by decide⟩, rfl⟩ ⟨(Nat.le_of_ble_eq_true rfl), (Nat.le_of_ble_eq_true rfl)⟩ rfl hl.1 rfl (Nat.le_of_ble_eq_true rfl) d_V_feed_65 ⟨(show 0 + 1 + 0 + 0 + 0 ≤ x.tcap - x.tpN by omega), (show 0 + (2 * x.tpN) + 0 + 0 + 0 ≤ 2 * (x.tcap - x.tpN) by omega)⟩) hP hD hS hA (fun u18 H locs hp9 hP hD hS => ?_)
    have hP : va_P D vwCl (VW dA h ad (VS.s_tapeLength (VS.s_tape (VS.s_tpN (VS.s_tpA x q12) (2 * x.tpN)) (ptT a3 (ptT a2 (ptT a1 (va_cpy x.tape (fun _ => 0) 0 0 (min x.tpN (2 * x.tpN))) x.tapeLength) (x.tapeLength + 1 + 1 + 1 + 1)) ((x.tapeLength + 1 + 1 + 1 + 1) + 1 + 1 + 1 + 1))) (((x.tapeLength + 1 + 1 + 1 + 1) + 1 + 1 + 1 + 1) + 1 + 1 + 1 + 1))) H := hP
    have hD : va_D A (VW dA h ad (VS.s_tapeLength (VS.s_tape (VS.s_tpN (VS.s_tpA x q12) (2 * x.tpN)) (ptT a3 (ptT a2 (ptT a1 (va_cpy x.tape (fun _ => 0) 0 0 (min x.tpN (2 * x.tpN))) x.tapeLength) (x.tapeLength + 1 + 1 + 1 + 1)) ((x.tapeLength + 1 + 1 + 1 + 1) + 1 + 1 + 1 + 1))) (((x.tapeLength + 1 + 1 + 1 + 1) + 1 + 1 + 1 + 1) + 1 + 1 + 1 + 1))) := hD
    refine lv_aload_n hx hb d_V_feed_68 rfl (lv_at hl 0 rfl) ?_
    refine lv_iload hx hb d_V_feed_69 (lv_at hl 4 rfl) ?_
    refine jfV (rnV (As := [.int a4]) (rest := []) hx hb hml hown hE hK (hN _ _ hS) hP hD (v_putOnTape l D dA H.size h ad (VS.s_tapeLength (VS.s_tape (VS.s_tpN (VS.s_tpA x q12) (2 * x.tpN)) (ptT a3 (ptT a2 (ptT a1 (va_cpy x.tape (fun _ => 0) 0 0 (min x.tpN (2 * x.tpN))) x.tapeLength) (x.tapeLength + 1 + 1 + 1 + 1)) ((x.tapeLength + 1 + 1 + 1 + 1) + 1 + 1 + 1 + 1))) (((x.tapeLength + 1 + 1 + 1 + 1) + 1 + 1 + 1 + 1) + 1 + 1 + 1 + 1)) a4 (show (((x.tapeLength + 1 + 1 + 1 + 1) + 1 + 1 + 1 + 1) + 1 + 1 + 1 + 1) + 4 ≤ (2 * x.tpN) from by omega) (show (2 * x.tpN) ≤ 131072 from by omega)) (q0 := 0) rfl rfl w542 w541 w543 w544 w277 rfl rfl ⟨⟨by decide, by decide⟩, rfl⟩ ⟨(Nat.le_of_ble_eq_true rfl), (Nat.le_of_ble_eq_true rfl)⟩ rfl hl.1 rfl (Nat.le_of_ble_eq_true rfl) d_V_feed_71 ⟨(show 0 + 1 + 0 + 0 + 0 + 0 ≤ x.tcap - x.tpN by omega), (show 0 + (2 * x.tpN) + 0 + 0 + 0 + 0 ≤ 2 * (x.tcap - x.tpN) by omega)⟩) hP hD hS hA (fun u20 H locs hp9 hP hD hS => ?_)
    have hP : va_P D vwCl (VW dA h ad (VS.s_tapeLength (VS.s_tape (VS.s_tpN (VS.s_tpA x q12) (2 * x.tpN)) (ptT a4 (ptT a3 (ptT a2 (ptT a1 (va_cpy x.tape (fun _ => 0) 0 0 (min x.tpN (2 * x.tpN))) x.tapeLength) (x.tapeLength + 1 + 1 + 1 + 1)) ((x.tapeLength + 1 + 1 + 1 + 1) + 1 + 1 + 1 + 1)) (((x.tapeLength + 1 + 1 + 1 + 1) + 1 + 1 + 1 + 1) + 1 + 1 + 1 + 1))) ((((x.tapeLength + 1 + 1 + 1 + 1) + 1 + 1 + 1 + 1) + 1 + 1 + 1 + 1) + 1 + 1 + 1 + 1))) H := hP
    have hD : va_D A (VW dA h ad (VS.s_tapeLength (VS.s_tape (VS.s_tpN (VS.s_tpA x q12) (2 * x.tpN)) (ptT a4 (ptT a3 (ptT a2 (ptT a1 (va_cpy x.tape (fun _ => 0) 0 0 (min x.tpN (2 * x.tpN))) x.tapeLength) (x.tapeLength + 1 + 1 + 1 + 1)) ((x.tapeLength + 1 + 1 + 1 + 1) + 1 + 1 + 1 + 1)) (((x.tapeLength + 1 + 1 + 1 + 1) + 1 + 1 + 1 + 1) + 1 + 1 + 1 + 1))) ((((x.tapeLength + 1 + 1 + 1 + 1) + 1 + 1 + 1 + 1) + 1 + 1 + 1 + 1) + 1 + 1 + 1 + 1))) := hD
    refine lv_aload_n hx hb d_V_feed_74 rfl (lv_at hl 0 rfl) ?_
    refine lv_iload hx hb d_V_feed_75 (lv_at hl 5 rfl) ?_
    refine jfV (rnV (As := [.int a5]) (rest := []) hx hb hml hown hE hK (hN _ _ hS) hP hD (v_putOnTape l D dA H.size h ad (VS.s_tapeLength (VS.s_tape (VS.s_tpN (VS.s_tpA x q12) (2 * x.tpN)) (ptT a4 (ptT a3 (ptT a2 (ptT a1 (va_cpy x.tape (fun _ => 0) 0 0 (min x.tpN (2 * x.tpN))) x.tapeLength) (x.tapeLength + 1 + 1 + 1 + 1)) ((x.tapeLength + 1 + 1 + 1 + 1) + 1 + 1 + 1 + 1)) (((x.tapeLength + 1 + 1 + 1 + 1) + 1 + 1 + 1 + 1) + 1 + 1 + 1 + 1))) ((((x.tapeLength + 1 + 1 + 1 + 1) + 1 + 1 + 1 + 1) + 1 + 1 + 1 + 1) + 1 + 1 + 1 + 1)) a5 (show ((((x.tapeLength + 1 + 1 + 1 + 1) + 1 + 1 + 1 + 1) + 1 + 1 + 1 + 1) + 1 + 1 + 1 + 1) + 4 ≤ (2 * x.tpN) from by omega) (show (2 * x.tpN) ≤ 131072 from by omega)) (q0 := 0) rfl rfl w542 w541 w543 w544 w277 rfl rfl ⟨⟨by decide, by decide⟩, rfl⟩ ⟨(Nat.le_of_ble_eq_true rfl), (Nat.le_of_ble_eq_true rfl)⟩ rfl hl.1 rfl (Nat.le_of_ble_eq_true rfl) d_V_feed_77 ⟨(show 0 + 1 + 0 + 0 + 0 + 0 + 0 ≤ x.tcap - x.tpN by omega), (show 0 + (2 * x.tpN) + 0 + 0 + 0 + 0 + 0 ≤ 2 * (x.tcap - x.tpN) by omega)⟩) hP hD hS hA (fun u22 H locs hp9 hP hD hS => ?_)
    have hP : va_P D vwCl (VW dA h ad (VS.s_tapeLength (VS.s_tape (VS.s_tpN (VS.s_tpA x q12) (2 * x.tpN)) (ptT a5 (ptT a4 (ptT a3 (ptT a2 (ptT a1 (va_cpy x.tape (fun _ => 0) 0 0 (min x.tpN (2 * x.tpN))) x.tapeLength) (x.tapeLength + 1 + 1 + 1 + 1)) ((x.tapeLength + 1 + 1 + 1 + 1) + 1 + 1 + 1 + 1)) (((x.tapeLength + 1 + 1 + 1 + 1) + 1 + 1 + 1 + 1) + 1 + 1 + 1 + 1)) ((((x.tapeLength + 1 + 1 + 1 + 1) + 1 + 1 + 1 + 1) + 1 + 1 + 1 + 1) + 1 + 1 + 1 + 1))) (((((x.tapeLength + 1 + 1 + 1 + 1) + 1 + 1 + 1 + 1) + 1 + 1 + 1 + 1) + 1 + 1 + 1 + 1) + 1 + 1 + 1 + 1))) H := hP
    have hD : va_D A (VW dA h ad (VS.s_tapeLength (VS.s_tape (VS.s_tpN (VS.s_tpA x q12) (2 * x.tpN)) (ptT a5 (ptT a4 (ptT a3 (ptT a2 (ptT a1 (va_cpy x.tape (fun _ => 0) 0 0 (min x.tpN (2 * x.tpN))) x.tapeLength) (x.tapeLength + 1 + 1 + 1 + 1)) ((x.tapeLength + 1 + 1 + 1 + 1) + 1 + 1 + 1 + 1)) (((x.tapeLength + 1 + 1 + 1 + 1) + 1 + 1 + 1 + 1) + 1 + 1 + 1 + 1)) ((((x.tapeLength + 1 + 1 + 1 + 1) + 1 + 1 + 1 + 1) + 1 + 1 + 1 + 1) + 1 + 1 + 1 + 1))) (((((x.tapeLength + 1 + 1 + 1 + 1) + 1 + 1 + 1 + 1) + 1 + 1 + 1 + 1) + 1 + 1 + 1 + 1) + 1 + 1 + 1 + 1))) := hD
    refine lv_aload_n hx hb d_V_feed_80 rfl (lv_at hl 0 rfl) ?_
    refine gF (v := .int (nI (((((x.tapeLength + 1 + 1 + 1 + 1) + 1 + 1 + 1 + 1) + 1 + 1 + 1 + 1) + 1 + 1 + 1 + 1) + 1 + 1 + 1 + 1))) hx hb hown hE hK hP 0 rfl rfl layV 1 (by decide) w259 rfl d_V_feed_81 ?_
    exact rfI hx hb hr hlk hS (VS.s_tapeLength (VS.s_tape (VS.s_tpN (VS.s_tpA x q12) (2 * x.tpN)) (ptT a5 (ptT a4 (ptT a3 (ptT a2 (ptT a1 (va_cpy x.tape (fun _ => 0) 0 0 (min x.tpN (2 * x.tpN))) x.tapeLength) (x.tapeLength + 1 + 1 + 1 + 1)) ((x.tapeLength + 1 + 1 + 1 + 1) + 1 + 1 + 1 + 1)) (((x.tapeLength + 1 + 1 + 1 + 1) + 1 + 1 + 1 + 1) + 1 + 1 + 1 + 1)) ((((x.tapeLength + 1 + 1 + 1 + 1) + 1 + 1 + 1 + 1) + 1 + 1 + 1 + 1) + 1 + 1 + 1 + 1))) (((((x.tapeLength + 1 + 1 + 1 + 1) + 1 + 1 + 1 + 1) + 1 + 1 + 1 + 1) + 1 + 1 + 1 + 1) + 1 + 1 + 1 + 1)) ⟨rfl, q12, by unfold VS.fdF VS.tgF; rw [if_neg g1]; rfl⟩ hP hD (show 0 + 1 + 0 + 0 + 0 + 0 + 0 ≤ x.tcap - x.tpN by omega) (show 0 + (2 * x.tpN) + 0 + 0 + 0 + 0 + 0 ≤ 2 * (x.tcap - x.tpN) by omega) d_V_feed_84
theorem d_V_feed_12 : decode prog_1_method_2_code 12 = .ok (.new 76, 3) := by decide +kernel
theorem d_V_feed_15 : decode prog_1_method_2_code 15 = .ok (.dup, 1) := by decide +kernel
theorem d_V_feed_16 : decode prog_1_method_2_code 16 = .ok (.invokespecial 78, 3) := by decide +kernel
theorem d_V_feed_19 : decode prog_1_method_2_code 19 = .ok (.athrow, 1) := by decide +kernel
theorem w1143 : Cond.lays "java/lang/UnsupportedOperationException" "java/lang/Throwable" "backtrace" "Ljava/lang/Object;" ∈ aW := aw_of (tb_3 (List.mem_of_getElem? (i := 74) rfl)) rfl
theorem w1144 : Cond.lays "java/lang/UnsupportedOperationException" "java/lang/Throwable" "detailMessage" "Ljava/lang/String;" ∈ aW := aw_of (tb_3 (List.mem_of_getElem? (i := 72) rfl)) rfl
theorem w1145 : Cond.lays "java/lang/UnsupportedOperationException" "java/lang/Throwable" "suppressedExceptions" "Ljava/util/List;" ∈ aW := aw_of (tb_3 (List.mem_of_getElem? (i := 70) rfl)) rfl
theorem w1146 : Cond.lays "java/lang/UnsupportedOperationException" "java/lang/Throwable" "stackTrace" "[Ljava/lang/StackTraceElement;" ∈ aW := aw_of (tb_3 (List.mem_of_getElem? (i := 68) rfl)) rfl
theorem w1147 : Cond.lays "java/lang/UnsupportedOperationException" "java/lang/Throwable" "cause" "Ljava/lang/Throwable;" ∈ aW := aw_of (tb_3 (List.mem_of_getElem? (i := 66) rfl)) rfl
theorem w1148 : Cond.selects "java/lang/UnsupportedOperationException" ⟨"java/lang/Throwable", "fillInStackTrace", "()Ljava/lang/Throwable;"⟩ ⟨"java/lang/Throwable", "fillInStackTrace", "()Ljava/lang/Throwable;"⟩ ∈ aW := aw_of (tb_3 (List.mem_of_getElem? (i := 65) rfl)) rfl
theorem w1149 : Cond.selects "java/lang/UnsupportedOperationException" ⟨"java/lang/Throwable", "fillInStackTrace", "(I)Ljava/lang/Throwable;"⟩ ⟨"java/lang/Throwable", "fillInStackTrace", "(I)Ljava/lang/Throwable;"⟩ ∈ aW := aw_of (tb_3 (List.mem_of_getElem? (i := 64) rfl)) rfl
theorem w1150 : Cond.castable "java/lang/UnsupportedOperationException" "java/lang/UnsupportedOperationException" ∈ aW := aw_of (tb_3 (List.mem_of_getElem? (i := 57) rfl)) rfl
theorem w1151 : Cond.instantiable "java/lang/UnsupportedOperationException" 6 ∈ aW := aw_of (tb_3 (List.mem_of_getElem? (i := 56) rfl)) rfl
theorem w1152 : Cond.methodLink "SeriesVault" 78 ⟨"java/lang/UnsupportedOperationException", "<init>", "()V"⟩ ∈ aW := aw_of (tb_3 (List.mem_of_getElem? (i := 98) rfl)) rfl
theorem w1153 : Cond.methodLink "java/lang/UnsupportedOperationException" 1 ⟨"java/lang/RuntimeException", "<init>", "()V"⟩ ∈ aW := aw_of (tb_3 (List.mem_of_getElem? (i := 101) rfl)) rfl
theorem w1154 : Cond.code ⟨"java/lang/UnsupportedOperationException", "<init>", "()V"⟩ prog_34_method_1_code 1 none ∈ aW := aw_of (tb_3 (List.mem_of_getElem? (i := 100) rfl)) rfl
theorem w1155 : Cond.instanceMethod ⟨"java/lang/UnsupportedOperationException", "<init>", "()V"⟩ ∈ aW := aw_of (tb_3 (List.mem_of_getElem? (i := 99) rfl)) rfl
theorem w1156 : Cond.classLink "SeriesVault" 76 "java/lang/UnsupportedOperationException" ∈ aW := aw_of (tb_3 (List.mem_of_getElem? (i := 55) rfl)) rfl
theorem w1157 : Cond.initialized "java/lang/UnsupportedOperationException" ∈ aW := aw_of (tb_1 (List.mem_of_getElem? (i := 20) rfl)) rfl
theorem at_V_UOE {s : State} {args : Array Value} (hE : eV s) : ∀ w ∈ Bundle.ownAtoms0 "SeriesVault" 78 "java/lang/UnsupportedOperationException" ["java/lang/RuntimeException", "java/lang/Exception"], w.before args s = true := List.forall_mem_cons.mpr ⟨hE.t w256 rfl, List.forall_mem_cons.mpr ⟨hE.t w255 rfl, List.forall_mem_cons.mpr ⟨hE.t w254 rfl, List.forall_mem_cons.mpr ⟨hE.t w253 rfl, List.forall_mem_cons.mpr ⟨hE.t w252 rfl, List.forall_mem_cons.mpr ⟨hE.t w251 rfl, List.forall_mem_cons.mpr ⟨hE.t w226 rfl, List.forall_mem_cons.mpr ⟨hE.t w250 rfl, List.forall_mem_cons.mpr ⟨hE.t w182 rfl, List.forall_mem_cons.mpr ⟨hE.t w183 rfl, List.forall_mem_cons.mpr ⟨hE.t w249 rfl, List.forall_mem_cons.mpr ⟨hE.t w248 rfl, List.forall_mem_cons.mpr ⟨hE.t w247 rfl, List.forall_mem_cons.mpr ⟨hE.t w246 rfl, List.forall_mem_cons.mpr ⟨hE.t w245 rfl, List.forall_mem_cons.mpr ⟨hE.t w244 rfl, List.forall_mem_cons.mpr ⟨hE.t w243 rfl, List.forall_mem_cons.mpr ⟨hE.t w242 rfl, List.forall_mem_cons.mpr ⟨hE.t w241 rfl, List.forall_mem_cons.mpr ⟨hE.t w240 rfl, List.forall_mem_cons.mpr ⟨ho_1 hE.2.1, List.forall_mem_cons.mpr ⟨hE.t w239 rfl, List.forall_mem_cons.mpr ⟨ho_1 hE.2.2.1, List.forall_mem_cons.mpr ⟨hE.t w238 rfl, List.forall_mem_cons.mpr ⟨hE.t w1155 rfl, List.forall_mem_cons.mpr ⟨hE.t w1154 rfl, List.forall_mem_cons.mpr ⟨hE.t w1153 rfl, List.forall_mem_cons.mpr ⟨hE.t w233 rfl, List.forall_mem_cons.mpr ⟨hE.t w234 rfl, List.forall_mem_cons.mpr ⟨hE.t w233 rfl, List.forall_mem_cons.mpr ⟨hE.t w232 rfl, List.forall_mem_cons.mpr ⟨hE.t w231 rfl, List.forall_mem_cons.mpr ⟨hE.t w229 rfl, List.forall_mem_cons.mpr ⟨hE.t w230 rfl, List.forall_mem_cons.mpr ⟨hE.t w229 rfl, List.forall_mem_cons.mpr ⟨hE.t w228 rfl, List.forall_mem_cons.mpr ⟨hE.t w227 rfl, List.forall_mem_cons.mpr ⟨hE.t w226 rfl, List.forall_mem_cons.mpr ⟨hE.t w225 rfl, List.forall_mem_cons.mpr ⟨hE.t w1152 rfl, List.forall_mem_cons.mpr ⟨hE.t w1151 rfl, List.forall_mem_cons.mpr ⟨hE.t w1150 rfl, List.forall_mem_cons.mpr ⟨hE.t w1149 rfl, List.forall_mem_cons.mpr ⟨hE.t w1148 rfl, List.forall_mem_cons.mpr ⟨hE.t w1147 rfl, List.forall_mem_cons.mpr ⟨hE.t w1146 rfl, List.forall_mem_cons.mpr ⟨hE.t w1145 rfl, List.forall_mem_cons.mpr ⟨hE.t w1144 rfl, List.forall_mem_cons.mpr ⟨ho_2 hE.2.2.2.1, List.forall_mem_cons.mpr ⟨ho_2 hE.2.2.2.2.1, List.forall_mem_cons.mpr ⟨hE.t w215 rfl, List.forall_mem_cons.mpr ⟨hE.t w214 rfl, List.forall_mem_cons.mpr ⟨hE.t w1143 rfl, fun _ h => absurd h List.not_mem_nil⟩⟩⟩⟩⟩⟩⟩⟩⟩⟩⟩⟩⟩⟩⟩⟩⟩⟩⟩⟩⟩⟩⟩⟩⟩⟩⟩⟩⟩⟩⟩⟩⟩⟩⟩⟩⟩⟩⟩⟩⟩⟩⟩⟩⟩⟩⟩⟩⟩⟩⟩⟩⟩
set_option maxHeartbeats 4000000 in
set_option maxRecDepth 100000 in
theorem v_feed_x (l : Launch) (htr : l.stackTraces = false) (D : va_G) (dA : Nat → ClassId) (sz : Nat) (h : Nat) (ad : Nat → Nat) (x : VS) (a1 : Int32) (a2 : Int32) (a3 : Int32) (a4 : Int32) (a5 : Int32) (h1 : 65536 < x.tapeLength + 20) (h2 : x.tapeLength ≤ 65536) : mX l ⟨"SeriesVault", "feed", "(IIIII)I"⟩ [Cond.code ⟨"SeriesVault", "feed", "(IIIII)I"⟩ prog_1_method_2_code 6 (some FieldType.int)] { frames := 6, cells := 1, slots := 6, locals := 81 } (pC D dA [.ref h, .int a1, .int a2, .int a3, .int a4, .int a5] (VW dA h ad x) sz) "java/lang/UnsupportedOperationException" (fun st9 t9 => va_F (va_A (VW dA h ad x) sz) st9 t9 ∧ bW D (va_A (VW dA h ad x) sz) (VW dA h ad x) t9) 1 6 (va_A (VW dA h ad x) sz) := by
  refine mkX (y := ⟨"SeriesVault", "feed", "(IIIII)I"⟩) (cc := prog_1_method_2_code) (maxL := 6) (av := [.ref h, .int a1, .int a2, .int a3, .int a4, .int a5]) (ws := VW dA h ad x) (sz := sz) (B := fun A => (fun st9 t9 => va_F A st9 t9 ∧ bW D A (VW dA h ad x) t9)) (by decide) (Nat.le_of_ble_eq_true rfl) ?_
  intro A p e s m below meth c ls hsz hno hB
  obtain ⟨hx, hb, hr, hml, hown, hin, hlk, hE, hK, hP, hD, hS, hA, hN, hl⟩ := hB
  have hown : s.vm.findClass "SeriesVault" = some m.cls := hown
  have hl : lv_has ls 6 [(0, .ref h), (1, .int a1), (2, .int a2), (3, .int a3), (4, .int a4), (5, .int a5)] := hl
  obtain ⟨H, hH⟩ : ∃ z, z = s.heap := ⟨_, rfl⟩
  have hP : va_P D vwCl (VW dA h ad x) H := by rw [hH]; exact hP
  have hS : va_S A s.heap H [] := by rw [hH]; exact hS
  rw [← hH]
  refine lv_aload_n hx hb d_V_feed_0 rfl (lv_at hl 0 rfl) ?_
  refine gF (v := .int (nI x.tapeLength)) hx hb hown hE hK hP 0 rfl rfl layV 1 (by decide) w259 rfl d_V_feed_1 ?_
  refine lv_bipush (v := 20) hx hb d_V_feed_4 (by decide) ?_
  refine lv_iadd hx hb d_V_feed_6 (tpi (y := nI (x.tapeLength + 20)) (nI_add (x.tapeLength) (20)) ?_)
  refine lv_ldc (v := 65536) hx hb hown (hE.t w540 rfl) d_V_feed_7 ?_
  refine lv_icmp_le hx hb d_V_feed_9 (tgt := 20) rfl (fun h9 => absurd h9 (mt (nI_leI (a := x.tapeLength + 20) (b := 65536) (by omega) (by omega)).mp (Nat.not_le.mpr h1))) (fun _ => ?_)
  exact xNew (E := "java/lang/UnsupportedOperationException") (names := ["java/lang/RuntimeException", "java/lang/Exception"]) hx hb htr hown (by decide) (by decide) hE w1156 w1157 (fun U hU => at_V_UOE hU) (hN _ _ hS) (hl.1.trans hml.symm) d_V_feed_12 d_V_feed_15 d_V_feed_16 d_V_feed_19 hno (by decide) (Nat.le_of_ble_eq_true rfl) (Nat.le_of_ble_eq_true rfl) (Nat.le_of_ble_eq_true rfl) hlk (fun t h1 h2 => xEndV hP hD hS t h1 h2) hS.2.2 (Nat.le_of_ble_eq_true rfl) (Nat.le_of_ble_eq_true rfl)
set_option maxHeartbeats 4000000 in
set_option maxRecDepth 100000 in
theorem v_append_1 (l : Launch) (htr : l.stackTraces = false) (D : va_G) (dA : Nat → ClassId) (sz : Nat) (h : Nat) (ad : Nat → Nat) (x : VS) (n : Int32) (a : Int64) (b : Int64) (ho : x.powered = false) : mX l ⟨"SeriesVault", "append", "(IJJ)I"⟩ [Cond.code ⟨"SeriesVault", "append", "(IJJ)I"⟩ prog_1_method_28_code 6 (some FieldType.int)] { frames := 7, cells := 1, slots := 6, locals := 101 } (pC D dA [.ref h, .int n, .long a, .long b] (VW dA h ad x) sz) "java/lang/IllegalStateException" (fun st9 t9 => va_F (va_A (VW dA h ad x) sz) st9 t9 ∧ bW D (va_A (VW dA h ad x) sz) (VW dA h ad x) t9) 1 6 (va_A (VW dA h ad x) sz) := by
  refine mkX (y := ⟨"SeriesVault", "append", "(IJJ)I"⟩) (cc := prog_1_method_28_code) (maxL := 6) (av := [.ref h, .int n, .long a, .long b]) (ws := VW dA h ad x) (sz := sz) (B := fun A => (fun st9 t9 => va_F A st9 t9 ∧ bW D A (VW dA h ad x) t9)) (by decide) (Nat.le_of_ble_eq_true rfl) ?_
  intro A p e s m below meth c ls hsz hno hB
  obtain ⟨hx, hb, hr, hml, hown, hin, hlk, hE, hK, hP, hD, hS, hA, hN, hl⟩ := hB
  have hown : s.vm.findClass "SeriesVault" = some m.cls := hown
  have hl : lv_has ls 6 [(0, .ref h), (1, .int n), (2, .long a), (4, .long b)] := hl
  obtain ⟨H, hH⟩ : ∃ z, z = s.heap := ⟨_, rfl⟩
  have hP : va_P D vwCl (VW dA h ad x) H := by rw [hH]; exact hP
  have hS : va_S A s.heap H [] := by rw [hH]; exact hS
  rw [← hH]
  refine lv_aload_n hx hb d_V_append_0 rfl (lv_at hl 0 rfl) ?_
  refine xfV (w1 := VW dA h ad x) (As := []) (rest := []) hx hb hml hown hE hK (hN _ _ hS) (v_checkPower_x l htr D dA H.size h ad x ho) (q0 := 0) rfl rfl w278 w276 w279 w280 w277 rfl rfl ⟨⟨by decide, by decide⟩, rfl⟩ ⟨(Nat.le_of_ble_eq_true rfl), (Nat.le_of_ble_eq_true rfl)⟩ rfl hl.1 rfl (Nat.le_of_ble_eq_true rfl) d_V_append_1 ⟨(Nat.le_of_ble_eq_true rfl), (Nat.le_of_ble_eq_true rfl)⟩ hP hD hS hA (fun xa1 ce H locs hP hD hS hce hcv hcl => ?_)
  exact xOut hno hlk hce hcv hcl (fun t ht => xEndV hP hD hS t (by rw [ht]; exact Nat.le_refl _) (fun q _ => by rw [ht])) hS.2.2 (Nat.le_of_ble_eq_true rfl) (Nat.le_of_ble_eq_true rfl)
set_option maxHeartbeats 4000000 in
set_option maxRecDepth 100000 in
theorem v_append_2 (l : Launch) (htr : l.stackTraces = false) (D : va_G) (dA : Nat → ClassId) (sz : Nat) (h : Nat) (ad : Nat → Nat) (x : VS) (n : Int32) (a : Int64) (b : Int64) (ho : x.powered = true) (h0 : n < 0 ∨ nI x.nser ≤ n) : mX l ⟨"SeriesVault", "append", "(IJJ)I"⟩ [Cond.code ⟨"SeriesVault", "append", "(IJJ)I"⟩ prog_1_method_28_code 6 (some FieldType.int)] { frames := 7, cells := 1, slots := 6, locals := 102 } (pC D dA [.ref h, .int n, .long a, .long b] (VW dA h ad x) sz) "java/lang/IndexOutOfBoundsException" (fun st9 t9 => va_F (va_A (VW dA h ad x) sz) st9 t9 ∧ bW D (va_A (VW dA h ad x) sz) (VW dA h ad x) t9) 1 6 (va_A (VW dA h ad x) sz) := by
  refine mkX (y := ⟨"SeriesVault", "append", "(IJJ)I"⟩) (cc := prog_1_method_28_code) (maxL := 6) (av := [.ref h, .int n, .long a, .long b]) (ws := VW dA h ad x) (sz := sz) (B := fun A => (fun st9 t9 => va_F A st9 t9 ∧ bW D A (VW dA h ad x) t9)) (by decide) (Nat.le_of_ble_eq_true rfl) ?_
  intro A p e s m below meth c ls hsz hno hB
  obtain ⟨hx, hb, hr, hml, hown, hin, hlk, hE, hK, hP, hD, hS, hA, hN, hl⟩ := hB
  have hown : s.vm.findClass "SeriesVault" = some m.cls := hown
  have hl : lv_has ls 6 [(0, .ref h), (1, .int n), (2, .long a), (4, .long b)] := hl
  obtain ⟨H, hH⟩ : ∃ z, z = s.heap := ⟨_, rfl⟩
  have hP : va_P D vwCl (VW dA h ad x) H := by rw [hH]; exact hP
  have hS : va_S A s.heap H [] := by rw [hH]; exact hS
  rw [← hH]
  refine lv_aload_n hx hb d_V_append_0 rfl (lv_at hl 0 rfl) ?_
  refine jfV (rnV (As := []) (rest := []) hx hb hml hown hE hK (hN _ _ hS) hP hD (v_checkPower l D dA H.size h ad x ho) (q0 := 0) rfl rfl w278 w276 w279 w280 w277 rfl rfl ⟨⟨by decide, by decide⟩, rfl⟩ ⟨(Nat.le_of_ble_eq_true rfl), (Nat.le_of_ble_eq_true rfl)⟩ rfl hl.1 rfl (Nat.le_of_ble_eq_true rfl) d_V_append_1 ⟨(Nat.le_of_ble_eq_true rfl), (Nat.le_of_ble_eq_true rfl)⟩) hP hD hS hA (fun u2 H locs hp9 hP hD hS => ?_)
  have hP : va_P D vwCl (VW dA h ad x) H := hP
  have hD : va_D A (VW dA h ad x) := hD
  refine lv_aload_n hx hb d_V_append_4 rfl (lv_at hl 0 rfl) ?_
  refine lv_iload_n hx hb d_V_append_5 rfl (lv_at hl 1 rfl) ?_
  refine xfV (w1 := VW dA h ad x) (As := [.int n]) (rest := []) hx hb hml hown hE hK (hN _ _ hS) (v_checkSeries_x l htr D dA H.size h ad x n h0) (q0 := 0) rfl rfl w300 w299 w301 w302 w277 rfl rfl ⟨⟨by decide, by decide⟩, rfl⟩ ⟨(Nat.le_of_ble_eq_true rfl), (Nat.le_of_ble_eq_true rfl)⟩ rfl hl.1 rfl (Nat.le_of_ble_eq_true rfl) d_V_append_6 ⟨(Nat.le_of_ble_eq_true rfl), (Nat.le_of_ble_eq_true rfl)⟩ hP hD hS hA (fun xa3 ce H locs hP hD hS hce hcv hcl => ?_)
  exact xOut hno hlk hce hcv hcl (fun t ht => xEndV hP hD hS t (by rw [ht]; exact Nat.le_refl _) (fun q _ => by rw [ht])) hS.2.2 (Nat.le_of_ble_eq_true rfl) (Nat.le_of_ble_eq_true rfl)
theorem d_V_append_9 : decode prog_1_method_28_code 9 = .ok (.aload_n 0, 1) := by decide +kernel
theorem d_V_append_10 : decode prog_1_method_28_code 10 = .ok (.iload_n 1, 1) := by decide +kernel
theorem d_V_append_11 : decode prog_1_method_28_code 11 = .ok (.lload_n 2, 1) := by decide +kernel
theorem d_V_append_12 : decode prog_1_method_28_code 12 = .ok (.invokevirtual 254, 3) := by decide +kernel
theorem d_V_append_15 : decode prog_1_method_28_code 15 = .ok (.ifCond .ne 11, 3) := by decide +kernel
theorem d_V_append_18 : decode prog_1_method_28_code 18 = .ok (.new 89, 3) := by decide +kernel
theorem d_V_append_21 : decode prog_1_method_28_code 21 = .ok (.dup, 1) := by decide +kernel
theorem d_V_append_22 : decode prog_1_method_28_code 22 = .ok (.invokespecial 91, 3) := by decide +kernel
theorem d_V_append_25 : decode prog_1_method_28_code 25 = .ok (.athrow, 1) := by decide +kernel
theorem w1158 : Cond.methodLink "SeriesVault" 254 ⟨"SeriesVault", "mayCome", "(IJ)Z"⟩ ∈ aW := aw_of (tb_5 (List.mem_of_getElem? (i := 137) rfl)) rfl
theorem w1159 : Cond.code ⟨"SeriesVault", "mayCome", "(IJ)Z"⟩ prog_1_method_29_code 4 (some FieldType.boolean) ∈ aW := aw_of (tb_5 (List.mem_of_getElem? (i := 140) rfl)) rfl
theorem w1160 : Cond.instanceMethod ⟨"SeriesVault", "mayCome", "(IJ)Z"⟩ ∈ aW := aw_of (tb_5 (List.mem_of_getElem? (i := 139) rfl)) rfl
theorem w1161 : Cond.selects "SeriesVault" ⟨"SeriesVault", "mayCome", "(IJ)Z"⟩ ⟨"SeriesVault", "mayCome", "(IJ)Z"⟩ ∈ aW := aw_pr (List.mem_map.mpr ⟨_, pv_2 (List.mem_of_getElem? (i := 2) rfl), rfl⟩) rfl
set_option maxHeartbeats 4000000 in
set_option maxRecDepth 100000 in
theorem v_append_3 (l : Launch) (htr : l.stackTraces = false) (D : va_G) (dA : Nat → ClassId) (sz : Nat) (h : Nat) (ad : Nat → Nat) (x : VS) (w : Nat) (a : Int64) (b : Int64) (ho : x.powered = true) (hw1 : w < x.nser) (hw2 : x.nser ≤ 256) (hm : x.may w a = false) : mX l ⟨"SeriesVault", "append", "(IJJ)I"⟩ [Cond.code ⟨"SeriesVault", "append", "(IJJ)I"⟩ prog_1_method_28_code 6 (some FieldType.int)] { frames := 6, cells := 1, slots := 6, locals := 81 } (pC D dA [.ref h, .int (nI w), .long a, .long b] (VW dA h ad x) sz) "java/lang/IllegalArgumentException" (fun st9 t9 => va_F (va_A (VW dA h ad x) sz) st9 t9 ∧ bW D (va_A (VW dA h ad x) sz) (VW dA h ad x) t9) 1 6 (va_A (VW dA h ad x) sz) := by
  refine mkX (y := ⟨"SeriesVault", "append", "(IJJ)I"⟩) (cc := prog_1_method_28_code) (maxL := 6) (av := [.ref h, .int (nI w), .long a, .long b]) (ws := VW dA h ad x) (sz := sz) (B := fun A => (fun st9 t9 => va_F A st9 t9 ∧ bW D A (VW dA h ad x) t9)) (by decide) (Nat.le_of_ble_eq_true rfl) ?_
  intro A p e s m below meth c ls hsz hno hB
  obtain ⟨hx, hb, hr, hml, hown, hin, hlk, hE, hK, hP, hD, hS, hA, hN, hl⟩ := hB
  have hown : s.vm.findClass "SeriesVault" = some m.cls := hown
  have hl : lv_has ls 6 [(0, .ref h), (1, .int (nI w)), (2, .long a), (4, .long b)] := hl
  obtain ⟨H, hH⟩ : ∃ z, z = s.heap := ⟨_, rfl⟩
  have hP : va_P D vwCl (VW dA h ad x) H := by rw [hH]; exact hP
  have hS : va_S A s.heap H [] := by rw [hH]; exact hS
  rw [← hH]
  refine lv_aload_n hx hb d_V_append_0 rfl (lv_at hl 0 rfl) ?_
  refine jfV (rnV (As := []) (rest := []) hx hb hml hown hE hK (hN _ _ hS) hP hD (v_checkPower l D dA H.size h ad x ho) (q0 := 0) rfl rfl w278 w276 w279 w280 w277 rfl rfl ⟨⟨by decide, by decide⟩, rfl⟩ ⟨(Nat.le_of_ble_eq_true rfl), (Nat.le_of_ble_eq_true rfl)⟩ rfl hl.1 rfl (Nat.le_of_ble_eq_true rfl) d_V_append_1 ⟨(Nat.le_of_ble_eq_true rfl), (Nat.le_of_ble_eq_true rfl)⟩) hP hD hS hA (fun u2 H locs hp9 hP hD hS => ?_)
  have hP : va_P D vwCl (VW dA h ad x) H := hP
  have hD : va_D A (VW dA h ad x) := hD
  refine lv_aload_n hx hb d_V_append_4 rfl (lv_at hl 0 rfl) ?_
  refine lv_iload_n hx hb d_V_append_5 rfl (lv_at hl 1 rfl) ?_
  refine jfV (rnV (As := [.int (nI w)]) (rest := []) hx hb hml hown hE hK (hN _ _ hS) hP hD (v_checkSeries l D dA H.size h ad x w (show w < x.nser from by omega) (show x.nser ≤ 256 from by omega)) (q0 := 0) rfl rfl w300 w299 w301 w302 w277 rfl rfl ⟨⟨by decide, by decide⟩, rfl⟩ ⟨(Nat.le_of_ble_eq_true rfl), (Nat.le_of_ble_eq_true rfl)⟩ rfl hl.1 rfl (Nat.le_of_ble_eq_true rfl) d_V_append_6 ⟨(Nat.le_of_ble_eq_true rfl), (Nat.le_of_ble_eq_true rfl)⟩) hP hD hS hA (fun u4 H locs hp9 hP hD hS => ?_)
  have hP : va_P D vwCl (VW dA h ad x) H := hP
  have hD : va_D A (VW dA h ad x) := hD
  refine lv_aload_n hx hb d_V_append_9 rfl (lv_at hl 0 rfl) ?_
  refine lv_iload_n hx hb d_V_append_10 rfl (lv_at hl 1 rfl) ?_
  refine lv_lload_n hx hb d_V_append_11 rfl (lv_at hl 2 rfl) ?_
  refine jfI (rnV (As := [.int (nI w), .long a]) (rest := []) hx hb hml hown hE hK (hN _ _ hS) hP hD (v_mayCome l D dA H.size h ad x w a (show w < 256 from by omega)) (q0 := 0) rfl rfl w1159 w1158 w1160 w1161 w277 rfl rfl ⟨⟨by decide, by decide⟩, rfl⟩ ⟨(Nat.le_of_ble_eq_true rfl), (Nat.le_of_ble_eq_true rfl)⟩ rfl hl.1 rfl (Nat.le_of_ble_eq_true rfl) d_V_append_12 ⟨(Nat.le_of_ble_eq_true rfl), (Nat.le_of_ble_eq_true rfl)⟩) hP hD hS hA (fun r5 u6 H locs hp9 hP hD hS => ?_)
  have hP : va_P D vwCl (VW dA h ad x) H := hP
  have hD : va_D A (VW dA h ad x) := hD
  replace hp9 : bI (x.may w a) = r5 := Eq.symm hp9
  subst hp9
  refine lv_if_ne hx hb d_V_append_15 (tgt := 26) rfl (fun h9 => absurd (by rw [hm]; decide) h9) (fun _ => ?_)
  exact xNew (E := "java/lang/IllegalArgumentException") (names := ["java/lang/RuntimeException", "java/lang/Exception"]) hx hb htr hown (by decide) (by decide) hE w273 w274 (fun U hU => at_V_IAE hU) (hN _ _ hS) (hl.1.trans hml.symm) d_V_append_18 d_V_append_21 d_V_append_22 d_V_append_25 hno (by decide) (Nat.le_of_ble_eq_true rfl) (Nat.le_of_ble_eq_true rfl) (Nat.le_of_ble_eq_true rfl) hlk (fun t h1 h2 => xEndV hP hD hS t h1 h2) hS.2.2 (Nat.le_of_ble_eq_true rfl) (Nat.le_of_ble_eq_true rfl)
theorem d_V_append_26 : decode prog_1_method_28_code 26 = .ok (.aload_n 0, 1) := by decide +kernel
theorem d_V_append_27 : decode prog_1_method_28_code 27 = .ok (.getfield 16, 3) := by decide +kernel
theorem d_V_append_30 : decode prog_1_method_28_code 30 = .ok (.iconst 1, 1) := by decide +kernel
theorem d_V_append_31 : decode prog_1_method_28_code 31 = .ok (.invokevirtual 238, 3) := by decide +kernel
theorem d_V_append_34 : decode prog_1_method_28_code 34 = .ok (.ifCond .ne 11, 3) := by decide +kernel
theorem d_V_append_37 : decode prog_1_method_28_code 37 = .ok (.new 76, 3) := by decide +kernel
theorem d_V_append_40 : decode prog_1_method_28_code 40 = .ok (.dup, 1) := by decide +kernel
theorem d_V_append_41 : decode prog_1_method_28_code 41 = .ok (.invokespecial 78, 3) := by decide +kernel
theorem d_V_append_44 : decode prog_1_method_28_code 44 = .ok (.athrow, 1) := by decide +kernel
theorem w1162 : Cond.methodLink "SeriesVault" 238 ⟨"SeriesVault$Journal", "hasRoom", "(I)Z"⟩ ∈ aW := aw_of (tb_5 (List.mem_of_getElem? (i := 34) rfl)) rfl
theorem w1163 : Cond.code ⟨"SeriesVault$Journal", "hasRoom", "(I)Z"⟩ prog_3_method_5_code 2 (some FieldType.boolean) ∈ aW := aw_of (tb_5 (List.mem_of_getElem? (i := 37) rfl)) rfl
theorem w1164 : Cond.instanceMethod ⟨"SeriesVault$Journal", "hasRoom", "(I)Z"⟩ ∈ aW := aw_of (tb_5 (List.mem_of_getElem? (i := 35) rfl)) rfl
theorem w1165 : Cond.selects "SeriesVault$Journal" ⟨"SeriesVault$Journal", "hasRoom", "(I)Z"⟩ ⟨"SeriesVault$Journal", "hasRoom", "(I)Z"⟩ ∈ aW := aw_of (tb_5 (List.mem_of_getElem? (i := 36) rfl)) rfl
set_option maxHeartbeats 4000000 in
set_option maxRecDepth 100000 in
theorem v_append_4 (l : Launch) (htr : l.stackTraces = false) (D : va_G) (dA : Nat → ClassId) (sz : Nat) (h : Nat) (ad : Nat → Nat) (x : VS) (w : Nat) (a : Int64) (b : Int64) (ho : x.powered = true) (hw1 : w < x.nser) (hw2 : x.nser ≤ 256) (hm : x.may w a = true) (hfu : x.jfill + 1 < 2 ^ 31) (hbu : x.jblock + 1 < 2 ^ 31) (hlu : x.jlimit < 2 ^ 31) (hro : x.room 1 = false) : mX l ⟨"SeriesVault", "append", "(IJJ)I"⟩ [Cond.code ⟨"SeriesVault", "append", "(IJJ)I"⟩ prog_1_method_28_code 6 (some FieldType.int)] { frames := 6, cells := 1, slots := 6, locals := 81 } (pC D dA [.ref h, .int (nI w), .long a, .long b] (VW dA h ad x) sz) "java/lang/UnsupportedOperationException" (fun st9 t9 => va_F (va_A (VW dA h ad x) sz) st9 t9 ∧ bW D (va_A (VW dA h ad x) sz) (VW dA h ad x) t9) 1 6 (va_A (VW dA h ad x) sz) := by
  refine mkX (y := ⟨"SeriesVault", "append", "(IJJ)I"⟩) (cc := prog_1_method_28_code) (maxL := 6) (av := [.ref h, .int (nI w), .long a, .long b]) (ws := VW dA h ad x) (sz := sz) (B := fun A => (fun st9 t9 => va_F A st9 t9 ∧ bW D A (VW dA h ad x) t9)) (by decide) (Nat.le_of_ble_eq_true rfl) ?_
  intro A p e s m below meth c ls hsz hno hB
  obtain ⟨hx, hb, hr, hml, hown, hin, hlk, hE, hK, hP, hD, hS, hA, hN, hl⟩ := hB
  have hown : s.vm.findClass "SeriesVault" = some m.cls := hown
  have hl : lv_has ls 6 [(0, .ref h), (1, .int (nI w)), (2, .long a), (4, .long b)] := hl
  obtain ⟨H, hH⟩ : ∃ z, z = s.heap := ⟨_, rfl⟩
  have hP : va_P D vwCl (VW dA h ad x) H := by rw [hH]; exact hP
  have hS : va_S A s.heap H [] := by rw [hH]; exact hS
  rw [← hH]
  refine lv_aload_n hx hb d_V_append_0 rfl (lv_at hl 0 rfl) ?_
  refine jfV (rnV (As := []) (rest := []) hx hb hml hown hE hK (hN _ _ hS) hP hD (v_checkPower l D dA H.size h ad x ho) (q0 := 0) rfl rfl w278 w276 w279 w280 w277 rfl rfl ⟨⟨by decide, by decide⟩, rfl⟩ ⟨(Nat.le_of_ble_eq_true rfl), (Nat.le_of_ble_eq_true rfl)⟩ rfl hl.1 rfl (Nat.le_of_ble_eq_true rfl) d_V_append_1 ⟨(Nat.le_of_ble_eq_true rfl), (Nat.le_of_ble_eq_true rfl)⟩) hP hD hS hA (fun u2 H locs hp9 hP hD hS => ?_)
  have hP : va_P D vwCl (VW dA h ad x) H := hP
  have hD : va_D A (VW dA h ad x) := hD
  refine lv_aload_n hx hb d_V_append_4 rfl (lv_at hl 0 rfl) ?_
  refine lv_iload_n hx hb d_V_append_5 rfl (lv_at hl 1 rfl) ?_
  refine jfV (rnV (As := [.int (nI w)]) (rest := []) hx hb hml hown hE hK (hN _ _ hS) hP hD (v_checkSeries l D dA H.size h ad x w (show w < x.nser from by omega) (show x.nser ≤ 256 from by omega)) (q0 := 0) rfl rfl w300 w299 w301 w302 w277 rfl rfl ⟨⟨by decide, by decide⟩, rfl⟩ ⟨(Nat.le_of_ble_eq_true rfl), (Nat.le_of_ble_eq_true rfl)⟩ rfl hl.1 rfl (Nat.le_of_ble_eq_true rfl) d_V_append_6 ⟨(Nat.le_of_ble_eq_true rfl), (Nat.le_of_ble_eq_true rfl)⟩) hP hD hS hA (fun u4 H locs hp9 hP hD hS => ?_)
  have hP : va_P D vwCl (VW dA h ad x) H := hP
  have hD : va_D A (VW dA h ad x) := hD
  refine lv_aload_n hx hb d_V_append_9 rfl (lv_at hl 0 rfl) ?_
  refine lv_iload_n hx hb d_V_append_10 rfl (lv_at hl 1 rfl) ?_
  refine lv_lload_n hx hb d_V_append_11 rfl (lv_at hl 2 rfl) ?_
  refine jfI (rnV (As := [.int (nI w), .long a]) (rest := []) hx hb hml hown hE hK (hN _ _ hS) hP hD (v_mayCome l D dA H.size h ad x w a (show w < 256 from by omega)) (q0 := 0) rfl rfl w1159 w1158 w1160 w1161 w277 rfl rfl ⟨⟨by decide, by decide⟩, rfl⟩ ⟨(Nat.le_of_ble_eq_true rfl), (Nat.le_of_ble_eq_true rfl)⟩ rfl hl.1 rfl (Nat.le_of_ble_eq_true rfl) d_V_append_12 ⟨(Nat.le_of_ble_eq_true rfl), (Nat.le_of_ble_eq_true rfl)⟩) hP hD hS hA (fun r5 u6 H locs hp9 hP hD hS => ?_)
  have hP : va_P D vwCl (VW dA h ad x) H := hP
  have hD : va_D A (VW dA h ad x) := hD
  replace hp9 : bI (x.may w a) = r5 := Eq.symm hp9
  subst hp9
  refine lv_if_ne hx hb d_V_append_15 (tgt := 26) rfl (fun _ => ?_) (fun h9 => absurd h9 (by rw [hm]; decide))
  refine lv_aload_n hx hb d_V_append_26 rfl (lv_at hl 0 rfl) ?_
  refine gF (v := .ref (ad 0)) hx hb hown hE hK hP 0 rfl rfl layV 8 (by decide) w312 rfl d_V_append_27 ?_
  refine lv_iconst (v := 1) hx hb d_V_append_30 (by decide) ?_
  refine jfI (rnV (As := [.int 1]) (rest := []) hx hb hml hown hE hK (hN _ _ hS) hP hD (v_jhasRoom l D dA H.size h ad x 1 (show x.jfill + 1 < 2 ^ 31 from by omega) (show x.jblock + 1 < 2 ^ 31 from by omega) (show x.jlimit < 2 ^ 31 from by omega)) (q0 := 2) rfl rfl w1163 w1162 w1164 w1165 w556 rfl rfl ⟨⟨by decide, by decide⟩, rfl⟩ ⟨(Nat.le_of_ble_eq_true rfl), (Nat.le_of_ble_eq_true rfl)⟩ rfl hl.1 rfl (Nat.le_of_ble_eq_true rfl) d_V_append_31 ⟨(Nat.le_of_ble_eq_true rfl), (Nat.le_of_ble_eq_true rfl)⟩) hP hD hS hA (fun r7 u8 H locs hp9 hP hD hS => ?_)
  have hP : va_P D vwCl (VW dA h ad x) H := hP
  have hD : va_D A (VW dA h ad x) := hD
  replace hp9 : bI (x.room 1) = r7 := Eq.symm hp9
  subst hp9
  refine lv_if_ne hx hb d_V_append_34 (tgt := 45) rfl (fun h9 => absurd (by rw [hro]; decide) h9) (fun _ => ?_)
  exact xNew (E := "java/lang/UnsupportedOperationException") (names := ["java/lang/RuntimeException", "java/lang/Exception"]) hx hb htr hown (by decide) (by decide) hE w1156 w1157 (fun U hU => at_V_UOE hU) (hN _ _ hS) (hl.1.trans hml.symm) d_V_append_37 d_V_append_40 d_V_append_41 d_V_append_44 hno (by decide) (Nat.le_of_ble_eq_true rfl) (Nat.le_of_ble_eq_true rfl) (Nat.le_of_ble_eq_true rfl) hlk (fun t h1 h2 => xEndV hP hD hS t h1 h2) hS.2.2 (Nat.le_of_ble_eq_true rfl) (Nat.le_of_ble_eq_true rfl)
set_option maxHeartbeats 4000000 in
set_option maxRecDepth 100000 in
theorem v_writeRecord_x (l : Launch) (htr : l.stackTraces = false) (D : va_G) (dA : Nat → ClassId) (sz : Nat) (h : Nat) (ad : Nat → Nat) (x : VS) (kd : Nat) (w : Nat) (n : Nat) (a : Int64) (b : Int64) (hfu : x.jfill + n < 2 ^ 31) (c1 : 126 < x.jfill + n) (hc2 : x.jch = true) (hc : x.cutLeft = 0) : mX l ⟨"SeriesVault", "writeRecord", "(IIIJJ)V"⟩ [Cond.code ⟨"SeriesVault", "writeRecord", "(IIIJJ)V"⟩ prog_1_method_20_code 8 none] { frames := 8, cells := 1, slots := 6, locals := 121 } (pC D dA [.ref h, .int (nI kd), .int (nI w), .int (nI n), .long a, .long b] (VW dA h ad x) sz) "java/lang/IllegalStateException" (fun st9 t9 => va_F (va_A (VW dA h ad x) sz) st9 t9 ∧ bW D (va_A (VW dA h ad x) sz) (VW dA h ad (VS.s_cutLeft (VS.s_powered x false) (-1))) t9) 1 6 (va_A (VW dA h ad x) sz) := by
  refine mkX (y := ⟨"SeriesVault", "writeRecord", "(IIIJJ)V"⟩) (cc := prog_1_method_20_code) (maxL := 8) (av := [.ref h, .int (nI kd), .int (nI w), .int (nI n), .long a, .long b]) (ws := VW dA h ad x) (sz := sz) (B := fun A => (fun st9 t9 => va_F A st9 t9 ∧ bW D A (VW dA h ad (VS.s_cutLeft (VS.s_powered x false) (-1))) t9)) (by decide) (Nat.le_of_ble_eq_true rfl) ?_
  intro A p e s m below meth c ls hsz hno hB
  obtain ⟨hx, hb, hr, hml, hown, hin, hlk, hE, hK, hP, hD, hS, hA, hN, hl⟩ := hB
  have hown : s.vm.findClass "SeriesVault" = some m.cls := hown
  have hl : lv_has ls 8 [(0, .ref h), (1, .int (nI kd)), (2, .int (nI w)), (3, .int (nI n)), (4, .long a), (6, .long b)] := hl
  obtain ⟨H, hH⟩ : ∃ z, z = s.heap := ⟨_, rfl⟩
  have hP : va_P D vwCl (VW dA h ad x) H := by rw [hH]; exact hP
  have hS : va_S A s.heap H [] := by rw [hH]; exact hS
  rw [← hH]
  refine lv_aload_n hx hb d_V_writeRecord_0 rfl (lv_at hl 0 rfl) ?_
  refine gF (v := .ref (ad 0)) hx hb hown hE hK hP 0 rfl rfl layV 8 (by decide) w312 rfl d_V_writeRecord_1 ?_
  refine lv_iload_n hx hb d_V_writeRecord_4 rfl (lv_at hl 3 rfl) ?_
  refine jfI (rnV (As := [.int (nI n)]) (rest := []) hx hb hml hown hE hK (hN _ _ hS) hP hD (v_fitsInBlock l D dA H.size h ad x n (show x.jfill + n < 2 ^ 31 from by omega)) (q0 := 2) rfl rfl w1082 w1125 w1083 w1084 w556 rfl rfl ⟨⟨by decide, by decide⟩, rfl⟩ ⟨(Nat.le_of_ble_eq_true rfl), (Nat.le_of_ble_eq_true rfl)⟩ rfl hl.1 rfl (Nat.le_of_ble_eq_true rfl) d_V_writeRecord_5 ⟨(Nat.le_of_ble_eq_true rfl), (Nat.le_of_ble_eq_true rfl)⟩) hP hD hS hA (fun r1 u2 H locs hp9 hP hD hS => ?_)
  have hP : va_P D vwCl (VW dA h ad x) H := hP
  have hD : va_D A (VW dA h ad x) := hD
  replace hp9 : bI (decide (x.jfill + n ≤ 126)) = r1 := Eq.symm hp9
  subst hp9
  refine lv_if_ne hx hb d_V_writeRecord_8 (tgt := 23) rfl (fun h9 => absurd (by rw [decide_eq_false (by omega)]; decide) h9) (fun _ => ?_)
  refine lv_aload_n hx hb d_V_writeRecord_11 rfl (lv_at hl 0 rfl) ?_
  refine xfV (w1 := VW dA h ad (VS.s_cutLeft (VS.s_powered x false) (-1))) (As := []) (rest := []) hx hb hml hown hE hK (hN _ _ hS) (v_writeJournalBlock_x l htr D dA H.size h ad x hc2 hc) (q0 := 0) rfl rfl w315 w314 w316 w317 w277 rfl rfl ⟨⟨by decide, by decide⟩, rfl⟩ ⟨(Nat.le_of_ble_eq_true rfl), (Nat.le_of_ble_eq_true rfl)⟩ rfl hl.1 rfl (Nat.le_of_ble_eq_true rfl) d_V_writeRecord_12 ⟨(Nat.le_of_ble_eq_true rfl), (Nat.le_of_ble_eq_true rfl)⟩ hP hD hS hA (fun xa3 ce H locs hP hD hS hce hcv hcl => ?_)
  exact xOut hno hlk hce hcv hcl (fun t ht => xEndV hP hD hS t (by rw [ht]; exact Nat.le_refl _) (fun q _ => by rw [ht])) hS.2.2 (Nat.le_of_ble_eq_true rfl) (Nat.le_of_ble_eq_true rfl)
set_option maxHeartbeats 4000000 in
set_option maxRecDepth 100000 in
theorem v_addPoint_x (l : Launch) (htr : l.stackTraces = false) (D : va_G) (dA : Nat → ClassId) (sz : Nat) (h : Nat) (ad : Nat → Nat) (x : VS) (w : Nat) (a : Int64) (b : Int64) (hfu : x.jfill + 1 < 2 ^ 31) (c1 : 126 < x.jfill + 1) (hc2 : x.jch = true) (hc : x.cutLeft = 0) : mX l ⟨"SeriesVault", "addPoint", "(IJJ)V"⟩ [Cond.code ⟨"SeriesVault", "addPoint", "(IJJ)V"⟩ prog_1_method_31_code 6 none] { frames := 9, cells := 1, slots := 6, locals := 148 } (pC D dA [.ref h, .int (nI w), .long a, .long b] (VW dA h ad x) sz) "java/lang/IllegalStateException" (fun st9 t9 => va_F (va_A (VW dA h ad x) sz) st9 t9 ∧ bW D (va_A (VW dA h ad x) sz) (VW dA h ad (VS.s_cutLeft (VS.s_powered x false) (-1))) t9) 1 6 (va_A (VW dA h ad x) sz) := by
  refine mkX (y := ⟨"SeriesVault", "addPoint", "(IJJ)V"⟩) (cc := prog_1_method_31_code) (maxL := 6) (av := [.ref h, .int (nI w), .long a, .long b]) (ws := VW dA h ad x) (sz := sz) (B := fun A => (fun st9 t9 => va_F A st9 t9 ∧ bW D A (VW dA h ad (VS.s_cutLeft (VS.s_powered x false) (-1))) t9)) (by decide) (Nat.le_of_ble_eq_true rfl) ?_
  intro A p e s m below meth c ls hsz hno hB
  obtain ⟨hx, hb, hr, hml, hown, hin, hlk, hE, hK, hP, hD, hS, hA, hN, hl⟩ := hB
  have hown : s.vm.findClass "SeriesVault" = some m.cls := hown
  have hl : lv_has ls 6 [(0, .ref h), (1, .int (nI w)), (2, .long a), (4, .long b)] := hl
  obtain ⟨H, hH⟩ : ∃ z, z = s.heap := ⟨_, rfl⟩
  have hP : va_P D vwCl (VW dA h ad x) H := by rw [hH]; exact hP
  have hS : va_S A s.heap H [] := by rw [hH]; exact hS
  rw [← hH]
  refine lv_aload_n hx hb d_V_addPoint_0 rfl (lv_at hl 0 rfl) ?_
  refine lv_iconst (v := 1) hx hb d_V_addPoint_1 (by decide) ?_
  refine lv_iload_n hx hb d_V_addPoint_2 rfl (lv_at hl 1 rfl) ?_
  refine lv_iconst (v := 1) hx hb d_V_addPoint_3 (by decide) ?_
  refine lv_lload_n hx hb d_V_addPoint_4 rfl (lv_at hl 2 rfl) ?_
  refine lv_lload hx hb d_V_addPoint_5 (lv_at hl 3 rfl) ?_
  refine xfV (w1 := VW dA h ad (VS.s_cutLeft (VS.s_powered x false) (-1))) (As := [.int 1, .int (nI w), .int 1, .long a, .long b]) (rest := []) hx hb hml hown hE hK (hN _ _ hS) (v_writeRecord_x l htr D dA H.size h ad x 1 w 1 a b (show x.jfill + 1 < 2 ^ 31 from by omega) (show 126 < x.jfill + 1 from by omega) hc2 hc) (q0 := 0) rfl rfl w1133 w1132 w1134 w1135 w277 rfl rfl ⟨⟨by decide, by decide⟩, rfl⟩ ⟨(Nat.le_of_ble_eq_true rfl), (Nat.le_of_ble_eq_true rfl)⟩ rfl hl.1 rfl (Nat.le_of_ble_eq_true rfl) d_V_addPoint_7 ⟨(Nat.le_of_ble_eq_true rfl), (Nat.le_of_ble_eq_true rfl)⟩ hP hD hS hA (fun xa1 ce H locs hP hD hS hce hcv hcl => ?_)
  exact xOut hno hlk hce hcv hcl (fun t ht => xEndV hP hD hS t (by rw [ht]; exact Nat.le_refl _) (fun q _ => by rw [ht])) hS.2.2 (Nat.le_of_ble_eq_true rfl) (Nat.le_of_ble_eq_true rfl)
theorem d_V_append_45 : decode prog_1_method_28_code 45 = .ok (.aload_n 0, 1) := by decide +kernel
theorem d_V_append_46 : decode prog_1_method_28_code 46 = .ok (.iload_n 1, 1) := by decide +kernel
theorem d_V_append_47 : decode prog_1_method_28_code 47 = .ok (.lload_n 2, 1) := by decide +kernel
theorem d_V_append_48 : decode prog_1_method_28_code 48 = .ok (.lload 4, 2) := by decide +kernel
theorem d_V_append_50 : decode prog_1_method_28_code 50 = .ok (.invokevirtual 258, 3) := by decide +kernel
theorem w1166 : Cond.code ⟨"SeriesVault", "addPoint", "(IJJ)V"⟩ prog_1_method_31_code 6 none ∈ aW := aw_of (tb_5 (List.mem_of_getElem? (i := 148) rfl)) rfl
theorem w1167 : Cond.methodLink "SeriesVault" 258 ⟨"SeriesVault", "addPoint", "(IJJ)V"⟩ ∈ aW := aw_of (tb_5 (List.mem_of_getElem? (i := 145) rfl)) rfl
theorem w1168 : Cond.instanceMethod ⟨"SeriesVault", "addPoint", "(IJJ)V"⟩ ∈ aW := aw_of (tb_5 (List.mem_of_getElem? (i := 147) rfl)) rfl
theorem w1169 : Cond.selects "SeriesVault" ⟨"SeriesVault", "addPoint", "(IJJ)V"⟩ ⟨"SeriesVault", "addPoint", "(IJJ)V"⟩ ∈ aW := aw_pr (List.mem_map.mpr ⟨_, pv_2 (List.mem_of_getElem? (i := 3) rfl), rfl⟩) rfl
set_option maxHeartbeats 4000000 in
set_option maxRecDepth 100000 in
theorem v_append_5 (l : Launch) (htr : l.stackTraces = false) (D : va_G) (dA : Nat → ClassId) (sz : Nat) (h : Nat) (ad : Nat → Nat) (x : VS) (w : Nat) (a : Int64) (b : Int64) (ho : x.powered = true) (hw1 : w < x.nser) (hw2 : x.nser ≤ 256) (hm : x.may w a = true) (hfu : x.jfill + 1 < 2 ^ 31) (hbu : x.jblock + 1 < 2 ^ 31) (hlu : x.jlimit < 2 ^ 31) (hro : x.room 1 = true) (c1 : 126 < x.jfill + 1) (hc2 : x.jch = true) (hc : x.cutLeft = 0) : mX l ⟨"SeriesVault", "append", "(IJJ)I"⟩ [Cond.code ⟨"SeriesVault", "append", "(IJJ)I"⟩ prog_1_method_28_code 6 (some FieldType.int)] { frames := 10, cells := 1, slots := 6, locals := 173 } (pC D dA [.ref h, .int (nI w), .long a, .long b] (VW dA h ad x) sz) "java/lang/IllegalStateException" (fun st9 t9 => va_F (va_A (VW dA h ad x) sz) st9 t9 ∧ bW D (va_A (VW dA h ad x) sz) (VW dA h ad (VS.s_cutLeft (VS.s_powered x false) (-1))) t9) 1 6 (va_A (VW dA h ad x) sz) := by
  refine mkX (y := ⟨"SeriesVault", "append", "(IJJ)I"⟩) (cc := prog_1_method_28_code) (maxL := 6) (av := [.ref h, .int (nI w), .long a, .long b]) (ws := VW dA h ad x) (sz := sz) (B := fun A => (fun st9 t9 => va_F A st9 t9 ∧ bW D A (VW dA h ad (VS.s_cutLeft (VS.s_powered x false) (-1))) t9)) (by decide) (Nat.le_of_ble_eq_true rfl) ?_
  intro A p e s m below meth c ls hsz hno hB
  obtain ⟨hx, hb, hr, hml, hown, hin, hlk, hE, hK, hP, hD, hS, hA, hN, hl⟩ := hB
  have hown : s.vm.findClass "SeriesVault" = some m.cls := hown
  have hl : lv_has ls 6 [(0, .ref h), (1, .int (nI w)), (2, .long a), (4, .long b)] := hl
  obtain ⟨H, hH⟩ : ∃ z, z = s.heap := ⟨_, rfl⟩
  have hP : va_P D vwCl (VW dA h ad x) H := by rw [hH]; exact hP
  have hS : va_S A s.heap H [] := by rw [hH]; exact hS
  rw [← hH]
  refine lv_aload_n hx hb d_V_append_0 rfl (lv_at hl 0 rfl) ?_
  refine jfV (rnV (As := []) (rest := []) hx hb hml hown hE hK (hN _ _ hS) hP hD (v_checkPower l D dA H.size h ad x ho) (q0 := 0) rfl rfl w278 w276 w279 w280 w277 rfl rfl ⟨⟨by decide, by decide⟩, rfl⟩ ⟨(Nat.le_of_ble_eq_true rfl), (Nat.le_of_ble_eq_true rfl)⟩ rfl hl.1 rfl (Nat.le_of_ble_eq_true rfl) d_V_append_1 ⟨(Nat.le_of_ble_eq_true rfl), (Nat.le_of_ble_eq_true rfl)⟩) hP hD hS hA (fun u2 H locs hp9 hP hD hS => ?_)
  have hP : va_P D vwCl (VW dA h ad x) H := hP
  have hD : va_D A (VW dA h ad x) := hD
  refine lv_aload_n hx hb d_V_append_4 rfl (lv_at hl 0 rfl) ?_
  refine lv_iload_n hx hb d_V_append_5 rfl (lv_at hl 1 rfl) ?_
  refine jfV (rnV (As := [.int (nI w)]) (rest := []) hx hb hml hown hE hK (hN _ _ hS) hP hD (v_checkSeries l D dA H.size h ad x w (show w < x.nser from by omega) (show x.nser ≤ 256 from by omega)) (q0 := 0) rfl rfl w300 w299 w301 w302 w277 rfl rfl ⟨⟨by decide, by decide⟩, rfl⟩ ⟨(Nat.le_of_ble_eq_true rfl), (Nat.le_of_ble_eq_true rfl)⟩ rfl hl.1 rfl (Nat.le_of_ble_eq_true rfl) d_V_append_6 ⟨(Nat.le_of_ble_eq_true rfl), (Nat.le_of_ble_eq_true rfl)⟩) hP hD hS hA (fun u4 H locs hp9 hP hD hS => ?_)
  have hP : va_P D vwCl (VW dA h ad x) H := hP
  have hD : va_D A (VW dA h ad x) := hD
  refine lv_aload_n hx hb d_V_append_9 rfl (lv_at hl 0 rfl) ?_
  refine lv_iload_n hx hb d_V_append_10 rfl (lv_at hl 1 rfl) ?_
  refine lv_lload_n hx hb d_V_append_11 rfl (lv_at hl 2 rfl) ?_
  refine jfI (rnV (As := [.int (nI w), .long a]) (rest := []) hx hb hml hown hE hK (hN _ _ hS) hP hD (v_mayCome l D dA H.size h ad x w a (show w < 256 from by omega)) (q0 := 0) rfl rfl w1159 w1158 w1160 w1161 w277 rfl rfl ⟨⟨by decide, by decide⟩, rfl⟩ ⟨(Nat.le_of_ble_eq_true rfl), (Nat.le_of_ble_eq_true rfl)⟩ rfl hl.1 rfl (Nat.le_of_ble_eq_true rfl) d_V_append_12 ⟨(Nat.le_of_ble_eq_true rfl), (Nat.le_of_ble_eq_true rfl)⟩) hP hD hS hA (fun r5 u6 H locs hp9 hP hD hS => ?_)
  have hP : va_P D vwCl (VW dA h ad x) H := hP
  have hD : va_D A (VW dA h ad x) := hD
  replace hp9 : bI (x.may w a) = r5 := Eq.symm hp9
  subst hp9
  refine lv_if_ne hx hb d_V_append_15 (tgt := 26) rfl (fun _ => ?_) (fun h9 => absurd h9 (by rw [hm]; decide))
  refine lv_aload_n hx hb d_V_append_26 rfl (lv_at hl 0 rfl) ?_
  refine gF (v := .ref (ad 0)) hx hb hown hE hK hP 0 rfl rfl layV 8 (by decide) w312 rfl d_V_append_27 ?_
  refine lv_iconst (v := 1) hx hb d_V_append_30 (by decide) ?_
  refine jfI (rnV (As := [.int 1]) (rest := []) hx hb hml hown hE hK (hN _ _ hS) hP hD (v_jhasRoom l D dA H.size h ad x 1 (show x.jfill + 1 < 2 ^ 31 from by omega) (show x.jblock + 1 < 2 ^ 31 from by omega) (show x.jlimit < 2 ^ 31 from by omega)) (q0 := 2) rfl rfl w1163 w1162 w1164 w1165 w556 rfl rfl ⟨⟨by decide, by decide⟩, rfl⟩ ⟨(Nat.le_of_ble_eq_true rfl), (Nat.le_of_ble_eq_true rfl)⟩ rfl hl.1 rfl (Nat.le_of_ble_eq_true rfl) d_V_append_31 ⟨(Nat.le_of_ble_eq_true rfl), (Nat.le_of_ble_eq_true rfl)⟩) hP hD hS hA (fun r7 u8 H locs hp9 hP hD hS => ?_)
  have hP : va_P D vwCl (VW dA h ad x) H := hP
  have hD : va_D A (VW dA h ad x) := hD
  replace hp9 : bI (x.room 1) = r7 := Eq.symm hp9
  subst hp9
  refine lv_if_ne hx hb d_V_append_34 (tgt := 45) rfl (fun _ => ?_) (fun h9 => absurd h9 (by rw [hro]; decide))
  refine lv_aload_n hx hb d_V_append_45 rfl (lv_at hl 0 rfl) ?_
  refine lv_iload_n hx hb d_V_append_46 rfl (lv_at hl 1 rfl) ?_
  refine lv_lload_n hx hb d_V_append_47 rfl (lv_at hl 2 rfl) ?_
  refine lv_lload hx hb d_V_append_48 (lv_at hl 3 rfl) ?_
  refine xfV (w1 := VW dA h ad (VS.s_cutLeft (VS.s_powered x false) (-1))) (As := [.int (nI w), .long a, .long b]) (rest := []) hx hb hml hown hE hK (hN _ _ hS) (v_addPoint_x l htr D dA H.size h ad x w a b (show x.jfill + 1 < 2 ^ 31 from by omega) (show 126 < x.jfill + 1 from by omega) hc2 hc) (q0 := 0) rfl rfl w1166 w1167 w1168 w1169 w277 rfl rfl ⟨⟨by decide, by decide⟩, rfl⟩ ⟨(Nat.le_of_ble_eq_true rfl), (Nat.le_of_ble_eq_true rfl)⟩ rfl hl.1 rfl (Nat.le_of_ble_eq_true rfl) d_V_append_50 ⟨(Nat.le_of_ble_eq_true rfl), (Nat.le_of_ble_eq_true rfl)⟩ hP hD hS hA (fun xa9 ce H locs hP hD hS hce hcv hcl => ?_)
  exact xOut hno hlk hce hcv hcl (fun t ht => xEndV hP hD hS t (by rw [ht]; exact Nat.le_refl _) (fun q _ => by rw [ht])) hS.2.2 (Nat.le_of_ble_eq_true rfl) (Nat.le_of_ble_eq_true rfl)
theorem d_V_append_53 : decode prog_1_method_28_code 53 = .ok (.aload_n 0, 1) := by decide +kernel
theorem d_V_append_54 : decode prog_1_method_28_code 54 = .ok (.getfield 23, 3) := by decide +kernel
theorem d_V_append_57 : decode prog_1_method_28_code 57 = .ok (.getfield 261, 3) := by decide +kernel
theorem d_V_append_60 : decode prog_1_method_28_code 60 = .ok (.ireturn, 1) := by decide +kernel
set_option maxHeartbeats 4000000 in
set_option maxRecDepth 100000 in
theorem v_append (l : Launch) (D : va_G) (dA : Nat → ClassId) (sz : Nat) (h : Nat) (ad : Nat → Nat) (x : VS) (w : Nat) (a : Int64) (b : Int64) (ho : x.powered = true) (hw1 : w < x.nser) (hw2 : x.nser ≤ 256) (hm : x.may w a = true) (hfu : x.jfill + 1 < 2 ^ 31) (hbu : x.jblock + 1 < 2 ^ 31) (hlu : x.jlimit < 2 ^ 31) (hro : x.room 1 = true) (hs1 : x.jsize ≤ x.jN) (hs2 : 0 < x.jN) (hs3 : x.jN ≤ 65536) (hcr : x.jfill + 1 ≤ 126 ∨ x.jch = false ∨ ¬ x.cutLeft = 0) (hp1 : x.hsize ≤ x.hN) (hp2 : 0 < x.hN) (hp3 : x.hN ≤ 32768) : Met l ⟨"SeriesVault", "append", "(IJJ)I"⟩ [Cond.code ⟨"SeriesVault", "append", "(IJJ)I"⟩ prog_1_method_28_code 6 (some FieldType.int)] { frames := 6, cells := 6 * (x.jcap - x.jN) + 3 * (x.cmcap a - x.hN), slots := 12 * (x.jcap - x.jN) + 6 * (x.cmcap a - x.hN), locals := 161 } (pC D dA [.ref h, .int (nI w), .long a, .long b] (VW dA h ad x) sz) (va_Qi (fun (r9 : Int32) (u9 : VS) => r9 = nI u9.hsize ∧ ∃ ja pa : Nat → Nat, u9 = x.apF ja pa w a b) (fun (u9 : VS) t9 => bW D (va_A (VW dA h ad x) sz) (VW dA h ad u9) t9) (va_A (VW dA h ad x) sz)) (6 * (x.jcap - x.jN) + 3 * (x.cmcap a - x.hN)) (12 * (x.jcap - x.jN) + 6 * (x.cmcap a - x.hN)) (va_A (VW dA h ad x) sz) := by
  refine mkC (y := ⟨"SeriesVault", "append", "(IJJ)I"⟩) (cc := prog_1_method_28_code) (maxL := 6) (av := [.ref h, .int (nI w), .long a, .long b]) (ws := VW dA h ad x) (sz := sz) (Qc := fun A => va_Qi (fun (r9 : Int32) (u9 : VS) => r9 = nI u9.hsize ∧ ∃ ja pa : Nat → Nat, u9 = x.apF ja pa w a b) (fun (u9 : VS) t9 => bW D A (VW dA h ad u9) t9) A) (by decide) (Nat.le_of_ble_eq_true rfl) ?_
  intro A p e s m below meth c ls hsz hB
  obtain ⟨hx, hb, hr, hml, hown, hin, hlk, hE, hK, hP, hD, hS, hA, hN, hl⟩ := hB
  have hown : s.vm.findClass "SeriesVault" = some m.cls := hown
  have hl : lv_has ls 6 [(0, .ref h), (1, .int (nI w)), (2, .long a), (4, .long b)] := hl
  obtain ⟨H, hH⟩ : ∃ z, z = s.heap := ⟨_, rfl⟩
  have hP : va_P D vwCl (VW dA h ad x) H := by rw [hH]; exact hP
  have hS : va_S A s.heap H [] := by rw [hH]; exact hS
  rw [← hH]
  refine lv_aload_n hx hb d_V_append_0 rfl (lv_at hl 0 rfl) ?_
  refine jfV (rnV (As := []) (rest := []) hx hb hml hown hE hK (hN _ _ hS) hP hD (v_checkPower l D dA H.size h ad x ho) (q0 := 0) rfl rfl w278 w276 w279 w280 w277 rfl rfl ⟨⟨by decide, by decide⟩, rfl⟩ ⟨(Nat.le_of_ble_eq_true rfl), (Nat.le_of_ble_eq_true rfl)⟩ rfl hl.1 rfl (Nat.le_of_ble_eq_true rfl) d_V_append_1 ⟨(show 0 + 0 ≤ 6 * (x.jcap - x.jN) + 3 * (x.cmcap a - x.hN) by omega), (show 0 + 0 ≤ 12 * (x.jcap - x.jN) + 6 * (x.cmcap a - x.hN) by omega)⟩) hP hD hS hA (fun u2 H locs hp9 hP hD hS => ?_)
  have hP : va_P D vwCl (VW dA h ad x) H := hP
  have hD : va_D A (VW dA h ad x) := hD
  refine lv_aload_n hx hb d_V_append_4 rfl (lv_at hl 0 rfl) ?_
  refine lv_iload_n hx hb d_V_append_5 rfl (lv_at hl 1 rfl) ?_
  refine jfV (rnV (As := [.int (nI w)]) (rest := []) hx hb hml hown hE hK (hN _ _ hS) hP hD (v_checkSeries l D dA H.size h ad x w (show w < x.nser from by omega) (show x.nser ≤ 256 from by omega)) (q0 := 0) rfl rfl w300 w299 w301 w302 w277 rfl rfl ⟨⟨by decide, by decide⟩, rfl⟩ ⟨(Nat.le_of_ble_eq_true rfl), (Nat.le_of_ble_eq_true rfl)⟩ rfl hl.1 rfl (Nat.le_of_ble_eq_true rfl) d_V_append_6 ⟨(show 0 + 0 + 0 ≤ 6 * (x.jcap - x.jN) + 3 * (x.cmcap a - x.hN) by omega), (show 0 + 0 + 0 ≤ 12 * (x.jcap - x.jN) + 6 * (x.cmcap a - x.hN) by omega)⟩) hP hD hS hA (fun u4 H locs hp9 hP hD hS => ?_)
  have hP : va_P D vwCl (VW dA h ad x) H := hP
  have hD : va_D A (VW dA h ad x) := hD
  refine lv_aload_n hx hb d_V_append_9 rfl (lv_at hl 0 rfl) ?_
  refine lv_iload_n hx hb d_V_append_10 rfl (lv_at hl 1 rfl) ?_
  refine lv_lload_n hx hb d_V_append_11 rfl (lv_at hl 2 rfl) ?_
  refine jfI (rnV (As := [.int (nI w), .long a]) (rest := []) hx hb hml hown hE hK (hN _ _ hS) hP hD (v_mayCome l D dA H.size h ad x w a (show w < 256 from by omega)) (q0 := 0) rfl rfl w1159 w1158 w1160 w1161 w277 rfl rfl ⟨⟨by decide, by decide⟩, rfl⟩ ⟨(Nat.le_of_ble_eq_true rfl), (Nat.le_of_ble_eq_true rfl)⟩ rfl hl.1 rfl (Nat.le_of_ble_eq_true rfl) d_V_append_12 ⟨(show 0 + 0 + 0 + 0 ≤ 6 * (x.jcap - x.jN) + 3 * (x.cmcap a - x.hN) by omega), (show 0 + 0 + 0 + 0 ≤ 12 * (x.jcap - x.jN) + 6 * (x.cmcap a - x.hN) by omega)⟩) hP hD hS hA (fun r5 u6 H locs hp9 hP hD hS => ?_)
  have hP : va_P D vwCl (VW dA h ad x) H := hP
  have hD : va_D A (VW dA h ad x) := hD
  replace hp9 : bI (x.may w a) = r5 := Eq.symm hp9
  subst hp9
  refine lv_if_ne hx hb d_V_append_15 (tgt := 26) rfl (fun _ => ?_) (fun h9 => absurd h9 (by rw [hm]; decide))
  refine lv_aload_n hx hb d_V_append_26 rfl (lv_at hl 0 rfl) ?_
  refine gF (v := .ref (ad 0)) hx hb hown hE hK hP 0 rfl rfl layV 8 (by decide) w312 rfl d_V_append_27 ?_
  refine lv_iconst (v := 1) hx hb d_V_append_30 (by decide) ?_
  refine jfI (rnV (As := [.int 1]) (rest := []) hx hb hml hown hE hK (hN _ _ hS) hP hD (v_jhasRoom l D dA H.size h ad x 1 (show x.jfill + 1 < 2 ^ 31 from by omega) (show x.jblock + 1 < 2 ^ 31 from by omega) (show x.jlimit < 2 ^ 31 from by omega)) (q0 := 2) rfl rfl w1163 w1162 w1164 w1165 w556 rfl rfl ⟨⟨by decide, by decide⟩, rfl⟩ ⟨(Nat.le_of_ble_eq_true rfl), (Nat.le_of_ble_eq_true rfl)⟩ rfl hl.1 rfl (Nat.le_of_ble_eq_true rfl) d_V_append_31 ⟨(show 0 + 0 + 0 + 0 + 0 ≤ 6 * (x.jcap - x.jN) + 3 * (x.cmcap a - x.hN) by omega), (show 0 + 0 + 0 + 0 + 0 ≤ 12 * (x.jcap - x.jN) + 6 * (x.cmcap a - x.hN) by omega)⟩) hP hD hS hA (fun r7 u8 H locs hp9 hP hD hS => ?_)
  have hP : va_P D vwCl (VW dA h ad x) H := hP
  have hD : va_D A (VW dA h ad x) := hD
  replace hp9 : bI (x.room 1) = r7 := Eq.symm hp9
  subst hp9
  refine lv_if_ne hx hb d_V_append_34 (tgt := 45) rfl (fun _ => ?_) (fun h9 => absurd h9 (by rw [hro]; decide))
  refine lv_aload_n hx hb d_V_append_45 rfl (lv_at hl 0 rfl) ?_
  refine lv_iload_n hx hb d_V_append_46 rfl (lv_at hl 1 rfl) ?_
  refine lv_lload_n hx hb d_V_append_47 rfl (lv_at hl 2 rfl) ?_
  refine lv_lload hx hb d_V_append_48 (lv_at hl 3 rfl) ?_
  refine jfV (rnV (As := [.int (nI w), .long a, .long b]) (rest := []) hx hb hml hown hE hK (hN _ _ hS) hP hD (v_addPoint l D dA H.size h ad x w a b (show x.jsize ≤ x.jN from by omega) (show 0 < x.jN from by omega) (show x.jN ≤ 65536 from by omega) (show x.jfill + 1 < 2 ^ 31 from by omega) hcr (show w < 256 from by omega) (show x.hsize ≤ x.hN from by omega) (show 0 < x.hN from by omega) (show x.hN ≤ 32768 from by omega)) (q0 := 0) rfl rfl w1166 w1167 w1168 w1169 w277 rfl rfl ⟨⟨by decide, by decide⟩, rfl⟩ ⟨(Nat.le_of_ble_eq_true rfl), (Nat.le_of_ble_eq_true rfl)⟩ rfl hl.1 rfl (Nat.le_of_ble_eq_true rfl) d_V_append_50 ⟨(show 0 + 0 + 0 + 0 + 0 + (6 * (x.jcap - x.jN) + 3 * (x.cmcap a - x.hN)) ≤ 6 * (x.jcap - x.jN) + 3 * (x.cmcap a - x.hN) by omega), (show 0 + 0 + 0 + 0 + 0 + (12 * (x.jcap - x.jN) + 6 * (x.cmcap a - x.hN)) ≤ 12 * (x.jcap - x.jN) + 6 * (x.cmcap a - x.hN) by omega)⟩) hP hD hS hA (fun u10 H locs hp9 hP hD hS => ?_)
  obtain ⟨y11, h9u⟩ : ∃ z9, z9 = u10 := ⟨_, rfl⟩
  subst h9u
  have hP : va_P D vwCl (VW dA h ad y11) H := hP
  have hD : va_D A (VW dA h ad y11) := hD
  have f_e_12 := hp9
  refine lv_aload_n hx hb d_V_append_53 rfl (lv_at hl 0 rfl) ?_
  refine gF (v := .ref (ad 1)) hx hb hown hE hK hP 0 rfl rfl layV 9 (by decide) w576 rfl d_V_append_54 ?_
  refine gFN (v := .int (nI y11.hsize)) hx hb hown hE hK hP 9 rfl rfl layP 3 (by decide) w641 rfl d_V_append_57 ?_
  exact rfI hx hb hr hlk hS y11 ⟨rfl, f_e_12⟩ hP hD (show 0 + 0 + 0 + 0 + 0 + (6 * (x.jcap - x.jN) + 3 * (x.cmcap a - x.hN)) ≤ 6 * (x.jcap - x.jN) + 3 * (x.cmcap a - x.hN) by omega) (show 0 + 0 + 0 + 0 + 0 + (12 * (x.jcap - x.jN) + 6 * (x.cmcap a - x.hN)) ≤ 12 * (x.jcap - x.jN) + 6 * (x.cmcap a - x.hN) by omega) d_V_append_60
