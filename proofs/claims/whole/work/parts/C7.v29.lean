def VS.adS (x : VS) : VS := VS.s_nlast (VS.s_nser x (x.nser + 1)) (va_up x.nlast x.nser (-1))
theorem d_V_doAgain_0 : decode prog_1_method_19_code 0 = .ok (.aload_n 0, 1) := by decide +kernel
theorem d_V_doAgain_1 : decode prog_1_method_19_code 1 = .ok (.getfield 16, 3) := by decide +kernel
theorem d_V_doAgain_4 : decode prog_1_method_19_code 4 = .ok (.getfield 159, 3) := by decide +kernel
theorem d_V_doAgain_7 : decode prog_1_method_19_code 7 = .ok (.iload_n 1, 1) := by decide +kernel
theorem d_V_doAgain_8 : decode prog_1_method_19_code 8 = .ok (.iaload, 1) := by decide +kernel
theorem d_V_doAgain_9 : decode prog_1_method_19_code 9 = .ok (.istore_n 2, 1) := by decide +kernel
theorem d_V_doAgain_10 : decode prog_1_method_19_code 10 = .ok (.aload_n 0, 1) := by decide +kernel
theorem d_V_doAgain_11 : decode prog_1_method_19_code 11 = .ok (.getfield 16, 3) := by decide +kernel
theorem d_V_doAgain_14 : decode prog_1_method_19_code 14 = .ok (.getfield 163, 3) := by decide +kernel
theorem d_V_doAgain_17 : decode prog_1_method_19_code 17 = .ok (.iload_n 1, 1) := by decide +kernel
theorem d_V_doAgain_18 : decode prog_1_method_19_code 18 = .ok (.iaload, 1) := by decide +kernel
theorem d_V_doAgain_19 : decode prog_1_method_19_code 19 = .ok (.lookupswitch 61 #[(0, 25), (1, 35)], 25) := by decide +kernel
theorem d_V_doAgain_44 : decode prog_1_method_19_code 44 = .ok (.aload_n 0, 1) := by decide +kernel
theorem d_V_doAgain_45 : decode prog_1_method_19_code 45 = .ok (.getfield 33, 3) := by decide +kernel
theorem d_V_doAgain_48 : decode prog_1_method_19_code 48 = .ok (.invokevirtual 166, 3) := by decide +kernel
theorem d_V_doAgain_51 : decode prog_1_method_19_code 51 = .ok (.goto 52, 3) := by decide +kernel
theorem d_V_doAgain_103 : decode prog_1_method_19_code 103 = .ok (.return_, 1) := by decide +kernel
theorem w1363 : Cond.fieldLinkNest "SeriesVault" 159 "SeriesVault$Journal" "owners" "[I" "SeriesVault" ∈ aW := aw_of (tb_1 (List.mem_of_getElem? (i := 55) rfl)) rfl
theorem w1364 : Cond.fieldLinkNest "SeriesVault" 163 "SeriesVault$Journal" "kinds" "[I" "SeriesVault" ∈ aW := aw_of (tb_1 (List.mem_of_getElem? (i := 53) rfl)) rfl
set_option maxHeartbeats 4000000 in
set_option maxRecDepth 100000 in
theorem v_doAgain_0 (l : Launch) (D : va_G) (dA : Nat → ClassId) (sz : Nat) (h : Nat) (ad : Nat → Nat) (x : VS) (i : Nat) (hi : i < x.jsize) (hj1 : x.jsize ≤ x.jN) (hj2 : x.jN ≤ 65536) (hk : x.jK i = 0) (hs : x.nser < 256) : Met l ⟨"SeriesVault", "doAgain", "(I)V"⟩ [Cond.code ⟨"SeriesVault", "doAgain", "(I)V"⟩ prog_1_method_19_code 3 none] { frames := 2, cells := 0, slots := 0, locals := 20 } (pC D dA [.ref h, .int (nI i)] (VW dA h ad x) sz) (va_Qv (fun (u9 : Unit) => True) (fun (u9 : Unit) t9 => bW D (va_A (VW dA h ad x) sz) (VW dA h ad (VS.s_nlast (VS.s_nser x (x.nser + 1)) (va_up x.nlast x.nser (-1)))) t9) (va_A (VW dA h ad x) sz)) 0 0 (va_A (VW dA h ad x) sz) := by
  refine mkC (y := ⟨"SeriesVault", "doAgain", "(I)V"⟩) (cc := prog_1_method_19_code) (maxL := 3) (av := [.ref h, .int (nI i)]) (ws := VW dA h ad x) (sz := sz) (Qc := fun A => va_Qv (fun (u9 : Unit) => True) (fun (u9 : Unit) t9 => bW D A (VW dA h ad (VS.s_nlast (VS.s_nser x (x.nser + 1)) (va_up x.nlast x.nser (-1)))) t9) A) (by decide) (Nat.le_of_ble_eq_true rfl) ?_
  intro A p e s m below meth c ls hsz hB
  obtain ⟨hx, hb, hr, hml, hown, hin, hlk, hE, hK, hP, hD, hS, hA, hN, hl⟩ := hB
  have hown : s.vm.findClass "SeriesVault" = some m.cls := hown
  have hl : lv_has ls 3 [(0, .ref h), (1, .int (nI i))] := hl
  obtain ⟨H, hH⟩ : ∃ z, z = s.heap := ⟨_, rfl⟩
  have hP : va_P D vwCl (VW dA h ad x) H := by rw [hH]; exact hP
  have hS : va_S A s.heap H [] := by rw [hH]; exact hS
  rw [← hH]
  refine lv_aload_n hx hb d_V_doAgain_0 rfl (lv_at hl 0 rfl) ?_
  refine gF (v := .ref (ad 0)) hx hb hown hE hK hP 0 rfl rfl layV 8 (by decide) w312 rfl d_V_doAgain_1 ?_
  refine gFN (v := .ref (x.jA 1)) hx hb hown hE hK hP 2 rfl rfl layJ 1 (by decide) w1363 rfl d_V_doAgain_4 ?_
  refine lv_iload_n hx hb d_V_doAgain_7 rfl (lv_at hl 1 rfl) ?_
  refine nild (f := (fun z9 => nI (x.jO z9))) (n := x.jN) hx hb hK hP 4 1 rfl rfl (i) (by omega) (by omega) d_V_doAgain_8 ?_
  refine lv_istore_n hx hb d_V_doAgain_9 rfl hl (by decide) rfl (fun ls hl => ?_)
  have hl : lv_has ls 3 [(2, .int (nI (x.jO i))), (0, .ref h), (1, .int (nI i))] := hl
  refine lv_aload_n hx hb d_V_doAgain_10 rfl (lv_at hl 1 rfl) ?_
  refine gF (v := .ref (ad 0)) hx hb hown hE hK hP 0 rfl rfl layV 8 (by decide) w312 rfl d_V_doAgain_11 ?_
  refine gFN (v := .ref (x.jA 0)) hx hb hown hE hK hP 2 rfl rfl layJ 0 (by decide) w1364 rfl d_V_doAgain_14 ?_
  refine lv_iload_n hx hb d_V_doAgain_17 rfl (lv_at hl 2 rfl) ?_
  refine nild (f := (fun z9 => nI (x.jK z9))) (n := x.jN) hx hb hK hP 3 1 rfl rfl (i) (by omega) (by omega) d_V_doAgain_18 ?_
  refine tpi (y := 0) (by rw [hk]; rfl) ?_
  refine lv_lookup (x := 0) (off := 25) (tgt := 44) hx hb d_V_doAgain_19 (by decide) (by decide) rfl ?_
  refine lv_aload_n hx hb d_V_doAgain_44 rfl (lv_at hl 1 rfl) ?_
  refine gF (v := .ref (ad 3)) hx hb hown hE hK hP 0 rfl rfl layV 11 (by decide) w297 rfl d_V_doAgain_45 ?_
  refine jfV (rnV (As := []) (rest := []) hx hb hml hown hE hK (hN _ _ hS) hP hD (v_addSeries l D dA H.size h ad x (show x.nser < 256 from by omega)) (q0 := 17) rfl rfl w1332 w1331 w1333 w1334 w583 rfl rfl ⟨⟨by decide, by decide⟩, rfl⟩ ⟨(Nat.le_of_ble_eq_true rfl), (Nat.le_of_ble_eq_true rfl)⟩ rfl hl.1 rfl (Nat.le_of_ble_eq_true rfl) d_V_doAgain_48 ⟨(Nat.le_of_ble_eq_true rfl), (Nat.le_of_ble_eq_true rfl)⟩) hP hD hS hA (fun u2 H locs hp9 hP hD hS => ?_)
  have hP : va_P D vwCl (VW dA h ad (VS.s_nlast (VS.s_nser x (x.nser + 1)) (va_up x.nlast x.nser (-1)))) H := hP
  have hD : va_D A (VW dA h ad (VS.s_nlast (VS.s_nser x (x.nser + 1)) (va_up x.nlast x.nser (-1)))) := hD
  refine lv_goto hx hb d_V_doAgain_51 (tgt := 103) rfl ?_
  exact rfV hx hb hr hlk hS () trivial hP hD (Nat.le_of_ble_eq_true rfl) (Nat.le_of_ble_eq_true rfl) d_V_doAgain_103
theorem d_V_doAgain_54 : decode prog_1_method_19_code 54 = .ok (.aload_n 0, 1) := by decide +kernel
theorem d_V_doAgain_55 : decode prog_1_method_19_code 55 = .ok (.iload_n 2, 1) := by decide +kernel
theorem d_V_doAgain_56 : decode prog_1_method_19_code 56 = .ok (.aload_n 0, 1) := by decide +kernel
theorem d_V_doAgain_57 : decode prog_1_method_19_code 57 = .ok (.getfield 16, 3) := by decide +kernel
theorem d_V_doAgain_60 : decode prog_1_method_19_code 60 = .ok (.getfield 169, 3) := by decide +kernel
theorem d_V_doAgain_63 : decode prog_1_method_19_code 63 = .ok (.iload_n 1, 1) := by decide +kernel
theorem d_V_doAgain_64 : decode prog_1_method_19_code 64 = .ok (.laload, 1) := by decide +kernel
theorem d_V_doAgain_65 : decode prog_1_method_19_code 65 = .ok (.aload_n 0, 1) := by decide +kernel
theorem d_V_doAgain_66 : decode prog_1_method_19_code 66 = .ok (.getfield 16, 3) := by decide +kernel
theorem d_V_doAgain_69 : decode prog_1_method_19_code 69 = .ok (.getfield 173, 3) := by decide +kernel
theorem d_V_doAgain_72 : decode prog_1_method_19_code 72 = .ok (.iload_n 1, 1) := by decide +kernel
theorem d_V_doAgain_73 : decode prog_1_method_19_code 73 = .ok (.laload, 1) := by decide +kernel
theorem d_V_doAgain_74 : decode prog_1_method_19_code 74 = .ok (.invokevirtual 176, 3) := by decide +kernel
theorem d_V_doAgain_77 : decode prog_1_method_19_code 77 = .ok (.goto 26, 3) := by decide +kernel
theorem w1365 : Cond.fieldLinkNest "SeriesVault" 169 "SeriesVault$Journal" "firsts" "[J" "SeriesVault" ∈ aW := aw_of (tb_1 (List.mem_of_getElem? (i := 59) rfl)) rfl
theorem w1366 : Cond.fieldLinkNest "SeriesVault" 173 "SeriesVault$Journal" "seconds" "[J" "SeriesVault" ∈ aW := aw_of (tb_1 (List.mem_of_getElem? (i := 61) rfl)) rfl
set_option maxHeartbeats 4000000 in
set_option maxRecDepth 100000 in
theorem v_doAgain_1 (l : Launch) (D : va_G) (dA : Nat → ClassId) (sz : Nat) (h : Nat) (ad : Nat → Nat) (x : VS) (i : Nat) (hi : i < x.jsize) (hj1 : x.jsize ≤ x.jN) (hj2 : x.jN ≤ 65536) (hk : x.jK i = 1) (hw : x.jO i < 256) (hs1 : x.hsize ≤ x.hN) (hs2 : 0 < x.hN) (hs3 : x.hN ≤ 32768) : Met l ⟨"SeriesVault", "doAgain", "(I)V"⟩ [Cond.code ⟨"SeriesVault", "doAgain", "(I)V"⟩ prog_1_method_19_code 3 none] { frames := 4, cells := 3 * (x.cmcap (x.jF i) - x.hN), slots := 6 * (x.cmcap (x.jF i) - x.hN), locals := 112 } (pC D dA [.ref h, .int (nI i)] (VW dA h ad x) sz) (va_Qv (fun (u9 : VS) => ∃ pa : Nat → Nat, u9 = x.cmF pa (x.jO i) (x.jF i) (x.jS i)) (fun (u9 : VS) t9 => bW D (va_A (VW dA h ad x) sz) (VW dA h ad u9) t9) (va_A (VW dA h ad x) sz)) (3 * (x.cmcap (x.jF i) - x.hN)) (6 * (x.cmcap (x.jF i) - x.hN)) (va_A (VW dA h ad x) sz) := by
  refine mkC (y := ⟨"SeriesVault", "doAgain", "(I)V"⟩) (cc := prog_1_method_19_code) (maxL := 3) (av := [.ref h, .int (nI i)]) (ws := VW dA h ad x) (sz := sz) (Qc := fun A => va_Qv (fun (u9 : VS) => ∃ pa : Nat → Nat, u9 = x.cmF pa (x.jO i) (x.jF i) (x.jS i)) (fun (u9 : VS) t9 => bW D A (VW dA h ad u9) t9) A) (by decide) (Nat.le_of_ble_eq_true rfl) ?_
  intro A p e s m below meth c ls hsz hB
  obtain ⟨hx, hb, hr, hml, hown, hin, hlk, hE, hK, hP, hD, hS, hA, hN, hl⟩ := hB
  have hown : s.vm.findClass "SeriesVault" = some m.cls := hown
  have hl : lv_has ls 3 [(0, .ref h), (1, .int (nI i))] := hl
  obtain ⟨H, hH⟩ : ∃ z, z = s.heap := ⟨_, rfl⟩
  have hP : va_P D vwCl (VW dA h ad x) H := by rw [hH]; exact hP
  have hS : va_S A s.heap H [] := by rw [hH]; exact hS
  rw [← hH]
  refine lv_aload_n hx hb d_V_doAgain_0 rfl (lv_at hl 0 rfl) ?_
  refine gF (v := .ref (ad 0)) hx hb hown hE hK hP 0 rfl rfl layV 8 (by decide) w312 rfl d_V_doAgain_1 ?_
  refine gFN (v := .ref (x.jA 1)) hx hb hown hE hK hP 2 rfl rfl layJ 1 (by decide) w1363 rfl d_V_doAgain_4 ?_
  refine lv_iload_n hx hb d_V_doAgain_7 rfl (lv_at hl 1 rfl) ?_
  refine nild (f := (fun z9 => nI (x.jO z9))) (n := x.jN) hx hb hK hP 4 1 rfl rfl (i) (by omega) (by omega) d_V_doAgain_8 ?_
  refine lv_istore_n hx hb d_V_doAgain_9 rfl hl (by decide) rfl (fun ls hl => ?_)
  have hl : lv_has ls 3 [(2, .int (nI (x.jO i))), (0, .ref h), (1, .int (nI i))] := hl
  refine lv_aload_n hx hb d_V_doAgain_10 rfl (lv_at hl 1 rfl) ?_
  refine gF (v := .ref (ad 0)) hx hb hown hE hK hP 0 rfl rfl layV 8 (by decide) w312 rfl d_V_doAgain_11 ?_
  refine gFN (v := .ref (x.jA 0)) hx hb hown hE hK hP 2 rfl rfl layJ 0 (by decide) w1364 rfl d_V_doAgain_14 ?_
  refine lv_iload_n hx hb d_V_doAgain_17 rfl (lv_at hl 2 rfl) ?_
  refine nild (f := (fun z9 => nI (x.jK z9))) (n := x.jN) hx hb hK hP 3 1 rfl rfl (i) (by omega) (by omega) d_V_doAgain_18 ?_
  refine tpi (y := 1) (by rw [hk]; rfl) ?_
  refine lv_lookup (x := 1) (off := 35) (tgt := 54) hx hb d_V_doAgain_19 (by decide) (by decide) rfl ?_
  refine lv_aload_n hx hb d_V_doAgain_54 rfl (lv_at hl 1 rfl) ?_
  refine lv_iload_n hx hb d_V_doAgain_55 rfl (lv_at hl 0 rfl) ?_
  refine lv_aload_n hx hb d_V_doAgain_56 rfl (lv_at hl 1 rfl) ?_
  refine gF (v := .ref (ad 0)) hx hb hown hE hK hP 0 rfl rfl layV 8 (by decide) w312 rfl d_V_doAgain_57 ?_
  refine gFN (v := .ref (x.jA 4)) hx hb hown hE hK hP 2 rfl rfl layJ 4 (by decide) w1365 rfl d_V_doAgain_60 ?_
  refine lv_iload_n hx hb d_V_doAgain_63 rfl (lv_at hl 2 rfl) ?_
  refine nlld (f := x.jF) (n := x.jN) hx hb hK hP 7 2 rfl rfl (i) (by omega) (by omega) d_V_doAgain_64 ?_
  refine lv_aload_n hx hb d_V_doAgain_65 rfl (lv_at hl 1 rfl) ?_
  refine gF (v := .ref (ad 0)) hx hb hown hE hK hP 0 rfl rfl layV 8 (by decide) w312 rfl d_V_doAgain_66 ?_
  refine gFN (v := .ref (x.jA 5)) hx hb hown hE hK hP 2 rfl rfl layJ 5 (by decide) w1366 rfl d_V_doAgain_69 ?_
  refine lv_iload_n hx hb d_V_doAgain_72 rfl (lv_at hl 2 rfl) ?_
  refine nlld (f := x.jS) (n := x.jN) hx hb hK hP 8 2 rfl rfl (i) (by omega) (by omega) d_V_doAgain_73 ?_
  refine jfV (rnV (As := [.int (nI (x.jO i)), .long (x.jF i), .long (x.jS i)]) (rest := []) hx hb hml hown hE hK (hN _ _ hS) hP hD (v_comePoint l D dA H.size h ad x (x.jO i) (x.jF i) (x.jS i) hw hs1 hs2 hs3) (q0 := 0) rfl rfl w1137 w1136 w1138 w1139 w277 rfl rfl ⟨⟨by decide, by decide⟩, rfl⟩ ⟨(Nat.le_of_ble_eq_true rfl), (Nat.le_of_ble_eq_true rfl)⟩ rfl hl.1 rfl (Nat.le_of_ble_eq_true rfl) d_V_doAgain_74 ⟨(show 0 + (3 * (x.cmcap (x.jF i) - x.hN)) ≤ 3 * (x.cmcap (x.jF i) - x.hN) by omega), (show 0 + (6 * (x.cmcap (x.jF i) - x.hN)) ≤ 6 * (x.cmcap (x.jF i) - x.hN) by omega)⟩) hP hD hS hA (fun u2 H locs hp9 hP hD hS => ?_)
  obtain ⟨y3, h9u⟩ : ∃ z9, z9 = u2 := ⟨_, rfl⟩
  subst h9u
  have hP : va_P D vwCl (VW dA h ad y3) H := hP
  have hD : va_D A (VW dA h ad y3) := hD
  have f_e_4 := hp9
  refine lv_goto hx hb d_V_doAgain_77 (tgt := 103) rfl ?_
  exact rfV hx hb hr hlk hS y3 f_e_4 hP hD (show 0 + (3 * (x.cmcap (x.jF i) - x.hN)) ≤ 3 * (x.cmcap (x.jF i) - x.hN) by omega) (show 0 + (6 * (x.cmcap (x.jF i) - x.hN)) ≤ 6 * (x.cmcap (x.jF i) - x.hN) by omega) d_V_doAgain_103
theorem d_V_doAgain_80 : decode prog_1_method_19_code 80 = .ok (.aload_n 0, 1) := by decide +kernel
theorem d_V_doAgain_81 : decode prog_1_method_19_code 81 = .ok (.iload_n 2, 1) := by decide +kernel
theorem d_V_doAgain_82 : decode prog_1_method_19_code 82 = .ok (.aload_n 0, 1) := by decide +kernel
theorem d_V_doAgain_83 : decode prog_1_method_19_code 83 = .ok (.getfield 16, 3) := by decide +kernel
theorem d_V_doAgain_86 : decode prog_1_method_19_code 86 = .ok (.getfield 169, 3) := by decide +kernel
theorem d_V_doAgain_89 : decode prog_1_method_19_code 89 = .ok (.iload_n 1, 1) := by decide +kernel
theorem d_V_doAgain_90 : decode prog_1_method_19_code 90 = .ok (.laload, 1) := by decide +kernel
theorem d_V_doAgain_91 : decode prog_1_method_19_code 91 = .ok (.aload_n 0, 1) := by decide +kernel
theorem d_V_doAgain_92 : decode prog_1_method_19_code 92 = .ok (.getfield 16, 3) := by decide +kernel
theorem d_V_doAgain_95 : decode prog_1_method_19_code 95 = .ok (.getfield 173, 3) := by decide +kernel
theorem d_V_doAgain_98 : decode prog_1_method_19_code 98 = .ok (.iload_n 1, 1) := by decide +kernel
theorem d_V_doAgain_99 : decode prog_1_method_19_code 99 = .ok (.laload, 1) := by decide +kernel
theorem d_V_doAgain_100 : decode prog_1_method_19_code 100 = .ok (.invokevirtual 180, 3) := by decide +kernel
set_option maxHeartbeats 4000000 in
set_option maxRecDepth 100000 in
theorem v_doAgain_20 (l : Launch) (D : va_G) (dA : Nat → ClassId) (sz : Nat) (h : Nat) (ad : Nat → Nat) (x : VS) (PS : Nat → PT) (i : Nat) (hi : i < x.jsize) (hj1 : x.jsize ≤ x.jN) (hj2 : x.jN ≤ 65536) (hps : psOk dA x.nP x.npc x.pl PS) (hpn : x.npc ≤ 32) (h1 : x.nsc ≤ 64) (h7 : ∀ q : Nat, q < x.nsc → x.nsO q < 2 ^ 31) (h0 : x.hsize ≤ x.hN) (h9 : x.hN ≤ 65536) (hw : x.jO i < 256) (hh7 : ∀ q : Nat, q < x.hsize → x.hO q < 2 ^ 31) (hk : x.jK i = 2) (hz : sumN x.npc (x.soN PS (x.jO i) (x.jF i) (x.jS i)) = 0) : Met l ⟨"SeriesVault", "doAgain", "(I)V"⟩ [Cond.code ⟨"SeriesVault", "doAgain", "(I)V"⟩ prog_1_method_19_code 3 none] { frames := 6, cells := 0, slots := 0, locals := 128 } (pC D dA [.ref h, .int (nI i)] (VW dA h ad x) sz) (va_Qv (fun (u9 : Unit) => True) (fun (u9 : Unit) t9 => bW D (va_A (VW dA h ad x) sz) (VW dA h ad (VS.s_hsize (VS.s_hV (VS.s_hT (VS.s_hO x (tdT (x.hWn (x.jO i) (x.jF i) (x.jS i)) x.hO x.hsize)) (tdT (x.hWn (x.jO i) (x.jF i) (x.jS i)) x.hT x.hsize)) (tdT (x.hWn (x.jO i) (x.jF i) (x.jS i)) x.hV x.hsize)) (cnt x.hsize (x.hWn (x.jO i) (x.jF i) (x.jS i))))) t9) (va_A (VW dA h ad x) sz)) 0 0 (va_A (VW dA h ad x) sz) := by
  refine mkC (y := ⟨"SeriesVault", "doAgain", "(I)V"⟩) (cc := prog_1_method_19_code) (maxL := 3) (av := [.ref h, .int (nI i)]) (ws := VW dA h ad x) (sz := sz) (Qc := fun A => va_Qv (fun (u9 : Unit) => True) (fun (u9 : Unit) t9 => bW D A (VW dA h ad (VS.s_hsize (VS.s_hV (VS.s_hT (VS.s_hO x (tdT (x.hWn (x.jO i) (x.jF i) (x.jS i)) x.hO x.hsize)) (tdT (x.hWn (x.jO i) (x.jF i) (x.jS i)) x.hT x.hsize)) (tdT (x.hWn (x.jO i) (x.jF i) (x.jS i)) x.hV x.hsize)) (cnt x.hsize (x.hWn (x.jO i) (x.jF i) (x.jS i))))) t9) A) (by decide) (Nat.le_of_ble_eq_true rfl) ?_
  intro A p e s m below meth c ls hsz hB
  obtain ⟨hx, hb, hr, hml, hown, hin, hlk, hE, hK, hP, hD, hS, hA, hN, hl⟩ := hB
  have hown : s.vm.findClass "SeriesVault" = some m.cls := hown
  have hl : lv_has ls 3 [(0, .ref h), (1, .int (nI i))] := hl
  obtain ⟨H, hH⟩ : ∃ z, z = s.heap := ⟨_, rfl⟩
  have hP : va_P D vwCl (VW dA h ad x) H := by rw [hH]; exact hP
  have hS : va_S A s.heap H [] := by rw [hH]; exact hS
  rw [← hH]
  refine lv_aload_n hx hb d_V_doAgain_0 rfl (lv_at hl 0 rfl) ?_
  refine gF (v := .ref (ad 0)) hx hb hown hE hK hP 0 rfl rfl layV 8 (by decide) w312 rfl d_V_doAgain_1 ?_
  refine gFN (v := .ref (x.jA 1)) hx hb hown hE hK hP 2 rfl rfl layJ 1 (by decide) w1363 rfl d_V_doAgain_4 ?_
  refine lv_iload_n hx hb d_V_doAgain_7 rfl (lv_at hl 1 rfl) ?_
  refine nild (f := (fun z9 => nI (x.jO z9))) (n := x.jN) hx hb hK hP 4 1 rfl rfl (i) (by omega) (by omega) d_V_doAgain_8 ?_
  refine lv_istore_n hx hb d_V_doAgain_9 rfl hl (by decide) rfl (fun ls hl => ?_)
  have hl : lv_has ls 3 [(2, .int (nI (x.jO i))), (0, .ref h), (1, .int (nI i))] := hl
  refine lv_aload_n hx hb d_V_doAgain_10 rfl (lv_at hl 1 rfl) ?_
  refine gF (v := .ref (ad 0)) hx hb hown hE hK hP 0 rfl rfl layV 8 (by decide) w312 rfl d_V_doAgain_11 ?_
  refine gFN (v := .ref (x.jA 0)) hx hb hown hE hK hP 2 rfl rfl layJ 0 (by decide) w1364 rfl d_V_doAgain_14 ?_
  refine lv_iload_n hx hb d_V_doAgain_17 rfl (lv_at hl 2 rfl) ?_
  refine nild (f := (fun z9 => nI (x.jK z9))) (n := x.jN) hx hb hK hP 3 1 rfl rfl (i) (by omega) (by omega) d_V_doAgain_18 ?_
  refine tpi (y := 2) (by rw [hk]; rfl) ?_
  refine lv_lookup (x := 2) (off := 61) (tgt := 80) hx hb d_V_doAgain_19 (by decide) (by decide) rfl ?_
  refine lv_aload_n hx hb d_V_doAgain_80 rfl (lv_at hl 1 rfl) ?_
  refine lv_iload_n hx hb d_V_doAgain_81 rfl (lv_at hl 0 rfl) ?_
  refine lv_aload_n hx hb d_V_doAgain_82 rfl (lv_at hl 1 rfl) ?_
  refine gF (v := .ref (ad 0)) hx hb hown hE hK hP 0 rfl rfl layV 8 (by decide) w312 rfl d_V_doAgain_83 ?_
  refine gFN (v := .ref (x.jA 4)) hx hb hown hE hK hP 2 rfl rfl layJ 4 (by decide) w1365 rfl d_V_doAgain_86 ?_
  refine lv_iload_n hx hb d_V_doAgain_89 rfl (lv_at hl 2 rfl) ?_
  refine nlld (f := x.jF) (n := x.jN) hx hb hK hP 7 2 rfl rfl (i) (by omega) (by omega) d_V_doAgain_90 ?_
  refine lv_aload_n hx hb d_V_doAgain_91 rfl (lv_at hl 1 rfl) ?_
  refine gF (v := .ref (ad 0)) hx hb hown hE hK hP 0 rfl rfl layV 8 (by decide) w312 rfl d_V_doAgain_92 ?_
  refine gFN (v := .ref (x.jA 5)) hx hb hown hE hK hP 2 rfl rfl layJ 5 (by decide) w1366 rfl d_V_doAgain_95 ?_
  refine lv_iload_n hx hb d_V_doAgain_98 rfl (lv_at hl 2 rfl) ?_
  refine nlld (f := x.jS) (n := x.jN) hx hb hK hP 8 2 rfl rfl (i) (by omega) (by omega) d_V_doAgain_99 ?_
  refine jfV (rnV (As := [.int (nI (x.jO i)), .long (x.jF i), .long (x.jS i)]) (rest := []) hx hb hml hown hE hK (hN _ _ hS) hP hD (v_letGo_0 l D dA H.size h ad x PS (x.jO i) (x.jF i) (x.jS i) hps hpn h1 h7 h0 h9 hw hh7 hz) (q0 := 0) rfl rfl w1360 w1359 w1361 w1362 w277 rfl rfl ⟨⟨by decide, by decide⟩, rfl⟩ ⟨(Nat.le_of_ble_eq_true rfl), (Nat.le_of_ble_eq_true rfl)⟩ rfl hl.1 rfl (Nat.le_of_ble_eq_true rfl) d_V_doAgain_100 ⟨(Nat.le_of_ble_eq_true rfl), (Nat.le_of_ble_eq_true rfl)⟩) hP hD hS hA (fun u2 H locs hp9 hP hD hS => ?_)
  have hP : va_P D vwCl (VW dA h ad (VS.s_hsize (VS.s_hV (VS.s_hT (VS.s_hO x (tdT (x.hWn (x.jO i) (x.jF i) (x.jS i)) x.hO x.hsize)) (tdT (x.hWn (x.jO i) (x.jF i) (x.jS i)) x.hT x.hsize)) (tdT (x.hWn (x.jO i) (x.jF i) (x.jS i)) x.hV x.hsize)) (cnt x.hsize (x.hWn (x.jO i) (x.jF i) (x.jS i))))) H := hP
  have hD : va_D A (VW dA h ad (VS.s_hsize (VS.s_hV (VS.s_hT (VS.s_hO x (tdT (x.hWn (x.jO i) (x.jF i) (x.jS i)) x.hO x.hsize)) (tdT (x.hWn (x.jO i) (x.jF i) (x.jS i)) x.hT x.hsize)) (tdT (x.hWn (x.jO i) (x.jF i) (x.jS i)) x.hV x.hsize)) (cnt x.hsize (x.hWn (x.jO i) (x.jF i) (x.jS i))))) := hD
  exact rfV hx hb hr hlk hS () trivial hP hD (Nat.le_of_ble_eq_true rfl) (Nat.le_of_ble_eq_true rfl) d_V_doAgain_103
set_option maxHeartbeats 4000000 in
set_option maxRecDepth 100000 in
theorem v_doAgain_21 (l : Launch) (D : va_G) (dA : Nat → ClassId) (sz : Nat) (h : Nat) (ad : Nat → Nat) (x : VS) (PS : Nat → PT) (i : Nat) (hi : i < x.jsize) (hj1 : x.jsize ≤ x.jN) (hj2 : x.jN ≤ 65536) (hps : psOk dA x.nP x.npc x.pl PS) (hpn : x.npc ≤ 32) (h1 : x.nsc ≤ 64) (h7 : ∀ q : Nat, q < x.nsc → x.nsO q < 2 ^ 31) (h0 : x.hsize ≤ x.hN) (h9 : x.hN ≤ 65536) (hw : x.jO i < 256) (hh7 : ∀ q : Nat, q < x.hsize → x.hO q < 2 ^ 31) (hk : x.jK i = 2) (hz : 0 < sumN x.npc (x.soN PS (x.jO i) (x.jF i) (x.jS i))) (hsc : x.nsc < 64) : Met l ⟨"SeriesVault", "doAgain", "(I)V"⟩ [Cond.code ⟨"SeriesVault", "doAgain", "(I)V"⟩ prog_1_method_19_code 3 none] { frames := 6, cells := 0, slots := 0, locals := 128 } (pC D dA [.ref h, .int (nI i)] (VW dA h ad x) sz) (va_Qv (fun (u9 : Unit) => True) (fun (u9 : Unit) t9 => bW D (va_A (VW dA h ad x) sz) (VW dA h ad (VS.s_nsc (VS.s_nsT (VS.s_nsF (VS.s_nsO (VS.s_hsize (VS.s_hV (VS.s_hT (VS.s_hO x (tdT (x.hWn (x.jO i) (x.jF i) (x.jS i)) x.hO x.hsize)) (tdT (x.hWn (x.jO i) (x.jF i) (x.jS i)) x.hT x.hsize)) (tdT (x.hWn (x.jO i) (x.jF i) (x.jS i)) x.hV x.hsize)) (cnt x.hsize (x.hWn (x.jO i) (x.jF i) (x.jS i)))) (va_up x.nsO x.nsc (x.jO i))) (va_up x.nsF x.nsc (maxL (x.jF i) x.nhor))) (va_up x.nsT x.nsc (minL (x.jS i) (x.nlast (x.jO i))))) (x.nsc + 1))) t9) (va_A (VW dA h ad x) sz)) 0 0 (va_A (VW dA h ad x) sz) := by
  refine mkC (y := ⟨"SeriesVault", "doAgain", "(I)V"⟩) (cc := prog_1_method_19_code) (maxL := 3) (av := [.ref h, .int (nI i)]) (ws := VW dA h ad x) (sz := sz) (Qc := fun A => va_Qv (fun (u9 : Unit) => True) (fun (u9 : Unit) t9 => bW D A (VW dA h ad (VS.s_nsc (VS.s_nsT (VS.s_nsF (VS.s_nsO (VS.s_hsize (VS.s_hV (VS.s_hT (VS.s_hO x (tdT (x.hWn (x.jO i) (x.jF i) (x.jS i)) x.hO x.hsize)) (tdT (x.hWn (x.jO i) (x.jF i) (x.jS i)) x.hT x.hsize)) (tdT (x.hWn (x.jO i) (x.jF i) (x.jS i)) x.hV x.hsize)) (cnt x.hsize (x.hWn (x.jO i) (x.jF i) (x.jS i)))) (va_up x.nsO x.nsc (x.jO i))) (va_up x.nsF x.nsc (maxL (x.jF i) x.nhor))) (va_up x.nsT x.nsc (minL (x.jS i) (x.nlast (x.jO i))))) (x.nsc + 1))) t9) A) (by decide) (Nat.le_of_ble_eq_true rfl) ?_
  intro A p e s m below meth c ls hsz hB
  obtain ⟨hx, hb, hr, hml, hown, hin, hlk, hE, hK, hP, hD, hS, hA, hN, hl⟩ := hB
  have hown : s.vm.findClass "SeriesVault" = some m.cls := hown
  have hl : lv_has ls 3 [(0, .ref h), (1, .int (nI i))] := hl
  obtain ⟨H, hH⟩ : ∃ z, z = s.heap := ⟨_, rfl⟩
  have hP : va_P D vwCl (VW dA h ad x) H := by rw [hH]; exact hP
  have hS : va_S A s.heap H [] := by rw [hH]; exact hS
  rw [← hH]
  refine lv_aload_n hx hb d_V_doAgain_0 rfl (lv_at hl 0 rfl) ?_
  refine gF (v := .ref (ad 0)) hx hb hown hE hK hP 0 rfl rfl layV 8 (by decide) w312 rfl d_V_doAgain_1 ?_
  refine gFN (v := .ref (x.jA 1)) hx hb hown hE hK hP 2 rfl rfl layJ 1 (by decide) w1363 rfl d_V_doAgain_4 ?_
  refine lv_iload_n hx hb d_V_doAgain_7 rfl (lv_at hl 1 rfl) ?_
  refine nild (f := (fun z9 => nI (x.jO z9))) (n := x.jN) hx hb hK hP 4 1 rfl rfl (i) (by omega) (by omega) d_V_doAgain_8 ?_
  refine lv_istore_n hx hb d_V_doAgain_9 rfl hl (by decide) rfl (fun ls hl => ?_)
  have hl : lv_has ls 3 [(2, .int (nI (x.jO i))), (0, .ref h), (1, .int (nI i))] := hl
  refine lv_aload_n hx hb d_V_doAgain_10 rfl (lv_at hl 1 rfl) ?_
  refine gF (v := .ref (ad 0)) hx hb hown hE hK hP 0 rfl rfl layV 8 (by decide) w312 rfl d_V_doAgain_11 ?_
  refine gFN (v := .ref (x.jA 0)) hx hb hown hE hK hP 2 rfl rfl layJ 0 (by decide) w1364 rfl d_V_doAgain_14 ?_
  refine lv_iload_n hx hb d_V_doAgain_17 rfl (lv_at hl 2 rfl) ?_
  refine nild (f := (fun z9 => nI (x.jK z9))) (n := x.jN) hx hb hK hP 3 1 rfl rfl (i) (by omega) (by omega) d_V_doAgain_18 ?_
  refine tpi (y := 2) (by rw [hk]; rfl) ?_
  refine lv_lookup (x := 2) (off := 61) (tgt := 80) hx hb d_V_doAgain_19 (by decide) (by decide) rfl ?_
  refine lv_aload_n hx hb d_V_doAgain_80 rfl (lv_at hl 1 rfl) ?_
  refine lv_iload_n hx hb d_V_doAgain_81 rfl (lv_at hl 0 rfl) ?_
  refine lv_aload_n hx hb d_V_doAgain_82 rfl (lv_at hl 1 rfl) ?_
  refine gF (v := .ref (ad 0)) hx hb hown hE hK hP 0 rfl rfl layV 8 (by decide) w312 rfl d_V_doAgain_83 ?_
  refine gFN (v := .ref (x.jA 4)) hx hb hown hE hK hP 2 rfl rfl layJ 4 (by decide) w1365 rfl d_V_doAgain_86 ?_
  refine lv_iload_n hx hb d_V_doAgain_89 rfl (lv_at hl 2 rfl) ?_
  refine nlld (f := x.jF) (n := x.jN) hx hb hK hP 7 2 rfl rfl (i) (by omega) (by omega) d_V_doAgain_90 ?_
  refine lv_aload_n hx hb d_V_doAgain_91 rfl (lv_at hl 1 rfl) ?_
  refine gF (v := .ref (ad 0)) hx hb hown hE hK hP 0 rfl rfl layV 8 (by decide) w312 rfl d_V_doAgain_92 ?_
  refine gFN (v := .ref (x.jA 5)) hx hb hown hE hK hP 2 rfl rfl layJ 5 (by decide) w1366 rfl d_V_doAgain_95 ?_
  refine lv_iload_n hx hb d_V_doAgain_98 rfl (lv_at hl 2 rfl) ?_
  refine nlld (f := x.jS) (n := x.jN) hx hb hK hP 8 2 rfl rfl (i) (by omega) (by omega) d_V_doAgain_99 ?_
  refine jfV (rnV (As := [.int (nI (x.jO i)), .long (x.jF i), .long (x.jS i)]) (rest := []) hx hb hml hown hE hK (hN _ _ hS) hP hD (v_letGo_1 l D dA H.size h ad x PS (x.jO i) (x.jF i) (x.jS i) hps hpn h1 h7 h0 h9 hw hh7 hz hsc) (q0 := 0) rfl rfl w1360 w1359 w1361 w1362 w277 rfl rfl ⟨⟨by decide, by decide⟩, rfl⟩ ⟨(Nat.le_of_ble_eq_true rfl), (Nat.le_of_ble_eq_true rfl)⟩ rfl hl.1 rfl (Nat.le_of_ble_eq_true rfl) d_V_doAgain_100 ⟨(Nat.le_of_ble_eq_true rfl), (Nat.le_of_ble_eq_true rfl)⟩) hP hD hS hA (fun u2 H locs hp9 hP hD hS => ?_)
  have hP : va_P D vwCl (VW dA h ad (VS.s_nsc (VS.s_nsT (VS.s_nsF (VS.s_nsO (VS.s_hsize (VS.s_hV (VS.s_hT (VS.s_hO x (tdT (x.hWn (x.jO i) (x.jF i) (x.jS i)) x.hO x.hsize)) (tdT (x.hWn (x.jO i) (x.jF i) (x.jS i)) x.hT x.hsize)) (tdT (x.hWn (x.jO i) (x.jF i) (x.jS i)) x.hV x.hsize)) (cnt x.hsize (x.hWn (x.jO i) (x.jF i) (x.jS i)))) (va_up x.nsO x.nsc (x.jO i))) (va_up x.nsF x.nsc (maxL (x.jF i) x.nhor))) (va_up x.nsT x.nsc (minL (x.jS i) (x.nlast (x.jO i))))) (x.nsc + 1))) H := hP
  have hD : va_D A (VW dA h ad (VS.s_nsc (VS.s_nsT (VS.s_nsF (VS.s_nsO (VS.s_hsize (VS.s_hV (VS.s_hT (VS.s_hO x (tdT (x.hWn (x.jO i) (x.jF i) (x.jS i)) x.hO x.hsize)) (tdT (x.hWn (x.jO i) (x.jF i) (x.jS i)) x.hT x.hsize)) (tdT (x.hWn (x.jO i) (x.jF i) (x.jS i)) x.hV x.hsize)) (cnt x.hsize (x.hWn (x.jO i) (x.jF i) (x.jS i)))) (va_up x.nsO x.nsc (x.jO i))) (va_up x.nsF x.nsc (maxL (x.jF i) x.nhor))) (va_up x.nsT x.nsc (minL (x.jS i) (x.nlast (x.jO i))))) (x.nsc + 1))) := hD
  exact rfV hx hb hr hlk hS () trivial hP hD (Nat.le_of_ble_eq_true rfl) (Nat.le_of_ble_eq_true rfl) d_V_doAgain_103
set_option maxHeartbeats 4000000 in
set_option maxRecDepth 100000 in
theorem v_retain_i (l : Launch) (htr : l.stackTraces = false) (D : va_G) (dA : Nat → ClassId) (sz : Nat) (h : Nat) (ad : Nat → Nat) (x : VS) (PS : Nat → PT) (a : Int64) (ho : x.powered = true) (t1 : isTm a = true) (t2 : x.nhor < a) (hps : psOk dA x.nP x.npc x.pl PS) (hpn : x.npc ≤ 32) (h1 : x.nsc ≤ 64) (h7 : ∀ q : Nat, q < x.nsc → x.nsO q < 2 ^ 31) (h0 : x.hsize ≤ x.hN) (h9 : x.hN ≤ 65536) (hc2 : x.jch = true) (hc : x.cutLeft = 0) : mX l ⟨"SeriesVault", "retain", "(J)I"⟩ [Cond.code ⟨"SeriesVault", "retain", "(J)I"⟩ prog_1_method_41_code 4 (some FieldType.int)] { frames := 8, cells := 1, slots := 6, locals := 121 } (pC D dA [.ref h, .long a] (VW dA h ad x) sz) "java/lang/IllegalStateException" (fun st9 t9 => va_F (va_A (VW dA h ad x) sz) st9 t9 ∧ bW D (va_A (VW dA h ad x) sz) (VW dA h ad (VS.s_cutLeft (VS.s_powered x false) (-1))) t9) 1 6 (va_A (VW dA h ad x) sz) := by
  refine mkX (y := ⟨"SeriesVault", "retain", "(J)I"⟩) (cc := prog_1_method_41_code) (maxL := 4) (av := [.ref h, .long a]) (ws := VW dA h ad x) (sz := sz) (B := fun A => (fun st9 t9 => va_F A st9 t9 ∧ bW D A (VW dA h ad (VS.s_cutLeft (VS.s_powered x false) (-1))) t9)) (by decide) (Nat.le_of_ble_eq_true rfl) ?_
  intro A p e s m below meth c ls hsz hno hB
  obtain ⟨hx, hb, hr, hml, hown, hin, hlk, hE, hK, hP, hD, hS, hA, hN, hl⟩ := hB
  have hown : s.vm.findClass "SeriesVault" = some m.cls := hown
  have hl : lv_has ls 4 [(0, .ref h), (1, .long a)] := hl
  obtain ⟨H, hH⟩ : ∃ z, z = s.heap := ⟨_, rfl⟩
  have hP : va_P D vwCl (VW dA h ad x) H := by rw [hH]; exact hP
  have hS : va_S A s.heap H [] := by rw [hH]; exact hS
  rw [← hH]
  refine lv_aload_n hx hb d_V_retain_0 rfl (lv_at hl 0 rfl) ?_
  refine jfV (rnV (As := []) (rest := []) hx hb hml hown hE hK (hN _ _ hS) hP hD (v_checkPower l D dA H.size h ad x ho) (q0 := 0) rfl rfl w278 w276 w279 w280 w277 rfl rfl ⟨⟨by decide, by decide⟩, rfl⟩ ⟨(Nat.le_of_ble_eq_true rfl), (Nat.le_of_ble_eq_true rfl)⟩ rfl hl.1 rfl (Nat.le_of_ble_eq_true rfl) d_V_retain_1 ⟨(Nat.le_of_ble_eq_true rfl), (Nat.le_of_ble_eq_true rfl)⟩) hP hD hS hA (fun u2 H locs hp9 hP hD hS => ?_)
  have hP : va_P D vwCl (VW dA h ad x) H := hP
  have hD : va_D A (VW dA h ad x) := hD
  refine lv_lload_n hx hb d_V_retain_4 rfl (lv_at hl 1 rfl) ?_
  have hPc := hP.sub (ws' := []) [] rfl
  have hDc := hD.sub (ws' := []) [] (by decide) rfl
  refine jpI (rnS (As := [.long a]) (rest := []) hx hb hml hown hE hK (hN _ _ hS) hPc hDc (v_isTime l D dA H.size a) w693 w692 w694 w277 rfl rfl ⟨⟨by decide, by decide⟩, rfl⟩ ⟨(Nat.le_of_ble_eq_true rfl), (Nat.le_of_ble_eq_true rfl)⟩ rfl hl.1 rfl (Nat.le_of_ble_eq_true rfl) d_V_retain_5 ⟨(Nat.le_of_ble_eq_true rfl), (Nat.le_of_ble_eq_true rfl)⟩) hP hD hS hA (fun r3 u9 H locs hp9 hP hD hS => ?_)
  have hP : va_P D vwCl (VW dA h ad x) H := hP
  have hD : va_D A (VW dA h ad x) := hD
  replace hp9 : bI (isTm a) = r3 := Eq.symm hp9
  subst hp9
  refine lv_if_eq hx hb d_V_retain_8 (tgt := 23) rfl (fun h9 => absurd h9 (by rw [t1]; decide)) (fun _ => ?_)
  refine lv_lload_n hx hb d_V_retain_11 rfl (lv_at hl 1 rfl) ?_
  refine lv_aload_n hx hb d_V_retain_12 rfl (lv_at hl 0 rfl) ?_
  refine gF (v := .ref (ad 3)) hx hb hown hE hK hP 0 rfl rfl layV 11 (by decide) w297 rfl d_V_retain_13 ?_
  refine gFN (v := .long x.nhor) hx hb hown hE hK hP 17 rfl rfl layH 7 (by decide) w710 rfl d_V_retain_16 ?_
  refine W.lcmp hx hb d_V_retain_19 ?_
  refine lv_if_ge hx hb d_V_retain_20 (tgt := 31) rfl (fun _ => ?_) (fun h9 => absurd ((lg_cmp_ge _ _).mpr (Int64.le_of_lt t2)) h9)
  refine lv_lload_n hx hb d_V_retain_31 rfl (lv_at hl 1 rfl) ?_
  refine lv_aload_n hx hb d_V_retain_32 rfl (lv_at hl 0 rfl) ?_
  refine gF (v := .ref (ad 3)) hx hb hown hE hK hP 0 rfl rfl layV 11 (by decide) w297 rfl d_V_retain_33 ?_
  refine gFN (v := .long x.nhor) hx hb hown hE hK hP 17 rfl rfl layH 7 (by decide) w710 rfl d_V_retain_36 ?_
  refine W.lcmp hx hb d_V_retain_39 ?_
  refine lv_if_ne hx hb d_V_retain_40 (tgt := 45) rfl (fun _ => ?_) (fun h9 => absurd h9 (mt (lg_cmp_eq _ _).mp (fun z => absurd t2 (by rw [z]; exact fun q => Int64.lt_irrefl q))))
  refine lv_aload_n hx hb d_V_retain_45 rfl (lv_at hl 0 rfl) ?_
  refine gF (v := .ref (ad 3)) hx hb hown hE hK hP 0 rfl rfl layV 11 (by decide) w297 rfl d_V_retain_46 ?_
  refine lv_lload_n hx hb d_V_retain_49 rfl (lv_at hl 1 rfl) ?_
  refine jfI (rnV (As := [.long a]) (rest := []) hx hb hml hown hE hK (hN _ _ hS) hP hD (v_countSeenBelow l D dA H.size h ad x PS a hps (show x.npc ≤ 32 from by omega) (show x.nsc ≤ 64 from by omega) h7) (q0 := 17) rfl rfl w633 w731 w634 w635 w583 rfl rfl ⟨⟨by decide, by decide⟩, rfl⟩ ⟨(Nat.le_of_ble_eq_true rfl), (Nat.le_of_ble_eq_true rfl)⟩ rfl hl.1 rfl (Nat.le_of_ble_eq_true rfl) d_V_retain_50 ⟨(Nat.le_of_ble_eq_true rfl), (Nat.le_of_ble_eq_true rfl)⟩) hP hD hS hA (fun r5 u6 H locs hp9 hP hD hS => ?_)
  have hP : va_P D vwCl (VW dA h ad x) H := hP
  have hD : va_D A (VW dA h ad x) := hD
  replace hp9 : nI (sumN x.npc (x.sbN PS (a - 1))) = r5 := Eq.symm hp9
  subst hp9
  refine lv_aload_n hx hb d_V_retain_53 rfl (lv_at hl 0 rfl) ?_
  refine gF (v := .ref (ad 1)) hx hb hown hE hK hP 0 rfl rfl layV 9 (by decide) w576 rfl d_V_retain_54 ?_
  refine lv_lload_n hx hb d_V_retain_57 rfl (lv_at hl 1 rfl) ?_
  refine jfI (rnV (As := [.long a]) (rest := [.int (nI (sumN x.npc (x.sbN PS (a - 1))))]) hx hb hml hown hE hK (hN _ _ hS) hP hD (v_countBelow l D dA H.size h ad x a (show x.hsize ≤ x.hN from by omega) (show x.hN ≤ 65536 from by omega)) (q0 := 9) rfl rfl w733 w732 w734 w735 w578 rfl rfl ⟨⟨by decide, by decide⟩, rfl⟩ ⟨(Nat.le_of_ble_eq_true rfl), (Nat.le_of_ble_eq_true rfl)⟩ rfl hl.1 rfl (Nat.le_of_ble_eq_true rfl) d_V_retain_58 ⟨(Nat.le_of_ble_eq_true rfl), (Nat.le_of_ble_eq_true rfl)⟩) hP hD hS hA (fun r7 u8 H locs hp9 hP hD hS => ?_)
  have hP : va_P D vwCl (VW dA h ad x) H := hP
  have hD : va_D A (VW dA h ad x) := hD
  replace hp9 : nI (cnt x.hsize (x.hBl a)) = r7 := Eq.symm hp9
  subst hp9
  refine lv_iadd hx hb d_V_retain_61 (tpi (y := nI ((sumN x.npc (x.sbN PS (a - 1))) + (cnt x.hsize (x.hBl a)))) (nI_add (sumN x.npc (x.sbN PS (a - 1))) (cnt x.hsize (x.hBl a))) ?_)
  refine lv_istore_n hx hb d_V_retain_62 rfl hl (by decide) rfl (fun ls hl => ?_)
  have hl : lv_has ls 4 [(3, .int (nI ((sumN x.npc (x.sbN PS (a - 1))) + (cnt x.hsize (x.hBl a))))), (0, .ref h), (1, .long a)] := hl
  refine lv_aload_n hx hb d_V_retain_63 rfl (lv_at hl 1 rfl) ?_
  refine xfV (w1 := VW dA h ad (VS.s_cutLeft (VS.s_powered x false) (-1))) (As := []) (rest := []) hx hb hml hown hE hK (hN _ _ hS) (v_writeJournalBlock_x l htr D dA H.size h ad x hc2 hc) (q0 := 0) rfl rfl w315 w314 w316 w317 w277 rfl rfl ⟨⟨by decide, by decide⟩, rfl⟩ ⟨(Nat.le_of_ble_eq_true rfl), (Nat.le_of_ble_eq_true rfl)⟩ rfl hl.1 rfl (Nat.le_of_ble_eq_true rfl) d_V_retain_64 ⟨(Nat.le_of_ble_eq_true rfl), (Nat.le_of_ble_eq_true rfl)⟩ hP hD hS hA (fun xa9 ce H locs hP hD hS hce hcv hcl => ?_)
  exact xOut hno hlk hce hcv hcl (fun t ht => xEndV hP hD hS t (by rw [ht]; exact Nat.le_refl _) (fun q _ => by rw [ht])) hS.2.2 (Nat.le_of_ble_eq_true rfl) (Nat.le_of_ble_eq_true rfl)
set_option maxHeartbeats 4000000 in
set_option maxRecDepth 100000 in
theorem v_retain_j (l : Launch) (htr : l.stackTraces = false) (D : va_G) (dA : Nat → ClassId) (sz : Nat) (h : Nat) (ad : Nat → Nat) (x : VS) (PS : Nat → PT) (a : Int64) (ho : x.powered = true) (t1 : isTm a = true) (t2 : x.nhor < a) (hps : psOk dA x.nP x.npc x.pl PS) (hpn : x.npc ≤ 32) (h1 : x.nsc ≤ 64) (h7 : ∀ q : Nat, q < x.nsc → x.nsO q < 2 ^ 31) (h0 : x.hsize ≤ x.hN) (h9 : x.hN ≤ 65536) (hc2 : x.jch = false) (hc : x.cutLeft = 0) : mX l ⟨"SeriesVault", "retain", "(J)I"⟩ [Cond.code ⟨"SeriesVault", "retain", "(J)I"⟩ prog_1_method_41_code 4 (some FieldType.int)] { frames := 7, cells := 1, slots := 6, locals := 101 } (pC D dA [.ref h, .long a] (VW dA h ad x) sz) "java/lang/IllegalStateException" (fun st9 t9 => va_F (va_A (VW dA h ad x) sz) st9 t9 ∧ bW D (va_A (VW dA h ad x) sz) (VW dA h ad (VS.s_cutLeft (VS.s_powered x false) (-1))) t9) 1 6 (va_A (VW dA h ad x) sz) := by
  refine mkX (y := ⟨"SeriesVault", "retain", "(J)I"⟩) (cc := prog_1_method_41_code) (maxL := 4) (av := [.ref h, .long a]) (ws := VW dA h ad x) (sz := sz) (B := fun A => (fun st9 t9 => va_F A st9 t9 ∧ bW D A (VW dA h ad (VS.s_cutLeft (VS.s_powered x false) (-1))) t9)) (by decide) (Nat.le_of_ble_eq_true rfl) ?_
  intro A p e s m below meth c ls hsz hno hB
  obtain ⟨hx, hb, hr, hml, hown, hin, hlk, hE, hK, hP, hD, hS, hA, hN, hl⟩ := hB
  have hown : s.vm.findClass "SeriesVault" = some m.cls := hown
  have hl : lv_has ls 4 [(0, .ref h), (1, .long a)] := hl
  obtain ⟨H, hH⟩ : ∃ z, z = s.heap := ⟨_, rfl⟩
  have hP : va_P D vwCl (VW dA h ad x) H := by rw [hH]; exact hP
  have hS : va_S A s.heap H [] := by rw [hH]; exact hS
  rw [← hH]
  refine lv_aload_n hx hb d_V_retain_0 rfl (lv_at hl 0 rfl) ?_
  refine jfV (rnV (As := []) (rest := []) hx hb hml hown hE hK (hN _ _ hS) hP hD (v_checkPower l D dA H.size h ad x ho) (q0 := 0) rfl rfl w278 w276 w279 w280 w277 rfl rfl ⟨⟨by decide, by decide⟩, rfl⟩ ⟨(Nat.le_of_ble_eq_true rfl), (Nat.le_of_ble_eq_true rfl)⟩ rfl hl.1 rfl (Nat.le_of_ble_eq_true rfl) d_V_retain_1 ⟨(Nat.le_of_ble_eq_true rfl), (Nat.le_of_ble_eq_true rfl)⟩) hP hD hS hA (fun u2 H locs hp9 hP hD hS => ?_)
  have hP : va_P D vwCl (VW dA h ad x) H := hP
  have hD : va_D A (VW dA h ad x) := hD
  refine lv_lload_n hx hb d_V_retain_4 rfl (lv_at hl 1 rfl) ?_
  have hPc := hP.sub (ws' := []) [] rfl
  have hDc := hD.sub (ws' := []) [] (by decide) rfl
  refine jpI (rnS (As := [.long a]) (rest := []) hx hb hml hown hE hK (hN _ _ hS) hPc hDc (v_isTime l D dA H.size a) w693 w692 w694 w277 rfl rfl ⟨⟨by decide, by decide⟩, rfl⟩ ⟨(Nat.le_of_ble_eq_true rfl), (Nat.le_of_ble_eq_true rfl)⟩ rfl hl.1 rfl (Nat.le_of_ble_eq_true rfl) d_V_retain_5 ⟨(Nat.le_of_ble_eq_true rfl), (Nat.le_of_ble_eq_true rfl)⟩) hP hD hS hA (fun r3 u9 H locs hp9 hP hD hS => ?_)
  have hP : va_P D vwCl (VW dA h ad x) H := hP
  have hD : va_D A (VW dA h ad x) := hD
  replace hp9 : bI (isTm a) = r3 := Eq.symm hp9
  subst hp9
  refine lv_if_eq hx hb d_V_retain_8 (tgt := 23) rfl (fun h9 => absurd h9 (by rw [t1]; decide)) (fun _ => ?_)
  refine lv_lload_n hx hb d_V_retain_11 rfl (lv_at hl 1 rfl) ?_
  refine lv_aload_n hx hb d_V_retain_12 rfl (lv_at hl 0 rfl) ?_
  refine gF (v := .ref (ad 3)) hx hb hown hE hK hP 0 rfl rfl layV 11 (by decide) w297 rfl d_V_retain_13 ?_
  refine gFN (v := .long x.nhor) hx hb hown hE hK hP 17 rfl rfl layH 7 (by decide) w710 rfl d_V_retain_16 ?_
  refine W.lcmp hx hb d_V_retain_19 ?_
  refine lv_if_ge hx hb d_V_retain_20 (tgt := 31) rfl (fun _ => ?_) (fun h9 => absurd ((lg_cmp_ge _ _).mpr (Int64.le_of_lt t2)) h9)
  refine lv_lload_n hx hb d_V_retain_31 rfl (lv_at hl 1 rfl) ?_
  refine lv_aload_n hx hb d_V_retain_32 rfl (lv_at hl 0 rfl) ?_
  refine gF (v := .ref (ad 3)) hx hb hown hE hK hP 0 rfl rfl layV 11 (by decide) w297 rfl d_V_retain_33 ?_
  refine gFN (v := .long x.nhor) hx hb hown hE hK hP 17 rfl rfl layH 7 (by decide) w710 rfl d_V_retain_36 ?_
  refine W.lcmp hx hb d_V_retain_39 ?_
  refine lv_if_ne hx hb d_V_retain_40 (tgt := 45) rfl (fun _ => ?_) (fun h9 => absurd h9 (mt (lg_cmp_eq _ _).mp (fun z => absurd t2 (by rw [z]; exact fun q => Int64.lt_irrefl q))))
  refine lv_aload_n hx hb d_V_retain_45 rfl (lv_at hl 0 rfl) ?_
  refine gF (v := .ref (ad 3)) hx hb hown hE hK hP 0 rfl rfl layV 11 (by decide) w297 rfl d_V_retain_46 ?_
  refine lv_lload_n hx hb d_V_retain_49 rfl (lv_at hl 1 rfl) ?_
  refine jfI (rnV (As := [.long a]) (rest := []) hx hb hml hown hE hK (hN _ _ hS) hP hD (v_countSeenBelow l D dA H.size h ad x PS a hps (show x.npc ≤ 32 from by omega) (show x.nsc ≤ 64 from by omega) h7) (q0 := 17) rfl rfl w633 w731 w634 w635 w583 rfl rfl ⟨⟨by decide, by decide⟩, rfl⟩ ⟨(Nat.le_of_ble_eq_true rfl), (Nat.le_of_ble_eq_true rfl)⟩ rfl hl.1 rfl (Nat.le_of_ble_eq_true rfl) d_V_retain_50 ⟨(Nat.le_of_ble_eq_true rfl), (Nat.le_of_ble_eq_true rfl)⟩) hP hD hS hA (fun r5 u6 H locs hp9 hP hD hS => ?_)
  have hP : va_P D vwCl (VW dA h ad x) H := hP
  have hD : va_D A (VW dA h ad x) := hD
  replace hp9 : nI (sumN x.npc (x.sbN PS (a - 1))) = r5 := Eq.symm hp9
  subst hp9
  refine lv_aload_n hx hb d_V_retain_53 rfl (lv_at hl 0 rfl) ?_
  refine gF (v := .ref (ad 1)) hx hb hown hE hK hP 0 rfl rfl layV 9 (by decide) w576 rfl d_V_retain_54 ?_
  refine lv_lload_n hx hb d_V_retain_57 rfl (lv_at hl 1 rfl) ?_
  refine jfI (rnV (As := [.long a]) (rest := [.int (nI (sumN x.npc (x.sbN PS (a - 1))))]) hx hb hml hown hE hK (hN _ _ hS) hP hD (v_countBelow l D dA H.size h ad x a (show x.hsize ≤ x.hN from by omega) (show x.hN ≤ 65536 from by omega)) (q0 := 9) rfl rfl w733 w732 w734 w735 w578 rfl rfl ⟨⟨by decide, by decide⟩, rfl⟩ ⟨(Nat.le_of_ble_eq_true rfl), (Nat.le_of_ble_eq_true rfl)⟩ rfl hl.1 rfl (Nat.le_of_ble_eq_true rfl) d_V_retain_58 ⟨(Nat.le_of_ble_eq_true rfl), (Nat.le_of_ble_eq_true rfl)⟩) hP hD hS hA (fun r7 u8 H locs hp9 hP hD hS => ?_)
  have hP : va_P D vwCl (VW dA h ad x) H := hP
  have hD : va_D A (VW dA h ad x) := hD
  replace hp9 : nI (cnt x.hsize (x.hBl a)) = r7 := Eq.symm hp9
  subst hp9
  refine lv_iadd hx hb d_V_retain_61 (tpi (y := nI ((sumN x.npc (x.sbN PS (a - 1))) + (cnt x.hsize (x.hBl a)))) (nI_add (sumN x.npc (x.sbN PS (a - 1))) (cnt x.hsize (x.hBl a))) ?_)
  refine lv_istore_n hx hb d_V_retain_62 rfl hl (by decide) rfl (fun ls hl => ?_)
  have hl : lv_has ls 4 [(3, .int (nI ((sumN x.npc (x.sbN PS (a - 1))) + (cnt x.hsize (x.hBl a))))), (0, .ref h), (1, .long a)] := hl
  refine lv_aload_n hx hb d_V_retain_63 rfl (lv_at hl 1 rfl) ?_
  refine jfI (rnV (As := []) (rest := []) hx hb hml hown hE hK (hN _ _ hS) hP hD (v_writeJournalBlock_0 l D dA H.size h ad x hc2) (q0 := 0) rfl rfl w315 w314 w316 w317 w277 rfl rfl ⟨⟨by decide, by decide⟩, rfl⟩ ⟨(Nat.le_of_ble_eq_true rfl), (Nat.le_of_ble_eq_true rfl)⟩ rfl hl.1 rfl (Nat.le_of_ble_eq_true rfl) d_V_retain_64 ⟨(Nat.le_of_ble_eq_true rfl), (Nat.le_of_ble_eq_true rfl)⟩) hP hD hS hA (fun r9 u10 H locs hp9 hP hD hS => ?_)
  have hP : va_P D vwCl (VW dA h ad x) H := hP
  have hD : va_D A (VW dA h ad x) := hD
  replace hp9 : bI false = r9 := Eq.symm hp9
  subst hp9
  refine lv_pop hx hb d_V_retain_67 rfl ?_
  refine lv_aload_n hx hb d_V_retain_68 rfl (lv_at hl 1 rfl) ?_
  refine xfV (w1 := VW dA h ad (VS.s_cutLeft (VS.s_powered x false) (-1))) (As := []) (rest := []) hx hb hml hown hE hK (hN _ _ hS) (v_writeBlock_x l htr D dA H.size h ad x hc) (q0 := 0) rfl rfl w737 w736 w738 w739 w277 rfl rfl ⟨⟨by decide, by decide⟩, rfl⟩ ⟨(Nat.le_of_ble_eq_true rfl), (Nat.le_of_ble_eq_true rfl)⟩ rfl hl.1 rfl (Nat.le_of_ble_eq_true rfl) d_V_retain_69 ⟨(Nat.le_of_ble_eq_true rfl), (Nat.le_of_ble_eq_true rfl)⟩ hP hD hS hA (fun xa11 ce H locs hP hD hS hce hcv hcl => ?_)
  exact xOut hno hlk hce hcv hcl (fun t ht => xEndV hP hD hS t (by rw [ht]; exact Nat.le_refl _) (fun q _ => by rw [ht])) hS.2.2 (Nat.le_of_ble_eq_true rfl) (Nat.le_of_ble_eq_true rfl)
set_option maxHeartbeats 4000000 in
set_option maxRecDepth 100000 in
theorem v_retain_k (l : Launch) (htr : l.stackTraces = false) (D : va_G) (dA : Nat → ClassId) (sz : Nat) (h : Nat) (ad : Nat → Nat) (x : VS) (PS : Nat → PT) (a : Int64) (ho : x.powered = true) (t1 : isTm a = true) (t2 : x.nhor < a) (hps : psOk dA x.nP x.npc x.pl PS) (hpn : x.npc ≤ 32) (h1 : x.nsc ≤ 64) (h7 : ∀ q : Nat, q < x.nsc → x.nsO q < 2 ^ 31) (h0 : x.hsize ≤ x.hN) (h9 : x.hN ≤ 65536) (hc2 : x.jch = true) (hc : ¬ x.cutLeft = 0) (hc3 : cutF x.cutLeft = 0) : mX l ⟨"SeriesVault", "retain", "(J)I"⟩ [Cond.code ⟨"SeriesVault", "retain", "(J)I"⟩ prog_1_method_41_code 4 (some FieldType.int)] { frames := 7, cells := 1, slots := 6, locals := 101 } (pC D dA [.ref h, .long a] (VW dA h ad x) sz) "java/lang/IllegalStateException" (fun st9 t9 => va_F (va_A (VW dA h ad x) sz) st9 t9 ∧ bW D (va_A (VW dA h ad x) sz) (VW dA h ad (VS.s_jch (VS.s_jkept (VS.s_writes (VS.s_cutLeft (VS.s_powered x false) (-1)) (x.writes + 1)) x.jsize) false)) t9) 1 6 (va_A (VW dA h ad x) sz) := by
  refine mkX (y := ⟨"SeriesVault", "retain", "(J)I"⟩) (cc := prog_1_method_41_code) (maxL := 4) (av := [.ref h, .long a]) (ws := VW dA h ad x) (sz := sz) (B := fun A => (fun st9 t9 => va_F A st9 t9 ∧ bW D A (VW dA h ad (VS.s_jch (VS.s_jkept (VS.s_writes (VS.s_cutLeft (VS.s_powered x false) (-1)) (x.writes + 1)) x.jsize) false)) t9)) (by decide) (Nat.le_of_ble_eq_true rfl) ?_
  intro A p e s m below meth c ls hsz hno hB
  obtain ⟨hx, hb, hr, hml, hown, hin, hlk, hE, hK, hP, hD, hS, hA, hN, hl⟩ := hB
  have hown : s.vm.findClass "SeriesVault" = some m.cls := hown
  have hl : lv_has ls 4 [(0, .ref h), (1, .long a)] := hl
  obtain ⟨H, hH⟩ : ∃ z, z = s.heap := ⟨_, rfl⟩
  have hP : va_P D vwCl (VW dA h ad x) H := by rw [hH]; exact hP
  have hS : va_S A s.heap H [] := by rw [hH]; exact hS
  rw [← hH]
  refine lv_aload_n hx hb d_V_retain_0 rfl (lv_at hl 0 rfl) ?_
  refine jfV (rnV (As := []) (rest := []) hx hb hml hown hE hK (hN _ _ hS) hP hD (v_checkPower l D dA H.size h ad x ho) (q0 := 0) rfl rfl w278 w276 w279 w280 w277 rfl rfl ⟨⟨by decide, by decide⟩, rfl⟩ ⟨(Nat.le_of_ble_eq_true rfl), (Nat.le_of_ble_eq_true rfl)⟩ rfl hl.1 rfl (Nat.le_of_ble_eq_true rfl) d_V_retain_1 ⟨(Nat.le_of_ble_eq_true rfl), (Nat.le_of_ble_eq_true rfl)⟩) hP hD hS hA (fun u2 H locs hp9 hP hD hS => ?_)
  have hP : va_P D vwCl (VW dA h ad x) H := hP
  have hD : va_D A (VW dA h ad x) := hD
  refine lv_lload_n hx hb d_V_retain_4 rfl (lv_at hl 1 rfl) ?_
  have hPc := hP.sub (ws' := []) [] rfl
  have hDc := hD.sub (ws' := []) [] (by decide) rfl
  refine jpI (rnS (As := [.long a]) (rest := []) hx hb hml hown hE hK (hN _ _ hS) hPc hDc (v_isTime l D dA H.size a) w693 w692 w694 w277 rfl rfl ⟨⟨by decide, by decide⟩, rfl⟩ ⟨(Nat.le_of_ble_eq_true rfl), (Nat.le_of_ble_eq_true rfl)⟩ rfl hl.1 rfl (Nat.le_of_ble_eq_true rfl) d_V_retain_5 ⟨(Nat.le_of_ble_eq_true rfl), (Nat.le_of_ble_eq_true rfl)⟩) hP hD hS hA (fun r3 u9 H locs hp9 hP hD hS => ?_)
  have hP : va_P D vwCl (VW dA h ad x) H := hP
  have hD : va_D A (VW dA h ad x) := hD
  replace hp9 : bI (isTm a) = r3 := Eq.symm hp9
  subst hp9
  refine lv_if_eq hx hb d_V_retain_8 (tgt := 23) rfl (fun h9 => absurd h9 (by rw [t1]; decide)) (fun _ => ?_)
  refine lv_lload_n hx hb d_V_retain_11 rfl (lv_at hl 1 rfl) ?_
  refine lv_aload_n hx hb d_V_retain_12 rfl (lv_at hl 0 rfl) ?_
  refine gF (v := .ref (ad 3)) hx hb hown hE hK hP 0 rfl rfl layV 11 (by decide) w297 rfl d_V_retain_13 ?_
  refine gFN (v := .long x.nhor) hx hb hown hE hK hP 17 rfl rfl layH 7 (by decide) w710 rfl d_V_retain_16 ?_
  refine W.lcmp hx hb d_V_retain_19 ?_
  refine lv_if_ge hx hb d_V_retain_20 (tgt := 31) rfl (fun _ => ?_) (fun h9 => absurd ((lg_cmp_ge _ _).mpr (Int64.le_of_lt t2)) h9)
  refine lv_lload_n hx hb d_V_retain_31 rfl (lv_at hl 1 rfl) ?_
  refine lv_aload_n hx hb d_V_retain_32 rfl (lv_at hl 0 rfl) ?_
  refine gF (v := .ref (ad 3)) hx hb hown hE hK hP 0 rfl rfl layV 11 (by decide) w297 rfl d_V_retain_33 ?_
  refine gFN (v := .long x.nhor) hx hb hown hE hK hP 17 rfl rfl layH 7 (by decide) w710 rfl d_V_retain_36 ?_
  refine W.lcmp hx hb d_V_retain_39 ?_
  refine lv_if_ne hx hb d_V_retain_40 (tgt := 45) rfl (fun _ => ?_) (fun h9 => absurd h9 (mt (lg_cmp_eq _ _).mp (fun z => absurd t2 (by rw [z]; exact fun q => Int64.lt_irrefl q))))
  refine lv_aload_n hx hb d_V_retain_45 rfl (lv_at hl 0 rfl) ?_
  refine gF (v := .ref (ad 3)) hx hb hown hE hK hP 0 rfl rfl layV 11 (by decide) w297 rfl d_V_retain_46 ?_
  refine lv_lload_n hx hb d_V_retain_49 rfl (lv_at hl 1 rfl) ?_
  refine jfI (rnV (As := [.long a]) (rest := []) hx hb hml hown hE hK (hN _ _ hS) hP hD (v_countSeenBelow l D dA H.size h ad x PS a hps (show x.npc ≤ 32 from by omega) (show x.nsc ≤ 64 from by omega) h7) (q0 := 17) rfl rfl w633 w731 w634 w635 w583 rfl rfl ⟨⟨by decide, by decide⟩, rfl⟩ ⟨(Nat.le_of_ble_eq_true rfl), (Nat.le_of_ble_eq_true rfl)⟩ rfl hl.1 rfl (Nat.le_of_ble_eq_true rfl) d_V_retain_50 ⟨(Nat.le_of_ble_eq_true rfl), (Nat.le_of_ble_eq_true rfl)⟩) hP hD hS hA (fun r5 u6 H locs hp9 hP hD hS => ?_)
  have hP : va_P D vwCl (VW dA h ad x) H := hP
  have hD : va_D A (VW dA h ad x) := hD
  replace hp9 : nI (sumN x.npc (x.sbN PS (a - 1))) = r5 := Eq.symm hp9
  subst hp9
  refine lv_aload_n hx hb d_V_retain_53 rfl (lv_at hl 0 rfl) ?_
  refine gF (v := .ref (ad 1)) hx hb hown hE hK hP 0 rfl rfl layV 9 (by decide) w576 rfl d_V_retain_54 ?_
  refine lv_lload_n hx hb d_V_retain_57 rfl (lv_at hl 1 rfl) ?_
  refine jfI (rnV (As := [.long a]) (rest := [.int (nI (sumN x.npc (x.sbN PS (a - 1))))]) hx hb hml hown hE hK (hN _ _ hS) hP hD (v_countBelow l D dA H.size h ad x a (show x.hsize ≤ x.hN from by omega) (show x.hN ≤ 65536 from by omega)) (q0 := 9) rfl rfl w733 w732 w734 w735 w578 rfl rfl ⟨⟨by decide, by decide⟩, rfl⟩ ⟨(Nat.le_of_ble_eq_true rfl), (Nat.le_of_ble_eq_true rfl)⟩ rfl hl.1 rfl (Nat.le_of_ble_eq_true rfl) d_V_retain_58 ⟨(Nat.le_of_ble_eq_true rfl), (Nat.le_of_ble_eq_true rfl)⟩) hP hD hS hA (fun r7 u8 H locs hp9 hP hD hS => ?_)
  have hP : va_P D vwCl (VW dA h ad x) H := hP
  have hD : va_D A (VW dA h ad x) := hD
  replace hp9 : nI (cnt x.hsize (x.hBl a)) = r7 := Eq.symm hp9
  subst hp9
  refine lv_iadd hx hb d_V_retain_61 (tpi (y := nI ((sumN x.npc (x.sbN PS (a - 1))) + (cnt x.hsize (x.hBl a)))) (nI_add (sumN x.npc (x.sbN PS (a - 1))) (cnt x.hsize (x.hBl a))) ?_)
  refine lv_istore_n hx hb d_V_retain_62 rfl hl (by decide) rfl (fun ls hl => ?_)
  have hl : lv_has ls 4 [(3, .int (nI ((sumN x.npc (x.sbN PS (a - 1))) + (cnt x.hsize (x.hBl a))))), (0, .ref h), (1, .long a)] := hl
  refine lv_aload_n hx hb d_V_retain_63 rfl (lv_at hl 1 rfl) ?_
  refine jfI (rnV (As := []) (rest := []) hx hb hml hown hE hK (hN _ _ hS) hP hD (v_writeJournalBlock_1 l D dA H.size h ad x hc2 hc) (q0 := 0) rfl rfl w315 w314 w316 w317 w277 rfl rfl ⟨⟨by decide, by decide⟩, rfl⟩ ⟨(Nat.le_of_ble_eq_true rfl), (Nat.le_of_ble_eq_true rfl)⟩ rfl hl.1 rfl (Nat.le_of_ble_eq_true rfl) d_V_retain_64 ⟨(Nat.le_of_ble_eq_true rfl), (Nat.le_of_ble_eq_true rfl)⟩) hP hD hS hA (fun r9 u10 H locs hp9 hP hD hS => ?_)
  have hP : va_P D vwCl (VW dA h ad (VS.s_jch (VS.s_jkept (VS.s_writes (VS.s_cutLeft x (cutF x.cutLeft)) (x.writes + 1)) x.jsize) false)) H := hP
  have hD : va_D A (VW dA h ad (VS.s_jch (VS.s_jkept (VS.s_writes (VS.s_cutLeft x (cutF x.cutLeft)) (x.writes + 1)) x.jsize) false)) := hD
  replace hp9 : bI true = r9 := Eq.symm hp9
  subst hp9
  refine lv_pop hx hb d_V_retain_67 rfl ?_
  refine lv_aload_n hx hb d_V_retain_68 rfl (lv_at hl 1 rfl) ?_
  refine xfV (w1 := VW dA h ad (VS.s_jch (VS.s_jkept (VS.s_writes (VS.s_cutLeft (VS.s_powered x false) (-1)) (x.writes + 1)) x.jsize) false)) (As := []) (rest := []) hx hb hml hown hE hK (hN _ _ hS) (v_writeBlock_x l htr D dA H.size h ad (VS.s_jch (VS.s_jkept (VS.s_writes (VS.s_cutLeft x (cutF x.cutLeft)) (x.writes + 1)) x.jsize) false) hc3) (q0 := 0) rfl rfl w737 w736 w738 w739 w277 rfl rfl ⟨⟨by decide, by decide⟩, rfl⟩ ⟨(Nat.le_of_ble_eq_true rfl), (Nat.le_of_ble_eq_true rfl)⟩ rfl hl.1 rfl (Nat.le_of_ble_eq_true rfl) d_V_retain_69 ⟨(Nat.le_of_ble_eq_true rfl), (Nat.le_of_ble_eq_true rfl)⟩ hP hD hS hA (fun xa11 ce H locs hP hD hS hce hcv hcl => ?_)
  exact xOut hno hlk hce hcv hcl (fun t ht => xEndV hP hD hS t (by rw [ht]; exact Nat.le_refl _) (fun q _ => by rw [ht])) hS.2.2 (Nat.le_of_ble_eq_true rfl) (Nat.le_of_ble_eq_true rfl)
def VS.mhS (x : VS) (PS : Nat → PT) (a : Int64) : VS := VS.s_nhor (VS.s_npc (VS.s_nP (VS.s_hsize (VS.s_hV (VS.s_hT (VS.s_hO x (tdT (x.hAb a) x.hO x.hsize)) (tdT (x.hAb a) x.hT x.hsize)) (tdT (x.hAb a) x.hV x.hsize)) (cnt x.hsize (x.hAb a))) (tdT (mhC PS a) x.nP x.npc)) (cnt x.npc (mhC PS a))) a
def VS.kmS (x : VS) (PS : Nat → PT) : VS := VS.s_shor (VS.s_ssc (VS.s_ssT (VS.s_ssF (VS.s_ssO (VS.s_spc (VS.s_sP (VS.s_nsc (VS.s_nsP (VS.s_nsT (VS.s_nsF (VS.s_nsO x (tdT (x.esC PS) x.nsO x.nsc)) (tdT (x.esC PS) x.nsF x.nsc)) (tdT (x.esC PS) x.nsT x.nsc)) (x.esG PS)) (cnt x.nsc (x.esC PS))) (va_cpy x.nP x.sP 0 0 x.npc)) x.npc) (va_cpy (tdT (x.esC PS) x.nsO x.nsc) x.ssO 0 0 (cnt x.nsc (x.esC PS)))) (va_cpy (tdT (x.esC PS) x.nsF x.nsc) x.ssF 0 0 (cnt x.nsc (x.esC PS)))) (va_cpy (tdT (x.esC PS) x.nsT x.nsc) x.ssT 0 0 (cnt x.nsc (x.esC PS)))) (cnt x.nsc (x.esC PS))) x.nhor
def VS.wb1 (x : VS) : VS := VS.s_writes (VS.s_cutLeft x (cutF x.cutLeft)) (x.writes + 1)
theorem ps_td {dA : Nat → ClassId} {nP : Nat → Option Nat} {pl : va_W} {PS : Nat → PT} (c : Nat → Bool) : ∀ {n : Nat}, psOk dA nP n pl PS → psOk dA (tdT c nP n) (cnt n c) pl (tdT c PS n)
  | 0, _ => fun k hk => absurd hk (Nat.not_lt_zero k)
  | n + 1, h => by
    have ih := ps_td c (n := n) (fun k hk => h k (by omega))
    intro k hk
    cases hc : c n with
    | false => rw [cnt_f hc] at hk; rw [tdT_f hc, tdT_f hc]; exact ih k hk
    | true =>
      rw [cnt_t hc] at hk
      rw [tdT_t hc rfl, tdT_t hc rfl]
      by_cases e : k = cnt n c
      · subst e
        rw [va_up_self, va_up_self]
        exact h n (by omega)
      · rw [va_up_ne _ _ e, va_up_ne _ _ e]
        exact ih k (by omega)
set_option maxHeartbeats 4000000 in
set_option maxRecDepth 100000 in
theorem v_retain_1 (l : Launch) (D : va_G) (dA : Nat → ClassId) (sz : Nat) (h : Nat) (ad : Nat → Nat) (x : VS) (PS : Nat → PT) (a : Int64) (ho : x.powered = true) (t1 : isTm a = true) (t2 : x.nhor < a) (hps : psOk dA x.nP x.npc x.pl PS) (hpn : x.npc ≤ 32) (h1 : x.nsc ≤ 64) (h7 : ∀ q : Nat, q < x.nsc → x.nsO q < 2 ^ 31) (h0 : x.hsize ≤ x.hN) (h9 : x.hN ≤ 65536) (hw : x.jch = false ∨ ¬ x.cutLeft = 0) (hc4 : ¬ x.wjS.cutLeft = 0) : Met l ⟨"SeriesVault", "retain", "(J)I"⟩ [Cond.code ⟨"SeriesVault", "retain", "(J)I"⟩ prog_1_method_41_code 4 (some FieldType.int)] { frames := 5, cells := 0, slots := 0, locals := 95 } (pC D dA [.ref h, .long a] (VW dA h ad x) sz) (va_Qi (fun (r9 : Int32) (u9 : VS) => r9 = nI (sumN x.npc (x.sbN PS (a - 1)) + cnt x.hsize (x.hBl a)) ∧ u9 = ((x.wjS.wb1).mhS PS a).kmS (tdT (mhC PS a) PS x.npc)) (fun (u9 : VS) t9 => bW D (va_A (VW dA h ad x) sz) (VW dA h ad u9) t9) (va_A (VW dA h ad x) sz)) 0 0 (va_A (VW dA h ad x) sz) := by
  refine mkC (y := ⟨"SeriesVault", "retain", "(J)I"⟩) (cc := prog_1_method_41_code) (maxL := 4) (av := [.ref h, .long a]) (ws := VW dA h ad x) (sz := sz) (Qc := fun A => va_Qi (fun (r9 : Int32) (u9 : VS) => r9 = nI (sumN x.npc (x.sbN PS (a - 1)) + cnt x.hsize (x.hBl a)) ∧ u9 = ((x.wjS.wb1).mhS PS a).kmS (tdT (mhC PS a) PS x.npc)) (fun (u9 : VS) t9 => bW D A (VW dA h ad u9) t9) A) (by decide) (Nat.le_of_ble_eq_true rfl) ?_
  intro A p e s m below meth c ls hsz hB
  obtain ⟨hx, hb, hr, hml, hown, hin, hlk, hE, hK, hP, hD, hS, hA, hN, hl⟩ := hB
  have hown : s.vm.findClass "SeriesVault" = some m.cls := hown
  have hl : lv_has ls 4 [(0, .ref h), (1, .long a)] := hl
  obtain ⟨H, hH⟩ : ∃ z, z = s.heap := ⟨_, rfl⟩
  have hP : va_P D vwCl (VW dA h ad x) H := by rw [hH]; exact hP
  have hS : va_S A s.heap H [] := by rw [hH]; exact hS
  rw [← hH]
  refine lv_aload_n hx hb d_V_retain_0 rfl (lv_at hl 0 rfl) ?_
  refine jfV (rnV (As := []) (rest := []) hx hb hml hown hE hK (hN _ _ hS) hP hD (v_checkPower l D dA H.size h ad x ho) (q0 := 0) rfl rfl w278 w276 w279 w280 w277 rfl rfl ⟨⟨by decide, by decide⟩, rfl⟩ ⟨(Nat.le_of_ble_eq_true rfl), (Nat.le_of_ble_eq_true rfl)⟩ rfl hl.1 rfl (Nat.le_of_ble_eq_true rfl) d_V_retain_1 ⟨(Nat.le_of_ble_eq_true rfl), (Nat.le_of_ble_eq_true rfl)⟩) hP hD hS hA (fun u2 H locs hp9 hP hD hS => ?_)
  have hP : va_P D vwCl (VW dA h ad x) H := hP
  have hD : va_D A (VW dA h ad x) := hD
  refine lv_lload_n hx hb d_V_retain_4 rfl (lv_at hl 1 rfl) ?_
  have hPc := hP.sub (ws' := []) [] rfl
  have hDc := hD.sub (ws' := []) [] (by decide) rfl
  refine jpI (rnS (As := [.long a]) (rest := []) hx hb hml hown hE hK (hN _ _ hS) hPc hDc (v_isTime l D dA H.size a) w693 w692 w694 w277 rfl rfl ⟨⟨by decide, by decide⟩, rfl⟩ ⟨(Nat.le_of_ble_eq_true rfl), (Nat.le_of_ble_eq_true rfl)⟩ rfl hl.1 rfl (Nat.le_of_ble_eq_true rfl) d_V_retain_5 ⟨(Nat.le_of_ble_eq_true rfl), (Nat.le_of_ble_eq_true rfl)⟩) hP hD hS hA (fun r3 u9 H locs hp9 hP hD hS => ?_)
  have hP : va_P D vwCl (VW dA h ad x) H := hP
  have hD : va_D A (VW dA h ad x) := hD
  replace hp9 : bI (isTm a) = r3 := Eq.symm hp9
  subst hp9
  refine lv_if_eq hx hb d_V_retain_8 (tgt := 23) rfl (fun h9 => absurd h9 (by rw [t1]; decide)) (fun _ => ?_)
  refine lv_lload_n hx hb d_V_retain_11 rfl (lv_at hl 1 rfl) ?_
  refine lv_aload_n hx hb d_V_retain_12 rfl (lv_at hl 0 rfl) ?_
  refine gF (v := .ref (ad 3)) hx hb hown hE hK hP 0 rfl rfl layV 11 (by decide) w297 rfl d_V_retain_13 ?_
  refine gFN (v := .long x.nhor) hx hb hown hE hK hP 17 rfl rfl layH 7 (by decide) w710 rfl d_V_retain_16 ?_
  refine W.lcmp hx hb d_V_retain_19 ?_
  refine lv_if_ge hx hb d_V_retain_20 (tgt := 31) rfl (fun _ => ?_) (fun h9 => absurd ((lg_cmp_ge _ _).mpr (Int64.le_of_lt t2)) h9)
  refine lv_lload_n hx hb d_V_retain_31 rfl (lv_at hl 1 rfl) ?_
  refine lv_aload_n hx hb d_V_retain_32 rfl (lv_at hl 0 rfl) ?_
  refine gF (v := .ref (ad 3)) hx hb hown hE hK hP 0 rfl rfl layV 11 (by decide) w297 rfl d_V_retain_33 ?_
  refine gFN (v := .long x.nhor) hx hb hown hE hK hP 17 rfl rfl layH 7 (by decide) w710 rfl d_V_retain_36 ?_
  refine W.lcmp hx hb d_V_retain_39 ?_
  refine lv_if_ne hx hb d_V_retain_40 (tgt := 45) rfl (fun _ => ?_) (fun h9 => absurd h9 (mt (lg_cmp_eq _ _).mp (fun z => absurd t2 (by rw [z]; exact fun q => Int64.lt_irrefl q))))
  refine lv_aload_n hx hb d_V_retain_45 rfl (lv_at hl 0 rfl) ?_
  refine gF (v := .ref (ad 3)) hx hb hown hE hK hP 0 rfl rfl layV 11 (by decide) w297 rfl d_V_retain_46 ?_
  refine lv_lload_n hx hb d_V_retain_49 rfl (lv_at hl 1 rfl) ?_
  refine jfI (rnV (As := [.long a]) (rest := []) hx hb hml hown hE hK (hN _ _ hS) hP hD (v_countSeenBelow l D dA H.size h ad x PS a hps (show x.npc ≤ 32 from by omega) (show x.nsc ≤ 64 from by omega) h7) (q0 := 17) rfl rfl w633 w731 w634 w635 w583 rfl rfl ⟨⟨by decide, by decide⟩, rfl⟩ ⟨(Nat.le_of_ble_eq_true rfl), (Nat.le_of_ble_eq_true rfl)⟩ rfl hl.1 rfl (Nat.le_of_ble_eq_true rfl) d_V_retain_50 ⟨(Nat.le_of_ble_eq_true rfl), (Nat.le_of_ble_eq_true rfl)⟩) hP hD hS hA (fun r5 u6 H locs hp9 hP hD hS => ?_)
  have hP : va_P D vwCl (VW dA h ad x) H := hP
  have hD : va_D A (VW dA h ad x) := hD
  replace hp9 : nI (sumN x.npc (x.sbN PS (a - 1))) = r5 := Eq.symm hp9
  subst hp9
  refine lv_aload_n hx hb d_V_retain_53 rfl (lv_at hl 0 rfl) ?_
  refine gF (v := .ref (ad 1)) hx hb hown hE hK hP 0 rfl rfl layV 9 (by decide) w576 rfl d_V_retain_54 ?_
  refine lv_lload_n hx hb d_V_retain_57 rfl (lv_at hl 1 rfl) ?_
  refine jfI (rnV (As := [.long a]) (rest := [.int (nI (sumN x.npc (x.sbN PS (a - 1))))]) hx hb hml hown hE hK (hN _ _ hS) hP hD (v_countBelow l D dA H.size h ad x a (show x.hsize ≤ x.hN from by omega) (show x.hN ≤ 65536 from by omega)) (q0 := 9) rfl rfl w733 w732 w734 w735 w578 rfl rfl ⟨⟨by decide, by decide⟩, rfl⟩ ⟨(Nat.le_of_ble_eq_true rfl), (Nat.le_of_ble_eq_true rfl)⟩ rfl hl.1 rfl (Nat.le_of_ble_eq_true rfl) d_V_retain_58 ⟨(Nat.le_of_ble_eq_true rfl), (Nat.le_of_ble_eq_true rfl)⟩) hP hD hS hA (fun r7 u8 H locs hp9 hP hD hS => ?_)
  have hP : va_P D vwCl (VW dA h ad x) H := hP
  have hD : va_D A (VW dA h ad x) := hD
  replace hp9 : nI (cnt x.hsize (x.hBl a)) = r7 := Eq.symm hp9
  subst hp9
  refine lv_iadd hx hb d_V_retain_61 (tpi (y := nI ((sumN x.npc (x.sbN PS (a - 1))) + (cnt x.hsize (x.hBl a)))) (nI_add (sumN x.npc (x.sbN PS (a - 1))) (cnt x.hsize (x.hBl a))) ?_)
  refine lv_istore_n hx hb d_V_retain_62 rfl hl (by decide) rfl (fun ls hl => ?_)
  have hl : lv_has ls 4 [(3, .int (nI ((sumN x.npc (x.sbN PS (a - 1))) + (cnt x.hsize (x.hBl a))))), (0, .ref h), (1, .long a)] := hl
  refine lv_aload_n hx hb d_V_retain_63 rfl (lv_at hl 1 rfl) ?_
  refine jfI (rnV (As := []) (rest := []) hx hb hml hown hE hK (hN _ _ hS) hP hD (v_wjb l D dA H.size h ad x hw) (q0 := 0) rfl rfl w315 w314 w316 w317 w277 rfl rfl ⟨⟨by decide, by decide⟩, rfl⟩ ⟨(Nat.le_of_ble_eq_true rfl), (Nat.le_of_ble_eq_true rfl)⟩ rfl hl.1 rfl (Nat.le_of_ble_eq_true rfl) d_V_retain_64 ⟨(Nat.le_of_ble_eq_true rfl), (Nat.le_of_ble_eq_true rfl)⟩) hP hD hS hA (fun r9 u10 H locs hp9 hP hD hS => ?_)
  obtain ⟨y11, h9u⟩ : ∃ z9, z9 = u10 := ⟨_, rfl⟩
  subst h9u
  have hP : va_P D vwCl (VW dA h ad y11) H := hP
  have hD : va_D A (VW dA h ad y11) := hD
  obtain ⟨hp9, f_e_12⟩ := hp9
  replace hp9 : bI x.jch = r9 := Eq.symm hp9
  subst hp9
  refine lv_pop hx hb d_V_retain_67 rfl ?_
  have hwj := f_e_12
  have hjk : y11 = x.jkS y11 := by rw [hwj]; exact wjS_jk x
  have q_nP : y11.nP = x.nP := (congrArg VS.nP hjk).trans (rfl : (x.jkS y11).nP = x.nP)
  have q_npc : y11.npc = x.npc := (congrArg VS.npc hjk).trans (rfl : (x.jkS y11).npc = x.npc)
  have q_pl : y11.pl = x.pl := (congrArg VS.pl hjk).trans (rfl : (x.jkS y11).pl = x.pl)
  have q_nsc : y11.nsc = x.nsc := (congrArg VS.nsc hjk).trans (rfl : (x.jkS y11).nsc = x.nsc)
  have q_nsO : y11.nsO = x.nsO := (congrArg VS.nsO hjk).trans (rfl : (x.jkS y11).nsO = x.nsO)
  have q_hsize : y11.hsize = x.hsize := (congrArg VS.hsize hjk).trans (rfl : (x.jkS y11).hsize = x.hsize)
  have q_hN : y11.hN = x.hN := (congrArg VS.hN hjk).trans (rfl : (x.jkS y11).hN = x.hN)
  have q_hO : y11.hO = x.hO := (congrArg VS.hO hjk).trans (rfl : (x.jkS y11).hO = x.hO)
  have q_hT : y11.hT = x.hT := (congrArg VS.hT hjk).trans (rfl : (x.jkS y11).hT = x.hT)
  refine lv_aload_n hx hb d_V_retain_68 rfl (lv_at hl 1 rfl) ?_
  refine jfV (rnV (As := []) (rest := []) hx hb hml hown hE hK (hN _ _ hS) hP hD (v_writeBlock l D dA H.size h ad y11 (by rw [hwj]; exact hc4)) (q0 := 0) rfl rfl w737 w736 w738 w739 w277 rfl rfl ⟨⟨by decide, by decide⟩, rfl⟩ ⟨(Nat.le_of_ble_eq_true rfl), (Nat.le_of_ble_eq_true rfl)⟩ rfl hl.1 rfl (Nat.le_of_ble_eq_true rfl) d_V_retain_69 ⟨(Nat.le_of_ble_eq_true rfl), (Nat.le_of_ble_eq_true rfl)⟩) hP hD hS hA (fun u14 H locs hp9 hP hD hS => ?_)
  have hP : va_P D vwCl (VW dA h ad (VS.s_writes (VS.s_cutLeft y11 (cutF y11.cutLeft)) (y11.writes + 1))) H := hP
  have hD : va_D A (VW dA h ad (VS.s_writes (VS.s_cutLeft y11 (cutF y11.cutLeft)) (y11.writes + 1))) := hD
  refine lv_aload_n hx hb d_V_retain_72 rfl (lv_at hl 1 rfl) ?_
  refine gF (v := .ref (ad 3)) hx hb hown hE hK hP 0 rfl rfl layV 11 (by decide) w297 rfl d_V_retain_73 ?_
  refine lv_lload_n hx hb d_V_retain_76 rfl (lv_at hl 2 rfl) ?_
  refine jfV (rnV (As := [.long a]) (rest := []) hx hb hml hown hE hK (hN _ _ hS) hP hD (v_moveHorizon l D dA H.size h ad (VS.s_writes (VS.s_cutLeft y11 (cutF y11.cutLeft)) (y11.writes + 1)) PS a (by rw [q_nP, q_npc, q_pl]; exact hps) (by rw [q_npc]; exact hpn)) (q0 := 17) rfl rfl w741 w740 w742 w743 w583 rfl rfl ⟨⟨by decide, by decide⟩, rfl⟩ ⟨(Nat.le_of_ble_eq_true rfl), (Nat.le_of_ble_eq_true rfl)⟩ rfl hl.1 rfl (Nat.le_of_ble_eq_true rfl) d_V_retain_77 ⟨(Nat.le_of_ble_eq_true rfl), (Nat.le_of_ble_eq_true rfl)⟩) hP hD hS hA (fun u16 H locs hp9 hP hD hS => ?_)
  have hP : va_P D vwCl (VW dA h ad (VS.s_nhor (VS.s_npc (VS.s_nP (VS.s_writes (VS.s_cutLeft y11 (cutF y11.cutLeft)) (y11.writes + 1)) (tdT (mhC PS a) y11.nP y11.npc)) (cnt y11.npc (mhC PS a))) a)) H := hP
  have hD : va_D A (VW dA h ad (VS.s_nhor (VS.s_npc (VS.s_nP (VS.s_writes (VS.s_cutLeft y11 (cutF y11.cutLeft)) (y11.writes + 1)) (tdT (mhC PS a) y11.nP y11.npc)) (cnt y11.npc (mhC PS a))) a)) := hD
  refine lv_aload_n hx hb d_V_retain_80 rfl (lv_at hl 1 rfl) ?_
  refine gF (v := .ref (ad 1)) hx hb hown hE hK hP 0 rfl rfl layV 9 (by decide) w576 rfl d_V_retain_81 ?_
  refine lv_lload_n hx hb d_V_retain_84 rfl (lv_at hl 2 rfl) ?_
  refine jfV (rnV (As := [.long a]) (rest := []) hx hb hml hown hE hK (hN _ _ hS) hP hD (v_dropBelow l D dA H.size h ad (VS.s_nhor (VS.s_npc (VS.s_nP (VS.s_writes (VS.s_cutLeft y11 (cutF y11.cutLeft)) (y11.writes + 1)) (tdT (mhC PS a) y11.nP y11.npc)) (cnt y11.npc (mhC PS a))) a) a (by rw [q_hsize, q_hN]; exact h0) (by rw [q_hN]; exact h9)) (q0 := 9) rfl rfl w745 w744 w746 w747 w578 rfl rfl ⟨⟨by decide, by decide⟩, rfl⟩ ⟨(Nat.le_of_ble_eq_true rfl), (Nat.le_of_ble_eq_true rfl)⟩ rfl hl.1 rfl (Nat.le_of_ble_eq_true rfl) d_V_retain_85 ⟨(Nat.le_of_ble_eq_true rfl), (Nat.le_of_ble_eq_true rfl)⟩) hP hD hS hA (fun u18 H locs hp9 hP hD hS => ?_)
  have hP : va_P D vwCl (VW dA h ad (VS.s_nhor (VS.s_npc (VS.s_nP (VS.s_hsize (VS.s_hV (VS.s_hT (VS.s_hO (VS.s_writes (VS.s_cutLeft y11 (cutF y11.cutLeft)) (y11.writes + 1)) (tdT (y11.hAb a) y11.hO y11.hsize)) (tdT (y11.hAb a) y11.hT y11.hsize)) (tdT (y11.hAb a) y11.hV y11.hsize)) (cnt y11.hsize (y11.hAb a))) (tdT (mhC PS a) y11.nP y11.npc)) (cnt y11.npc (mhC PS a))) a)) H := hP
  have hD : va_D A (VW dA h ad (VS.s_nhor (VS.s_npc (VS.s_nP (VS.s_hsize (VS.s_hV (VS.s_hT (VS.s_hO (VS.s_writes (VS.s_cutLeft y11 (cutF y11.cutLeft)) (y11.writes + 1)) (tdT (y11.hAb a) y11.hO y11.hsize)) (tdT (y11.hAb a) y11.hT y11.hsize)) (tdT (y11.hAb a) y11.hV y11.hsize)) (cnt y11.hsize (y11.hAb a))) (tdT (mhC PS a) y11.nP y11.npc)) (cnt y11.npc (mhC PS a))) a)) := hD
  refine lv_aload_n hx hb d_V_retain_88 rfl (lv_at hl 1 rfl) ?_
  refine jfV (rnV (As := []) (rest := []) hx hb hml hown hE hK (hN _ _ hS) hP hD (v_keepManifest l D dA H.size h ad (VS.s_nhor (VS.s_npc (VS.s_nP (VS.s_hsize (VS.s_hV (VS.s_hT (VS.s_hO (VS.s_writes (VS.s_cutLeft y11 (cutF y11.cutLeft)) (y11.writes + 1)) (tdT (y11.hAb a) y11.hO y11.hsize)) (tdT (y11.hAb a) y11.hT y11.hsize)) (tdT (y11.hAb a) y11.hV y11.hsize)) (cnt y11.hsize (y11.hAb a))) (tdT (mhC PS a) y11.nP y11.npc)) (cnt y11.npc (mhC PS a))) a) (tdT (mhC PS a) PS x.npc) (by rw [q_nP, q_npc, q_pl]; exact ps_td _ hps) (by rw [q_npc]; exact Nat.le_trans (cnt_le _ _) hpn) (by rw [q_nsc]; exact h1) (by rw [q_nsc, q_nsO]; exact h7)) (q0 := 0) rfl rfl w749 w748 w750 w751 w277 rfl rfl ⟨⟨by decide, by decide⟩, rfl⟩ ⟨(Nat.le_of_ble_eq_true rfl), (Nat.le_of_ble_eq_true rfl)⟩ rfl hl.1 rfl (Nat.le_of_ble_eq_true rfl) d_V_retain_89 ⟨(Nat.le_of_ble_eq_true rfl), (Nat.le_of_ble_eq_true rfl)⟩) hP hD hS hA (fun u20 H locs hp9 hP hD hS => ?_)
  have hP : va_P D vwCl (VW dA h ad (VS.s_shor (VS.s_ssc (VS.s_ssT (VS.s_ssF (VS.s_ssO (VS.s_spc (VS.s_sP (VS.s_nhor (VS.s_nsc (VS.s_nsP (VS.s_nsT (VS.s_nsF (VS.s_nsO (VS.s_npc (VS.s_nP (VS.s_hsize (VS.s_hV (VS.s_hT (VS.s_hO (VS.s_writes (VS.s_cutLeft y11 (cutF y11.cutLeft)) (y11.writes + 1)) (tdT (y11.hAb a) y11.hO y11.hsize)) (tdT (y11.hAb a) y11.hT y11.hsize)) (tdT (y11.hAb a) y11.hV y11.hsize)) (cnt y11.hsize (y11.hAb a))) (tdT (mhC PS a) y11.nP y11.npc)) (cnt y11.npc (mhC PS a))) (tdT ((VS.s_nhor (VS.s_npc (VS.s_nP (VS.s_hsize (VS.s_hV (VS.s_hT (VS.s_hO (VS.s_writes (VS.s_cutLeft y11 (cutF y11.cutLeft)) (y11.writes + 1)) (tdT (y11.hAb a) y11.hO y11.hsize)) (tdT (y11.hAb a) y11.hT y11.hsize)) (tdT (y11.hAb a) y11.hV y11.hsize)) (cnt y11.hsize (y11.hAb a))) (tdT (mhC PS a) y11.nP y11.npc)) (cnt y11.npc (mhC PS a))) a).esC (tdT (mhC PS a) PS x.npc)) y11.nsO y11.nsc)) (tdT ((VS.s_nhor (VS.s_npc (VS.s_nP (VS.s_hsize (VS.s_hV (VS.s_hT (VS.s_hO (VS.s_writes (VS.s_cutLeft y11 (cutF y11.cutLeft)) (y11.writes + 1)) (tdT (y11.hAb a) y11.hO y11.hsize)) (tdT (y11.hAb a) y11.hT y11.hsize)) (tdT (y11.hAb a) y11.hV y11.hsize)) (cnt y11.hsize (y11.hAb a))) (tdT (mhC PS a) y11.nP y11.npc)) (cnt y11.npc (mhC PS a))) a).esC (tdT (mhC PS a) PS x.npc)) y11.nsF y11.nsc)) (tdT ((VS.s_nhor (VS.s_npc (VS.s_nP (VS.s_hsize (VS.s_hV (VS.s_hT (VS.s_hO (VS.s_writes (VS.s_cutLeft y11 (cutF y11.cutLeft)) (y11.writes + 1)) (tdT (y11.hAb a) y11.hO y11.hsize)) (tdT (y11.hAb a) y11.hT y11.hsize)) (tdT (y11.hAb a) y11.hV y11.hsize)) (cnt y11.hsize (y11.hAb a))) (tdT (mhC PS a) y11.nP y11.npc)) (cnt y11.npc (mhC PS a))) a).esC (tdT (mhC PS a) PS x.npc)) y11.nsT y11.nsc)) ((VS.s_nhor (VS.s_npc (VS.s_nP (VS.s_hsize (VS.s_hV (VS.s_hT (VS.s_hO (VS.s_writes (VS.s_cutLeft y11 (cutF y11.cutLeft)) (y11.writes + 1)) (tdT (y11.hAb a) y11.hO y11.hsize)) (tdT (y11.hAb a) y11.hT y11.hsize)) (tdT (y11.hAb a) y11.hV y11.hsize)) (cnt y11.hsize (y11.hAb a))) (tdT (mhC PS a) y11.nP y11.npc)) (cnt y11.npc (mhC PS a))) a).esG (tdT (mhC PS a) PS x.npc))) (cnt y11.nsc ((VS.s_nhor (VS.s_npc (VS.s_nP (VS.s_hsize (VS.s_hV (VS.s_hT (VS.s_hO (VS.s_writes (VS.s_cutLeft y11 (cutF y11.cutLeft)) (y11.writes + 1)) (tdT (y11.hAb a) y11.hO y11.hsize)) (tdT (y11.hAb a) y11.hT y11.hsize)) (tdT (y11.hAb a) y11.hV y11.hsize)) (cnt y11.hsize (y11.hAb a))) (tdT (mhC PS a) y11.nP y11.npc)) (cnt y11.npc (mhC PS a))) a).esC (tdT (mhC PS a) PS x.npc)))) a) (va_cpy (tdT (mhC PS a) y11.nP y11.npc) y11.sP 0 0 (cnt y11.npc (mhC PS a)))) (cnt y11.npc (mhC PS a))) (va_cpy (tdT ((VS.s_nhor (VS.s_npc (VS.s_nP (VS.s_hsize (VS.s_hV (VS.s_hT (VS.s_hO (VS.s_writes (VS.s_cutLeft y11 (cutF y11.cutLeft)) (y11.writes + 1)) (tdT (y11.hAb a) y11.hO y11.hsize)) (tdT (y11.hAb a) y11.hT y11.hsize)) (tdT (y11.hAb a) y11.hV y11.hsize)) (cnt y11.hsize (y11.hAb a))) (tdT (mhC PS a) y11.nP y11.npc)) (cnt y11.npc (mhC PS a))) a).esC (tdT (mhC PS a) PS x.npc)) y11.nsO y11.nsc) y11.ssO 0 0 (cnt y11.nsc ((VS.s_nhor (VS.s_npc (VS.s_nP (VS.s_hsize (VS.s_hV (VS.s_hT (VS.s_hO (VS.s_writes (VS.s_cutLeft y11 (cutF y11.cutLeft)) (y11.writes + 1)) (tdT (y11.hAb a) y11.hO y11.hsize)) (tdT (y11.hAb a) y11.hT y11.hsize)) (tdT (y11.hAb a) y11.hV y11.hsize)) (cnt y11.hsize (y11.hAb a))) (tdT (mhC PS a) y11.nP y11.npc)) (cnt y11.npc (mhC PS a))) a).esC (tdT (mhC PS a) PS x.npc))))) (va_cpy (tdT ((VS.s_nhor (VS.s_npc (VS.s_nP (VS.s_hsize (VS.s_hV (VS.s_hT (VS.s_hO (VS.s_writes (VS.s_cutLeft y11 (cutF y11.cutLeft)) (y11.writes + 1)) (tdT (y11.hAb a) y11.hO y11.hsize)) (tdT (y11.hAb a) y11.hT y11.hsize)) (tdT (y11.hAb a) y11.hV y11.hsize)) (cnt y11.hsize (y11.hAb a))) (tdT (mhC PS a) y11.nP y11.npc)) (cnt y11.npc (mhC PS a))) a).esC (tdT (mhC PS a) PS x.npc)) y11.nsF y11.nsc) y11.ssF 0 0 (cnt y11.nsc ((VS.s_nhor (VS.s_npc (VS.s_nP (VS.s_hsize (VS.s_hV (VS.s_hT (VS.s_hO (VS.s_writes (VS.s_cutLeft y11 (cutF y11.cutLeft)) (y11.writes + 1)) (tdT (y11.hAb a) y11.hO y11.hsize)) (tdT (y11.hAb a) y11.hT y11.hsize)) (tdT (y11.hAb a) y11.hV y11.hsize)) (cnt y11.hsize (y11.hAb a))) (tdT (mhC PS a) y11.nP y11.npc)) (cnt y11.npc (mhC PS a))) a).esC (tdT (mhC PS a) PS x.npc))))) (va_cpy (tdT ((VS.s_nhor (VS.s_npc (VS.s_nP (VS.s_hsize (VS.s_hV (VS.s_hT (VS.s_hO (VS.s_writes (VS.s_cutLeft y11 (cutF y11.cutLeft)) (y11.writes + 1)) (tdT (y11.hAb a) y11.hO y11.hsize)) (tdT (y11.hAb a) y11.hT y11.hsize)) (tdT (y11.hAb a) y11.hV y11.hsize)) (cnt y11.hsize (y11.hAb a))) (tdT (mhC PS a) y11.nP y11.npc)) (cnt y11.npc (mhC PS a))) a).esC (tdT (mhC PS a) PS x.npc)) y11.nsT y11.nsc) y11.ssT 0 0 (cnt y11.nsc ((VS.s_nhor (VS.s_npc (VS.s_nP (VS.s_hsize (VS.s_hV (VS.s_hT (VS.s_hO (VS.s_writes (VS.s_cutLeft y11 (cutF y11.cutLeft)) (y11.writes + 1)) (tdT (y11.hAb a) y11.hO y11.hsize)) (tdT (y11.hAb a) y11.hT y11.hsize)) (tdT (y11.hAb a) y11.hV y11.hsize)) (cnt y11.hsize (y11.hAb a))) (tdT (mhC PS a) y11.nP y11.npc)) (cnt y11.npc (mhC PS a))) a).esC (tdT (mhC PS a) PS x.npc))))) (cnt y11.nsc ((VS.s_nhor (VS.s_npc (VS.s_nP (VS.s_hsize (VS.s_hV (VS.s_hT (VS.s_hO (VS.s_writes (VS.s_cutLeft y11 (cutF y11.cutLeft)) (y11.writes + 1)) (tdT (y11.hAb a) y11.hO y11.hsize)) (tdT (y11.hAb a) y11.hT y11.hsize)) (tdT (y11.hAb a) y11.hV y11.hsize)) (cnt y11.hsize (y11.hAb a))) (tdT (mhC PS a) y11.nP y11.npc)) (cnt y11.npc (mhC PS a))) a).esC (tdT (mhC PS a) PS x.npc)))) a)) H := hP
  have hD : va_D A (VW dA h ad (VS.s_shor (VS.s_ssc (VS.s_ssT (VS.s_ssF (VS.s_ssO (VS.s_spc (VS.s_sP (VS.s_nhor (VS.s_nsc (VS.s_nsP (VS.s_nsT (VS.s_nsF (VS.s_nsO (VS.s_npc (VS.s_nP (VS.s_hsize (VS.s_hV (VS.s_hT (VS.s_hO (VS.s_writes (VS.s_cutLeft y11 (cutF y11.cutLeft)) (y11.writes + 1)) (tdT (y11.hAb a) y11.hO y11.hsize)) (tdT (y11.hAb a) y11.hT y11.hsize)) (tdT (y11.hAb a) y11.hV y11.hsize)) (cnt y11.hsize (y11.hAb a))) (tdT (mhC PS a) y11.nP y11.npc)) (cnt y11.npc (mhC PS a))) (tdT ((VS.s_nhor (VS.s_npc (VS.s_nP (VS.s_hsize (VS.s_hV (VS.s_hT (VS.s_hO (VS.s_writes (VS.s_cutLeft y11 (cutF y11.cutLeft)) (y11.writes + 1)) (tdT (y11.hAb a) y11.hO y11.hsize)) (tdT (y11.hAb a) y11.hT y11.hsize)) (tdT (y11.hAb a) y11.hV y11.hsize)) (cnt y11.hsize (y11.hAb a))) (tdT (mhC PS a) y11.nP y11.npc)) (cnt y11.npc (mhC PS a))) a).esC (tdT (mhC PS a) PS x.npc)) y11.nsO y11.nsc)) (tdT ((VS.s_nhor (VS.s_npc (VS.s_nP (VS.s_hsize (VS.s_hV (VS.s_hT (VS.s_hO (VS.s_writes (VS.s_cutLeft y11 (cutF y11.cutLeft)) (y11.writes + 1)) (tdT (y11.hAb a) y11.hO y11.hsize)) (tdT (y11.hAb a) y11.hT y11.hsize)) (tdT (y11.hAb a) y11.hV y11.hsize)) (cnt y11.hsize (y11.hAb a))) (tdT (mhC PS a) y11.nP y11.npc)) (cnt y11.npc (mhC PS a))) a).esC (tdT (mhC PS a) PS x.npc)) y11.nsF y11.nsc)) (tdT ((VS.s_nhor (VS.s_npc (VS.s_nP (VS.s_hsize (VS.s_hV (VS.s_hT (VS.s_hO (VS.s_writes (VS.s_cutLeft y11 (cutF y11.cutLeft)) (y11.writes + 1)) (tdT (y11.hAb a) y11.hO y11.hsize)) (tdT (y11.hAb a) y11.hT y11.hsize)) (tdT (y11.hAb a) y11.hV y11.hsize)) (cnt y11.hsize (y11.hAb a))) (tdT (mhC PS a) y11.nP y11.npc)) (cnt y11.npc (mhC PS a))) a).esC (tdT (mhC PS a) PS x.npc)) y11.nsT y11.nsc)) ((VS.s_nhor (VS.s_npc (VS.s_nP (VS.s_hsize (VS.s_hV (VS.s_hT (VS.s_hO (VS.s_writes (VS.s_cutLeft y11 (cutF y11.cutLeft)) (y11.writes + 1)) (tdT (y11.hAb a) y11.hO y11.hsize)) (tdT (y11.hAb a) y11.hT y11.hsize)) (tdT (y11.hAb a) y11.hV y11.hsize)) (cnt y11.hsize (y11.hAb a))) (tdT (mhC PS a) y11.nP y11.npc)) (cnt y11.npc (mhC PS a))) a).esG (tdT (mhC PS a) PS x.npc))) (cnt y11.nsc ((VS.s_nhor (VS.s_npc (VS.s_nP (VS.s_hsize (VS.s_hV (VS.s_hT (VS.s_hO (VS.s_writes (VS.s_cutLeft y11 (cutF y11.cutLeft)) (y11.writes + 1)) (tdT (y11.hAb a) y11.hO y11.hsize)) (tdT (y11.hAb a) y11.hT y11.hsize)) (tdT (y11.hAb a) y11.hV y11.hsize)) (cnt y11.hsize (y11.hAb a))) (tdT (mhC PS a) y11.nP y11.npc)) (cnt y11.npc (mhC PS a))) a).esC (tdT (mhC PS a) PS x.npc)))) a) (va_cpy (tdT (mhC PS a) y11.nP y11.npc) y11.sP 0 0 (cnt y11.npc (mhC PS a)))) (cnt y11.npc (mhC PS a))) (va_cpy (tdT ((VS.s_nhor (VS.s_npc (VS.s_nP (VS.s_hsize (VS.s_hV (VS.s_hT (VS.s_hO (VS.s_writes (VS.s_cutLeft y11 (cutF y11.cutLeft)) (y11.writes + 1)) (tdT (y11.hAb a) y11.hO y11.hsize)) (tdT (y11.hAb a) y11.hT y11.hsize)) (tdT (y11.hAb a) y11.hV y11.hsize)) (cnt y11.hsize (y11.hAb a))) (tdT (mhC PS a) y11.nP y11.npc)) (cnt y11.npc (mhC PS a))) a).esC (tdT (mhC PS a) PS x.npc)) y11.nsO y11.nsc) y11.ssO 0 0 (cnt y11.nsc ((VS.s_nhor (VS.s_npc (VS.s_nP (VS.s_hsize (VS.s_hV (VS.s_hT (VS.s_hO (VS.s_writes (VS.s_cutLeft y11 (cutF y11.cutLeft)) (y11.writes + 1)) (tdT (y11.hAb a) y11.hO y11.hsize)) (tdT (y11.hAb a) y11.hT y11.hsize)) (tdT (y11.hAb a) y11.hV y11.hsize)) (cnt y11.hsize (y11.hAb a))) (tdT (mhC PS a) y11.nP y11.npc)) (cnt y11.npc (mhC PS a))) a).esC (tdT (mhC PS a) PS x.npc))))) (va_cpy (tdT ((VS.s_nhor (VS.s_npc (VS.s_nP (VS.s_hsize (VS.s_hV (VS.s_hT (VS.s_hO (VS.s_writes (VS.s_cutLeft y11 (cutF y11.cutLeft)) (y11.writes + 1)) (tdT (y11.hAb a) y11.hO y11.hsize)) (tdT (y11.hAb a) y11.hT y11.hsize)) (tdT (y11.hAb a) y11.hV y11.hsize)) (cnt y11.hsize (y11.hAb a))) (tdT (mhC PS a) y11.nP y11.npc)) (cnt y11.npc (mhC PS a))) a).esC (tdT (mhC PS a) PS x.npc)) y11.nsF y11.nsc) y11.ssF 0 0 (cnt y11.nsc ((VS.s_nhor (VS.s_npc (VS.s_nP (VS.s_hsize (VS.s_hV (VS.s_hT (VS.s_hO (VS.s_writes (VS.s_cutLeft y11 (cutF y11.cutLeft)) (y11.writes + 1)) (tdT (y11.hAb a) y11.hO y11.hsize)) (tdT (y11.hAb a) y11.hT y11.hsize)) (tdT (y11.hAb a) y11.hV y11.hsize)) (cnt y11.hsize (y11.hAb a))) (tdT (mhC PS a) y11.nP y11.npc)) (cnt y11.npc (mhC PS a))) a).esC (tdT (mhC PS a) PS x.npc))))) (va_cpy (tdT ((VS.s_nhor (VS.s_npc (VS.s_nP (VS.s_hsize (VS.s_hV (VS.s_hT (VS.s_hO (VS.s_writes (VS.s_cutLeft y11 (cutF y11.cutLeft)) (y11.writes + 1)) (tdT (y11.hAb a) y11.hO y11.hsize)) (tdT (y11.hAb a) y11.hT y11.hsize)) (tdT (y11.hAb a) y11.hV y11.hsize)) (cnt y11.hsize (y11.hAb a))) (tdT (mhC PS a) y11.nP y11.npc)) (cnt y11.npc (mhC PS a))) a).esC (tdT (mhC PS a) PS x.npc)) y11.nsT y11.nsc) y11.ssT 0 0 (cnt y11.nsc ((VS.s_nhor (VS.s_npc (VS.s_nP (VS.s_hsize (VS.s_hV (VS.s_hT (VS.s_hO (VS.s_writes (VS.s_cutLeft y11 (cutF y11.cutLeft)) (y11.writes + 1)) (tdT (y11.hAb a) y11.hO y11.hsize)) (tdT (y11.hAb a) y11.hT y11.hsize)) (tdT (y11.hAb a) y11.hV y11.hsize)) (cnt y11.hsize (y11.hAb a))) (tdT (mhC PS a) y11.nP y11.npc)) (cnt y11.npc (mhC PS a))) a).esC (tdT (mhC PS a) PS x.npc))))) (cnt y11.nsc ((VS.s_nhor (VS.s_npc (VS.s_nP (VS.s_hsize (VS.s_hV (VS.s_hT (VS.s_hO (VS.s_writes (VS.s_cutLeft y11 (cutF y11.cutLeft)) (y11.writes + 1)) (tdT (y11.hAb a) y11.hO y11.hsize)) (tdT (y11.hAb a) y11.hT y11.hsize)) (tdT (y11.hAb a) y11.hV y11.hsize)) (cnt y11.hsize (y11.hAb a))) (tdT (mhC PS a) y11.nP y11.npc)) (cnt y11.npc (mhC PS a))) a).esC (tdT (mhC PS a) PS x.npc)))) a)) := hD
  refine lv_iload_n hx hb d_V_retain_92 rfl (lv_at hl 0 rfl) ?_
  exact rfI hx hb hr hlk hS (VS.s_shor (VS.s_ssc (VS.s_ssT (VS.s_ssF (VS.s_ssO (VS.s_spc (VS.s_sP (VS.s_nhor (VS.s_nsc (VS.s_nsP (VS.s_nsT (VS.s_nsF (VS.s_nsO (VS.s_npc (VS.s_nP (VS.s_hsize (VS.s_hV (VS.s_hT (VS.s_hO (VS.s_writes (VS.s_cutLeft y11 (cutF y11.cutLeft)) (y11.writes + 1)) (tdT (y11.hAb a) y11.hO y11.hsize)) (tdT (y11.hAb a) y11.hT y11.hsize)) (tdT (y11.hAb a) y11.hV y11.hsize)) (cnt y11.hsize (y11.hAb a))) (tdT (mhC PS a) y11.nP y11.npc)) (cnt y11.npc (mhC PS a))) (tdT ((VS.s_nhor (VS.s_npc (VS.s_nP (VS.s_hsize (VS.s_hV (VS.s_hT (VS.s_hO (VS.s_writes (VS.s_cutLeft y11 (cutF y11.cutLeft)) (y11.writes + 1)) (tdT (y11.hAb a) y11.hO y11.hsize)) (tdT (y11.hAb a) y11.hT y11.hsize)) (tdT (y11.hAb a) y11.hV y11.hsize)) (cnt y11.hsize (y11.hAb a))) (tdT (mhC PS a) y11.nP y11.npc)) (cnt y11.npc (mhC PS a))) a).esC (tdT (mhC PS a) PS x.npc)) y11.nsO y11.nsc)) (tdT ((VS.s_nhor (VS.s_npc (VS.s_nP (VS.s_hsize (VS.s_hV (VS.s_hT (VS.s_hO (VS.s_writes (VS.s_cutLeft y11 (cutF y11.cutLeft)) (y11.writes + 1)) (tdT (y11.hAb a) y11.hO y11.hsize)) (tdT (y11.hAb a) y11.hT y11.hsize)) (tdT (y11.hAb a) y11.hV y11.hsize)) (cnt y11.hsize (y11.hAb a))) (tdT (mhC PS a) y11.nP y11.npc)) (cnt y11.npc (mhC PS a))) a).esC (tdT (mhC PS a) PS x.npc)) y11.nsF y11.nsc)) (tdT ((VS.s_nhor (VS.s_npc (VS.s_nP (VS.s_hsize (VS.s_hV (VS.s_hT (VS.s_hO (VS.s_writes (VS.s_cutLeft y11 (cutF y11.cutLeft)) (y11.writes + 1)) (tdT (y11.hAb a) y11.hO y11.hsize)) (tdT (y11.hAb a) y11.hT y11.hsize)) (tdT (y11.hAb a) y11.hV y11.hsize)) (cnt y11.hsize (y11.hAb a))) (tdT (mhC PS a) y11.nP y11.npc)) (cnt y11.npc (mhC PS a))) a).esC (tdT (mhC PS a) PS x.npc)) y11.nsT y11.nsc)) ((VS.s_nhor (VS.s_npc (VS.s_nP (VS.s_hsize (VS.s_hV (VS.s_hT (VS.s_hO (VS.s_writes (VS.s_cutLeft y11 (cutF y11.cutLeft)) (y11.writes + 1)) (tdT (y11.hAb a) y11.hO y11.hsize)) (tdT (y11.hAb a) y11.hT y11.hsize)) (tdT (y11.hAb a) y11.hV y11.hsize)) (cnt y11.hsize (y11.hAb a))) (tdT (mhC PS a) y11.nP y11.npc)) (cnt y11.npc (mhC PS a))) a).esG (tdT (mhC PS a) PS x.npc))) (cnt y11.nsc ((VS.s_nhor (VS.s_npc (VS.s_nP (VS.s_hsize (VS.s_hV (VS.s_hT (VS.s_hO (VS.s_writes (VS.s_cutLeft y11 (cutF y11.cutLeft)) (y11.writes + 1)) (tdT (y11.hAb a) y11.hO y11.hsize)) (tdT (y11.hAb a) y11.hT y11.hsize)) (tdT (y11.hAb a) y11.hV y11.hsize)) (cnt y11.hsize (y11.hAb a))) (tdT (mhC PS a) y11.nP y11.npc)) (cnt y11.npc (mhC PS a))) a).esC (tdT (mhC PS a) PS x.npc)))) a) (va_cpy (tdT (mhC PS a) y11.nP y11.npc) y11.sP 0 0 (cnt y11.npc (mhC PS a)))) (cnt y11.npc (mhC PS a))) (va_cpy (tdT ((VS.s_nhor (VS.s_npc (VS.s_nP (VS.s_hsize (VS.s_hV (VS.s_hT (VS.s_hO (VS.s_writes (VS.s_cutLeft y11 (cutF y11.cutLeft)) (y11.writes + 1)) (tdT (y11.hAb a) y11.hO y11.hsize)) (tdT (y11.hAb a) y11.hT y11.hsize)) (tdT (y11.hAb a) y11.hV y11.hsize)) (cnt y11.hsize (y11.hAb a))) (tdT (mhC PS a) y11.nP y11.npc)) (cnt y11.npc (mhC PS a))) a).esC (tdT (mhC PS a) PS x.npc)) y11.nsO y11.nsc) y11.ssO 0 0 (cnt y11.nsc ((VS.s_nhor (VS.s_npc (VS.s_nP (VS.s_hsize (VS.s_hV (VS.s_hT (VS.s_hO (VS.s_writes (VS.s_cutLeft y11 (cutF y11.cutLeft)) (y11.writes + 1)) (tdT (y11.hAb a) y11.hO y11.hsize)) (tdT (y11.hAb a) y11.hT y11.hsize)) (tdT (y11.hAb a) y11.hV y11.hsize)) (cnt y11.hsize (y11.hAb a))) (tdT (mhC PS a) y11.nP y11.npc)) (cnt y11.npc (mhC PS a))) a).esC (tdT (mhC PS a) PS x.npc))))) (va_cpy (tdT ((VS.s_nhor (VS.s_npc (VS.s_nP (VS.s_hsize (VS.s_hV (VS.s_hT (VS.s_hO (VS.s_writes (VS.s_cutLeft y11 (cutF y11.cutLeft)) (y11.writes + 1)) (tdT (y11.hAb a) y11.hO y11.hsize)) (tdT (y11.hAb a) y11.hT y11.hsize)) (tdT (y11.hAb a) y11.hV y11.hsize)) (cnt y11.hsize (y11.hAb a))) (tdT (mhC PS a) y11.nP y11.npc)) (cnt y11.npc (mhC PS a))) a).esC (tdT (mhC PS a) PS x.npc)) y11.nsF y11.nsc) y11.ssF 0 0 (cnt y11.nsc ((VS.s_nhor (VS.s_npc (VS.s_nP (VS.s_hsize (VS.s_hV (VS.s_hT (VS.s_hO (VS.s_writes (VS.s_cutLeft y11 (cutF y11.cutLeft)) (y11.writes + 1)) (tdT (y11.hAb a) y11.hO y11.hsize)) (tdT (y11.hAb a) y11.hT y11.hsize)) (tdT (y11.hAb a) y11.hV y11.hsize)) (cnt y11.hsize (y11.hAb a))) (tdT (mhC PS a) y11.nP y11.npc)) (cnt y11.npc (mhC PS a))) a).esC (tdT (mhC PS a) PS x.npc))))) (va_cpy (tdT ((VS.s_nhor (VS.s_npc (VS.s_nP (VS.s_hsize (VS.s_hV (VS.s_hT (VS.s_hO (VS.s_writes (VS.s_cutLeft y11 (cutF y11.cutLeft)) (y11.writes + 1)) (tdT (y11.hAb a) y11.hO y11.hsize)) (tdT (y11.hAb a) y11.hT y11.hsize)) (tdT (y11.hAb a) y11.hV y11.hsize)) (cnt y11.hsize (y11.hAb a))) (tdT (mhC PS a) y11.nP y11.npc)) (cnt y11.npc (mhC PS a))) a).esC (tdT (mhC PS a) PS x.npc)) y11.nsT y11.nsc) y11.ssT 0 0 (cnt y11.nsc ((VS.s_nhor (VS.s_npc (VS.s_nP (VS.s_hsize (VS.s_hV (VS.s_hT (VS.s_hO (VS.s_writes (VS.s_cutLeft y11 (cutF y11.cutLeft)) (y11.writes + 1)) (tdT (y11.hAb a) y11.hO y11.hsize)) (tdT (y11.hAb a) y11.hT y11.hsize)) (tdT (y11.hAb a) y11.hV y11.hsize)) (cnt y11.hsize (y11.hAb a))) (tdT (mhC PS a) y11.nP y11.npc)) (cnt y11.npc (mhC PS a))) a).esC (tdT (mhC PS a) PS x.npc))))) (cnt y11.nsc ((VS.s_nhor (VS.s_npc (VS.s_nP (VS.s_hsize (VS.s_hV (VS.s_hT (VS.s_hO (VS.s_writes (VS.s_cutLeft y11 (cutF y11.cutLeft)) (y11.writes + 1)) (tdT (y11.hAb a) y11.hO y11.hsize)) (tdT (y11.hAb a) y11.hT y11.hsize)) (tdT (y11.hAb a) y11.hV y11.hsize)) (cnt y11.hsize (y11.hAb a))) (tdT (mhC PS a) y11.nP y11.npc)) (cnt y11.npc (mhC PS a))) a).esC (tdT (mhC PS a) PS x.npc)))) a) ⟨rfl, by rw [← hwj]; rfl⟩ hP hD (Nat.le_of_ble_eq_true rfl) (Nat.le_of_ble_eq_true rfl) d_V_retain_93
