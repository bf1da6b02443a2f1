/-! A point met. -/
def isFn (z : Int32) : Prop := z = 0 ∨ z = 1 ∨ z = 2 ∨ z = 3 ∨ z = 4 ∨ z = 5 ∨ z = 6
def ccB (fn : Int32) (t : TB) (x : VS) (r w o : Nat) (tm : Int64) : Bool := chsB fn (hasB (t.th r) w) tm (x.bT (r * x.awi + w)) o (x.bO (r * x.awi + w))
def mtT (fn : Int32) (t : TB) (x : VS) (r w o : Nat) (tm v : Int64) : TB := if fn = 6 then gwT t (x.ahb o) (x.abf o) v r w else if fn = 4 ∨ fn = 5 then (if ccB fn t x r w o tm = true then t.pt r w v else t) else t.pt r w (gaV fn (hasB (t.th r) w) (t.ce (r * t.wi + w)) v)
def mbX (x : VS) (o : Nat) (v : Int64) : VS := VS.s_abf (VS.s_ahb x (va_up x.ahb o true)) (va_up x.abf o v)
def meX (fn : Int32) (t : TB) (x : VS) (r w o : Nat) (tm v : Int64) : VS := mbX (if fn = 4 ∨ fn = 5 then (if ccB fn t x r w o tm = true then chX x (r * x.awi + w) o tm else x) else x) o v
section ME
variable {fn : Int32} {t : TB} {x : VS} {r w o : Nat} {tm v : Int64}
theorem mtT_6 (h : fn = 6) : mtT fn t x r w o tm v = gwT t (x.ahb o) (x.abf o) v r w := by unfold mtT; rw [if_pos h]
theorem mtT_4 (h : ¬ fn = 6) (h1 : fn = 4 ∨ fn = 5) : mtT fn t x r w o tm v = (if ccB fn t x r w o tm = true then t.pt r w v else t) := by unfold mtT; rw [if_neg h, if_pos h1]
theorem mtT_0 (h : ¬ fn = 6) (h1 : ¬ (fn = 4 ∨ fn = 5)) : mtT fn t x r w o tm v = t.pt r w (gaV fn (hasB (t.th r) w) (t.ce (r * t.wi + w)) v) := by unfold mtT; rw [if_neg h, if_neg h1]
theorem meX_4 (h1 : fn = 4 ∨ fn = 5) : meX fn t x r w o tm v = mbX (if ccB fn t x r w o tm = true then chX x (r * x.awi + w) o tm else x) o v := by unfold meX; rw [if_pos h1]
theorem meX_0 (h1 : ¬ (fn = 4 ∨ fn = 5)) : meX fn t x r w o tm v = mbX x o v := by unfold meX; rw [if_neg h1]
end ME
theorem d_A_meet_0 : decode prog_2_method_9_code 0 = .ok (.aload_n 0, 1) := by decide +kernel
theorem d_A_meet_1 : decode prog_2_method_9_code 1 = .ok (.lload 4, 2) := by decide +kernel
theorem d_A_meet_3 : decode prog_2_method_9_code 3 = .ok (.invokevirtual 196, 3) := by decide +kernel
theorem d_A_meet_6 : decode prog_2_method_9_code 6 = .ok (.istore 8, 2) := by decide +kernel
theorem d_A_meet_8 : decode prog_2_method_9_code 8 = .ok (.aload_n 0, 1) := by decide +kernel
theorem d_A_meet_9 : decode prog_2_method_9_code 9 = .ok (.getfield 18, 3) := by decide +kernel
theorem d_A_meet_12 : decode prog_2_method_9_code 12 = .ok (.iload_n 3, 1) := by decide +kernel
theorem d_A_meet_13 : decode prog_2_method_9_code 13 = .ok (.iaload, 1) := by decide +kernel
theorem d_A_meet_14 : decode prog_2_method_9_code 14 = .ok (.istore 9, 2) := by decide +kernel
theorem d_A_meet_16 : decode prog_2_method_9_code 16 = .ok (.iload 8, 2) := by decide +kernel
theorem d_A_meet_18 : decode prog_2_method_9_code 18 = .ok (.iconst (-1), 1) := by decide +kernel
theorem d_A_meet_19 : decode prog_2_method_9_code 19 = .ok (.if_icmp .eq 24, 3) := by decide +kernel
theorem d_A_meet_22 : decode prog_2_method_9_code 22 = .ok (.iload_n 1, 1) := by decide +kernel
theorem d_A_meet_23 : decode prog_2_method_9_code 23 = .ok (.bipush 6, 2) := by decide +kernel
theorem d_A_meet_25 : decode prog_2_method_9_code 25 = .ok (.if_icmp .ne 18, 3) := by decide +kernel
theorem d_A_meet_43 : decode prog_2_method_9_code 43 = .ok (.iload 8, 2) := by decide +kernel
theorem d_A_meet_45 : decode prog_2_method_9_code 45 = .ok (.iconst (-1), 1) := by decide +kernel
theorem d_A_meet_46 : decode prog_2_method_9_code 46 = .ok (.if_icmp .eq 31, 3) := by decide +kernel
theorem d_A_meet_49 : decode prog_2_method_9_code 49 = .ok (.iload_n 1, 1) := by decide +kernel
theorem d_A_meet_50 : decode prog_2_method_9_code 50 = .ok (.iconst 4, 1) := by decide +kernel
theorem d_A_meet_51 : decode prog_2_method_9_code 51 = .ok (.if_icmp .eq 8, 3) := by decide +kernel
theorem d_A_meet_54 : decode prog_2_method_9_code 54 = .ok (.iload_n 1, 1) := by decide +kernel
theorem d_A_meet_55 : decode prog_2_method_9_code 55 = .ok (.iconst 5, 1) := by decide +kernel
theorem d_A_meet_56 : decode prog_2_method_9_code 56 = .ok (.if_icmp .ne 21, 3) := by decide +kernel
theorem d_A_meet_77 : decode prog_2_method_9_code 77 = .ok (.iload 8, 2) := by decide +kernel
theorem d_A_meet_79 : decode prog_2_method_9_code 79 = .ok (.iconst (-1), 1) := by decide +kernel
theorem d_A_meet_80 : decode prog_2_method_9_code 80 = .ok (.if_icmp .eq 22, 3) := by decide +kernel
theorem d_A_meet_83 : decode prog_2_method_9_code 83 = .ok (.aload_n 2, 1) := by decide +kernel
theorem d_A_meet_84 : decode prog_2_method_9_code 84 = .ok (.iload 9, 2) := by decide +kernel
theorem d_A_meet_86 : decode prog_2_method_9_code 86 = .ok (.iload 8, 2) := by decide +kernel
theorem d_A_meet_88 : decode prog_2_method_9_code 88 = .ok (.iload_n 1, 1) := by decide +kernel
theorem d_A_meet_89 : decode prog_2_method_9_code 89 = .ok (.aload_n 2, 1) := by decide +kernel
theorem d_A_meet_90 : decode prog_2_method_9_code 90 = .ok (.iload 9, 2) := by decide +kernel
theorem d_A_meet_92 : decode prog_2_method_9_code 92 = .ok (.iload 8, 2) := by decide +kernel
theorem d_A_meet_94 : decode prog_2_method_9_code 94 = .ok (.lload 6, 2) := by decide +kernel
theorem d_A_meet_96 : decode prog_2_method_9_code 96 = .ok (.invokestatic 208, 3) := by decide +kernel
theorem d_A_meet_99 : decode prog_2_method_9_code 99 = .ok (.invokevirtual 212, 3) := by decide +kernel
theorem d_A_meet_102 : decode prog_2_method_9_code 102 = .ok (.aload_n 0, 1) := by decide +kernel
theorem d_A_meet_103 : decode prog_2_method_9_code 103 = .ok (.getfield 22, 3) := by decide +kernel
theorem d_A_meet_106 : decode prog_2_method_9_code 106 = .ok (.iload_n 3, 1) := by decide +kernel
theorem d_A_meet_107 : decode prog_2_method_9_code 107 = .ok (.iconst 1, 1) := by decide +kernel
theorem d_A_meet_108 : decode prog_2_method_9_code 108 = .ok (.bastore, 1) := by decide +kernel
theorem d_A_meet_109 : decode prog_2_method_9_code 109 = .ok (.aload_n 0, 1) := by decide +kernel
theorem d_A_meet_110 : decode prog_2_method_9_code 110 = .ok (.getfield 26, 3) := by decide +kernel
theorem d_A_meet_113 : decode prog_2_method_9_code 113 = .ok (.iload_n 3, 1) := by decide +kernel
theorem d_A_meet_114 : decode prog_2_method_9_code 114 = .ok (.lload 6, 2) := by decide +kernel
theorem d_A_meet_116 : decode prog_2_method_9_code 116 = .ok (.lastore, 1) := by decide +kernel
theorem d_A_meet_117 : decode prog_2_method_9_code 117 = .ok (.return_, 1) := by decide +kernel
theorem w1512 : Cond.methodLink "SeriesVault$Answers" 196 ⟨"SeriesVault$Answers", "windowOf", "(J)I"⟩ ∈ aW := aw_of (tb_8 (List.mem_of_getElem? (i := 2) rfl)) rfl
theorem w1513 : Cond.code ⟨"SeriesVault$Answers", "windowOf", "(J)I"⟩ prog_2_method_10_code 5 (some FieldType.int) ∈ aW := aw_of (tb_8 (List.mem_of_getElem? (i := 5) rfl)) rfl
theorem w1514 : Cond.instanceMethod ⟨"SeriesVault$Answers", "windowOf", "(J)I"⟩ ∈ aW := aw_of (tb_8 (List.mem_of_getElem? (i := 4) rfl)) rfl
theorem w1515 : Cond.selects "SeriesVault$Answers" ⟨"SeriesVault$Answers", "windowOf", "(J)I"⟩ ⟨"SeriesVault$Answers", "windowOf", "(J)I"⟩ ∈ aW := aw_pr (List.mem_map.mpr ⟨_, pv_4 (List.mem_of_getElem? (i := 10) rfl), rfl⟩) rfl
theorem w1516 : Cond.methodLink "SeriesVault$Answers" 208 ⟨"SeriesVault$Answers", "gathered", "(ILSeriesVault$Table;IIJ)J"⟩ ∈ aW := aw_of (tb_8 (List.mem_of_getElem? (i := 23) rfl)) rfl
theorem w1517 : Cond.code ⟨"SeriesVault$Answers", "gathered", "(ILSeriesVault$Table;IIJ)J"⟩ prog_2_method_13_code 8 (some FieldType.long) ∈ aW := aw_of (tb_8 (List.mem_of_getElem? (i := 25) rfl)) rfl
theorem w1518 : Cond.static ⟨"SeriesVault$Answers", "gathered", "(ILSeriesVault$Table;IIJ)J"⟩ ∈ aW := aw_of (tb_8 (List.mem_of_getElem? (i := 24) rfl)) rfl
set_option maxHeartbeats 4000000 in
set_option maxRecDepth 100000 in
theorem v_meet_0 (l : Launch) (D : va_G) (dA : Nat → ClassId) (sz : Nat) (h : Nat) (ad : Nat → Nat) (ta : Nat → Nat) (t : TB) (x : VS) (o : Nat) (tm : Int64) (v : Int64) (r : Nat) (w : Nat) (hwi : x.awi ≤ 64) (hw : woA x.afr x.awd x.awi tm = nI w) (hw2 : w < x.awi) (hro : x.aro o = nI r) (hcN : t.cN ≤ 65536) (h1 : r * t.wi + w < t.cN) (h2 : r < 256) (h3 : o < 256) (h4 : r * x.awi + w < x.bN) (h5 : x.bN ≤ 65536) (h6 : x.bO (r * x.awi + w) < 256) : Met l ⟨"SeriesVault$Answers", "meet", "(ILSeriesVault$Table;IJJ)V"⟩ [Cond.code ⟨"SeriesVault$Answers", "meet", "(ILSeriesVault$Table;IJJ)V"⟩ prog_2_method_9_code 10 none] { frames := 4, cells := 0, slots := 0, locals := 300 } (pC D dA [.ref (ad 24), .int 0, .ref (ta 0), .int (nI o), .long tm, .long v] (TbW dA ta t ++ (VW dA h ad x)) sz) (va_Qv (fun (u9 : TB × VS) => u9.1 = mtT 0 t x r w o tm v ∧ u9.2 = meX 0 t x r w o tm v) (fun (u9 : TB × VS) t9 => bW D (va_A (TbW dA ta t ++ (VW dA h ad x)) sz) (TbW dA ta u9.1 ++ (VW dA h ad u9.2)) t9) (va_A (TbW dA ta t ++ (VW dA h ad x)) sz)) 0 0 (va_A (TbW dA ta t ++ (VW dA h ad x)) sz) := by
  refine mkC (y := ⟨"SeriesVault$Answers", "meet", "(ILSeriesVault$Table;IJJ)V"⟩) (cc := prog_2_method_9_code) (maxL := 10) (av := [.ref (ad 24), .int 0, .ref (ta 0), .int (nI o), .long tm, .long v]) (ws := TbW dA ta t ++ (VW dA h ad x)) (sz := sz) (Qc := fun A => va_Qv (fun (u9 : TB × VS) => u9.1 = mtT 0 t x r w o tm v ∧ u9.2 = meX 0 t x r w o tm v) (fun (u9 : TB × VS) t9 => bW D A (TbW dA ta u9.1 ++ (VW dA h ad u9.2)) t9) A) (by decide) (Nat.le_of_ble_eq_true rfl) ?_
  intro A p e s m below meth c ls hsz hB
  obtain ⟨hx, hb, hr, hml, hown, hin, hlk, hE, hK, hP, hD, hS, hA, hN, hl⟩ := hB
  have hown : s.vm.findClass "SeriesVault$Answers" = some m.cls := hown
  have hl : lv_has ls 10 [(0, .ref (ad 24)), (1, .int 0), (2, .ref (ta 0)), (3, .int (nI o)), (4, .long tm), (6, .long v)] := hl
  obtain ⟨H, hH⟩ : ∃ z, z = s.heap := ⟨_, rfl⟩
  have hP : va_P D vwCl (TbW dA ta t ++ (VW dA h ad x)) H := by rw [hH]; exact hP
  have hS : va_S A s.heap H [] := by rw [hH]; exact hS
  rw [← hH]
  refine lv_aload_n hx hb d_A_meet_0 rfl (lv_at hl 0 rfl) ?_
  refine lv_lload hx hb d_A_meet_1 (lv_at hl 4 rfl) ?_
  have hPc : va_P D vwCl (VW dA h ad x) H := spP (wr := TbW dA ta t) hP
  have hDc : va_D A (VW dA h ad x) := spD (wr := TbW dA ta t) hD
  refine jkI (wr := TbW dA ta t) (rnV (As := [.long tm]) (rest := []) hx hb hml hown hE hK (hN _ _ hS) hPc hDc (v_windowOf l D dA H.size h ad x tm (show x.awi ≤ 64 from by omega)) (q0 := 37) rfl rfl w1513 w1512 w1514 w1515 w846 rfl rfl ⟨⟨by decide, by decide⟩, rfl⟩ ⟨(Nat.le_of_ble_eq_true rfl), (Nat.le_of_ble_eq_true rfl)⟩ rfl hl.1 rfl (Nat.le_of_ble_eq_true rfl) d_A_meet_3 ⟨(Nat.le_of_ble_eq_true rfl), (Nat.le_of_ble_eq_true rfl)⟩) hP hD hS hA (fun r1 u2 H locs hp9 hP hD hS => ?_)
  have hP : va_P D vwCl (TbW dA ta t ++ (VW dA h ad x)) H := hP
  have hD : va_D A (TbW dA ta t ++ (VW dA h ad x)) := hD
  replace hp9 : woA x.afr x.awd x.awi tm = r1 := Eq.symm hp9
  subst hp9
  refine tpi (y := nI w) hw ?_
  refine lv_istore hx hb d_A_meet_6 hl (by decide) rfl (fun ls hl => ?_)
  have hl : lv_has ls 10 [(8, .int (nI w)), (0, .ref (ad 24)), (1, .int 0), (2, .ref (ta 0)), (3, .int (nI o)), (4, .long tm), (6, .long v)] := hl
  refine lv_aload_n hx hb d_A_meet_8 rfl (lv_at hl 1 rfl) ?_
  refine gF (v := .ref (ad 26)) hx hb hown hE hK hP 42 rfl rfl layA 2 (by decide) w800 rfl d_A_meet_9 ?_
  refine lv_iload_n hx hb d_A_meet_12 rfl (lv_at hl 4 rfl) ?_
  refine nild (f := x.aro) (n := 256) hx hb hK hP (43) 1 rfl rfl (o) (by omega) (by decide) d_A_meet_13 ?_
  refine tpi (y := (nI r)) hro ?_
  refine lv_istore hx hb d_A_meet_14 hl (by decide) rfl (fun ls hl => ?_)
  have hl : lv_has ls 10 [(9, .int (nI r)), (8, .int (nI w)), (0, .ref (ad 24)), (1, .int 0), (2, .ref (ta 0)), (3, .int (nI o)), (4, .long tm), (6, .long v)] := hl
  refine lv_iload hx hb d_A_meet_16 (lv_at hl 1 rfl) ?_
  refine lv_iconst (v := (-1)) hx hb d_A_meet_18 (by decide) ?_
  refine lv_icmp_eq hx hb d_A_meet_19 (tgt := 43) rfl (fun h9 => absurd h9 (nI_nm (by omega))) (fun _ => ?_)
  refine lv_iload_n hx hb d_A_meet_22 rfl (lv_at hl 3 rfl) ?_
  refine lv_bipush (v := 6) hx hb d_A_meet_23 (by decide) ?_
  refine lv_icmp_ne hx hb d_A_meet_25 (tgt := 43) rfl (fun _ => ?_) (fun h9 => absurd h9 (by decide))
  refine lv_iload hx hb d_A_meet_43 (lv_at hl 1 rfl) ?_
  refine lv_iconst (v := (-1)) hx hb d_A_meet_45 (by decide) ?_
  refine lv_icmp_eq hx hb d_A_meet_46 (tgt := 77) rfl (fun h9 => absurd h9 (nI_nm (by omega))) (fun _ => ?_)
  refine lv_iload_n hx hb d_A_meet_49 rfl (lv_at hl 3 rfl) ?_
  refine lv_iconst (v := 4) hx hb d_A_meet_50 (by decide) ?_
  refine lv_icmp_eq hx hb d_A_meet_51 (tgt := 59) rfl (fun h9 => absurd h9 (by decide)) (fun _ => ?_)
  refine lv_iload_n hx hb d_A_meet_54 rfl (lv_at hl 3 rfl) ?_
  refine lv_iconst (v := 5) hx hb d_A_meet_55 (by decide) ?_
  refine lv_icmp_ne hx hb d_A_meet_56 (tgt := 77) rfl (fun _ => ?_) (fun h9 => absurd h9 (by decide))
  refine lv_iload hx hb d_A_meet_77 (lv_at hl 1 rfl) ?_
  refine lv_iconst (v := (-1)) hx hb d_A_meet_79 (by decide) ?_
  refine lv_icmp_eq hx hb d_A_meet_80 (tgt := 102) rfl (fun h9 => absurd h9 (nI_nm (by omega))) (fun _ => ?_)
  refine lv_aload_n hx hb d_A_meet_83 rfl (lv_at hl 4 rfl) ?_
  refine lv_iload hx hb d_A_meet_84 (lv_at hl 0 rfl) ?_
  refine lv_iload hx hb d_A_meet_86 (lv_at hl 1 rfl) ?_
  refine lv_iload_n hx hb d_A_meet_88 rfl (lv_at hl 3 rfl) ?_
  refine lv_aload_n hx hb d_A_meet_89 rfl (lv_at hl 4 rfl) ?_
  refine lv_iload hx hb d_A_meet_90 (lv_at hl 0 rfl) ?_
  refine lv_iload hx hb d_A_meet_92 (lv_at hl 1 rfl) ?_
  refine lv_lload hx hb d_A_meet_94 (lv_at hl 7 rfl) ?_
  refine jkL (wr := []) (rnS (As := [.int 0, .ref (ta 0), .int (nI r), .int (nI w), .long v]) (rest := [.int (nI w), .int (nI r), .ref (ta 0)]) hx hb hml hown hE hK (hN _ _ hS) hP hD (v_gathered_0 l D dA H.size (VW dA h ad x) ta t r w v (show t.cN ≤ 65536 from by omega) (show r * t.wi + w < t.cN from by omega) (show r < 256 from by omega)) w1517 w1516 w1518 w846 rfl rfl ⟨⟨by decide, by decide⟩, rfl⟩ ⟨(Nat.le_of_ble_eq_true rfl), (Nat.le_of_ble_eq_true rfl)⟩ rfl hl.1 rfl (Nat.le_of_ble_eq_true rfl) d_A_meet_96 ⟨(Nat.le_of_ble_eq_true rfl), (Nat.le_of_ble_eq_true rfl)⟩) hP hD hS hA (fun r3 u4 H locs hp9 hP hD hS => ?_)
  have hP : va_P D vwCl (TbW dA ta t ++ (VW dA h ad x)) H := hP
  have hD : va_D A (TbW dA ta t ++ (VW dA h ad x)) := hD
  replace hp9 : gaV 0 (hasB (t.th r) w) (t.ce (r * t.wi + w)) v = r3 := Eq.symm hp9
  subst hp9
  refine jkV (wr := []) (rnV (As := [.int (nI r), .int (nI w), .long (gaV 0 (hasB (t.th r) w) (t.ce (r * t.wi + w)) v)]) (rest := []) hx hb hml hown hE hK (hN _ _ hS) hP hD (v_Tput l D dA H.size (VW dA h ad x) ta t r w (gaV 0 (hasB (t.th r) w) (t.ce (r * t.wi + w)) v) hcN (show r * t.wi + w < t.cN from by omega) (show r < 256 from by omega)) (q0 := 0) rfl rfl w1433 w1511 w1434 w1435 w807 rfl rfl ⟨⟨by decide, by decide⟩, rfl⟩ ⟨(Nat.le_of_ble_eq_true rfl), (Nat.le_of_ble_eq_true rfl)⟩ rfl hl.1 rfl (Nat.le_of_ble_eq_true rfl) d_A_meet_99 ⟨(Nat.le_of_ble_eq_true rfl), (Nat.le_of_ble_eq_true rfl)⟩) hP hD hS hA (fun u6 H locs hp9 hP hD hS => ?_)
  have hP : va_P D vwCl (TbW dA ta (TB.s_ce (TB.s_th t (va_up t.th r (t.th r ||| bitL w))) (va_up t.ce (r * t.wi + w) (gaV 0 (hasB (t.th r) w) (t.ce (r * t.wi + w)) v))) ++ (VW dA h ad x)) H := hP
  have hD : va_D A (TbW dA ta (TB.s_ce (TB.s_th t (va_up t.th r (t.th r ||| bitL w))) (va_up t.ce (r * t.wi + w) (gaV 0 (hasB (t.th r) w) (t.ce (r * t.wi + w)) v))) ++ (VW dA h ad x)) := hD
  refine lv_aload_n hx hb d_A_meet_102 rfl (lv_at hl 2 rfl) ?_
  refine gF (v := .ref (ad 27)) hx hb hown hE hK hP 42 rfl rfl layA 3 (by decide) w801 rfl d_A_meet_103 ?_
  refine lv_iload_n hx hb d_A_meet_106 rfl (lv_at hl 5 rfl) ?_
  refine lv_iconst (v := 1) hx hb d_A_meet_107 (by decide) ?_
  refine nzstB (v := true) (n := 256) hx hb hK hP hD hS (44) 3 rfl rfl (o) (by omega) (by decide) d_A_meet_108 (fun H locs hP hD hS => ?_)
  have hP : va_P D vwCl (TbW dA ta (TB.s_ce (TB.s_th t (va_up t.th r (t.th r ||| bitL w))) (va_up t.ce (r * t.wi + w) (gaV 0 (hasB (t.th r) w) (t.ce (r * t.wi + w)) v))) ++ (VW dA h ad (VS.s_ahb x (va_up x.ahb o true)))) H := hP
  have hD : va_D A (TbW dA ta (TB.s_ce (TB.s_th t (va_up t.th r (t.th r ||| bitL w))) (va_up t.ce (r * t.wi + w) (gaV 0 (hasB (t.th r) w) (t.ce (r * t.wi + w)) v))) ++ (VW dA h ad (VS.s_ahb x (va_up x.ahb o true)))) := hD
  refine lv_aload_n hx hb d_A_meet_109 rfl (lv_at hl 2 rfl) ?_
  refine gF (v := .ref (ad 28)) hx hb hown hE hK hP 42 rfl rfl layA 4 (by decide) w802 rfl d_A_meet_110 ?_
  refine lv_iload_n hx hb d_A_meet_113 rfl (lv_at hl 5 rfl) ?_
  refine lv_lload hx hb d_A_meet_114 (lv_at hl 7 rfl) ?_
  refine nlst (n := 256) hx hb hK hP hD hS (45) 2 rfl rfl (o) (by omega) (by decide) d_A_meet_116 (fun H locs hP hD hS => ?_)
  have hP : va_P D vwCl (TbW dA ta (TB.s_ce (TB.s_th t (va_up t.th r (t.th r ||| bitL w))) (va_up t.ce (r * t.wi + w) (gaV 0 (hasB (t.th r) w) (t.ce (r * t.wi + w)) v))) ++ (VW dA h ad (VS.s_abf (VS.s_ahb x (va_up x.ahb o true)) (va_up x.abf o v)))) H := hP
  have hD : va_D A (TbW dA ta (TB.s_ce (TB.s_th t (va_up t.th r (t.th r ||| bitL w))) (va_up t.ce (r * t.wi + w) (gaV 0 (hasB (t.th r) w) (t.ce (r * t.wi + w)) v))) ++ (VW dA h ad (VS.s_abf (VS.s_ahb x (va_up x.ahb o true)) (va_up x.abf o v)))) := hD
  exact rfV hx hb hr hlk hS (⟨TB.s_ce (TB.s_th t (va_up t.th r (t.th r ||| bitL w))) (va_up t.ce (r * t.wi + w) (gaV 0 (hasB (t.th r) w) (t.ce (r * t.wi + w)) v)), VS.s_abf (VS.s_ahb x (va_up x.ahb o true)) (va_up x.abf o v)⟩) ⟨(mtT_0 (by decide) (by decide)).symm, (meX_0 (by decide)).symm⟩ hP hD (Nat.le_of_ble_eq_true rfl) (Nat.le_of_ble_eq_true rfl) d_A_meet_117
set_option maxHeartbeats 4000000 in
set_option maxRecDepth 100000 in
theorem v_meet_1 (l : Launch) (D : va_G) (dA : Nat → ClassId) (sz : Nat) (h : Nat) (ad : Nat → Nat) (ta : Nat → Nat) (t : TB) (x : VS) (o : Nat) (tm : Int64) (v : Int64) (r : Nat) (w : Nat) (hwi : x.awi ≤ 64) (hw : woA x.afr x.awd x.awi tm = nI w) (hw2 : w < x.awi) (hro : x.aro o = nI r) (hcN : t.cN ≤ 65536) (h1 : r * t.wi + w < t.cN) (h2 : r < 256) (h3 : o < 256) (h4 : r * x.awi + w < x.bN) (h5 : x.bN ≤ 65536) (h6 : x.bO (r * x.awi + w) < 256) : Met l ⟨"SeriesVault$Answers", "meet", "(ILSeriesVault$Table;IJJ)V"⟩ [Cond.code ⟨"SeriesVault$Answers", "meet", "(ILSeriesVault$Table;IJJ)V"⟩ prog_2_method_9_code 10 none] { frames := 4, cells := 0, slots := 0, locals := 300 } (pC D dA [.ref (ad 24), .int 1, .ref (ta 0), .int (nI o), .long tm, .long v] (TbW dA ta t ++ (VW dA h ad x)) sz) (va_Qv (fun (u9 : TB × VS) => u9.1 = mtT 1 t x r w o tm v ∧ u9.2 = meX 1 t x r w o tm v) (fun (u9 : TB × VS) t9 => bW D (va_A (TbW dA ta t ++ (VW dA h ad x)) sz) (TbW dA ta u9.1 ++ (VW dA h ad u9.2)) t9) (va_A (TbW dA ta t ++ (VW dA h ad x)) sz)) 0 0 (va_A (TbW dA ta t ++ (VW dA h ad x)) sz) := by
  refine mkC (y := ⟨"SeriesVault$Answers", "meet", "(ILSeriesVault$Table;IJJ)V"⟩) (cc := prog_2_method_9_code) (maxL := 10) (av := [.ref (ad 24), .int 1, .ref (ta 0), .int (nI o), .long tm, .long v]) (ws := TbW dA ta t ++ (VW dA h ad x)) (sz := sz) (Qc := fun A => va_Qv (fun (u9 : TB × VS) => u9.1 = mtT 1 t x r w o tm v ∧ u9.2 = meX 1 t x r w o tm v) (fun (u9 : TB × VS) t9 => bW D A (TbW dA ta u9.1 ++ (VW dA h ad u9.2)) t9) A) (by decide) (Nat.le_of_ble_eq_true rfl) ?_
  intro A p e s m below meth c ls hsz hB
  obtain ⟨hx, hb, hr, hml, hown, hin, hlk, hE, hK, hP, hD, hS, hA, hN, hl⟩ := hB
  have hown : s.vm.findClass "SeriesVault$Answers" = some m.cls := hown
  have hl : lv_has ls 10 [(0, .ref (ad 24)), (1, .int 1), (2, .ref (ta 0)), (3, .int (nI o)), (4, .long tm), (6, .long v)] := hl
  obtain ⟨H, hH⟩ : ∃ z, z = s.heap := ⟨_, rfl⟩
  have hP : va_P D vwCl (TbW dA ta t ++ (VW dA h ad x)) H := by rw [hH]; exact hP
  have hS : va_S A s.heap H [] := by rw [hH]; exact hS
  rw [← hH]
  refine lv_aload_n hx hb d_A_meet_0 rfl (lv_at hl 0 rfl) ?_
  refine lv_lload hx hb d_A_meet_1 (lv_at hl 4 rfl) ?_
  have hPc : va_P D vwCl (VW dA h ad x) H := spP (wr := TbW dA ta t) hP
  have hDc : va_D A (VW dA h ad x) := spD (wr := TbW dA ta t) hD
  refine jkI (wr := TbW dA ta t) (rnV (As := [.long tm]) (rest := []) hx hb hml hown hE hK (hN _ _ hS) hPc hDc (v_windowOf l D dA H.size h ad x tm (show x.awi ≤ 64 from by omega)) (q0 := 37) rfl rfl w1513 w1512 w1514 w1515 w846 rfl rfl ⟨⟨by decide, by decide⟩, rfl⟩ ⟨(Nat.le_of_ble_eq_true rfl), (Nat.le_of_ble_eq_true rfl)⟩ rfl hl.1 rfl (Nat.le_of_ble_eq_true rfl) d_A_meet_3 ⟨(Nat.le_of_ble_eq_true rfl), (Nat.le_of_ble_eq_true rfl)⟩) hP hD hS hA (fun r1 u2 H locs hp9 hP hD hS => ?_)
  have hP : va_P D vwCl (TbW dA ta t ++ (VW dA h ad x)) H := hP
  have hD : va_D A (TbW dA ta t ++ (VW dA h ad x)) := hD
  replace hp9 : woA x.afr x.awd x.awi tm = r1 := Eq.symm hp9
  subst hp9
  refine tpi (y := nI w) hw ?_
  refine lv_istore hx hb d_A_meet_6 hl (by decide) rfl (fun ls hl => ?_)
  have hl : lv_has ls 10 [(8, .int (nI w)), (0, .ref (ad 24)), (1, .int 1), (2, .ref (ta 0)), (3, .int (nI o)), (4, .long tm), (6, .long v)] := hl
  refine lv_aload_n hx hb d_A_meet_8 rfl (lv_at hl 1 rfl) ?_
  refine gF (v := .ref (ad 26)) hx hb hown hE hK hP 42 rfl rfl layA 2 (by decide) w800 rfl d_A_meet_9 ?_
  refine lv_iload_n hx hb d_A_meet_12 rfl (lv_at hl 4 rfl) ?_
  refine nild (f := x.aro) (n := 256) hx hb hK hP (43) 1 rfl rfl (o) (by omega) (by decide) d_A_meet_13 ?_
  refine tpi (y := (nI r)) hro ?_
  refine lv_istore hx hb d_A_meet_14 hl (by decide) rfl (fun ls hl => ?_)
  have hl : lv_has ls 10 [(9, .int (nI r)), (8, .int (nI w)), (0, .ref (ad 24)), (1, .int 1), (2, .ref (ta 0)), (3, .int (nI o)), (4, .long tm), (6, .long v)] := hl
  refine lv_iload hx hb d_A_meet_16 (lv_at hl 1 rfl) ?_
  refine lv_iconst (v := (-1)) hx hb d_A_meet_18 (by decide) ?_
  refine lv_icmp_eq hx hb d_A_meet_19 (tgt := 43) rfl (fun h9 => absurd h9 (nI_nm (by omega))) (fun _ => ?_)
  refine lv_iload_n hx hb d_A_meet_22 rfl (lv_at hl 3 rfl) ?_
  refine lv_bipush (v := 6) hx hb d_A_meet_23 (by decide) ?_
  refine lv_icmp_ne hx hb d_A_meet_25 (tgt := 43) rfl (fun _ => ?_) (fun h9 => absurd h9 (by decide))
  refine lv_iload hx hb d_A_meet_43 (lv_at hl 1 rfl) ?_
  refine lv_iconst (v := (-1)) hx hb d_A_meet_45 (by decide) ?_
  refine lv_icmp_eq hx hb d_A_meet_46 (tgt := 77) rfl (fun h9 => absurd h9 (nI_nm (by omega))) (fun _ => ?_)
  refine lv_iload_n hx hb d_A_meet_49 rfl (lv_at hl 3 rfl) ?_
  refine lv_iconst (v := 4) hx hb d_A_meet_50 (by decide) ?_
  refine lv_icmp_eq hx hb d_A_meet_51 (tgt := 59) rfl (fun h9 => absurd h9 (by decide)) (fun _ => ?_)
  refine lv_iload_n hx hb d_A_meet_54 rfl (lv_at hl 3 rfl) ?_
  refine lv_iconst (v := 5) hx hb d_A_meet_55 (by decide) ?_
  refine lv_icmp_ne hx hb d_A_meet_56 (tgt := 77) rfl (fun _ => ?_) (fun h9 => absurd h9 (by decide))
  refine lv_iload hx hb d_A_meet_77 (lv_at hl 1 rfl) ?_
  refine lv_iconst (v := (-1)) hx hb d_A_meet_79 (by decide) ?_
  refine lv_icmp_eq hx hb d_A_meet_80 (tgt := 102) rfl (fun h9 => absurd h9 (nI_nm (by omega))) (fun _ => ?_)
  refine lv_aload_n hx hb d_A_meet_83 rfl (lv_at hl 4 rfl) ?_
  refine lv_iload hx hb d_A_meet_84 (lv_at hl 0 rfl) ?_
  refine lv_iload hx hb d_A_meet_86 (lv_at hl 1 rfl) ?_
  refine lv_iload_n hx hb d_A_meet_88 rfl (lv_at hl 3 rfl) ?_
  refine lv_aload_n hx hb d_A_meet_89 rfl (lv_at hl 4 rfl) ?_
  refine lv_iload hx hb d_A_meet_90 (lv_at hl 0 rfl) ?_
  refine lv_iload hx hb d_A_meet_92 (lv_at hl 1 rfl) ?_
  refine lv_lload hx hb d_A_meet_94 (lv_at hl 7 rfl) ?_
  refine jkL (wr := []) (rnS (As := [.int 1, .ref (ta 0), .int (nI r), .int (nI w), .long v]) (rest := [.int (nI w), .int (nI r), .ref (ta 0)]) hx hb hml hown hE hK (hN _ _ hS) hP hD (v_gathered_1 l D dA H.size (VW dA h ad x) ta t r w v (show t.cN ≤ 65536 from by omega) (show r * t.wi + w < t.cN from by omega) (show r < 256 from by omega)) w1517 w1516 w1518 w846 rfl rfl ⟨⟨by decide, by decide⟩, rfl⟩ ⟨(Nat.le_of_ble_eq_true rfl), (Nat.le_of_ble_eq_true rfl)⟩ rfl hl.1 rfl (Nat.le_of_ble_eq_true rfl) d_A_meet_96 ⟨(Nat.le_of_ble_eq_true rfl), (Nat.le_of_ble_eq_true rfl)⟩) hP hD hS hA (fun r3 u4 H locs hp9 hP hD hS => ?_)
  have hP : va_P D vwCl (TbW dA ta t ++ (VW dA h ad x)) H := hP
  have hD : va_D A (TbW dA ta t ++ (VW dA h ad x)) := hD
  replace hp9 : gaV 1 (hasB (t.th r) w) (t.ce (r * t.wi + w)) v = r3 := Eq.symm hp9
  subst hp9
  refine jkV (wr := []) (rnV (As := [.int (nI r), .int (nI w), .long (gaV 1 (hasB (t.th r) w) (t.ce (r * t.wi + w)) v)]) (rest := []) hx hb hml hown hE hK (hN _ _ hS) hP hD (v_Tput l D dA H.size (VW dA h ad x) ta t r w (gaV 1 (hasB (t.th r) w) (t.ce (r * t.wi + w)) v) hcN (show r * t.wi + w < t.cN from by omega) (show r < 256 from by omega)) (q0 := 0) rfl rfl w1433 w1511 w1434 w1435 w807 rfl rfl ⟨⟨by decide, by decide⟩, rfl⟩ ⟨(Nat.le_of_ble_eq_true rfl), (Nat.le_of_ble_eq_true rfl)⟩ rfl hl.1 rfl (Nat.le_of_ble_eq_true rfl) d_A_meet_99 ⟨(Nat.le_of_ble_eq_true rfl), (Nat.le_of_ble_eq_true rfl)⟩) hP hD hS hA (fun u6 H locs hp9 hP hD hS => ?_)
  have hP : va_P D vwCl (TbW dA ta (TB.s_ce (TB.s_th t (va_up t.th r (t.th r ||| bitL w))) (va_up t.ce (r * t.wi + w) (gaV 1 (hasB (t.th r) w) (t.ce (r * t.wi + w)) v))) ++ (VW dA h ad x)) H := hP
  have hD : va_D A (TbW dA ta (TB.s_ce (TB.s_th t (va_up t.th r (t.th r ||| bitL w))) (va_up t.ce (r * t.wi + w) (gaV 1 (hasB (t.th r) w) (t.ce (r * t.wi + w)) v))) ++ (VW dA h ad x)) := hD
  refine lv_aload_n hx hb d_A_meet_102 rfl (lv_at hl 2 rfl) ?_
  refine gF (v := .ref (ad 27)) hx hb hown hE hK hP 42 rfl rfl layA 3 (by decide) w801 rfl d_A_meet_103 ?_
  refine lv_iload_n hx hb d_A_meet_106 rfl (lv_at hl 5 rfl) ?_
  refine lv_iconst (v := 1) hx hb d_A_meet_107 (by decide) ?_
  refine nzstB (v := true) (n := 256) hx hb hK hP hD hS (44) 3 rfl rfl (o) (by omega) (by decide) d_A_meet_108 (fun H locs hP hD hS => ?_)
  have hP : va_P D vwCl (TbW dA ta (TB.s_ce (TB.s_th t (va_up t.th r (t.th r ||| bitL w))) (va_up t.ce (r * t.wi + w) (gaV 1 (hasB (t.th r) w) (t.ce (r * t.wi + w)) v))) ++ (VW dA h ad (VS.s_ahb x (va_up x.ahb o true)))) H := hP
  have hD : va_D A (TbW dA ta (TB.s_ce (TB.s_th t (va_up t.th r (t.th r ||| bitL w))) (va_up t.ce (r * t.wi + w) (gaV 1 (hasB (t.th r) w) (t.ce (r * t.wi + w)) v))) ++ (VW dA h ad (VS.s_ahb x (va_up x.ahb o true)))) := hD
  refine lv_aload_n hx hb d_A_meet_109 rfl (lv_at hl 2 rfl) ?_
  refine gF (v := .ref (ad 28)) hx hb hown hE hK hP 42 rfl rfl layA 4 (by decide) w802 rfl d_A_meet_110 ?_
  refine lv_iload_n hx hb d_A_meet_113 rfl (lv_at hl 5 rfl) ?_
  refine lv_lload hx hb d_A_meet_114 (lv_at hl 7 rfl) ?_
  refine nlst (n := 256) hx hb hK hP hD hS (45) 2 rfl rfl (o) (by omega) (by decide) d_A_meet_116 (fun H locs hP hD hS => ?_)
  have hP : va_P D vwCl (TbW dA ta (TB.s_ce (TB.s_th t (va_up t.th r (t.th r ||| bitL w))) (va_up t.ce (r * t.wi + w) (gaV 1 (hasB (t.th r) w) (t.ce (r * t.wi + w)) v))) ++ (VW dA h ad (VS.s_abf (VS.s_ahb x (va_up x.ahb o true)) (va_up x.abf o v)))) H := hP
  have hD : va_D A (TbW dA ta (TB.s_ce (TB.s_th t (va_up t.th r (t.th r ||| bitL w))) (va_up t.ce (r * t.wi + w) (gaV 1 (hasB (t.th r) w) (t.ce (r * t.wi + w)) v))) ++ (VW dA h ad (VS.s_abf (VS.s_ahb x (va_up x.ahb o true)) (va_up x.abf o v)))) := hD
  exact rfV hx hb hr hlk hS (⟨TB.s_ce (TB.s_th t (va_up t.th r (t.th r ||| bitL w))) (va_up t.ce (r * t.wi + w) (gaV 1 (hasB (t.th r) w) (t.ce (r * t.wi + w)) v)), VS.s_abf (VS.s_ahb x (va_up x.ahb o true)) (va_up x.abf o v)⟩) ⟨(mtT_0 (by decide) (by decide)).symm, (meX_0 (by decide)).symm⟩ hP hD (Nat.le_of_ble_eq_true rfl) (Nat.le_of_ble_eq_true rfl) d_A_meet_117
set_option maxHeartbeats 4000000 in
set_option maxRecDepth 100000 in
theorem v_meet_2 (l : Launch) (D : va_G) (dA : Nat → ClassId) (sz : Nat) (h : Nat) (ad : Nat → Nat) (ta : Nat → Nat) (t : TB) (x : VS) (o : Nat) (tm : Int64) (v : Int64) (r : Nat) (w : Nat) (hwi : x.awi ≤ 64) (hw : woA x.afr x.awd x.awi tm = nI w) (hw2 : w < x.awi) (hro : x.aro o = nI r) (hcN : t.cN ≤ 65536) (h1 : r * t.wi + w < t.cN) (h2 : r < 256) (h3 : o < 256) (h4 : r * x.awi + w < x.bN) (h5 : x.bN ≤ 65536) (h6 : x.bO (r * x.awi + w) < 256) : Met l ⟨"SeriesVault$Answers", "meet", "(ILSeriesVault$Table;IJJ)V"⟩ [Cond.code ⟨"SeriesVault$Answers", "meet", "(ILSeriesVault$Table;IJJ)V"⟩ prog_2_method_9_code 10 none] { frames := 4, cells := 0, slots := 0, locals := 300 } (pC D dA [.ref (ad 24), .int 2, .ref (ta 0), .int (nI o), .long tm, .long v] (TbW dA ta t ++ (VW dA h ad x)) sz) (va_Qv (fun (u9 : TB × VS) => u9.1 = mtT 2 t x r w o tm v ∧ u9.2 = meX 2 t x r w o tm v) (fun (u9 : TB × VS) t9 => bW D (va_A (TbW dA ta t ++ (VW dA h ad x)) sz) (TbW dA ta u9.1 ++ (VW dA h ad u9.2)) t9) (va_A (TbW dA ta t ++ (VW dA h ad x)) sz)) 0 0 (va_A (TbW dA ta t ++ (VW dA h ad x)) sz) := by
  refine mkC (y := ⟨"SeriesVault$Answers", "meet", "(ILSeriesVault$Table;IJJ)V"⟩) (cc := prog_2_method_9_code) (maxL := 10) (av := [.ref (ad 24), .int 2, .ref (ta 0), .int (nI o), .long tm, .long v]) (ws := TbW dA ta t ++ (VW dA h ad x)) (sz := sz) (Qc := fun A => va_Qv (fun (u9 : TB × VS) => u9.1 = mtT 2 t x r w o tm v ∧ u9.2 = meX 2 t x r w o tm v) (fun (u9 : TB × VS) t9 => bW D A (TbW dA ta u9.1 ++ (VW dA h ad u9.2)) t9) A) (by decide) (Nat.le_of_ble_eq_true rfl) ?_
  intro A p e s m below meth c ls hsz hB
  obtain ⟨hx, hb, hr, hml, hown, hin, hlk, hE, hK, hP, hD, hS, hA, hN, hl⟩ := hB
  have hown : s.vm.findClass "SeriesVault$Answers" = some m.cls := hown
  have hl : lv_has ls 10 [(0, .ref (ad 24)), (1, .int 2), (2, .ref (ta 0)), (3, .int (nI o)), (4, .long tm), (6, .long v)] := hl
  obtain ⟨H, hH⟩ : ∃ z, z = s.heap := ⟨_, rfl⟩
  have hP : va_P D vwCl (TbW dA ta t ++ (VW dA h ad x)) H := by rw [hH]; exact hP
  have hS : va_S A s.heap H [] := by rw [hH]; exact hS
  rw [← hH]
  refine lv_aload_n hx hb d_A_meet_0 rfl (lv_at hl 0 rfl) ?_
  refine lv_lload hx hb d_A_meet_1 (lv_at hl 4 rfl) ?_
  have hPc : va_P D vwCl (VW dA h ad x) H := spP (wr := TbW dA ta t) hP
  have hDc : va_D A (VW dA h ad x) := spD (wr := TbW dA ta t) hD
  refine jkI (wr := TbW dA ta t) (rnV (As := [.long tm]) (rest := []) hx hb hml hown hE hK (hN _ _ hS) hPc hDc (v_windowOf l D dA H.size h ad x tm (show x.awi ≤ 64 from by omega)) (q0 := 37) rfl rfl w1513 w1512 w1514 w1515 w846 rfl rfl ⟨⟨by decide, by decide⟩, rfl⟩ ⟨(Nat.le_of_ble_eq_true rfl), (Nat.le_of_ble_eq_true rfl)⟩ rfl hl.1 rfl (Nat.le_of_ble_eq_true rfl) d_A_meet_3 ⟨(Nat.le_of_ble_eq_true rfl), (Nat.le_of_ble_eq_true rfl)⟩) hP hD hS hA (fun r1 u2 H locs hp9 hP hD hS => ?_)
  have hP : va_P D vwCl (TbW dA ta t ++ (VW dA h ad x)) H := hP
  have hD : va_D A (TbW dA ta t ++ (VW dA h ad x)) := hD
  replace hp9 : woA x.afr x.awd x.awi tm = r1 := Eq.symm hp9
  subst hp9
  refine tpi (y := nI w) hw ?_
  refine lv_istore hx hb d_A_meet_6 hl (by decide) rfl (fun ls hl => ?_)
  have hl : lv_has ls 10 [(8, .int (nI w)), (0, .ref (ad 24)), (1, .int 2), (2, .ref (ta 0)), (3, .int (nI o)), (4, .long tm), (6, .long v)] := hl
  refine lv_aload_n hx hb d_A_meet_8 rfl (lv_at hl 1 rfl) ?_
  refine gF (v := .ref (ad 26)) hx hb hown hE hK hP 42 rfl rfl layA 2 (by decide) w800 rfl d_A_meet_9 ?_
  refine lv_iload_n hx hb d_A_meet_12 rfl (lv_at hl 4 rfl) ?_
  refine nild (f := x.aro) (n := 256) hx hb hK hP (43) 1 rfl rfl (o) (by omega) (by decide) d_A_meet_13 ?_
  refine tpi (y := (nI r)) hro ?_
  refine lv_istore hx hb d_A_meet_14 hl (by decide) rfl (fun ls hl => ?_)
  have hl : lv_has ls 10 [(9, .int (nI r)), (8, .int (nI w)), (0, .ref (ad 24)), (1, .int 2), (2, .ref (ta 0)), (3, .int (nI o)), (4, .long tm), (6, .long v)] := hl
  refine lv_iload hx hb d_A_meet_16 (lv_at hl 1 rfl) ?_
  refine lv_iconst (v := (-1)) hx hb d_A_meet_18 (by decide) ?_
  refine lv_icmp_eq hx hb d_A_meet_19 (tgt := 43) rfl (fun h9 => absurd h9 (nI_nm (by omega))) (fun _ => ?_)
  refine lv_iload_n hx hb d_A_meet_22 rfl (lv_at hl 3 rfl) ?_
  refine lv_bipush (v := 6) hx hb d_A_meet_23 (by decide) ?_
  refine lv_icmp_ne hx hb d_A_meet_25 (tgt := 43) rfl (fun _ => ?_) (fun h9 => absurd h9 (by decide))
  refine lv_iload hx hb d_A_meet_43 (lv_at hl 1 rfl) ?_
  refine lv_iconst (v := (-1)) hx hb d_A_meet_45 (by decide) ?_
  refine lv_icmp_eq hx hb d_A_meet_46 (tgt := 77) rfl (fun h9 => absurd h9 (nI_nm (by omega))) (fun _ => ?_)
  refine lv_iload_n hx hb d_A_meet_49 rfl (lv_at hl 3 rfl) ?_
  refine lv_iconst (v := 4) hx hb d_A_meet_50 (by decide) ?_
  refine lv_icmp_eq hx hb d_A_meet_51 (tgt := 59) rfl (fun h9 => absurd h9 (by decide)) (fun _ => ?_)
  refine lv_iload_n hx hb d_A_meet_54 rfl (lv_at hl 3 rfl) ?_
  refine lv_iconst (v := 5) hx hb d_A_meet_55 (by decide) ?_
  refine lv_icmp_ne hx hb d_A_meet_56 (tgt := 77) rfl (fun _ => ?_) (fun h9 => absurd h9 (by decide))
  refine lv_iload hx hb d_A_meet_77 (lv_at hl 1 rfl) ?_
  refine lv_iconst (v := (-1)) hx hb d_A_meet_79 (by decide) ?_
  refine lv_icmp_eq hx hb d_A_meet_80 (tgt := 102) rfl (fun h9 => absurd h9 (nI_nm (by omega))) (fun _ => ?_)
  refine lv_aload_n hx hb d_A_meet_83 rfl (lv_at hl 4 rfl) ?_
  refine lv_iload hx hb d_A_meet_84 (lv_at hl 0 rfl) ?_
  refine lv_iload hx hb d_A_meet_86 (lv_at hl 1 rfl) ?_
  refine lv_iload_n hx hb d_A_meet_88 rfl (lv_at hl 3 rfl) ?_
  refine lv_aload_n hx hb d_A_meet_89 rfl (lv_at hl 4 rfl) ?_
  refine lv_iload hx hb d_A_meet_90 (lv_at hl 0 rfl) ?_
  refine lv_iload hx hb d_A_meet_92 (lv_at hl 1 rfl) ?_
  refine lv_lload hx hb d_A_meet_94 (lv_at hl 7 rfl) ?_
  refine jkL (wr := []) (rnS (As := [.int 2, .ref (ta 0), .int (nI r), .int (nI w), .long v]) (rest := [.int (nI w), .int (nI r), .ref (ta 0)]) hx hb hml hown hE hK (hN _ _ hS) hP hD (v_gathered_2 l D dA H.size (VW dA h ad x) ta t r w v (show t.cN ≤ 65536 from by omega) (show r * t.wi + w < t.cN from by omega) (show r < 256 from by omega)) w1517 w1516 w1518 w846 rfl rfl ⟨⟨by decide, by decide⟩, rfl⟩ ⟨(Nat.le_of_ble_eq_true rfl), (Nat.le_of_ble_eq_true rfl)⟩ rfl hl.1 rfl (Nat.le_of_ble_eq_true rfl) d_A_meet_96 ⟨(Nat.le_of_ble_eq_true rfl), (Nat.le_of_ble_eq_true rfl)⟩) hP hD hS hA (fun r3 u4 H locs hp9 hP hD hS => ?_)
  have hP : va_P D vwCl (TbW dA ta t ++ (VW dA h ad x)) H := hP
  have hD : va_D A (TbW dA ta t ++ (VW dA h ad x)) := hD
  replace hp9 : gaV 2 (hasB (t.th r) w) (t.ce (r * t.wi + w)) v = r3 := Eq.symm hp9
  subst hp9
  refine jkV (wr := []) (rnV (As := [.int (nI r), .int (nI w), .long (gaV 2 (hasB (t.th r) w) (t.ce (r * t.wi + w)) v)]) (rest := []) hx hb hml hown hE hK (hN _ _ hS) hP hD (v_Tput l D dA H.size (VW dA h ad x) ta t r w (gaV 2 (hasB (t.th r) w) (t.ce (r * t.wi + w)) v) hcN (show r * t.wi + w < t.cN from by omega) (show r < 256 from by omega)) (q0 := 0) rfl rfl w1433 w1511 w1434 w1435 w807 rfl rfl ⟨⟨by decide, by decide⟩, rfl⟩ ⟨(Nat.le_of_ble_eq_true rfl), (Nat.le_of_ble_eq_true rfl)⟩ rfl hl.1 rfl (Nat.le_of_ble_eq_true rfl) d_A_meet_99 ⟨(Nat.le_of_ble_eq_true rfl), (Nat.le_of_ble_eq_true rfl)⟩) hP hD hS hA (fun u6 H locs hp9 hP hD hS => ?_)
  have hP : va_P D vwCl (TbW dA ta (TB.s_ce (TB.s_th t (va_up t.th r (t.th r ||| bitL w))) (va_up t.ce (r * t.wi + w) (gaV 2 (hasB (t.th r) w) (t.ce (r * t.wi + w)) v))) ++ (VW dA h ad x)) H := hP
  have hD : va_D A (TbW dA ta (TB.s_ce (TB.s_th t (va_up t.th r (t.th r ||| bitL w))) (va_up t.ce (r * t.wi + w) (gaV 2 (hasB (t.th r) w) (t.ce (r * t.wi + w)) v))) ++ (VW dA h ad x)) := hD
  refine lv_aload_n hx hb d_A_meet_102 rfl (lv_at hl 2 rfl) ?_
  refine gF (v := .ref (ad 27)) hx hb hown hE hK hP 42 rfl rfl layA 3 (by decide) w801 rfl d_A_meet_103 ?_
  refine lv_iload_n hx hb d_A_meet_106 rfl (lv_at hl 5 rfl) ?_
  refine lv_iconst (v := 1) hx hb d_A_meet_107 (by decide) ?_
  refine nzstB (v := true) (n := 256) hx hb hK hP hD hS (44) 3 rfl rfl (o) (by omega) (by decide) d_A_meet_108 (fun H locs hP hD hS => ?_)
  have hP : va_P D vwCl (TbW dA ta (TB.s_ce (TB.s_th t (va_up t.th r (t.th r ||| bitL w))) (va_up t.ce (r * t.wi + w) (gaV 2 (hasB (t.th r) w) (t.ce (r * t.wi + w)) v))) ++ (VW dA h ad (VS.s_ahb x (va_up x.ahb o true)))) H := hP
  have hD : va_D A (TbW dA ta (TB.s_ce (TB.s_th t (va_up t.th r (t.th r ||| bitL w))) (va_up t.ce (r * t.wi + w) (gaV 2 (hasB (t.th r) w) (t.ce (r * t.wi + w)) v))) ++ (VW dA h ad (VS.s_ahb x (va_up x.ahb o true)))) := hD
  refine lv_aload_n hx hb d_A_meet_109 rfl (lv_at hl 2 rfl) ?_
  refine gF (v := .ref (ad 28)) hx hb hown hE hK hP 42 rfl rfl layA 4 (by decide) w802 rfl d_A_meet_110 ?_
  refine lv_iload_n hx hb d_A_meet_113 rfl (lv_at hl 5 rfl) ?_
  refine lv_lload hx hb d_A_meet_114 (lv_at hl 7 rfl) ?_
  refine nlst (n := 256) hx hb hK hP hD hS (45) 2 rfl rfl (o) (by omega) (by decide) d_A_meet_116 (fun H locs hP hD hS => ?_)
  have hP : va_P D vwCl (TbW dA ta (TB.s_ce (TB.s_th t (va_up t.th r (t.th r ||| bitL w))) (va_up t.ce (r * t.wi + w) (gaV 2 (hasB (t.th r) w) (t.ce (r * t.wi + w)) v))) ++ (VW dA h ad (VS.s_abf (VS.s_ahb x (va_up x.ahb o true)) (va_up x.abf o v)))) H := hP
  have hD : va_D A (TbW dA ta (TB.s_ce (TB.s_th t (va_up t.th r (t.th r ||| bitL w))) (va_up t.ce (r * t.wi + w) (gaV 2 (hasB (t.th r) w) (t.ce (r * t.wi + w)) v))) ++ (VW dA h ad (VS.s_abf (VS.s_ahb x (va_up x.ahb o true)) (va_up x.abf o v)))) := hD
  exact rfV hx hb hr hlk hS (⟨TB.s_ce (TB.s_th t (va_up t.th r (t.th r ||| bitL w))) (va_up t.ce (r * t.wi + w) (gaV 2 (hasB (t.th r) w) (t.ce (r * t.wi + w)) v)), VS.s_abf (VS.s_ahb x (va_up x.ahb o true)) (va_up x.abf o v)⟩) ⟨(mtT_0 (by decide) (by decide)).symm, (meX_0 (by decide)).symm⟩ hP hD (Nat.le_of_ble_eq_true rfl) (Nat.le_of_ble_eq_true rfl) d_A_meet_117
set_option maxHeartbeats 4000000 in
set_option maxRecDepth 100000 in
theorem v_meet_3 (l : Launch) (D : va_G) (dA : Nat → ClassId) (sz : Nat) (h : Nat) (ad : Nat → Nat) (ta : Nat → Nat) (t : TB) (x : VS) (o : Nat) (tm : Int64) (v : Int64) (r : Nat) (w : Nat) (hwi : x.awi ≤ 64) (hw : woA x.afr x.awd x.awi tm = nI w) (hw2 : w < x.awi) (hro : x.aro o = nI r) (hcN : t.cN ≤ 65536) (h1 : r * t.wi + w < t.cN) (h2 : r < 256) (h3 : o < 256) (h4 : r * x.awi + w < x.bN) (h5 : x.bN ≤ 65536) (h6 : x.bO (r * x.awi + w) < 256) : Met l ⟨"SeriesVault$Answers", "meet", "(ILSeriesVault$Table;IJJ)V"⟩ [Cond.code ⟨"SeriesVault$Answers", "meet", "(ILSeriesVault$Table;IJJ)V"⟩ prog_2_method_9_code 10 none] { frames := 4, cells := 0, slots := 0, locals := 300 } (pC D dA [.ref (ad 24), .int 3, .ref (ta 0), .int (nI o), .long tm, .long v] (TbW dA ta t ++ (VW dA h ad x)) sz) (va_Qv (fun (u9 : TB × VS) => u9.1 = mtT 3 t x r w o tm v ∧ u9.2 = meX 3 t x r w o tm v) (fun (u9 : TB × VS) t9 => bW D (va_A (TbW dA ta t ++ (VW dA h ad x)) sz) (TbW dA ta u9.1 ++ (VW dA h ad u9.2)) t9) (va_A (TbW dA ta t ++ (VW dA h ad x)) sz)) 0 0 (va_A (TbW dA ta t ++ (VW dA h ad x)) sz) := by
  refine mkC (y := ⟨"SeriesVault$Answers", "meet", "(ILSeriesVault$Table;IJJ)V"⟩) (cc := prog_2_method_9_code) (maxL := 10) (av := [.ref (ad 24), .int 3, .ref (ta 0), .int (nI o), .long tm, .long v]) (ws := TbW dA ta t ++ (VW dA h ad x)) (sz := sz) (Qc := fun A => va_Qv (fun (u9 : TB × VS) => u9.1 = mtT 3 t x r w o tm v ∧ u9.2 = meX 3 t x r w o tm v) (fun (u9 : TB × VS) t9 => bW D A (TbW dA ta u9.1 ++ (VW dA h ad u9.2)) t9) A) (by decide) (Nat.le_of_ble_eq_true rfl) ?_
  intro A p e s m below meth c ls hsz hB
  obtain ⟨hx, hb, hr, hml, hown, hin, hlk, hE, hK, hP, hD, hS, hA, hN, hl⟩ := hB
  have hown : s.vm.findClass "SeriesVault$Answers" = some m.cls := hown
  have hl : lv_has ls 10 [(0, .ref (ad 24)), (1, .int 3), (2, .ref (ta 0)), (3, .int (nI o)), (4, .long tm), (6, .long v)] := hl
  obtain ⟨H, hH⟩ : ∃ z, z = s.heap := ⟨_, rfl⟩
  have hP : va_P D vwCl (TbW dA ta t ++ (VW dA h ad x)) H := by rw [hH]; exact hP
  have hS : va_S A s.heap H [] := by rw [hH]; exact hS
  rw [← hH]
  refine lv_aload_n hx hb d_A_meet_0 rfl (lv_at hl 0 rfl) ?_
  refine lv_lload hx hb d_A_meet_1 (lv_at hl 4 rfl) ?_
  have hPc : va_P D vwCl (VW dA h ad x) H := spP (wr := TbW dA ta t) hP
  have hDc : va_D A (VW dA h ad x) := spD (wr := TbW dA ta t) hD
  refine jkI (wr := TbW dA ta t) (rnV (As := [.long tm]) (rest := []) hx hb hml hown hE hK (hN _ _ hS) hPc hDc (v_windowOf l D dA H.size h ad x tm (show x.awi ≤ 64 from by omega)) (q0 := 37) rfl rfl w1513 w1512 w1514 w1515 w846 rfl rfl ⟨⟨by decide, by decide⟩, rfl⟩ ⟨(Nat.le_of_ble_eq_true rfl), (Nat.le_of_ble_eq_true rfl)⟩ rfl hl.1 rfl (Nat.le_of_ble_eq_true rfl) d_A_meet_3 ⟨(Nat.le_of_ble_eq_true rfl), (Nat.le_of_ble_eq_true rfl)⟩) hP hD hS hA (fun r1 u2 H locs hp9 hP hD hS => ?_)
  have hP : va_P D vwCl (TbW dA ta t ++ (VW dA h ad x)) H := hP
  have hD : va_D A (TbW dA ta t ++ (VW dA h ad x)) := hD
  replace hp9 : woA x.afr x.awd x.awi tm = r1 := Eq.symm hp9
  subst hp9
  refine tpi (y := nI w) hw ?_
  refine lv_istore hx hb d_A_meet_6 hl (by decide) rfl (fun ls hl => ?_)
  have hl : lv_has ls 10 [(8, .int (nI w)), (0, .ref (ad 24)), (1, .int 3), (2, .ref (ta 0)), (3, .int (nI o)), (4, .long tm), (6, .long v)] := hl
  refine lv_aload_n hx hb d_A_meet_8 rfl (lv_at hl 1 rfl) ?_
  refine gF (v := .ref (ad 26)) hx hb hown hE hK hP 42 rfl rfl layA 2 (by decide) w800 rfl d_A_meet_9 ?_
  refine lv_iload_n hx hb d_A_meet_12 rfl (lv_at hl 4 rfl) ?_
  refine nild (f := x.aro) (n := 256) hx hb hK hP (43) 1 rfl rfl (o) (by omega) (by decide) d_A_meet_13 ?_
  refine tpi (y := (nI r)) hro ?_
  refine lv_istore hx hb d_A_meet_14 hl (by decide) rfl (fun ls hl => ?_)
  have hl : lv_has ls 10 [(9, .int (nI r)), (8, .int (nI w)), (0, .ref (ad 24)), (1, .int 3), (2, .ref (ta 0)), (3, .int (nI o)), (4, .long tm), (6, .long v)] := hl
  refine lv_iload hx hb d_A_meet_16 (lv_at hl 1 rfl) ?_
  refine lv_iconst (v := (-1)) hx hb d_A_meet_18 (by decide) ?_
  refine lv_icmp_eq hx hb d_A_meet_19 (tgt := 43) rfl (fun h9 => absurd h9 (nI_nm (by omega))) (fun _ => ?_)
  refine lv_iload_n hx hb d_A_meet_22 rfl (lv_at hl 3 rfl) ?_
  refine lv_bipush (v := 6) hx hb d_A_meet_23 (by decide) ?_
  refine lv_icmp_ne hx hb d_A_meet_25 (tgt := 43) rfl (fun _ => ?_) (fun h9 => absurd h9 (by decide))
  refine lv_iload hx hb d_A_meet_43 (lv_at hl 1 rfl) ?_
  refine lv_iconst (v := (-1)) hx hb d_A_meet_45 (by decide) ?_
  refine lv_icmp_eq hx hb d_A_meet_46 (tgt := 77) rfl (fun h9 => absurd h9 (nI_nm (by omega))) (fun _ => ?_)
  refine lv_iload_n hx hb d_A_meet_49 rfl (lv_at hl 3 rfl) ?_
  refine lv_iconst (v := 4) hx hb d_A_meet_50 (by decide) ?_
  refine lv_icmp_eq hx hb d_A_meet_51 (tgt := 59) rfl (fun h9 => absurd h9 (by decide)) (fun _ => ?_)
  refine lv_iload_n hx hb d_A_meet_54 rfl (lv_at hl 3 rfl) ?_
  refine lv_iconst (v := 5) hx hb d_A_meet_55 (by decide) ?_
  refine lv_icmp_ne hx hb d_A_meet_56 (tgt := 77) rfl (fun _ => ?_) (fun h9 => absurd h9 (by decide))
  refine lv_iload hx hb d_A_meet_77 (lv_at hl 1 rfl) ?_
  refine lv_iconst (v := (-1)) hx hb d_A_meet_79 (by decide) ?_
  refine lv_icmp_eq hx hb d_A_meet_80 (tgt := 102) rfl (fun h9 => absurd h9 (nI_nm (by omega))) (fun _ => ?_)
  refine lv_aload_n hx hb d_A_meet_83 rfl (lv_at hl 4 rfl) ?_
  refine lv_iload hx hb d_A_meet_84 (lv_at hl 0 rfl) ?_
  refine lv_iload hx hb d_A_meet_86 (lv_at hl 1 rfl) ?_
  refine lv_iload_n hx hb d_A_meet_88 rfl (lv_at hl 3 rfl) ?_
  refine lv_aload_n hx hb d_A_meet_89 rfl (lv_at hl 4 rfl) ?_
  refine lv_iload hx hb d_A_meet_90 (lv_at hl 0 rfl) ?_
  refine lv_iload hx hb d_A_meet_92 (lv_at hl 1 rfl) ?_
  refine lv_lload hx hb d_A_meet_94 (lv_at hl 7 rfl) ?_
  refine jkL (wr := []) (rnS (As := [.int 3, .ref (ta 0), .int (nI r), .int (nI w), .long v]) (rest := [.int (nI w), .int (nI r), .ref (ta 0)]) hx hb hml hown hE hK (hN _ _ hS) hP hD (v_gathered_3 l D dA H.size (VW dA h ad x) ta t r w v (show t.cN ≤ 65536 from by omega) (show r * t.wi + w < t.cN from by omega) (show r < 256 from by omega)) w1517 w1516 w1518 w846 rfl rfl ⟨⟨by decide, by decide⟩, rfl⟩ ⟨(Nat.le_of_ble_eq_true rfl), (Nat.le_of_ble_eq_true rfl)⟩ rfl hl.1 rfl (Nat.le_of_ble_eq_true rfl) d_A_meet_96 ⟨(Nat.le_of_ble_eq_true rfl), (Nat.le_of_ble_eq_true rfl)⟩) hP hD hS hA (fun r3 u4 H locs hp9 hP hD hS => ?_)
  have hP : va_P D vwCl (TbW dA ta t ++ (VW dA h ad x)) H := hP
  have hD : va_D A (TbW dA ta t ++ (VW dA h ad x)) := hD
  replace hp9 : gaV 3 (hasB (t.th r) w) (t.ce (r * t.wi + w)) v = r3 := Eq.symm hp9
  subst hp9
  refine jkV (wr := []) (rnV (As := [.int (nI r), .int (nI w), .long (gaV 3 (hasB (t.th r) w) (t.ce (r * t.wi + w)) v)]) (rest := []) hx hb hml hown hE hK (hN _ _ hS) hP hD (v_Tput l D dA H.size (VW dA h ad x) ta t r w (gaV 3 (hasB (t.th r) w) (t.ce (r * t.wi + w)) v) hcN (show r * t.wi + w < t.cN from by omega) (show r < 256 from by omega)) (q0 := 0) rfl rfl w1433 w1511 w1434 w1435 w807 rfl rfl ⟨⟨by decide, by decide⟩, rfl⟩ ⟨(Nat.le_of_ble_eq_true rfl), (Nat.le_of_ble_eq_true rfl)⟩ rfl hl.1 rfl (Nat.le_of_ble_eq_true rfl) d_A_meet_99 ⟨(Nat.le_of_ble_eq_true rfl), (Nat.le_of_ble_eq_true rfl)⟩) hP hD hS hA (fun u6 H locs hp9 hP hD hS => ?_)
  have hP : va_P D vwCl (TbW dA ta (TB.s_ce (TB.s_th t (va_up t.th r (t.th r ||| bitL w))) (va_up t.ce (r * t.wi + w) (gaV 3 (hasB (t.th r) w) (t.ce (r * t.wi + w)) v))) ++ (VW dA h ad x)) H := hP
  have hD : va_D A (TbW dA ta (TB.s_ce (TB.s_th t (va_up t.th r (t.th r ||| bitL w))) (va_up t.ce (r * t.wi + w) (gaV 3 (hasB (t.th r) w) (t.ce (r * t.wi + w)) v))) ++ (VW dA h ad x)) := hD
  refine lv_aload_n hx hb d_A_meet_102 rfl (lv_at hl 2 rfl) ?_
  refine gF (v := .ref (ad 27)) hx hb hown hE hK hP 42 rfl rfl layA 3 (by decide) w801 rfl d_A_meet_103 ?_
  refine lv_iload_n hx hb d_A_meet_106 rfl (lv_at hl 5 rfl) ?_
  refine lv_iconst (v := 1) hx hb d_A_meet_107 (by decide) ?_
  refine nzstB (v := true) (n := 256) hx hb hK hP hD hS (44) 3 rfl rfl (o) (by omega) (by decide) d_A_meet_108 (fun H locs hP hD hS => ?_)
  have hP : va_P D vwCl (TbW dA ta (TB.s_ce (TB.s_th t (va_up t.th r (t.th r ||| bitL w))) (va_up t.ce (r * t.wi + w) (gaV 3 (hasB (t.th r) w) (t.ce (r * t.wi + w)) v))) ++ (VW dA h ad (VS.s_ahb x (va_up x.ahb o true)))) H := hP
  have hD : va_D A (TbW dA ta (TB.s_ce (TB.s_th t (va_up t.th r (t.th r ||| bitL w))) (va_up t.ce (r * t.wi + w) (gaV 3 (hasB (t.th r) w) (t.ce (r * t.wi + w)) v))) ++ (VW dA h ad (VS.s_ahb x (va_up x.ahb o true)))) := hD
  refine lv_aload_n hx hb d_A_meet_109 rfl (lv_at hl 2 rfl) ?_
  refine gF (v := .ref (ad 28)) hx hb hown hE hK hP 42 rfl rfl layA 4 (by decide) w802 rfl d_A_meet_110 ?_
  refine lv_iload_n hx hb d_A_meet_113 rfl (lv_at hl 5 rfl) ?_
  refine lv_lload hx hb d_A_meet_114 (lv_at hl 7 rfl) ?_
  refine nlst (n := 256) hx hb hK hP hD hS (45) 2 rfl rfl (o) (by omega) (by decide) d_A_meet_116 (fun H locs hP hD hS => ?_)
  have hP : va_P D vwCl (TbW dA ta (TB.s_ce (TB.s_th t (va_up t.th r (t.th r ||| bitL w))) (va_up t.ce (r * t.wi + w) (gaV 3 (hasB (t.th r) w) (t.ce (r * t.wi + w)) v))) ++ (VW dA h ad (VS.s_abf (VS.s_ahb x (va_up x.ahb o true)) (va_up x.abf o v)))) H := hP
  have hD : va_D A (TbW dA ta (TB.s_ce (TB.s_th t (va_up t.th r (t.th r ||| bitL w))) (va_up t.ce (r * t.wi + w) (gaV 3 (hasB (t.th r) w) (t.ce (r * t.wi + w)) v))) ++ (VW dA h ad (VS.s_abf (VS.s_ahb x (va_up x.ahb o true)) (va_up x.abf o v)))) := hD
  exact rfV hx hb hr hlk hS (⟨TB.s_ce (TB.s_th t (va_up t.th r (t.th r ||| bitL w))) (va_up t.ce (r * t.wi + w) (gaV 3 (hasB (t.th r) w) (t.ce (r * t.wi + w)) v)), VS.s_abf (VS.s_ahb x (va_up x.ahb o true)) (va_up x.abf o v)⟩) ⟨(mtT_0 (by decide) (by decide)).symm, (meX_0 (by decide)).symm⟩ hP hD (Nat.le_of_ble_eq_true rfl) (Nat.le_of_ble_eq_true rfl) d_A_meet_117
theorem d_A_meet_59 : decode prog_2_method_9_code 59 = .ok (.aload_n 0, 1) := by decide +kernel
theorem d_A_meet_60 : decode prog_2_method_9_code 60 = .ok (.iload_n 1, 1) := by decide +kernel
theorem d_A_meet_61 : decode prog_2_method_9_code 61 = .ok (.aload_n 2, 1) := by decide +kernel
theorem d_A_meet_62 : decode prog_2_method_9_code 62 = .ok (.iload 9, 2) := by decide +kernel
theorem d_A_meet_64 : decode prog_2_method_9_code 64 = .ok (.iload 8, 2) := by decide +kernel
theorem d_A_meet_66 : decode prog_2_method_9_code 66 = .ok (.iload_n 3, 1) := by decide +kernel
theorem d_A_meet_67 : decode prog_2_method_9_code 67 = .ok (.lload 4, 2) := by decide +kernel
theorem d_A_meet_69 : decode prog_2_method_9_code 69 = .ok (.lload 6, 2) := by decide +kernel
theorem d_A_meet_71 : decode prog_2_method_9_code 71 = .ok (.invokevirtual 204, 3) := by decide +kernel
theorem d_A_meet_74 : decode prog_2_method_9_code 74 = .ok (.goto 28, 3) := by decide +kernel
theorem w1519 : Cond.methodLink "SeriesVault$Answers" 204 ⟨"SeriesVault$Answers", "choose", "(ILSeriesVault$Table;IIIJJ)V"⟩ ∈ aW := aw_of (tb_8 (List.mem_of_getElem? (i := 15) rfl)) rfl
theorem w1520 : Cond.code ⟨"SeriesVault$Answers", "choose", "(ILSeriesVault$Table;IIIJJ)V"⟩ prog_2_method_12_code 14 none ∈ aW := aw_of (tb_8 (List.mem_of_getElem? (i := 18) rfl)) rfl
theorem w1521 : Cond.instanceMethod ⟨"SeriesVault$Answers", "choose", "(ILSeriesVault$Table;IIIJJ)V"⟩ ∈ aW := aw_of (tb_8 (List.mem_of_getElem? (i := 17) rfl)) rfl
theorem w1522 : Cond.selects "SeriesVault$Answers" ⟨"SeriesVault$Answers", "choose", "(ILSeriesVault$Table;IIIJJ)V"⟩ ⟨"SeriesVault$Answers", "choose", "(ILSeriesVault$Table;IIIJJ)V"⟩ ∈ aW := aw_pr (List.mem_map.mpr ⟨_, pv_4 (List.mem_of_getElem? (i := 12) rfl), rfl⟩) rfl
set_option maxHeartbeats 4000000 in
set_option maxRecDepth 100000 in
theorem v_meet_4 (l : Launch) (D : va_G) (dA : Nat → ClassId) (sz : Nat) (h : Nat) (ad : Nat → Nat) (ta : Nat → Nat) (t : TB) (x : VS) (o : Nat) (tm : Int64) (v : Int64) (r : Nat) (w : Nat) (hwi : x.awi ≤ 64) (hw : woA x.afr x.awd x.awi tm = nI w) (hw2 : w < x.awi) (hro : x.aro o = nI r) (hcN : t.cN ≤ 65536) (h1 : r * t.wi + w < t.cN) (h2 : r < 256) (h3 : o < 256) (h4 : r * x.awi + w < x.bN) (h5 : x.bN ≤ 65536) (h6 : x.bO (r * x.awi + w) < 256) : Met l ⟨"SeriesVault$Answers", "meet", "(ILSeriesVault$Table;IJJ)V"⟩ [Cond.code ⟨"SeriesVault$Answers", "meet", "(ILSeriesVault$Table;IJJ)V"⟩ prog_2_method_9_code 10 none] { frames := 4, cells := 0, slots := 0, locals := 300 } (pC D dA [.ref (ad 24), .int 4, .ref (ta 0), .int (nI o), .long tm, .long v] (TbW dA ta t ++ (VW dA h ad x)) sz) (va_Qv (fun (u9 : TB × VS) => u9.1 = mtT 4 t x r w o tm v ∧ u9.2 = meX 4 t x r w o tm v) (fun (u9 : TB × VS) t9 => bW D (va_A (TbW dA ta t ++ (VW dA h ad x)) sz) (TbW dA ta u9.1 ++ (VW dA h ad u9.2)) t9) (va_A (TbW dA ta t ++ (VW dA h ad x)) sz)) 0 0 (va_A (TbW dA ta t ++ (VW dA h ad x)) sz) := by
  refine mkC (y := ⟨"SeriesVault$Answers", "meet", "(ILSeriesVault$Table;IJJ)V"⟩) (cc := prog_2_method_9_code) (maxL := 10) (av := [.ref (ad 24), .int 4, .ref (ta 0), .int (nI o), .long tm, .long v]) (ws := TbW dA ta t ++ (VW dA h ad x)) (sz := sz) (Qc := fun A => va_Qv (fun (u9 : TB × VS) => u9.1 = mtT 4 t x r w o tm v ∧ u9.2 = meX 4 t x r w o tm v) (fun (u9 : TB × VS) t9 => bW D A (TbW dA ta u9.1 ++ (VW dA h ad u9.2)) t9) A) (by decide) (Nat.le_of_ble_eq_true rfl) ?_
  intro A p e s m below meth c ls hsz hB
  obtain ⟨hx, hb, hr, hml, hown, hin, hlk, hE, hK, hP, hD, hS, hA, hN, hl⟩ := hB
  have hown : s.vm.findClass "SeriesVault$Answers" = some m.cls := hown
  have hl : lv_has ls 10 [(0, .ref (ad 24)), (1, .int 4), (2, .ref (ta 0)), (3, .int (nI o)), (4, .long tm), (6, .long v)] := hl
  obtain ⟨H, hH⟩ : ∃ z, z = s.heap := ⟨_, rfl⟩
  have hP : va_P D vwCl (TbW dA ta t ++ (VW dA h ad x)) H := by rw [hH]; exact hP
  have hS : va_S A s.heap H [] := by rw [hH]; exact hS
  rw [← hH]
  refine lv_aload_n hx hb d_A_meet_0 rfl (lv_at hl 0 rfl) ?_
  refine lv_lload hx hb d_A_meet_1 (lv_at hl 4 rfl) ?_
  have hPc : va_P D vwCl (VW dA h ad x) H := spP (wr := TbW dA ta t) hP
  have hDc : va_D A (VW dA h ad x) := spD (wr := TbW dA ta t) hD
  refine jkI (wr := TbW dA ta t) (rnV (As := [.long tm]) (rest := []) hx hb hml hown hE hK (hN _ _ hS) hPc hDc (v_windowOf l D dA H.size h ad x tm (show x.awi ≤ 64 from by omega)) (q0 := 37) rfl rfl w1513 w1512 w1514 w1515 w846 rfl rfl ⟨⟨by decide, by decide⟩, rfl⟩ ⟨(Nat.le_of_ble_eq_true rfl), (Nat.le_of_ble_eq_true rfl)⟩ rfl hl.1 rfl (Nat.le_of_ble_eq_true rfl) d_A_meet_3 ⟨(Nat.le_of_ble_eq_true rfl), (Nat.le_of_ble_eq_true rfl)⟩) hP hD hS hA (fun r1 u2 H locs hp9 hP hD hS => ?_)
  have hP : va_P D vwCl (TbW dA ta t ++ (VW dA h ad x)) H := hP
  have hD : va_D A (TbW dA ta t ++ (VW dA h ad x)) := hD
  replace hp9 : woA x.afr x.awd x.awi tm = r1 := Eq.symm hp9
  subst hp9
  refine tpi (y := nI w) hw ?_
  refine lv_istore hx hb d_A_meet_6 hl (by decide) rfl (fun ls hl => ?_)
  have hl : lv_has ls 10 [(8, .int (nI w)), (0, .ref (ad 24)), (1, .int 4), (2, .ref (ta 0)), (3, .int (nI o)), (4, .long tm), (6, .long v)] := hl
  refine lv_aload_n hx hb d_A_meet_8 rfl (lv_at hl 1 rfl) ?_
  refine gF (v := .ref (ad 26)) hx hb hown hE hK hP 42 rfl rfl layA 2 (by decide) w800 rfl d_A_meet_9 ?_
  refine lv_iload_n hx hb d_A_meet_12 rfl (lv_at hl 4 rfl) ?_
  refine nild (f := x.aro) (n := 256) hx hb hK hP (43) 1 rfl rfl (o) (by omega) (by decide) d_A_meet_13 ?_
  refine tpi (y := (nI r)) hro ?_
  refine lv_istore hx hb d_A_meet_14 hl (by decide) rfl (fun ls hl => ?_)
  have hl : lv_has ls 10 [(9, .int (nI r)), (8, .int (nI w)), (0, .ref (ad 24)), (1, .int 4), (2, .ref (ta 0)), (3, .int (nI o)), (4, .long tm), (6, .long v)] := hl
  refine lv_iload hx hb d_A_meet_16 (lv_at hl 1 rfl) ?_
  refine lv_iconst (v := (-1)) hx hb d_A_meet_18 (by decide) ?_
  refine lv_icmp_eq hx hb d_A_meet_19 (tgt := 43) rfl (fun h9 => absurd h9 (nI_nm (by omega))) (fun _ => ?_)
  refine lv_iload_n hx hb d_A_meet_22 rfl (lv_at hl 3 rfl) ?_
  refine lv_bipush (v := 6) hx hb d_A_meet_23 (by decide) ?_
  refine lv_icmp_ne hx hb d_A_meet_25 (tgt := 43) rfl (fun _ => ?_) (fun h9 => absurd h9 (by decide))
  refine lv_iload hx hb d_A_meet_43 (lv_at hl 1 rfl) ?_
  refine lv_iconst (v := (-1)) hx hb d_A_meet_45 (by decide) ?_
  refine lv_icmp_eq hx hb d_A_meet_46 (tgt := 77) rfl (fun h9 => absurd h9 (nI_nm (by omega))) (fun _ => ?_)
  refine lv_iload_n hx hb d_A_meet_49 rfl (lv_at hl 3 rfl) ?_
  refine lv_iconst (v := 4) hx hb d_A_meet_50 (by decide) ?_
  refine lv_icmp_eq hx hb d_A_meet_51 (tgt := 59) rfl (fun _ => ?_) (fun h9 => absurd (by decide) h9)
  refine lv_aload_n hx hb d_A_meet_59 rfl (lv_at hl 2 rfl) ?_
  refine lv_iload_n hx hb d_A_meet_60 rfl (lv_at hl 3 rfl) ?_
  refine lv_aload_n hx hb d_A_meet_61 rfl (lv_at hl 4 rfl) ?_
  refine lv_iload hx hb d_A_meet_62 (lv_at hl 0 rfl) ?_
  refine lv_iload hx hb d_A_meet_64 (lv_at hl 1 rfl) ?_
  refine lv_iload_n hx hb d_A_meet_66 rfl (lv_at hl 5 rfl) ?_
  refine lv_lload hx hb d_A_meet_67 (lv_at hl 6 rfl) ?_
  refine lv_lload hx hb d_A_meet_69 (lv_at hl 7 rfl) ?_
  refine jkV (wr := []) (rnV (As := [.int 4, .ref (ta 0), .int (nI r), .int (nI w), .int (nI o), .long tm, .long v]) (rest := []) hx hb hml hown hE hK (hN _ _ hS) hP hD (v_choose_4 l D dA H.size h ad ta t x r w o tm v (show t.cN ≤ 65536 from by omega) (show r * t.wi + w < t.cN from by omega) (show r < 256 from by omega) (show o < 256 from by omega) (show r * x.awi + w < x.bN from by omega) (show x.bN ≤ 65536 from by omega) (show x.bO (r * x.awi + w) < 256 from by omega)) (q0 := 42) rfl rfl w1520 w1519 w1521 w1522 w846 rfl rfl ⟨⟨by decide, by decide⟩, rfl⟩ ⟨(Nat.le_of_ble_eq_true rfl), (Nat.le_of_ble_eq_true rfl)⟩ rfl hl.1 rfl (Nat.le_of_ble_eq_true rfl) d_A_meet_71 ⟨(Nat.le_of_ble_eq_true rfl), (Nat.le_of_ble_eq_true rfl)⟩) hP hD hS hA (fun u4 H locs hp9 hP hD hS => ?_)
  obtain ⟨y5, z6⟩ := u4
  have hP : va_P D vwCl (TbW dA ta y5 ++ (VW dA h ad z6)) H := hP
  have hD : va_D A (TbW dA ta y5 ++ (VW dA h ad z6)) := hD
  obtain ⟨f_e_7, f_e2_8⟩ := hp9
  refine lv_goto hx hb d_A_meet_74 (tgt := 102) rfl ?_
  refine lv_aload_n hx hb d_A_meet_102 rfl (lv_at hl 2 rfl) ?_
  refine gF (v := .ref (ad 27)) hx hb hown hE hK hP 42 rfl rfl layA 3 (by decide) w801 rfl d_A_meet_103 ?_
  refine lv_iload_n hx hb d_A_meet_106 rfl (lv_at hl 5 rfl) ?_
  refine lv_iconst (v := 1) hx hb d_A_meet_107 (by decide) ?_
  refine nzstB (v := true) (n := 256) hx hb hK hP hD hS (44) 3 rfl rfl (o) (by omega) (by decide) d_A_meet_108 (fun H locs hP hD hS => ?_)
  have hP : va_P D vwCl (TbW dA ta y5 ++ (VW dA h ad (VS.s_ahb z6 (va_up z6.ahb o true)))) H := hP
  have hD : va_D A (TbW dA ta y5 ++ (VW dA h ad (VS.s_ahb z6 (va_up z6.ahb o true)))) := hD
  refine lv_aload_n hx hb d_A_meet_109 rfl (lv_at hl 2 rfl) ?_
  refine gF (v := .ref (ad 28)) hx hb hown hE hK hP 42 rfl rfl layA 4 (by decide) w802 rfl d_A_meet_110 ?_
  refine lv_iload_n hx hb d_A_meet_113 rfl (lv_at hl 5 rfl) ?_
  refine lv_lload hx hb d_A_meet_114 (lv_at hl 7 rfl) ?_
  refine nlst (n := 256) hx hb hK hP hD hS (45) 2 rfl rfl (o) (by omega) (by decide) d_A_meet_116 (fun H locs hP hD hS => ?_)
  have hP : va_P D vwCl (TbW dA ta y5 ++ (VW dA h ad (VS.s_abf (VS.s_ahb z6 (va_up z6.ahb o true)) (va_up z6.abf o v)))) H := hP
  have hD : va_D A (TbW dA ta y5 ++ (VW dA h ad (VS.s_abf (VS.s_ahb z6 (va_up z6.ahb o true)) (va_up z6.abf o v)))) := hD
  exact rfV hx hb hr hlk hS (⟨y5, VS.s_abf (VS.s_ahb z6 (va_up z6.ahb o true)) (va_up z6.abf o v)⟩) ⟨by rw [mtT_4 (by decide) (by decide), f_e_7]; rfl, by rw [meX_4 (by decide)]; exact congrArg (fun q => mbX q o v) f_e2_8⟩ hP hD (Nat.le_of_ble_eq_true rfl) (Nat.le_of_ble_eq_true rfl) d_A_meet_117
set_option maxHeartbeats 4000000 in
set_option maxRecDepth 100000 in
theorem v_meet_5 (l : Launch) (D : va_G) (dA : Nat → ClassId) (sz : Nat) (h : Nat) (ad : Nat → Nat) (ta : Nat → Nat) (t : TB) (x : VS) (o : Nat) (tm : Int64) (v : Int64) (r : Nat) (w : Nat) (hwi : x.awi ≤ 64) (hw : woA x.afr x.awd x.awi tm = nI w) (hw2 : w < x.awi) (hro : x.aro o = nI r) (hcN : t.cN ≤ 65536) (h1 : r * t.wi + w < t.cN) (h2 : r < 256) (h3 : o < 256) (h4 : r * x.awi + w < x.bN) (h5 : x.bN ≤ 65536) (h6 : x.bO (r * x.awi + w) < 256) : Met l ⟨"SeriesVault$Answers", "meet", "(ILSeriesVault$Table;IJJ)V"⟩ [Cond.code ⟨"SeriesVault$Answers", "meet", "(ILSeriesVault$Table;IJJ)V"⟩ prog_2_method_9_code 10 none] { frames := 4, cells := 0, slots := 0, locals := 300 } (pC D dA [.ref (ad 24), .int 5, .ref (ta 0), .int (nI o), .long tm, .long v] (TbW dA ta t ++ (VW dA h ad x)) sz) (va_Qv (fun (u9 : TB × VS) => u9.1 = mtT 5 t x r w o tm v ∧ u9.2 = meX 5 t x r w o tm v) (fun (u9 : TB × VS) t9 => bW D (va_A (TbW dA ta t ++ (VW dA h ad x)) sz) (TbW dA ta u9.1 ++ (VW dA h ad u9.2)) t9) (va_A (TbW dA ta t ++ (VW dA h ad x)) sz)) 0 0 (va_A (TbW dA ta t ++ (VW dA h ad x)) sz) := by
  refine mkC (y := ⟨"SeriesVault$Answers", "meet", "(ILSeriesVault$Table;IJJ)V"⟩) (cc := prog_2_method_9_code) (maxL := 10) (av := [.ref (ad 24), .int 5, .ref (ta 0), .int (nI o), .long tm, .long v]) (ws := TbW dA ta t ++ (VW dA h ad x)) (sz := sz) (Qc := fun A => va_Qv (fun (u9 : TB × VS) => u9.1 = mtT 5 t x r w o tm v ∧ u9.2 = meX 5 t x r w o tm v) (fun (u9 : TB × VS) t9 => bW D A (TbW dA ta u9.1 ++ (VW dA h ad u9.2)) t9) A) (by decide) (Nat.le_of_ble_eq_true rfl) ?_
  intro A p e s m below meth c ls hsz hB
  obtain ⟨hx, hb, hr, hml, hown, hin, hlk, hE, hK, hP, hD, hS, hA, hN, hl⟩ := hB
  have hown : s.vm.findClass "SeriesVault$Answers" = some m.cls := hown
  have hl : lv_has ls 10 [(0, .ref (ad 24)), (1, .int 5), (2, .ref (ta 0)), (3, .int (nI o)), (4, .long tm), (6, .long v)] := hl
  obtain ⟨H, hH⟩ : ∃ z, z = s.heap := ⟨_, rfl⟩
  have hP : va_P D vwCl (TbW dA ta t ++ (VW dA h ad x)) H := by rw [hH]; exact hP
  have hS : va_S A s.heap H [] := by rw [hH]; exact hS
  rw [← hH]
  refine lv_aload_n hx hb d_A_meet_0 rfl (lv_at hl 0 rfl) ?_
  refine lv_lload hx hb d_A_meet_1 (lv_at hl 4 rfl) ?_
  have hPc : va_P D vwCl (VW dA h ad x) H := spP (wr := TbW dA ta t) hP
  have hDc : va_D A (VW dA h ad x) := spD (wr := TbW dA ta t) hD
  refine jkI (wr := TbW dA ta t) (rnV (As := [.long tm]) (rest := []) hx hb hml hown hE hK (hN _ _ hS) hPc hDc (v_windowOf l D dA H.size h ad x tm (show x.awi ≤ 64 from by omega)) (q0 := 37) rfl rfl w1513 w1512 w1514 w1515 w846 rfl rfl ⟨⟨by decide, by decide⟩, rfl⟩ ⟨(Nat.le_of_ble_eq_true rfl), (Nat.le_of_ble_eq_true rfl)⟩ rfl hl.1 rfl (Nat.le_of_ble_eq_true rfl) d_A_meet_3 ⟨(Nat.le_of_ble_eq_true rfl), (Nat.le_of_ble_eq_true rfl)⟩) hP hD hS hA (fun r1 u2 H locs hp9 hP hD hS => ?_)
  have hP : va_P D vwCl (TbW dA ta t ++ (VW dA h ad x)) H := hP
  have hD : va_D A (TbW dA ta t ++ (VW dA h ad x)) := hD
  replace hp9 : woA x.afr x.awd x.awi tm = r1 := Eq.symm hp9
  subst hp9
  refine tpi (y := nI w) hw ?_
  refine lv_istore hx hb d_A_meet_6 hl (by decide) rfl (fun ls hl => ?_)
  have hl : lv_has ls 10 [(8, .int (nI w)), (0, .ref (ad 24)), (1, .int 5), (2, .ref (ta 0)), (3, .int (nI o)), (4, .long tm), (6, .long v)] := hl
  refine lv_aload_n hx hb d_A_meet_8 rfl (lv_at hl 1 rfl) ?_
  refine gF (v := .ref (ad 26)) hx hb hown hE hK hP 42 rfl rfl layA 2 (by decide) w800 rfl d_A_meet_9 ?_
  refine lv_iload_n hx hb d_A_meet_12 rfl (lv_at hl 4 rfl) ?_
  refine nild (f := x.aro) (n := 256) hx hb hK hP (43) 1 rfl rfl (o) (by omega) (by decide) d_A_meet_13 ?_
  refine tpi (y := (nI r)) hro ?_
  refine lv_istore hx hb d_A_meet_14 hl (by decide) rfl (fun ls hl => ?_)
  have hl : lv_has ls 10 [(9, .int (nI r)), (8, .int (nI w)), (0, .ref (ad 24)), (1, .int 5), (2, .ref (ta 0)), (3, .int (nI o)), (4, .long tm), (6, .long v)] := hl
  refine lv_iload hx hb d_A_meet_16 (lv_at hl 1 rfl) ?_
  refine lv_iconst (v := (-1)) hx hb d_A_meet_18 (by decide) ?_
  refine lv_icmp_eq hx hb d_A_meet_19 (tgt := 43) rfl (fun h9 => absurd h9 (nI_nm (by omega))) (fun _ => ?_)
  refine lv_iload_n hx hb d_A_meet_22 rfl (lv_at hl 3 rfl) ?_
  refine lv_bipush (v := 6) hx hb d_A_meet_23 (by decide) ?_
  refine lv_icmp_ne hx hb d_A_meet_25 (tgt := 43) rfl (fun _ => ?_) (fun h9 => absurd h9 (by decide))
  refine lv_iload hx hb d_A_meet_43 (lv_at hl 1 rfl) ?_
  refine lv_iconst (v := (-1)) hx hb d_A_meet_45 (by decide) ?_
  refine lv_icmp_eq hx hb d_A_meet_46 (tgt := 77) rfl (fun h9 => absurd h9 (nI_nm (by omega))) (fun _ => ?_)
  refine lv_iload_n hx hb d_A_meet_49 rfl (lv_at hl 3 rfl) ?_
  refine lv_iconst (v := 4) hx hb d_A_meet_50 (by decide) ?_
  refine lv_icmp_eq hx hb d_A_meet_51 (tgt := 59) rfl (fun h9 => absurd h9 (by decide)) (fun _ => ?_)
  refine lv_iload_n hx hb d_A_meet_54 rfl (lv_at hl 3 rfl) ?_
  refine lv_iconst (v := 5) hx hb d_A_meet_55 (by decide) ?_
  refine lv_icmp_ne hx hb d_A_meet_56 (tgt := 77) rfl (fun h9 => absurd (by decide) h9) (fun _ => ?_)
  refine lv_aload_n hx hb d_A_meet_59 rfl (lv_at hl 2 rfl) ?_
  refine lv_iload_n hx hb d_A_meet_60 rfl (lv_at hl 3 rfl) ?_
  refine lv_aload_n hx hb d_A_meet_61 rfl (lv_at hl 4 rfl) ?_
  refine lv_iload hx hb d_A_meet_62 (lv_at hl 0 rfl) ?_
  refine lv_iload hx hb d_A_meet_64 (lv_at hl 1 rfl) ?_
  refine lv_iload_n hx hb d_A_meet_66 rfl (lv_at hl 5 rfl) ?_
  refine lv_lload hx hb d_A_meet_67 (lv_at hl 6 rfl) ?_
  refine lv_lload hx hb d_A_meet_69 (lv_at hl 7 rfl) ?_
  refine jkV (wr := []) (rnV (As := [.int 5, .ref (ta 0), .int (nI r), .int (nI w), .int (nI o), .long tm, .long v]) (rest := []) hx hb hml hown hE hK (hN _ _ hS) hP hD (v_choose_5 l D dA H.size h ad ta t x r w o tm v (show t.cN ≤ 65536 from by omega) (show r * t.wi + w < t.cN from by omega) (show r < 256 from by omega) (show o < 256 from by omega) (show r * x.awi + w < x.bN from by omega) (show x.bN ≤ 65536 from by omega) (show x.bO (r * x.awi + w) < 256 from by omega)) (q0 := 42) rfl rfl w1520 w1519 w1521 w1522 w846 rfl rfl ⟨⟨by decide, by decide⟩, rfl⟩ ⟨(Nat.le_of_ble_eq_true rfl), (Nat.le_of_ble_eq_true rfl)⟩ rfl hl.1 rfl (Nat.le_of_ble_eq_true rfl) d_A_meet_71 ⟨(Nat.le_of_ble_eq_true rfl), (Nat.le_of_ble_eq_true rfl)⟩) hP hD hS hA (fun u4 H locs hp9 hP hD hS => ?_)
  obtain ⟨y5, z6⟩ := u4
  have hP : va_P D vwCl (TbW dA ta y5 ++ (VW dA h ad z6)) H := hP
  have hD : va_D A (TbW dA ta y5 ++ (VW dA h ad z6)) := hD
  obtain ⟨f_e_7, f_e2_8⟩ := hp9
  refine lv_goto hx hb d_A_meet_74 (tgt := 102) rfl ?_
  refine lv_aload_n hx hb d_A_meet_102 rfl (lv_at hl 2 rfl) ?_
  refine gF (v := .ref (ad 27)) hx hb hown hE hK hP 42 rfl rfl layA 3 (by decide) w801 rfl d_A_meet_103 ?_
  refine lv_iload_n hx hb d_A_meet_106 rfl (lv_at hl 5 rfl) ?_
  refine lv_iconst (v := 1) hx hb d_A_meet_107 (by decide) ?_
  refine nzstB (v := true) (n := 256) hx hb hK hP hD hS (44) 3 rfl rfl (o) (by omega) (by decide) d_A_meet_108 (fun H locs hP hD hS => ?_)
  have hP : va_P D vwCl (TbW dA ta y5 ++ (VW dA h ad (VS.s_ahb z6 (va_up z6.ahb o true)))) H := hP
  have hD : va_D A (TbW dA ta y5 ++ (VW dA h ad (VS.s_ahb z6 (va_up z6.ahb o true)))) := hD
  refine lv_aload_n hx hb d_A_meet_109 rfl (lv_at hl 2 rfl) ?_
  refine gF (v := .ref (ad 28)) hx hb hown hE hK hP 42 rfl rfl layA 4 (by decide) w802 rfl d_A_meet_110 ?_
  refine lv_iload_n hx hb d_A_meet_113 rfl (lv_at hl 5 rfl) ?_
  refine lv_lload hx hb d_A_meet_114 (lv_at hl 7 rfl) ?_
  refine nlst (n := 256) hx hb hK hP hD hS (45) 2 rfl rfl (o) (by omega) (by decide) d_A_meet_116 (fun H locs hP hD hS => ?_)
  have hP : va_P D vwCl (TbW dA ta y5 ++ (VW dA h ad (VS.s_abf (VS.s_ahb z6 (va_up z6.ahb o true)) (va_up z6.abf o v)))) H := hP
  have hD : va_D A (TbW dA ta y5 ++ (VW dA h ad (VS.s_abf (VS.s_ahb z6 (va_up z6.ahb o true)) (va_up z6.abf o v)))) := hD
  exact rfV hx hb hr hlk hS (⟨y5, VS.s_abf (VS.s_ahb z6 (va_up z6.ahb o true)) (va_up z6.abf o v)⟩) ⟨by rw [mtT_4 (by decide) (by decide), f_e_7]; rfl, by rw [meX_4 (by decide)]; exact congrArg (fun q => mbX q o v) f_e2_8⟩ hP hD (Nat.le_of_ble_eq_true rfl) (Nat.le_of_ble_eq_true rfl) d_A_meet_117
theorem d_A_meet_28 : decode prog_2_method_9_code 28 = .ok (.aload_n 0, 1) := by decide +kernel
theorem d_A_meet_29 : decode prog_2_method_9_code 29 = .ok (.aload_n 2, 1) := by decide +kernel
theorem d_A_meet_30 : decode prog_2_method_9_code 30 = .ok (.iload 9, 2) := by decide +kernel
theorem d_A_meet_32 : decode prog_2_method_9_code 32 = .ok (.iload 8, 2) := by decide +kernel
theorem d_A_meet_34 : decode prog_2_method_9_code 34 = .ok (.iload_n 3, 1) := by decide +kernel
theorem d_A_meet_35 : decode prog_2_method_9_code 35 = .ok (.lload 6, 2) := by decide +kernel
theorem d_A_meet_37 : decode prog_2_method_9_code 37 = .ok (.invokevirtual 200, 3) := by decide +kernel
theorem d_A_meet_40 : decode prog_2_method_9_code 40 = .ok (.goto 62, 3) := by decide +kernel
theorem w1523 : Cond.methodLink "SeriesVault$Answers" 200 ⟨"SeriesVault$Answers", "grow", "(LSeriesVault$Table;IIIJ)V"⟩ ∈ aW := aw_of (tb_8 (List.mem_of_getElem? (i := 6) rfl)) rfl
theorem w1524 : Cond.code ⟨"SeriesVault$Answers", "grow", "(LSeriesVault$Table;IIIJ)V"⟩ prog_2_method_11_code 9 none ∈ aW := aw_of (tb_8 (List.mem_of_getElem? (i := 9) rfl)) rfl
theorem w1525 : Cond.instanceMethod ⟨"SeriesVault$Answers", "grow", "(LSeriesVault$Table;IIIJ)V"⟩ ∈ aW := aw_of (tb_8 (List.mem_of_getElem? (i := 8) rfl)) rfl
theorem w1526 : Cond.selects "SeriesVault$Answers" ⟨"SeriesVault$Answers", "grow", "(LSeriesVault$Table;IIIJ)V"⟩ ⟨"SeriesVault$Answers", "grow", "(LSeriesVault$Table;IIIJ)V"⟩ ∈ aW := aw_pr (List.mem_map.mpr ⟨_, pv_4 (List.mem_of_getElem? (i := 11) rfl), rfl⟩) rfl
set_option maxHeartbeats 4000000 in
set_option maxRecDepth 100000 in
theorem v_meet_6 (l : Launch) (D : va_G) (dA : Nat → ClassId) (sz : Nat) (h : Nat) (ad : Nat → Nat) (ta : Nat → Nat) (t : TB) (x : VS) (o : Nat) (tm : Int64) (v : Int64) (r : Nat) (w : Nat) (hwi : x.awi ≤ 64) (hw : woA x.afr x.awd x.awi tm = nI w) (hw2 : w < x.awi) (hro : x.aro o = nI r) (hcN : t.cN ≤ 65536) (h1 : r * t.wi + w < t.cN) (h2 : r < 256) (h3 : o < 256) (h4 : r * x.awi + w < x.bN) (h5 : x.bN ≤ 65536) (h6 : x.bO (r * x.awi + w) < 256) : Met l ⟨"SeriesVault$Answers", "meet", "(ILSeriesVault$Table;IJJ)V"⟩ [Cond.code ⟨"SeriesVault$Answers", "meet", "(ILSeriesVault$Table;IJJ)V"⟩ prog_2_method_9_code 10 none] { frames := 4, cells := 0, slots := 0, locals := 300 } (pC D dA [.ref (ad 24), .int 6, .ref (ta 0), .int (nI o), .long tm, .long v] (TbW dA ta t ++ (VW dA h ad x)) sz) (va_Qv (fun (u9 : TB × VS) => u9.1 = mtT 6 t x r w o tm v ∧ u9.2 = meX 6 t x r w o tm v) (fun (u9 : TB × VS) t9 => bW D (va_A (TbW dA ta t ++ (VW dA h ad x)) sz) (TbW dA ta u9.1 ++ (VW dA h ad u9.2)) t9) (va_A (TbW dA ta t ++ (VW dA h ad x)) sz)) 0 0 (va_A (TbW dA ta t ++ (VW dA h ad x)) sz) := by
  refine mkC (y := ⟨"SeriesVault$Answers", "meet", "(ILSeriesVault$Table;IJJ)V"⟩) (cc := prog_2_method_9_code) (maxL := 10) (av := [.ref (ad 24), .int 6, .ref (ta 0), .int (nI o), .long tm, .long v]) (ws := TbW dA ta t ++ (VW dA h ad x)) (sz := sz) (Qc := fun A => va_Qv (fun (u9 : TB × VS) => u9.1 = mtT 6 t x r w o tm v ∧ u9.2 = meX 6 t x r w o tm v) (fun (u9 : TB × VS) t9 => bW D A (TbW dA ta u9.1 ++ (VW dA h ad u9.2)) t9) A) (by decide) (Nat.le_of_ble_eq_true rfl) ?_
  intro A p e s m below meth c ls hsz hB
  obtain ⟨hx, hb, hr, hml, hown, hin, hlk, hE, hK, hP, hD, hS, hA, hN, hl⟩ := hB
  have hown : s.vm.findClass "SeriesVault$Answers" = some m.cls := hown
  have hl : lv_has ls 10 [(0, .ref (ad 24)), (1, .int 6), (2, .ref (ta 0)), (3, .int (nI o)), (4, .long tm), (6, .long v)] := hl
  obtain ⟨H, hH⟩ : ∃ z, z = s.heap := ⟨_, rfl⟩
  have hP : va_P D vwCl (TbW dA ta t ++ (VW dA h ad x)) H := by rw [hH]; exact hP
  have hS : va_S A s.heap H [] := by rw [hH]; exact hS
  rw [← hH]
  refine lv_aload_n hx hb d_A_meet_0 rfl (lv_at hl 0 rfl) ?_
  refine lv_lload hx hb d_A_meet_1 (lv_at hl 4 rfl) ?_
  have hPc : va_P D vwCl (VW dA h ad x) H := spP (wr := TbW dA ta t) hP
  have hDc : va_D A (VW dA h ad x) := spD (wr := TbW dA ta t) hD
  refine jkI (wr := TbW dA ta t) (rnV (As := [.long tm]) (rest := []) hx hb hml hown hE hK (hN _ _ hS) hPc hDc (v_windowOf l D dA H.size h ad x tm (show x.awi ≤ 64 from by omega)) (q0 := 37) rfl rfl w1513 w1512 w1514 w1515 w846 rfl rfl ⟨⟨by decide, by decide⟩, rfl⟩ ⟨(Nat.le_of_ble_eq_true rfl), (Nat.le_of_ble_eq_true rfl)⟩ rfl hl.1 rfl (Nat.le_of_ble_eq_true rfl) d_A_meet_3 ⟨(Nat.le_of_ble_eq_true rfl), (Nat.le_of_ble_eq_true rfl)⟩) hP hD hS hA (fun r1 u2 H locs hp9 hP hD hS => ?_)
  have hP : va_P D vwCl (TbW dA ta t ++ (VW dA h ad x)) H := hP
  have hD : va_D A (TbW dA ta t ++ (VW dA h ad x)) := hD
  replace hp9 : woA x.afr x.awd x.awi tm = r1 := Eq.symm hp9
  subst hp9
  refine tpi (y := nI w) hw ?_
  refine lv_istore hx hb d_A_meet_6 hl (by decide) rfl (fun ls hl => ?_)
  have hl : lv_has ls 10 [(8, .int (nI w)), (0, .ref (ad 24)), (1, .int 6), (2, .ref (ta 0)), (3, .int (nI o)), (4, .long tm), (6, .long v)] := hl
  refine lv_aload_n hx hb d_A_meet_8 rfl (lv_at hl 1 rfl) ?_
  refine gF (v := .ref (ad 26)) hx hb hown hE hK hP 42 rfl rfl layA 2 (by decide) w800 rfl d_A_meet_9 ?_
  refine lv_iload_n hx hb d_A_meet_12 rfl (lv_at hl 4 rfl) ?_
  refine nild (f := x.aro) (n := 256) hx hb hK hP (43) 1 rfl rfl (o) (by omega) (by decide) d_A_meet_13 ?_
  refine tpi (y := (nI r)) hro ?_
  refine lv_istore hx hb d_A_meet_14 hl (by decide) rfl (fun ls hl => ?_)
  have hl : lv_has ls 10 [(9, .int (nI r)), (8, .int (nI w)), (0, .ref (ad 24)), (1, .int 6), (2, .ref (ta 0)), (3, .int (nI o)), (4, .long tm), (6, .long v)] := hl
  refine lv_iload hx hb d_A_meet_16 (lv_at hl 1 rfl) ?_
  refine lv_iconst (v := (-1)) hx hb d_A_meet_18 (by decide) ?_
  refine lv_icmp_eq hx hb d_A_meet_19 (tgt := 43) rfl (fun h9 => absurd h9 (nI_nm (by omega))) (fun _ => ?_)
  refine lv_iload_n hx hb d_A_meet_22 rfl (lv_at hl 3 rfl) ?_
  refine lv_bipush (v := 6) hx hb d_A_meet_23 (by decide) ?_
  refine lv_icmp_ne hx hb d_A_meet_25 (tgt := 43) rfl (fun h9 => absurd (by decide) h9) (fun _ => ?_)
  refine lv_aload_n hx hb d_A_meet_28 rfl (lv_at hl 2 rfl) ?_
  refine lv_aload_n hx hb d_A_meet_29 rfl (lv_at hl 4 rfl) ?_
  refine lv_iload hx hb d_A_meet_30 (lv_at hl 0 rfl) ?_
  refine lv_iload hx hb d_A_meet_32 (lv_at hl 1 rfl) ?_
  refine lv_iload_n hx hb d_A_meet_34 rfl (lv_at hl 5 rfl) ?_
  refine lv_lload hx hb d_A_meet_35 (lv_at hl 7 rfl) ?_
  refine jkV (wr := []) (rnV (As := [.ref (ta 0), .int (nI r), .int (nI w), .int (nI o), .long v]) (rest := []) hx hb hml hown hE hK (hN _ _ hS) hP hD (v_growth l D dA H.size h ad ta t x r w o v (show t.cN ≤ 65536 from by omega) (show r * t.wi + w < t.cN from by omega) (show r < 256 from by omega) (show o < 256 from by omega)) (q0 := 42) rfl rfl w1524 w1523 w1525 w1526 w846 rfl rfl ⟨⟨by decide, by decide⟩, rfl⟩ ⟨(Nat.le_of_ble_eq_true rfl), (Nat.le_of_ble_eq_true rfl)⟩ rfl hl.1 rfl (Nat.le_of_ble_eq_true rfl) d_A_meet_37 ⟨(Nat.le_of_ble_eq_true rfl), (Nat.le_of_ble_eq_true rfl)⟩) hP hD hS hA (fun u4 H locs hp9 hP hD hS => ?_)
  obtain ⟨y5, h9u⟩ : ∃ z9, z9 = u4 := ⟨_, rfl⟩
  subst h9u
  have hP : va_P D vwCl (TbW dA ta y5 ++ (VW dA h ad x)) H := hP
  have hD : va_D A (TbW dA ta y5 ++ (VW dA h ad x)) := hD
  have f_e_6 := hp9
  refine lv_goto hx hb d_A_meet_40 (tgt := 102) rfl ?_
  refine lv_aload_n hx hb d_A_meet_102 rfl (lv_at hl 2 rfl) ?_
  refine gF (v := .ref (ad 27)) hx hb hown hE hK hP 42 rfl rfl layA 3 (by decide) w801 rfl d_A_meet_103 ?_
  refine lv_iload_n hx hb d_A_meet_106 rfl (lv_at hl 5 rfl) ?_
  refine lv_iconst (v := 1) hx hb d_A_meet_107 (by decide) ?_
  refine nzstB (v := true) (n := 256) hx hb hK hP hD hS (44) 3 rfl rfl (o) (by omega) (by decide) d_A_meet_108 (fun H locs hP hD hS => ?_)
  have hP : va_P D vwCl (TbW dA ta y5 ++ (VW dA h ad (VS.s_ahb x (va_up x.ahb o true)))) H := hP
  have hD : va_D A (TbW dA ta y5 ++ (VW dA h ad (VS.s_ahb x (va_up x.ahb o true)))) := hD
  refine lv_aload_n hx hb d_A_meet_109 rfl (lv_at hl 2 rfl) ?_
  refine gF (v := .ref (ad 28)) hx hb hown hE hK hP 42 rfl rfl layA 4 (by decide) w802 rfl d_A_meet_110 ?_
  refine lv_iload_n hx hb d_A_meet_113 rfl (lv_at hl 5 rfl) ?_
  refine lv_lload hx hb d_A_meet_114 (lv_at hl 7 rfl) ?_
  refine nlst (n := 256) hx hb hK hP hD hS (45) 2 rfl rfl (o) (by omega) (by decide) d_A_meet_116 (fun H locs hP hD hS => ?_)
  have hP : va_P D vwCl (TbW dA ta y5 ++ (VW dA h ad (VS.s_abf (VS.s_ahb x (va_up x.ahb o true)) (va_up x.abf o v)))) H := hP
  have hD : va_D A (TbW dA ta y5 ++ (VW dA h ad (VS.s_abf (VS.s_ahb x (va_up x.ahb o true)) (va_up x.abf o v)))) := hD
  exact rfV hx hb hr hlk hS (⟨y5, VS.s_abf (VS.s_ahb x (va_up x.ahb o true)) (va_up x.abf o v)⟩) ⟨by rw [mtT_6 rfl, f_e_6], (meX_0 (by decide)).symm⟩ hP hD (Nat.le_of_ble_eq_true rfl) (Nat.le_of_ble_eq_true rfl) d_A_meet_117
set_option maxHeartbeats 4000000 in
set_option maxRecDepth 100000 in
theorem v_meet_n (l : Launch) (D : va_G) (dA : Nat → ClassId) (sz : Nat) (h : Nat) (ad : Nat → Nat) (ta : Nat → Nat) (t : TB) (x : VS) (fn : Int32) (o : Nat) (tm : Int64) (v : Int64) (hwi : x.awi ≤ 64) (hw : woA x.afr x.awd x.awi tm = (-1)) (h3 : o < 256) : Met l ⟨"SeriesVault$Answers", "meet", "(ILSeriesVault$Table;IJJ)V"⟩ [Cond.code ⟨"SeriesVault$Answers", "meet", "(ILSeriesVault$Table;IJJ)V"⟩ prog_2_method_9_code 10 none] { frames := 2, cells := 0, slots := 0, locals := 24 } (pC D dA [.ref (ad 24), .int fn, .ref (ta 0), .int (nI o), .long tm, .long v] (TbW dA ta t ++ (VW dA h ad x)) sz) (va_Qv (fun (u9 : Unit) => True) (fun (u9 : Unit) t9 => bW D (va_A (TbW dA ta t ++ (VW dA h ad x)) sz) (TbW dA ta t ++ (VW dA h ad (VS.s_abf (VS.s_ahb x (va_up x.ahb o true)) (va_up x.abf o v)))) t9) (va_A (TbW dA ta t ++ (VW dA h ad x)) sz)) 0 0 (va_A (TbW dA ta t ++ (VW dA h ad x)) sz) := by
  refine mkC (y := ⟨"SeriesVault$Answers", "meet", "(ILSeriesVault$Table;IJJ)V"⟩) (cc := prog_2_method_9_code) (maxL := 10) (av := [.ref (ad 24), .int fn, .ref (ta 0), .int (nI o), .long tm, .long v]) (ws := TbW dA ta t ++ (VW dA h ad x)) (sz := sz) (Qc := fun A => va_Qv (fun (u9 : Unit) => True) (fun (u9 : Unit) t9 => bW D A (TbW dA ta t ++ (VW dA h ad (VS.s_abf (VS.s_ahb x (va_up x.ahb o true)) (va_up x.abf o v)))) t9) A) (by decide) (Nat.le_of_ble_eq_true rfl) ?_
  intro A p e s m below meth c ls hsz hB
  obtain ⟨hx, hb, hr, hml, hown, hin, hlk, hE, hK, hP, hD, hS, hA, hN, hl⟩ := hB
  have hown : s.vm.findClass "SeriesVault$Answers" = some m.cls := hown
  have hl : lv_has ls 10 [(0, .ref (ad 24)), (1, .int fn), (2, .ref (ta 0)), (3, .int (nI o)), (4, .long tm), (6, .long v)] := hl
  obtain ⟨H, hH⟩ : ∃ z, z = s.heap := ⟨_, rfl⟩
  have hP : va_P D vwCl (TbW dA ta t ++ (VW dA h ad x)) H := by rw [hH]; exact hP
  have hS : va_S A s.heap H [] := by rw [hH]; exact hS
  rw [← hH]
  refine lv_aload_n hx hb d_A_meet_0 rfl (lv_at hl 0 rfl) ?_
  refine lv_lload hx hb d_A_meet_1 (lv_at hl 4 rfl) ?_
  have hPc : va_P D vwCl (VW dA h ad x) H := spP (wr := TbW dA ta t) hP
  have hDc : va_D A (VW dA h ad x) := spD (wr := TbW dA ta t) hD
  refine jkI (wr := TbW dA ta t) (rnV (As := [.long tm]) (rest := []) hx hb hml hown hE hK (hN _ _ hS) hPc hDc (v_windowOf l D dA H.size h ad x tm (show x.awi ≤ 64 from by omega)) (q0 := 37) rfl rfl w1513 w1512 w1514 w1515 w846 rfl rfl ⟨⟨by decide, by decide⟩, rfl⟩ ⟨(Nat.le_of_ble_eq_true rfl), (Nat.le_of_ble_eq_true rfl)⟩ rfl hl.1 rfl (Nat.le_of_ble_eq_true rfl) d_A_meet_3 ⟨(Nat.le_of_ble_eq_true rfl), (Nat.le_of_ble_eq_true rfl)⟩) hP hD hS hA (fun r1 u2 H locs hp9 hP hD hS => ?_)
  have hP : va_P D vwCl (TbW dA ta t ++ (VW dA h ad x)) H := hP
  have hD : va_D A (TbW dA ta t ++ (VW dA h ad x)) := hD
  replace hp9 : woA x.afr x.awd x.awi tm = r1 := Eq.symm hp9
  subst hp9
  refine tpi (y := (-1)) hw ?_
  refine lv_istore hx hb d_A_meet_6 hl (by decide) rfl (fun ls hl => ?_)
  have hl : lv_has ls 10 [(8, .int (-1)), (0, .ref (ad 24)), (1, .int fn), (2, .ref (ta 0)), (3, .int (nI o)), (4, .long tm), (6, .long v)] := hl
  refine lv_aload_n hx hb d_A_meet_8 rfl (lv_at hl 1 rfl) ?_
  refine gF (v := .ref (ad 26)) hx hb hown hE hK hP 42 rfl rfl layA 2 (by decide) w800 rfl d_A_meet_9 ?_
  refine lv_iload_n hx hb d_A_meet_12 rfl (lv_at hl 4 rfl) ?_
  refine nild (f := x.aro) (n := 256) hx hb hK hP (43) 1 rfl rfl (o) (by omega) (by decide) d_A_meet_13 ?_
  refine lv_istore hx hb d_A_meet_14 hl (by decide) rfl (fun ls hl => ?_)
  have hl : lv_has ls 10 [(9, .int (x.aro o)), (8, .int (-1)), (0, .ref (ad 24)), (1, .int fn), (2, .ref (ta 0)), (3, .int (nI o)), (4, .long tm), (6, .long v)] := hl
  refine lv_iload hx hb d_A_meet_16 (lv_at hl 1 rfl) ?_
  refine lv_iconst (v := (-1)) hx hb d_A_meet_18 (by decide) ?_
  refine lv_icmp_eq hx hb d_A_meet_19 (tgt := 43) rfl (fun _ => ?_) (fun h9 => absurd rfl h9)
  refine lv_iload hx hb d_A_meet_43 (lv_at hl 1 rfl) ?_
  refine lv_iconst (v := (-1)) hx hb d_A_meet_45 (by decide) ?_
  refine lv_icmp_eq hx hb d_A_meet_46 (tgt := 77) rfl (fun _ => ?_) (fun h9 => absurd rfl h9)
  refine lv_iload hx hb d_A_meet_77 (lv_at hl 1 rfl) ?_
  refine lv_iconst (v := (-1)) hx hb d_A_meet_79 (by decide) ?_
  refine lv_icmp_eq hx hb d_A_meet_80 (tgt := 102) rfl (fun _ => ?_) (fun h9 => absurd rfl h9)
  refine lv_aload_n hx hb d_A_meet_102 rfl (lv_at hl 2 rfl) ?_
  refine gF (v := .ref (ad 27)) hx hb hown hE hK hP 42 rfl rfl layA 3 (by decide) w801 rfl d_A_meet_103 ?_
  refine lv_iload_n hx hb d_A_meet_106 rfl (lv_at hl 5 rfl) ?_
  refine lv_iconst (v := 1) hx hb d_A_meet_107 (by decide) ?_
  refine nzstB (v := true) (n := 256) hx hb hK hP hD hS (44) 3 rfl rfl (o) (by omega) (by decide) d_A_meet_108 (fun H locs hP hD hS => ?_)
  have hP : va_P D vwCl (TbW dA ta t ++ (VW dA h ad (VS.s_ahb x (va_up x.ahb o true)))) H := hP
  have hD : va_D A (TbW dA ta t ++ (VW dA h ad (VS.s_ahb x (va_up x.ahb o true)))) := hD
  refine lv_aload_n hx hb d_A_meet_109 rfl (lv_at hl 2 rfl) ?_
  refine gF (v := .ref (ad 28)) hx hb hown hE hK hP 42 rfl rfl layA 4 (by decide) w802 rfl d_A_meet_110 ?_
  refine lv_iload_n hx hb d_A_meet_113 rfl (lv_at hl 5 rfl) ?_
  refine lv_lload hx hb d_A_meet_114 (lv_at hl 7 rfl) ?_
  refine nlst (n := 256) hx hb hK hP hD hS (45) 2 rfl rfl (o) (by omega) (by decide) d_A_meet_116 (fun H locs hP hD hS => ?_)
  have hP : va_P D vwCl (TbW dA ta t ++ (VW dA h ad (VS.s_abf (VS.s_ahb x (va_up x.ahb o true)) (va_up x.abf o v)))) H := hP
  have hD : va_D A (TbW dA ta t ++ (VW dA h ad (VS.s_abf (VS.s_ahb x (va_up x.ahb o true)) (va_up x.abf o v)))) := hD
  exact rfV hx hb hr hlk hS () trivial hP hD (Nat.le_of_ble_eq_true rfl) (Nat.le_of_ble_eq_true rfl) d_A_meet_117
theorem v_meet (l : Launch) (D : va_G) (dA : Nat → ClassId) (sz : Nat) (h : Nat) (ad : Nat → Nat) (ta : Nat → Nat) (t : TB) (x : VS) (fn : Int32) (o : Nat) (tm : Int64) (v : Int64) (r : Nat) (w : Nat) (hwi : x.awi ≤ 64) (hw : woA x.afr x.awd x.awi tm = nI w) (hw2 : w < x.awi) (hro : x.aro o = nI r) (hcN : t.cN ≤ 65536) (h1 : r * t.wi + w < t.cN) (h2 : r < 256) (h3 : o < 256) (h4 : r * x.awi + w < x.bN) (h5 : x.bN ≤ 65536) (h6 : x.bO (r * x.awi + w) < 256) (hfn : isFn fn) : Met l ⟨"SeriesVault$Answers", "meet", "(ILSeriesVault$Table;IJJ)V"⟩ [Cond.code ⟨"SeriesVault$Answers", "meet", "(ILSeriesVault$Table;IJJ)V"⟩ prog_2_method_9_code 10 none] { frames := 4, cells := 0, slots := 0, locals := 300 } (pC D dA [.ref (ad 24), .int fn, .ref (ta 0), .int (nI o), .long tm, .long v] (TbW dA ta t ++ (VW dA h ad x)) sz) (va_Qv (fun (u9 : TB × VS) => u9.1 = mtT fn t x r w o tm v ∧ u9.2 = meX fn t x r w o tm v) (fun (u9 : TB × VS) t9 => bW D (va_A (TbW dA ta t ++ (VW dA h ad x)) sz) (TbW dA ta u9.1 ++ (VW dA h ad u9.2)) t9) (va_A (TbW dA ta t ++ (VW dA h ad x)) sz)) 0 0 (va_A (TbW dA ta t ++ (VW dA h ad x)) sz) := by
  rcases hfn with h | h | h | h | h | h | h <;> subst h
  · exact v_meet_0 l D dA sz _ ad ta t x o tm v r w hwi hw hw2 hro hcN h1 h2 h3 h4 h5 h6
  · exact v_meet_1 l D dA sz _ ad ta t x o tm v r w hwi hw hw2 hro hcN h1 h2 h3 h4 h5 h6
  · exact v_meet_2 l D dA sz _ ad ta t x o tm v r w hwi hw hw2 hro hcN h1 h2 h3 h4 h5 h6
  · exact v_meet_3 l D dA sz _ ad ta t x o tm v r w hwi hw hw2 hro hcN h1 h2 h3 h4 h5 h6
  · exact v_meet_4 l D dA sz _ ad ta t x o tm v r w hwi hw hw2 hro hcN h1 h2 h3 h4 h5 h6
  · exact v_meet_5 l D dA sz _ ad ta t x o tm v r w hwi hw hw2 hro hcN h1 h2 h3 h4 h5 h6
  · exact v_meet_6 l D dA sz _ ad ta t x o tm v r w hwi hw hw2 hro hcN h1 h2 h3 h4 h5 h6
