section
/-! Points met. -/
def woA (fr wd : Int64) (n : Nat) (tm : Int64) : Int32 := if tm < fr then -1 else if 1 ≤ wd then (if lN n ≤ (tm - fr) / wd then -1 else ((tm - fr) / wd).toInt32) else -1
def gaV (fn : Int32) (has : Bool) (u v : Int64) : Int64 := if fn = 0 then u + v else if fn = 1 then u + 1 else if fn = 2 then (if has = true then minL u v else v) else (if has = true then maxL u v else v)
def gwT (t : TB) (hb : Bool) (bf v : Int64) (r w : Nat) : TB := if hb = true then t.pt r w (t.ce (r * t.wi + w) + (if v < bf then v else v - bf)) else t
def btB (fn : Int32) (tm bt : Int64) : Bool := if fn = 4 then decide (tm < bt) else decide (bt < tm)
def chsB (fn : Int32) (has : Bool) (tm bt : Int64) (o bo : Nat) : Bool := !has || (btB fn tm bt || (decide (tm = bt) && decide (o < bo)))
theorem chsB_1 {fn : Int32} {has : Bool} {tm bt : Int64} {o bo : Nat} (h : has = false) : chsB fn has tm bt o bo = true := by unfold chsB; rw [h]; rfl
theorem chsB_2 {fn : Int32} {has : Bool} {tm bt : Int64} {o bo : Nat} (h : btB fn tm bt = true) : chsB fn has tm bt o bo = true := by unfold chsB; rw [h, Bool.true_or, Bool.or_true]
theorem chsB_3 {fn : Int32} {has : Bool} {tm bt : Int64} {o bo : Nat} (h1 : tm = bt) (h2 : o < bo) : chsB fn has tm bt o bo = true := by unfold chsB; rw [decide_eq_true h1, decide_eq_true h2, Bool.and_self, Bool.or_true, Bool.or_true]
theorem chsB_4 {fn : Int32} {has : Bool} {tm bt : Int64} {o bo : Nat} (h0 : has = true) (h1 : btB fn tm bt = false) (h2 : ¬ tm = bt ∨ ¬ o < bo) : chsB fn has tm bt o bo = false := by
  unfold chsB
  rw [h0, h1]
  rcases h2 with h | h
  · rw [decide_eq_false h]; rfl
  · rw [decide_eq_false h, Bool.and_false]; rfl
def chX (x : VS) (g o : Nat) (tm : Int64) : VS := VS.s_bO (VS.s_bT x (va_up x.bT g tm)) (va_up x.bO g o)
theorem d_A_windowOf_0 : decode prog_2_method_10_code 0 = .ok (.lload_n 1, 1) := by decide +kernel
theorem d_A_windowOf_1 : decode prog_2_method_10_code 1 = .ok (.aload_n 0, 1) := by decide +kernel
theorem d_A_windowOf_2 : decode prog_2_method_10_code 2 = .ok (.getfield 47, 3) := by decide +kernel
theorem d_A_windowOf_5 : decode prog_2_method_10_code 5 = .ok (.lcmp, 1) := by decide +kernel
theorem d_A_windowOf_6 : decode prog_2_method_10_code 6 = .ok (.ifCond .lt 12, 3) := by decide +kernel
theorem d_A_windowOf_18 : decode prog_2_method_10_code 18 = .ok (.iconst (-1), 1) := by decide +kernel
theorem d_A_windowOf_19 : decode prog_2_method_10_code 19 = .ok (.ireturn, 1) := by decide +kernel
theorem d_A_windowOf_9 : decode prog_2_method_10_code 9 = .ok (.aload_n 0, 1) := by decide +kernel
theorem d_A_windowOf_10 : decode prog_2_method_10_code 10 = .ok (.getfield 51, 3) := by decide +kernel
theorem d_A_windowOf_13 : decode prog_2_method_10_code 13 = .ok (.lconst 1, 1) := by decide +kernel
theorem d_A_windowOf_14 : decode prog_2_method_10_code 14 = .ok (.lcmp, 1) := by decide +kernel
theorem d_A_windowOf_15 : decode prog_2_method_10_code 15 = .ok (.ifCond .ge 5, 3) := by decide +kernel
theorem d_A_windowOf_20 : decode prog_2_method_10_code 20 = .ok (.lload_n 1, 1) := by decide +kernel
theorem d_A_windowOf_21 : decode prog_2_method_10_code 21 = .ok (.aload_n 0, 1) := by decide +kernel
theorem d_A_windowOf_22 : decode prog_2_method_10_code 22 = .ok (.getfield 47, 3) := by decide +kernel
theorem d_A_windowOf_25 : decode prog_2_method_10_code 25 = .ok (.lsub, 1) := by decide +kernel
theorem d_A_windowOf_26 : decode prog_2_method_10_code 26 = .ok (.aload_n 0, 1) := by decide +kernel
theorem d_A_windowOf_27 : decode prog_2_method_10_code 27 = .ok (.getfield 51, 3) := by decide +kernel
theorem d_A_windowOf_30 : decode prog_2_method_10_code 30 = .ok (.ldiv, 1) := by decide +kernel
theorem d_A_windowOf_31 : decode prog_2_method_10_code 31 = .ok (.lstore_n 3, 1) := by decide +kernel
theorem d_A_windowOf_32 : decode prog_2_method_10_code 32 = .ok (.lload_n 3, 1) := by decide +kernel
theorem d_A_windowOf_33 : decode prog_2_method_10_code 33 = .ok (.aload_n 0, 1) := by decide +kernel
theorem d_A_windowOf_34 : decode prog_2_method_10_code 34 = .ok (.getfield 54, 3) := by decide +kernel
theorem d_A_windowOf_37 : decode prog_2_method_10_code 37 = .ok (.i2l, 1) := by decide +kernel
theorem d_A_windowOf_38 : decode prog_2_method_10_code 38 = .ok (.lcmp, 1) := by decide +kernel
theorem d_A_windowOf_39 : decode prog_2_method_10_code 39 = .ok (.ifCond .ge 8, 3) := by decide +kernel
theorem d_A_windowOf_47 : decode prog_2_method_10_code 47 = .ok (.iconst (-1), 1) := by decide +kernel
theorem d_A_windowOf_48 : decode prog_2_method_10_code 48 = .ok (.ireturn, 1) := by decide +kernel
theorem d_A_windowOf_42 : decode prog_2_method_10_code 42 = .ok (.lload_n 3, 1) := by decide +kernel
theorem d_A_windowOf_43 : decode prog_2_method_10_code 43 = .ok (.l2i, 1) := by decide +kernel
theorem d_A_windowOf_44 : decode prog_2_method_10_code 44 = .ok (.goto 4, 3) := by decide +kernel
theorem w1501 : Cond.fieldLink "SeriesVault$Answers" 47 "SeriesVault$Answers" "from" "J" ∈ aW := aw_of (tb_2 (List.mem_of_getElem? (i := 156) rfl)) rfl
theorem w1502 : Cond.fieldLink "SeriesVault$Answers" 51 "SeriesVault$Answers" "width" "J" ∈ aW := aw_of (tb_2 (List.mem_of_getElem? (i := 157) rfl)) rfl
theorem w1503 : Cond.fieldLink "SeriesVault$Answers" 54 "SeriesVault$Answers" "windows" "I" ∈ aW := aw_of (tb_2 (List.mem_of_getElem? (i := 158) rfl)) rfl
set_option maxHeartbeats 4000000 in
set_option maxRecDepth 100000 in
theorem v_windowOf (l : Launch) (D : va_G) (dA : Nat → ClassId) (sz : Nat) (h : Nat) (ad : Nat → Nat) (x : VS) (tm : Int64) (hwi : x.awi ≤ 64) : Met l ⟨"SeriesVault$Answers", "windowOf", "(J)I"⟩ [Cond.code ⟨"SeriesVault$Answers", "windowOf", "(J)I"⟩ prog_2_method_10_code 5 (some FieldType.int)] { frames := 1, cells := 0, slots := 0, locals := 0 } (pC D dA [.ref (ad 24), .long tm] (VW dA h ad x) sz) (va_Qi (fun (r9 : Int32) (u9 : Unit) => r9 = woA x.afr x.awd x.awi tm) (fun (u9 : Unit) t9 => bW D (va_A (VW dA h ad x) sz) (VW dA h ad x) t9) (va_A (VW dA h ad x) sz)) 0 0 (va_A (VW dA h ad x) sz) := by
  refine mkC (y := ⟨"SeriesVault$Answers", "windowOf", "(J)I"⟩) (cc := prog_2_method_10_code) (maxL := 5) (av := [.ref (ad 24), .long tm]) (ws := VW dA h ad x) (sz := sz) (Qc := fun A => va_Qi (fun (r9 : Int32) (u9 : Unit) => r9 = woA x.afr x.awd x.awi tm) (fun (u9 : Unit) t9 => bW D A (VW dA h ad x) t9) A) (by decide) (Nat.le_of_ble_eq_true rfl) ?_
  intro A p e s m below meth c ls hsz hB
  obtain ⟨hx, hb, hr, hml, hown, hin, hlk, hE, hK, hP, hD, hS, hA, hN, hl⟩ := hB
  have hown : s.vm.findClass "SeriesVault$Answers" = some m.cls := hown
  have hl : lv_has ls 5 [(0, .ref (ad 24)), (1, .long tm)] := hl
  obtain ⟨H, hH⟩ : ∃ z, z = s.heap := ⟨_, rfl⟩
  have hP : va_P D vwCl (VW dA h ad x) H := by rw [hH]; exact hP
  have hS : va_S A s.heap H [] := by rw [hH]; exact hS
  rw [← hH]
  refine lv_lload_n hx hb d_A_windowOf_0 rfl (lv_at hl 1 rfl) ?_
  refine lv_aload_n hx hb d_A_windowOf_1 rfl (lv_at hl 0 rfl) ?_
  refine gF (v := .long x.afr) hx hb hown hE hK hP 37 rfl rfl layA 7 (by decide) w1501 rfl d_A_windowOf_2 ?_
  refine W.lcmp hx hb d_A_windowOf_5 ?_
  refine lv_if_lt hx hb d_A_windowOf_6 (tgt := 18) rfl (fun g1 => ?_) (fun g1 => ?_)
  · have g1 := (lg_cmp_lt _ _).mp g1
    refine lv_iconst (v := (-1)) hx hb d_A_windowOf_18 (by decide) ?_
    exact rfI hx hb hr hlk hS () (by unfold woA; rw [if_pos g1]) hP hD (Nat.le_of_ble_eq_true rfl) (Nat.le_of_ble_eq_true rfl) d_A_windowOf_19
  · have g1 := mt (lg_cmp_lt _ _).mpr g1
    refine lv_aload_n hx hb d_A_windowOf_9 rfl (lv_at hl 0 rfl) ?_
    refine gF (v := .long x.awd) hx hb hown hE hK hP 37 rfl rfl layA 8 (by decide) w1502 rfl d_A_windowOf_10 ?_
    refine lv_lconst (v := 1) hx hb d_A_windowOf_13 (by decide) ?_
    refine W.lcmp hx hb d_A_windowOf_14 ?_
    refine lv_if_ge hx hb d_A_windowOf_15 (tgt := 20) rfl (fun g2 => ?_) (fun g2 => ?_)
    · have g2 := (lg_cmp_ge _ _).mp g2
      refine lv_lload_n hx hb d_A_windowOf_20 rfl (lv_at hl 1 rfl) ?_
      refine lv_aload_n hx hb d_A_windowOf_21 rfl (lv_at hl 0 rfl) ?_
      refine gF (v := .long x.afr) hx hb hown hE hK hP 37 rfl rfl layA 7 (by decide) w1501 rfl d_A_windowOf_22 ?_
      refine lv_lsub hx hb d_A_windowOf_25 ?_
      refine lv_aload_n hx hb d_A_windowOf_26 rfl (lv_at hl 0 rfl) ?_
      refine gF (v := .long x.awd) hx hb hown hE hK hP 37 rfl rfl layA 8 (by decide) w1502 rfl d_A_windowOf_27 ?_
      refine lv_ldiv hx hb d_A_windowOf_30 (fun h9 => absurd (show (1 : Int64) ≤ 0 from h9 ▸ g2) (by decide)) ?_
      refine lv_lstore_n hx hb d_A_windowOf_31 rfl hl (by decide) rfl (fun ls hl => ?_)
      have hl : lv_has ls 5 [(3, .long ((tm - x.afr) / x.awd)), (0, .ref (ad 24)), (1, .long tm)] := hl
      refine lv_lload_n hx hb d_A_windowOf_32 rfl (lv_at hl 0 rfl) ?_
      refine lv_aload_n hx hb d_A_windowOf_33 rfl (lv_at hl 1 rfl) ?_
      refine gF (v := .int (nI x.awi)) hx hb hown hE hK hP 37 rfl rfl layA 9 (by decide) w1503 rfl d_A_windowOf_34 ?_
      refine lv_i2l (v := lN (x.awi)) hx hb d_A_windowOf_37 (nI_l (by omega)) ?_
      refine W.lcmp hx hb d_A_windowOf_38 ?_
      refine lv_if_ge hx hb d_A_windowOf_39 (tgt := 47) rfl (fun g3 => ?_) (fun g3 => ?_)
      · have g3 := (lg_cmp_ge _ _).mp g3
        refine lv_iconst (v := (-1)) hx hb d_A_windowOf_47 (by decide) ?_
        exact rfI hx hb hr hlk hS () (by unfold woA; rw [if_neg g1, if_pos g2, if_pos g3]) hP hD (Nat.le_of_ble_eq_true rfl) (Nat.le_of_ble_eq_true rfl) d_A_windowOf_48
      · have g3 := mt (lg_cmp_ge _ _).mpr g3
        refine lv_lload_n hx hb d_A_windowOf_42 rfl (lv_at hl 0 rfl) ?_
        refine lv_l2i hx hb d_A_windowOf_43 rfl ?_
        refine lv_goto hx hb d_A_windowOf_44 (tgt := 48) rfl ?_
        exact rfI hx hb hr hlk hS () (by unfold woA; rw [if_neg g1, if_pos g2, if_neg g3]) hP hD (Nat.le_of_ble_eq_true rfl) (Nat.le_of_ble_eq_true rfl) d_A_windowOf_48
    · have g2 := mt (lg_cmp_ge _ _).mpr g2
      refine lv_iconst (v := (-1)) hx hb d_A_windowOf_18 (by decide) ?_
      exact rfI hx hb hr hlk hS () (by unfold woA; rw [if_neg g1, if_neg g2]) hP hD (Nat.le_of_ble_eq_true rfl) (Nat.le_of_ble_eq_true rfl) d_A_windowOf_19
theorem d_A_gathered_0 : decode prog_2_method_13_code 0 = .ok (.aload_n 1, 1) := by decide +kernel
theorem d_A_gathered_1 : decode prog_2_method_13_code 1 = .ok (.iload_n 2, 1) := by decide +kernel
theorem d_A_gathered_2 : decode prog_2_method_13_code 2 = .ok (.iload_n 3, 1) := by decide +kernel
theorem d_A_gathered_3 : decode prog_2_method_13_code 3 = .ok (.invokevirtual 216, 3) := by decide +kernel
theorem d_A_gathered_6 : decode prog_2_method_13_code 6 = .ok (.lstore 6, 2) := by decide +kernel
theorem d_A_gathered_8 : decode prog_2_method_13_code 8 = .ok (.iload_n 0, 1) := by decide +kernel
theorem d_A_gathered_9 : decode prog_2_method_13_code 9 = .ok (.tableswitch 60 0 2 #[27, 33, 38], 27) := by decide +kernel
theorem d_A_gathered_36 : decode prog_2_method_13_code 36 = .ok (.lload 6, 2) := by decide +kernel
theorem d_A_gathered_38 : decode prog_2_method_13_code 38 = .ok (.lload 4, 2) := by decide +kernel
theorem d_A_gathered_40 : decode prog_2_method_13_code 40 = .ok (.ladd, 1) := by decide +kernel
theorem d_A_gathered_41 : decode prog_2_method_13_code 41 = .ok (.lreturn, 1) := by decide +kernel
theorem w1504 : Cond.methodLink "SeriesVault$Answers" 216 ⟨"SeriesVault$Table", "numberAt", "(II)J"⟩ ∈ aW := aw_of (tb_8 (List.mem_of_getElem? (i := 10) rfl)) rfl
set_option maxHeartbeats 4000000 in
set_option maxRecDepth 100000 in
theorem v_gathered_0 (l : Launch) (D : va_G) (dA : Nat → ClassId) (sz : Nat) (ws : va_W) (ta : Nat → Nat) (t : TB) (r : Nat) (w : Nat) (v : Int64) (hcN : t.cN ≤ 65536) (h1 : r * t.wi + w < t.cN) (h2 : r < 256) : Met l ⟨"SeriesVault$Answers", "gathered", "(ILSeriesVault$Table;IIJ)J"⟩ [Cond.code ⟨"SeriesVault$Answers", "gathered", "(ILSeriesVault$Table;IIJ)J"⟩ prog_2_method_13_code 8 (some FieldType.long)] { frames := 2, cells := 0, slots := 0, locals := 22 } (pC D dA [.int 0, .ref (ta 0), .int (nI r), .int (nI w), .long v] (TbW dA ta t ++ (ws)) sz) (va_Ql (fun (r9 : Int64) (u9 : Unit) => r9 = gaV 0 (hasB (t.th r) w) (t.ce (r * t.wi + w)) v) (fun (u9 : Unit) t9 => bW D (va_A (TbW dA ta t ++ (ws)) sz) (TbW dA ta t ++ (ws)) t9) (va_A (TbW dA ta t ++ (ws)) sz)) 0 0 (va_A (TbW dA ta t ++ (ws)) sz) := by
  refine mkC (y := ⟨"SeriesVault$Answers", "gathered", "(ILSeriesVault$Table;IIJ)J"⟩) (cc := prog_2_method_13_code) (maxL := 8) (av := [.int 0, .ref (ta 0), .int (nI r), .int (nI w), .long v]) (ws := TbW dA ta t ++ (ws)) (sz := sz) (Qc := fun A => va_Ql (fun (r9 : Int64) (u9 : Unit) => r9 = gaV 0 (hasB (t.th r) w) (t.ce (r * t.wi + w)) v) (fun (u9 : Unit) t9 => bW D A (TbW dA ta t ++ (ws)) t9) A) (by decide) (Nat.le_of_ble_eq_true rfl) ?_
  intro A p e s m below meth c ls hsz hB
  obtain ⟨hx, hb, hr, hml, hown, hin, hlk, hE, hK, hP, hD, hS, hA, hN, hl⟩ := hB
  have hown : s.vm.findClass "SeriesVault$Answers" = some m.cls := hown
  have hl : lv_has ls 8 [(0, .int 0), (1, .ref (ta 0)), (2, .int (nI r)), (3, .int (nI w)), (4, .long v)] := hl
  obtain ⟨H, hH⟩ : ∃ z, z = s.heap := ⟨_, rfl⟩
  have hP : va_P D vwCl (TbW dA ta t ++ (ws)) H := by rw [hH]; exact hP
  have hS : va_S A s.heap H [] := by rw [hH]; exact hS
  rw [← hH]
  refine lv_aload_n hx hb d_A_gathered_0 rfl (lv_at hl 1 rfl) ?_
  refine lv_iload_n hx hb d_A_gathered_1 rfl (lv_at hl 2 rfl) ?_
  refine lv_iload_n hx hb d_A_gathered_2 rfl (lv_at hl 3 rfl) ?_
  refine jkL (wr := []) (rnV (As := [.int (nI r), .int (nI w)]) (rest := []) hx hb hml hown hE hK (hN _ _ hS) hP hD (v_TnumberAt l D dA H.size ws ta t r w hcN (show r * t.wi + w < t.cN from by omega)) (q0 := 0) rfl rfl w1414 w1504 w1415 w1416 w807 rfl rfl ⟨⟨by decide, by decide⟩, rfl⟩ ⟨(Nat.le_of_ble_eq_true rfl), (Nat.le_of_ble_eq_true rfl)⟩ rfl hl.1 rfl (Nat.le_of_ble_eq_true rfl) d_A_gathered_3 ⟨(Nat.le_of_ble_eq_true rfl), (Nat.le_of_ble_eq_true rfl)⟩) hP hD hS hA (fun r1 u2 H locs hp9 hP hD hS => ?_)
  have hP : va_P D vwCl (TbW dA ta t ++ (ws)) H := hP
  have hD : va_D A (TbW dA ta t ++ (ws)) := hD
  replace hp9 : t.ce (r * t.wi + w) = r1 := Eq.symm hp9
  subst hp9
  refine lv_lstore hx hb d_A_gathered_6 hl (by decide) rfl (fun ls hl => ?_)
  have hl : lv_has ls 8 [(6, .long (t.ce (r * t.wi + w))), (0, .int 0), (1, .ref (ta 0)), (2, .int (nI r)), (3, .int (nI w)), (4, .long v)] := hl
  refine lv_iload_n hx hb d_A_gathered_8 rfl (lv_at hl 1 rfl) ?_
  refine lv_tableIn (x := 0) (off := 27) (tgt := 36) hx hb d_A_gathered_9 (by decide) (by decide) (by decide) rfl ?_
  refine lv_lload hx hb d_A_gathered_36 (lv_at hl 0 rfl) ?_
  refine lv_lload hx hb d_A_gathered_38 (lv_at hl 5 rfl) ?_
  refine lv_ladd hx hb d_A_gathered_40 ?_
  exact rfL hx hb hr hlk hS () rfl hP hD (Nat.le_of_ble_eq_true rfl) (Nat.le_of_ble_eq_true rfl) d_A_gathered_41
theorem d_A_gathered_42 : decode prog_2_method_13_code 42 = .ok (.lload 6, 2) := by decide +kernel
theorem d_A_gathered_44 : decode prog_2_method_13_code 44 = .ok (.lconst 1, 1) := by decide +kernel
theorem d_A_gathered_45 : decode prog_2_method_13_code 45 = .ok (.ladd, 1) := by decide +kernel
theorem d_A_gathered_46 : decode prog_2_method_13_code 46 = .ok (.lreturn, 1) := by decide +kernel
set_option maxHeartbeats 4000000 in
set_option maxRecDepth 100000 in
theorem v_gathered_1 (l : Launch) (D : va_G) (dA : Nat → ClassId) (sz : Nat) (ws : va_W) (ta : Nat → Nat) (t : TB) (r : Nat) (w : Nat) (v : Int64) (hcN : t.cN ≤ 65536) (h1 : r * t.wi + w < t.cN) (h2 : r < 256) : Met l ⟨"SeriesVault$Answers", "gathered", "(ILSeriesVault$Table;IIJ)J"⟩ [Cond.code ⟨"SeriesVault$Answers", "gathered", "(ILSeriesVault$Table;IIJ)J"⟩ prog_2_method_13_code 8 (some FieldType.long)] { frames := 2, cells := 0, slots := 0, locals := 22 } (pC D dA [.int 1, .ref (ta 0), .int (nI r), .int (nI w), .long v] (TbW dA ta t ++ (ws)) sz) (va_Ql (fun (r9 : Int64) (u9 : Unit) => r9 = gaV 1 (hasB (t.th r) w) (t.ce (r * t.wi + w)) v) (fun (u9 : Unit) t9 => bW D (va_A (TbW dA ta t ++ (ws)) sz) (TbW dA ta t ++ (ws)) t9) (va_A (TbW dA ta t ++ (ws)) sz)) 0 0 (va_A (TbW dA ta t ++ (ws)) sz) := by
  refine mkC (y := ⟨"SeriesVault$Answers", "gathered", "(ILSeriesVault$Table;IIJ)J"⟩) (cc := prog_2_method_13_code) (maxL := 8) (av := [.int 1, .ref (ta 0), .int (nI r), .int (nI w), .long v]) (ws := TbW dA ta t ++ (ws)) (sz := sz) (Qc := fun A => va_Ql (fun (r9 : Int64) (u9 : Unit) => r9 = gaV 1 (hasB (t.th r) w) (t.ce (r * t.wi + w)) v) (fun (u9 : Unit) t9 => bW D A (TbW dA ta t ++ (ws)) t9) A) (by decide) (Nat.le_of_ble_eq_true rfl) ?_
  intro A p e s m below meth c ls hsz hB
  obtain ⟨hx, hb, hr, hml, hown, hin, hlk, hE, hK, hP, hD, hS, hA, hN, hl⟩ := hB
  have hown : s.vm.findClass "SeriesVault$Answers" = some m.cls := hown
  have hl : lv_has ls 8 [(0, .int 1), (1, .ref (ta 0)), (2, .int (nI r)), (3, .int (nI w)), (4, .long v)] := hl
  obtain ⟨H, hH⟩ : ∃ z, z = s.heap := ⟨_, rfl⟩
  have hP : va_P D vwCl (TbW dA ta t ++ (ws)) H := by rw [hH]; exact hP
  have hS : va_S A s.heap H [] := by rw [hH]; exact hS
  rw [← hH]
  refine lv_aload_n hx hb d_A_gathered_0 rfl (lv_at hl 1 rfl) ?_
  refine lv_iload_n hx hb d_A_gathered_1 rfl (lv_at hl 2 rfl) ?_
  refine lv_iload_n hx hb d_A_gathered_2 rfl (lv_at hl 3 rfl) ?_
  refine jkL (wr := []) (rnV (As := [.int (nI r), .int (nI w)]) (rest := []) hx hb hml hown hE hK (hN _ _ hS) hP hD (v_TnumberAt l D dA H.size ws ta t r w hcN (show r * t.wi + w < t.cN from by omega)) (q0 := 0) rfl rfl w1414 w1504 w1415 w1416 w807 rfl rfl ⟨⟨by decide, by decide⟩, rfl⟩ ⟨(Nat.le_of_ble_eq_true rfl), (Nat.le_of_ble_eq_true rfl)⟩ rfl hl.1 rfl (Nat.le_of_ble_eq_true rfl) d_A_gathered_3 ⟨(Nat.le_of_ble_eq_true rfl), (Nat.le_of_ble_eq_true rfl)⟩) hP hD hS hA (fun r1 u2 H locs hp9 hP hD hS => ?_)
  have hP : va_P D vwCl (TbW dA ta t ++ (ws)) H := hP
  have hD : va_D A (TbW dA ta t ++ (ws)) := hD
  replace hp9 : t.ce (r * t.wi + w) = r1 := Eq.symm hp9
  subst hp9
  refine lv_lstore hx hb d_A_gathered_6 hl (by decide) rfl (fun ls hl => ?_)
  have hl : lv_has ls 8 [(6, .long (t.ce (r * t.wi + w))), (0, .int 1), (1, .ref (ta 0)), (2, .int (nI r)), (3, .int (nI w)), (4, .long v)] := hl
  refine lv_iload_n hx hb d_A_gathered_8 rfl (lv_at hl 1 rfl) ?_
  refine lv_tableIn (x := 1) (off := 33) (tgt := 42) hx hb d_A_gathered_9 (by decide) (by decide) (by decide) rfl ?_
  refine lv_lload hx hb d_A_gathered_42 (lv_at hl 0 rfl) ?_
  refine lv_lconst (v := 1) hx hb d_A_gathered_44 (by decide) ?_
  refine lv_ladd hx hb d_A_gathered_45 ?_
  exact rfL hx hb hr hlk hS () rfl hP hD (Nat.le_of_ble_eq_true rfl) (Nat.le_of_ble_eq_true rfl) d_A_gathered_46
theorem d_A_gathered_47 : decode prog_2_method_13_code 47 = .ok (.aload_n 1, 1) := by decide +kernel
theorem d_A_gathered_48 : decode prog_2_method_13_code 48 = .ok (.iload_n 2, 1) := by decide +kernel
theorem d_A_gathered_49 : decode prog_2_method_13_code 49 = .ok (.iload_n 3, 1) := by decide +kernel
theorem d_A_gathered_50 : decode prog_2_method_13_code 50 = .ok (.invokevirtual 220, 3) := by decide +kernel
theorem d_A_gathered_53 : decode prog_2_method_13_code 53 = .ok (.ifCond .eq 13, 3) := by decide +kernel
theorem d_A_gathered_66 : decode prog_2_method_13_code 66 = .ok (.lload 4, 2) := by decide +kernel
theorem d_A_gathered_68 : decode prog_2_method_13_code 68 = .ok (.lreturn, 1) := by decide +kernel
theorem d_A_gathered_56 : decode prog_2_method_13_code 56 = .ok (.lload 6, 2) := by decide +kernel
theorem d_A_gathered_58 : decode prog_2_method_13_code 58 = .ok (.lload 4, 2) := by decide +kernel
theorem d_A_gathered_60 : decode prog_2_method_13_code 60 = .ok (.invokestatic 224, 3) := by decide +kernel
theorem d_A_gathered_63 : decode prog_2_method_13_code 63 = .ok (.goto 5, 3) := by decide +kernel
theorem w1505 : Cond.methodLink "SeriesVault$Answers" 220 ⟨"SeriesVault$Table", "has", "(II)Z"⟩ ∈ aW := aw_of (tb_8 (List.mem_of_getElem? (i := 19) rfl)) rfl
theorem w1506 : Cond.code ⟨"SeriesVault$Table", "has", "(II)Z"⟩ prog_11_method_9_code 3 (some FieldType.boolean) ∈ aW := aw_of (tb_8 (List.mem_of_getElem? (i := 22) rfl)) rfl
theorem w1507 : Cond.instanceMethod ⟨"SeriesVault$Table", "has", "(II)Z"⟩ ∈ aW := aw_of (tb_8 (List.mem_of_getElem? (i := 20) rfl)) rfl
theorem w1508 : Cond.selects "SeriesVault$Table" ⟨"SeriesVault$Table", "has", "(II)Z"⟩ ⟨"SeriesVault$Table", "has", "(II)Z"⟩ ∈ aW := aw_of (tb_8 (List.mem_of_getElem? (i := 21) rfl)) rfl
theorem w1509 : Cond.methodLink "SeriesVault$Answers" 224 ⟨"java/lang/Math", "min", "(JJ)J"⟩ ∈ aW := aw_of (tb_8 (List.mem_of_getElem? (i := 26) rfl)) rfl
set_option maxHeartbeats 4000000 in
set_option maxRecDepth 100000 in
theorem v_gathered_2 (l : Launch) (D : va_G) (dA : Nat → ClassId) (sz : Nat) (ws : va_W) (ta : Nat → Nat) (t : TB) (r : Nat) (w : Nat) (v : Int64) (hcN : t.cN ≤ 65536) (h1 : r * t.wi + w < t.cN) (h2 : r < 256) : Met l ⟨"SeriesVault$Answers", "gathered", "(ILSeriesVault$Table;IIJ)J"⟩ [Cond.code ⟨"SeriesVault$Answers", "gathered", "(ILSeriesVault$Table;IIJ)J"⟩ prog_2_method_13_code 8 (some FieldType.long)] { frames := 2, cells := 0, slots := 0, locals := 22 } (pC D dA [.int 2, .ref (ta 0), .int (nI r), .int (nI w), .long v] (TbW dA ta t ++ (ws)) sz) (va_Ql (fun (r9 : Int64) (u9 : Unit) => r9 = gaV 2 (hasB (t.th r) w) (t.ce (r * t.wi + w)) v) (fun (u9 : Unit) t9 => bW D (va_A (TbW dA ta t ++ (ws)) sz) (TbW dA ta t ++ (ws)) t9) (va_A (TbW dA ta t ++ (ws)) sz)) 0 0 (va_A (TbW dA ta t ++ (ws)) sz) := by
  refine mkC (y := ⟨"SeriesVault$Answers", "gathered", "(ILSeriesVault$Table;IIJ)J"⟩) (cc := prog_2_method_13_code) (maxL := 8) (av := [.int 2, .ref (ta 0), .int (nI r), .int (nI w), .long v]) (ws := TbW dA ta t ++ (ws)) (sz := sz) (Qc := fun A => va_Ql (fun (r9 : Int64) (u9 : Unit) => r9 = gaV 2 (hasB (t.th r) w) (t.ce (r * t.wi + w)) v) (fun (u9 : Unit) t9 => bW D A (TbW dA ta t ++ (ws)) t9) A) (by decide) (Nat.le_of_ble_eq_true rfl) ?_
  intro A p e s m below meth c ls hsz hB
  obtain ⟨hx, hb, hr, hml, hown, hin, hlk, hE, hK, hP, hD, hS, hA, hN, hl⟩ := hB
  have hown : s.vm.findClass "SeriesVault$Answers" = some m.cls := hown
  have hl : lv_has ls 8 [(0, .int 2), (1, .ref (ta 0)), (2, .int (nI r)), (3, .int (nI w)), (4, .long v)] := hl
  obtain ⟨H, hH⟩ : ∃ z, z = s.heap := ⟨_, rfl⟩
  have hP : va_P D vwCl (TbW dA ta t ++ (ws)) H := by rw [hH]; exact hP
  have hS : va_S A s.heap H [] := by rw [hH]; exact hS
  rw [← hH]
  refine lv_aload_n hx hb d_A_gathered_0 rfl (lv_at hl 1 rfl) ?_
  refine lv_iload_n hx hb d_A_gathered_1 rfl (lv_at hl 2 rfl) ?_
  refine lv_iload_n hx hb d_A_gathered_2 rfl (lv_at hl 3 rfl) ?_
  refine jkL (wr := []) (rnV (As := [.int (nI r), .int (nI w)]) (rest := []) hx hb hml hown hE hK (hN _ _ hS) hP hD (v_TnumberAt l D dA H.size ws ta t r w hcN (show r * t.wi + w < t.cN from by omega)) (q0 := 0) rfl rfl w1414 w1504 w1415 w1416 w807 rfl rfl ⟨⟨by decide, by decide⟩, rfl⟩ ⟨(Nat.le_of_ble_eq_true rfl), (Nat.le_of_ble_eq_true rfl)⟩ rfl hl.1 rfl (Nat.le_of_ble_eq_true rfl) d_A_gathered_3 ⟨(Nat.le_of_ble_eq_true rfl), (Nat.le_of_ble_eq_true rfl)⟩) hP hD hS hA (fun r1 u2 H locs hp9 hP hD hS => ?_)
  have hP : va_P D vwCl (TbW dA ta t ++ (ws)) H := hP
  have hD : va_D A (TbW dA ta t ++ (ws)) := hD
  replace hp9 : t.ce (r * t.wi + w) = r1 := Eq.symm hp9
  subst hp9
  refine lv_lstore hx hb d_A_gathered_6 hl (by decide) rfl (fun ls hl => ?_)
  have hl : lv_has ls 8 [(6, .long (t.ce (r * t.wi + w))), (0, .int 2), (1, .ref (ta 0)), (2, .int (nI r)), (3, .int (nI w)), (4, .long v)] := hl
  refine lv_iload_n hx hb d_A_gathered_8 rfl (lv_at hl 1 rfl) ?_
  refine lv_tableIn (x := 2) (off := 38) (tgt := 47) hx hb d_A_gathered_9 (by decide) (by decide) (by decide) rfl ?_
  refine lv_aload_n hx hb d_A_gathered_47 rfl (lv_at hl 2 rfl) ?_
  refine lv_iload_n hx hb d_A_gathered_48 rfl (lv_at hl 3 rfl) ?_
  refine lv_iload_n hx hb d_A_gathered_49 rfl (lv_at hl 4 rfl) ?_
  refine jkI (wr := []) (rnV (As := [.int (nI r), .int (nI w)]) (rest := []) hx hb hml hown hE hK (hN _ _ hS) hP hD (v_Thas l D dA H.size ws ta t r w (show r < 256 from by omega)) (q0 := 0) rfl rfl w1506 w1505 w1507 w1508 w807 rfl rfl ⟨⟨by decide, by decide⟩, rfl⟩ ⟨(Nat.le_of_ble_eq_true rfl), (Nat.le_of_ble_eq_true rfl)⟩ rfl hl.1 rfl (Nat.le_of_ble_eq_true rfl) d_A_gathered_50 ⟨(Nat.le_of_ble_eq_true rfl), (Nat.le_of_ble_eq_true rfl)⟩) hP hD hS hA (fun r3 u4 H locs hp9 hP hD hS => ?_)
  have hP : va_P D vwCl (TbW dA ta t ++ (ws)) H := hP
  have hD : va_D A (TbW dA ta t ++ (ws)) := hD
  replace hp9 : bI (hasB (t.th r) w) = r3 := Eq.symm hp9
  subst hp9
  refine lv_if_eq hx hb d_A_gathered_53 (tgt := 66) rfl (fun g5 => ?_) (fun g5 => ?_)
  · have g5 := bI_0 g5
    refine lv_lload hx hb d_A_gathered_66 (lv_at hl 5 rfl) ?_
    exact rfL hx hb hr hlk hS () (by show _ = (if hasB (t.th r) w = true then _ else _); rw [if_neg (by rw [g5]; decide)]) hP hD (Nat.le_of_ble_eq_true rfl) (Nat.le_of_ble_eq_true rfl) d_A_gathered_68
  · have g5 := bI_n0 g5
    refine lv_lload hx hb d_A_gathered_56 (lv_at hl 0 rfl) ?_
    refine lv_lload hx hb d_A_gathered_58 (lv_at hl 5 rfl) ?_
    refine va_mmin_long hx hb (hml.trans hl.1.symm) hown (hE.t w1509 rfl) (hE.t w1098 rfl) (hE.t w549 rfl) (hE.t w1099 rfl) (Nat.le_of_ble_eq_true rfl) (Nat.le_of_ble_eq_true rfl) (Nat.le_of_ble_eq_true rfl) (Nat.le_of_ble_eq_true rfl) d_A_gathered_60 (tpl (y := minL (t.ce (r * t.wi + w)) v) rfl ?_)
    refine lv_goto hx hb d_A_gathered_63 (tgt := 68) rfl ?_
    exact rfL hx hb hr hlk hS () (by show _ = (if hasB (t.th r) w = true then _ else _); rw [if_pos g5]) hP hD (Nat.le_of_ble_eq_true rfl) (Nat.le_of_ble_eq_true rfl) d_A_gathered_68
theorem d_A_gathered_69 : decode prog_2_method_13_code 69 = .ok (.aload_n 1, 1) := by decide +kernel
theorem d_A_gathered_70 : decode prog_2_method_13_code 70 = .ok (.iload_n 2, 1) := by decide +kernel
theorem d_A_gathered_71 : decode prog_2_method_13_code 71 = .ok (.iload_n 3, 1) := by decide +kernel
theorem d_A_gathered_72 : decode prog_2_method_13_code 72 = .ok (.invokevirtual 220, 3) := by decide +kernel
theorem d_A_gathered_75 : decode prog_2_method_13_code 75 = .ok (.ifCond .eq 13, 3) := by decide +kernel
theorem d_A_gathered_88 : decode prog_2_method_13_code 88 = .ok (.lload 4, 2) := by decide +kernel
theorem d_A_gathered_90 : decode prog_2_method_13_code 90 = .ok (.lreturn, 1) := by decide +kernel
theorem d_A_gathered_78 : decode prog_2_method_13_code 78 = .ok (.lload 6, 2) := by decide +kernel
theorem d_A_gathered_80 : decode prog_2_method_13_code 80 = .ok (.lload 4, 2) := by decide +kernel
theorem d_A_gathered_82 : decode prog_2_method_13_code 82 = .ok (.invokestatic 228, 3) := by decide +kernel
theorem d_A_gathered_85 : decode prog_2_method_13_code 85 = .ok (.goto 5, 3) := by decide +kernel
theorem w1510 : Cond.methodLink "SeriesVault$Answers" 228 ⟨"java/lang/Math", "max", "(JJ)J"⟩ ∈ aW := aw_of (tb_8 (List.mem_of_getElem? (i := 27) rfl)) rfl
set_option maxHeartbeats 4000000 in
set_option maxRecDepth 100000 in
theorem v_gathered_3 (l : Launch) (D : va_G) (dA : Nat → ClassId) (sz : Nat) (ws : va_W) (ta : Nat → Nat) (t : TB) (r : Nat) (w : Nat) (v : Int64) (hcN : t.cN ≤ 65536) (h1 : r * t.wi + w < t.cN) (h2 : r < 256) : Met l ⟨"SeriesVault$Answers", "gathered", "(ILSeriesVault$Table;IIJ)J"⟩ [Cond.code ⟨"SeriesVault$Answers", "gathered", "(ILSeriesVault$Table;IIJ)J"⟩ prog_2_method_13_code 8 (some FieldType.long)] { frames := 2, cells := 0, slots := 0, locals := 22 } (pC D dA [.int 3, .ref (ta 0), .int (nI r), .int (nI w), .long v] (TbW dA ta t ++ (ws)) sz) (va_Ql (fun (r9 : Int64) (u9 : Unit) => r9 = gaV 3 (hasB (t.th r) w) (t.ce (r * t.wi + w)) v) (fun (u9 : Unit) t9 => bW D (va_A (TbW dA ta t ++ (ws)) sz) (TbW dA ta t ++ (ws)) t9) (va_A (TbW dA ta t ++ (ws)) sz)) 0 0 (va_A (TbW dA ta t ++ (ws)) sz) := by
  refine mkC (y := ⟨"SeriesVault$Answers", "gathered", "(ILSeriesVault$Table;IIJ)J"⟩) (cc := prog_2_method_13_code) (maxL := 8) (av := [.int 3, .ref (ta 0), .int (nI r), .int (nI w), .long v]) (ws := TbW dA ta t ++ (ws)) (sz := sz) (Qc := fun A => va_Ql (fun (r9 : Int64) (u9 : Unit) => r9 = gaV 3 (hasB (t.th r) w) (t.ce (r * t.wi + w)) v) (fun (u9 : Unit) t9 => bW D A (TbW dA ta t ++ (ws)) t9) A) (by decide) (Nat.le_of_ble_eq_true rfl) ?_
  intro A p e s m below meth c ls hsz hB
  obtain ⟨hx, hb, hr, hml, hown, hin, hlk, hE, hK, hP, hD, hS, hA, hN, hl⟩ := hB
  have hown : s.vm.findClass "SeriesVault$Answers" = some m.cls := hown
  have hl : lv_has ls 8 [(0, .int 3), (1, .ref (ta 0)), (2, .int (nI r)), (3, .int (nI w)), (4, .long v)] := hl
  obtain ⟨H, hH⟩ : ∃ z, z = s.heap := ⟨_, rfl⟩
  have hP : va_P D vwCl (TbW dA ta t ++ (ws)) H := by rw [hH]; exact hP
  have hS : va_S A s.heap H [] := by rw [hH]; exact hS
  rw [← hH]
  refine lv_aload_n hx hb d_A_gathered_0 rfl (lv_at hl 1 rfl) ?_
  refine lv_iload_n hx hb d_A_gathered_1 rfl (lv_at hl 2 rfl) ?_
  refine lv_iload_n hx hb d_A_gathered_2 rfl (lv_at hl 3 rfl) ?_
  refine jkL (wr := []) (rnV (As := [.int (nI r), .int (nI w)]) (rest := []) hx hb hml hown hE hK (hN _ _ hS) hP hD (v_TnumberAt l D dA H.size ws ta t r w hcN (show r * t.wi + w < t.cN from by omega)) (q0 := 0) rfl rfl w1414 w1504 w1415 w1416 w807 rfl rfl ⟨⟨by decide, by decide⟩, rfl⟩ ⟨(Nat.le_of_ble_eq_true rfl), (Nat.le_of_ble_eq_true rfl)⟩ rfl hl.1 rfl (Nat.le_of_ble_eq_true rfl) d_A_gathered_3 ⟨(Nat.le_of_ble_eq_true rfl), (Nat.le_of_ble_eq_true rfl)⟩) hP hD hS hA (fun r1 u2 H locs hp9 hP hD hS => ?_)
  have hP : va_P D vwCl (TbW dA ta t ++ (ws)) H := hP
  have hD : va_D A (TbW dA ta t ++ (ws)) := hD
  replace hp9 : t.ce (r * t.wi + w) = r1 := Eq.symm hp9
  subst hp9
  refine lv_lstore hx hb d_A_gathered_6 hl (by decide) rfl (fun ls hl => ?_)
  have hl : lv_has ls 8 [(6, .long (t.ce (r * t.wi + w))), (0, .int 3), (1, .ref (ta 0)), (2, .int (nI r)), (3, .int (nI w)), (4, .long v)] := hl
  refine lv_iload_n hx hb d_A_gathered_8 rfl (lv_at hl 1 rfl) ?_
  refine lv_tableOut (tgt := 69) hx hb d_A_gathered_9 (by decide) rfl ?_
  refine lv_aload_n hx hb d_A_gathered_69 rfl (lv_at hl 2 rfl) ?_
  refine lv_iload_n hx hb d_A_gathered_70 rfl (lv_at hl 3 rfl) ?_
  refine lv_iload_n hx hb d_A_gathered_71 rfl (lv_at hl 4 rfl) ?_
  refine jkI (wr := []) (rnV (As := [.int (nI r), .int (nI w)]) (rest := []) hx hb hml hown hE hK (hN _ _ hS) hP hD (v_Thas l D dA H.size ws ta t r w (show r < 256 from by omega)) (q0 := 0) rfl rfl w1506 w1505 w1507 w1508 w807 rfl rfl ⟨⟨by decide, by decide⟩, rfl⟩ ⟨(Nat.le_of_ble_eq_true rfl), (Nat.le_of_ble_eq_true rfl)⟩ rfl hl.1 rfl (Nat.le_of_ble_eq_true rfl) d_A_gathered_72 ⟨(Nat.le_of_ble_eq_true rfl), (Nat.le_of_ble_eq_true rfl)⟩) hP hD hS hA (fun r3 u4 H locs hp9 hP hD hS => ?_)
  have hP : va_P D vwCl (TbW dA ta t ++ (ws)) H := hP
  have hD : va_D A (TbW dA ta t ++ (ws)) := hD
  replace hp9 : bI (hasB (t.th r) w) = r3 := Eq.symm hp9
  subst hp9
  refine lv_if_eq hx hb d_A_gathered_75 (tgt := 88) rfl (fun g5 => ?_) (fun g5 => ?_)
  · have g5 := bI_0 g5
    refine lv_lload hx hb d_A_gathered_88 (lv_at hl 5 rfl) ?_
    exact rfL hx hb hr hlk hS () (by show _ = (if hasB (t.th r) w = true then _ else _); rw [if_neg (by rw [g5]; decide)]) hP hD (Nat.le_of_ble_eq_true rfl) (Nat.le_of_ble_eq_true rfl) d_A_gathered_90
  · have g5 := bI_n0 g5
    refine lv_lload hx hb d_A_gathered_78 (lv_at hl 0 rfl) ?_
    refine lv_lload hx hb d_A_gathered_80 (lv_at hl 5 rfl) ?_
    refine va_mmax_long hx hb (hml.trans hl.1.symm) hown (hE.t w1510 rfl) (hE.t w1095 rfl) (hE.t w549 rfl) (hE.t w1096 rfl) (Nat.le_of_ble_eq_true rfl) (Nat.le_of_ble_eq_true rfl) (Nat.le_of_ble_eq_true rfl) (Nat.le_of_ble_eq_true rfl) d_A_gathered_82 (tpl (y := maxL (t.ce (r * t.wi + w)) v) rfl ?_)
    refine lv_goto hx hb d_A_gathered_85 (tgt := 90) rfl ?_
    exact rfL hx hb hr hlk hS () (by show _ = (if hasB (t.th r) w = true then _ else _); rw [if_pos g5]) hP hD (Nat.le_of_ble_eq_true rfl) (Nat.le_of_ble_eq_true rfl) d_A_gathered_90
theorem d_A_grow_0 : decode prog_2_method_11_code 0 = .ok (.aload_n 0, 1) := by decide +kernel
theorem d_A_grow_1 : decode prog_2_method_11_code 1 = .ok (.getfield 22, 3) := by decide +kernel
theorem d_A_grow_4 : decode prog_2_method_11_code 4 = .ok (.iload 4, 2) := by decide +kernel
theorem d_A_grow_6 : decode prog_2_method_11_code 6 = .ok (.baload, 1) := by decide +kernel
theorem d_A_grow_7 : decode prog_2_method_11_code 7 = .ok (.ifCond .eq 48, 3) := by decide +kernel
theorem d_A_grow_55 : decode prog_2_method_11_code 55 = .ok (.return_, 1) := by decide +kernel
theorem d_A_grow_10 : decode prog_2_method_11_code 10 = .ok (.aload_n 0, 1) := by decide +kernel
theorem d_A_grow_11 : decode prog_2_method_11_code 11 = .ok (.getfield 26, 3) := by decide +kernel
theorem d_A_grow_14 : decode prog_2_method_11_code 14 = .ok (.iload 4, 2) := by decide +kernel
theorem d_A_grow_16 : decode prog_2_method_11_code 16 = .ok (.laload, 1) := by decide +kernel
theorem d_A_grow_17 : decode prog_2_method_11_code 17 = .ok (.lload 5, 2) := by decide +kernel
theorem d_A_grow_19 : decode prog_2_method_11_code 19 = .ok (.lcmp, 1) := by decide +kernel
theorem d_A_grow_20 : decode prog_2_method_11_code 20 = .ok (.ifCond .gt 16, 3) := by decide +kernel
theorem d_A_grow_36 : decode prog_2_method_11_code 36 = .ok (.lload 5, 2) := by decide +kernel
theorem d_A_grow_38 : decode prog_2_method_11_code 38 = .ok (.lstore 7, 2) := by decide +kernel
theorem d_A_grow_40 : decode prog_2_method_11_code 40 = .ok (.aload_n 1, 1) := by decide +kernel
theorem d_A_grow_41 : decode prog_2_method_11_code 41 = .ok (.iload_n 2, 1) := by decide +kernel
theorem d_A_grow_42 : decode prog_2_method_11_code 42 = .ok (.iload_n 3, 1) := by decide +kernel
theorem d_A_grow_43 : decode prog_2_method_11_code 43 = .ok (.aload_n 1, 1) := by decide +kernel
theorem d_A_grow_44 : decode prog_2_method_11_code 44 = .ok (.iload_n 2, 1) := by decide +kernel
theorem d_A_grow_45 : decode prog_2_method_11_code 45 = .ok (.iload_n 3, 1) := by decide +kernel
theorem d_A_grow_46 : decode prog_2_method_11_code 46 = .ok (.invokevirtual 216, 3) := by decide +kernel
theorem d_A_grow_49 : decode prog_2_method_11_code 49 = .ok (.lload 7, 2) := by decide +kernel
theorem d_A_grow_51 : decode prog_2_method_11_code 51 = .ok (.ladd, 1) := by decide +kernel
theorem d_A_grow_52 : decode prog_2_method_11_code 52 = .ok (.invokevirtual 212, 3) := by decide +kernel
theorem d_A_grow_23 : decode prog_2_method_11_code 23 = .ok (.lload 5, 2) := by decide +kernel
theorem d_A_grow_25 : decode prog_2_method_11_code 25 = .ok (.aload_n 0, 1) := by decide +kernel
theorem d_A_grow_26 : decode prog_2_method_11_code 26 = .ok (.getfield 26, 3) := by decide +kernel
theorem d_A_grow_29 : decode prog_2_method_11_code 29 = .ok (.iload 4, 2) := by decide +kernel
theorem d_A_grow_31 : decode prog_2_method_11_code 31 = .ok (.laload, 1) := by decide +kernel
theorem d_A_grow_32 : decode prog_2_method_11_code 32 = .ok (.lsub, 1) := by decide +kernel
theorem d_A_grow_33 : decode prog_2_method_11_code 33 = .ok (.goto 5, 3) := by decide +kernel
theorem w1511 : Cond.methodLink "SeriesVault$Answers" 212 ⟨"SeriesVault$Table", "put", "(IIJ)V"⟩ ∈ aW := aw_of (tb_8 (List.mem_of_getElem? (i := 14) rfl)) rfl
set_option maxHeartbeats 4000000 in
set_option maxRecDepth 100000 in
theorem v_growth (l : Launch) (D : va_G) (dA : Nat → ClassId) (sz : Nat) (h : Nat) (ad : Nat → Nat) (ta : Nat → Nat) (t : TB) (x : VS) (r : Nat) (w : Nat) (o : Nat) (v : Int64) (hcN : t.cN ≤ 65536) (h1 : r * t.wi + w < t.cN) (h2 : r < 256) (h3 : o < 256) : Met l ⟨"SeriesVault$Answers", "grow", "(LSeriesVault$Table;IIIJ)V"⟩ [Cond.code ⟨"SeriesVault$Answers", "grow", "(LSeriesVault$Table;IIIJ)V"⟩ prog_2_method_11_code 9 none] { frames := 2, cells := 0, slots := 0, locals := 24 } (pC D dA [.ref (ad 24), .ref (ta 0), .int (nI r), .int (nI w), .int (nI o), .long v] (TbW dA ta t ++ (VW dA h ad x)) sz) (va_Qv (fun (u9 : TB) => u9 = gwT t (x.ahb o) (x.abf o) v r w) (fun (u9 : TB) t9 => bW D (va_A (TbW dA ta t ++ (VW dA h ad x)) sz) (TbW dA ta u9 ++ (VW dA h ad x)) t9) (va_A (TbW dA ta t ++ (VW dA h ad x)) sz)) 0 0 (va_A (TbW dA ta t ++ (VW dA h ad x)) sz) := by
  refine mkC (y := ⟨"SeriesVault$Answers", "grow", "(LSeriesVault$Table;IIIJ)V"⟩) (cc := prog_2_method_11_code) (maxL := 9) (av := [.ref (ad 24), .ref (ta 0), .int (nI r), .int (nI w), .int (nI o), .long v]) (ws := TbW dA ta t ++ (VW dA h ad x)) (sz := sz) (Qc := fun A => va_Qv (fun (u9 : TB) => u9 = gwT t (x.ahb o) (x.abf o) v r w) (fun (u9 : TB) t9 => bW D A (TbW dA ta u9 ++ (VW dA h ad x)) t9) A) (by decide) (Nat.le_of_ble_eq_true rfl) ?_
  intro A p e s m below meth c ls hsz hB
  obtain ⟨hx, hb, hr, hml, hown, hin, hlk, hE, hK, hP, hD, hS, hA, hN, hl⟩ := hB
  have hown : s.vm.findClass "SeriesVault$Answers" = some m.cls := hown
  have hl : lv_has ls 9 [(0, .ref (ad 24)), (1, .ref (ta 0)), (2, .int (nI r)), (3, .int (nI w)), (4, .int (nI o)), (5, .long v)] := hl
  obtain ⟨H, hH⟩ : ∃ z, z = s.heap := ⟨_, rfl⟩
  have hP : va_P D vwCl (TbW dA ta t ++ (VW dA h ad x)) H := by rw [hH]; exact hP
  have hS : va_S A s.heap H [] := by rw [hH]; exact hS
  rw [← hH]
  refine lv_aload_n hx hb d_A_grow_0 rfl (lv_at hl 0 rfl) ?_
  refine gF (v := .ref (ad 27)) hx hb hown hE hK hP 42 rfl rfl layA 3 (by decide) w801 rfl d_A_grow_1 ?_
  refine lv_iload hx hb d_A_grow_4 (lv_at hl 4 rfl) ?_
  refine nzld (f := (fun z9 => bI (x.ahb z9))) (n := 256) hx hb hK hP (44) 3 rfl rfl (o) (by omega) (by decide) d_A_grow_6 ?_
  refine lv_if_eq hx hb d_A_grow_7 (tgt := 55) rfl (fun g1 => ?_) (fun g1 => ?_)
  · have g1 := bI_0 g1
    exact rfV hx hb hr hlk hS t (by unfold gwT; rw [if_neg (by rw [g1]; decide)]) hP hD (Nat.le_of_ble_eq_true rfl) (Nat.le_of_ble_eq_true rfl) d_A_grow_55
  · have g1 := bI_n0 g1
    refine lv_aload_n hx hb d_A_grow_10 rfl (lv_at hl 0 rfl) ?_
    refine gF (v := .ref (ad 28)) hx hb hown hE hK hP 42 rfl rfl layA 4 (by decide) w802 rfl d_A_grow_11 ?_
    refine lv_iload hx hb d_A_grow_14 (lv_at hl 4 rfl) ?_
    refine nlld (f := x.abf) (n := 256) hx hb hK hP (45) 2 rfl rfl (o) (by omega) (by decide) d_A_grow_16 ?_
    refine lv_lload hx hb d_A_grow_17 (lv_at hl 5 rfl) ?_
    refine W.lcmp hx hb d_A_grow_19 ?_
    refine lv_if_gt hx hb d_A_grow_20 (tgt := 36) rfl (fun g2 => ?_) (fun g2 => ?_)
    · have g2 := (lg_cmp_gt _ _).mp g2
      refine lv_lload hx hb d_A_grow_36 (lv_at hl 5 rfl) ?_
      refine lv_lstore hx hb d_A_grow_38 hl (by decide) rfl (fun ls hl => ?_)
      have hl : lv_has ls 9 [(7, .long v), (0, .ref (ad 24)), (1, .ref (ta 0)), (2, .int (nI r)), (3, .int (nI w)), (4, .int (nI o)), (5, .long v)] := hl
      refine lv_aload_n hx hb d_A_grow_40 rfl (lv_at hl 2 rfl) ?_
      refine lv_iload_n hx hb d_A_grow_41 rfl (lv_at hl 3 rfl) ?_
      refine lv_iload_n hx hb d_A_grow_42 rfl (lv_at hl 4 rfl) ?_
      refine lv_aload_n hx hb d_A_grow_43 rfl (lv_at hl 2 rfl) ?_
      refine lv_iload_n hx hb d_A_grow_44 rfl (lv_at hl 3 rfl) ?_
      refine lv_iload_n hx hb d_A_grow_45 rfl (lv_at hl 4 rfl) ?_
      refine jkL (wr := []) (rnV (As := [.int (nI r), .int (nI w)]) (rest := [.int (nI w), .int (nI r), .ref (ta 0)]) hx hb hml hown hE hK (hN _ _ hS) hP hD (v_TnumberAt l D dA H.size (VW dA h ad x) ta t r w hcN (show r * t.wi + w < t.cN from by omega)) (q0 := 0) rfl rfl w1414 w1504 w1415 w1416 w807 rfl rfl ⟨⟨by decide, by decide⟩, rfl⟩ ⟨(Nat.le_of_ble_eq_true rfl), (Nat.le_of_ble_eq_true rfl)⟩ rfl hl.1 rfl (Nat.le_of_ble_eq_true rfl) d_A_grow_46 ⟨(Nat.le_of_ble_eq_true rfl), (Nat.le_of_ble_eq_true rfl)⟩) hP hD hS hA (fun r3 u4 H locs hp9 hP hD hS => ?_)
      have hP : va_P D vwCl (TbW dA ta t ++ (VW dA h ad x)) H := hP
      have hD : va_D A (TbW dA ta t ++ (VW dA h ad x)) := hD
      replace hp9 : t.ce (r * t.wi + w) = r3 := Eq.symm hp9
      subst hp9
      refine lv_lload hx hb d_A_grow_49 (lv_at hl 0 rfl) ?_
      refine lv_ladd hx hb d_A_grow_51 ?_
      refine jkV (wr := []) (rnV (As := [.int (nI r), .int (nI w), .long ((t.ce (r * t.wi + w)) + v)]) (rest := []) hx hb hml hown hE hK (hN _ _ hS) hP hD (v_Tput l D dA H.size (VW dA h ad x) ta t r w ((t.ce (r * t.wi + w)) + v) hcN (show r * t.wi + w < t.cN from by omega) (show r < 256 from by omega)) (q0 := 0) rfl rfl w1433 w1511 w1434 w1435 w807 rfl rfl ⟨⟨by decide, by decide⟩, rfl⟩ ⟨(Nat.le_of_ble_eq_true rfl), (Nat.le_of_ble_eq_true rfl)⟩ rfl hl.1 rfl (Nat.le_of_ble_eq_true rfl) d_A_grow_52 ⟨(Nat.le_of_ble_eq_true rfl), (Nat.le_of_ble_eq_true rfl)⟩) hP hD hS hA (fun u6 H locs hp9 hP hD hS => ?_)
      have hP : va_P D vwCl (TbW dA ta (TB.s_ce (TB.s_th t (va_up t.th r (t.th r ||| bitL w))) (va_up t.ce (r * t.wi + w) ((t.ce (r * t.wi + w)) + v))) ++ (VW dA h ad x)) H := hP
      have hD : va_D A (TbW dA ta (TB.s_ce (TB.s_th t (va_up t.th r (t.th r ||| bitL w))) (va_up t.ce (r * t.wi + w) ((t.ce (r * t.wi + w)) + v))) ++ (VW dA h ad x)) := hD
      exact rfV hx hb hr hlk hS (TB.s_ce (TB.s_th t (va_up t.th r (t.th r ||| bitL w))) (va_up t.ce (r * t.wi + w) ((t.ce (r * t.wi + w)) + v))) (by unfold gwT; rw [if_pos g1, if_pos g2]; rfl) hP hD (Nat.le_of_ble_eq_true rfl) (Nat.le_of_ble_eq_true rfl) d_A_grow_55
    · have g2 := mt (lg_cmp_gt _ _).mpr g2
      refine lv_lload hx hb d_A_grow_23 (lv_at hl 5 rfl) ?_
      refine lv_aload_n hx hb d_A_grow_25 rfl (lv_at hl 0 rfl) ?_
      refine gF (v := .ref (ad 28)) hx hb hown hE hK hP 42 rfl rfl layA 4 (by decide) w802 rfl d_A_grow_26 ?_
      refine lv_iload hx hb d_A_grow_29 (lv_at hl 4 rfl) ?_
      refine nlld (f := x.abf) (n := 256) hx hb hK hP (45) 2 rfl rfl (o) (by omega) (by decide) d_A_grow_31 ?_
      refine lv_lsub hx hb d_A_grow_32 ?_
      refine lv_goto hx hb d_A_grow_33 (tgt := 38) rfl ?_
      refine lv_lstore hx hb d_A_grow_38 hl (by decide) rfl (fun ls hl => ?_)
      have hl : lv_has ls 9 [(7, .long (v - (x.abf o))), (0, .ref (ad 24)), (1, .ref (ta 0)), (2, .int (nI r)), (3, .int (nI w)), (4, .int (nI o)), (5, .long v)] := hl
      refine lv_aload_n hx hb d_A_grow_40 rfl (lv_at hl 2 rfl) ?_
      refine lv_iload_n hx hb d_A_grow_41 rfl (lv_at hl 3 rfl) ?_
      refine lv_iload_n hx hb d_A_grow_42 rfl (lv_at hl 4 rfl) ?_
      refine lv_aload_n hx hb d_A_grow_43 rfl (lv_at hl 2 rfl) ?_
      refine lv_iload_n hx hb d_A_grow_44 rfl (lv_at hl 3 rfl) ?_
      refine lv_iload_n hx hb d_A_grow_45 rfl (lv_at hl 4 rfl) ?_
      refine jkL (wr := []) (rnV (As := [.int (nI r), .int (nI w)]) (rest := [.int (nI w), .int (nI r), .ref (ta 0)]) hx hb hml hown hE hK (hN _ _ hS) hP hD (v_TnumberAt l D dA H.size (VW dA h ad x) ta t r w hcN (show r * t.wi + w < t.cN from by omega)) (q0 := 0) rfl rfl w1414 w1504 w1415 w1416 w807 rfl rfl ⟨⟨by decide, by decide⟩, rfl⟩ ⟨(Nat.le_of_ble_eq_true rfl), (Nat.le_of_ble_eq_true rfl)⟩ rfl hl.1 rfl (Nat.le_of_ble_eq_true rfl) d_A_grow_46 ⟨(Nat.le_of_ble_eq_true rfl), (Nat.le_of_ble_eq_true rfl)⟩) hP hD hS hA (fun r7 u8 H locs hp9 hP hD hS => ?_)
      have hP : va_P D vwCl (TbW dA ta t ++ (VW dA h ad x)) H := hP
      have hD : va_D A (TbW dA ta t ++ (VW dA h ad x)) := hD
      replace hp9 : t.ce (r * t.wi + w) = r7 := Eq.symm hp9
      subst hp9
      refine lv_lload hx hb d_A_grow_49 (lv_at hl 0 rfl) ?_
      refine lv_ladd hx hb d_A_grow_51 ?_
      refine jkV (wr := []) (rnV (As := [.int (nI r), .int (nI w), .long ((t.ce (r * t.wi + w)) + (v - (x.abf o)))]) (rest := []) hx hb hml hown hE hK (hN _ _ hS) hP hD (v_Tput l D dA H.size (VW dA h ad x) ta t r w ((t.ce (r * t.wi + w)) + (v - (x.abf o))) hcN (show r * t.wi + w < t.cN from by omega) (show r < 256 from by omega)) (q0 := 0) rfl rfl w1433 w1511 w1434 w1435 w807 rfl rfl ⟨⟨by decide, by decide⟩, rfl⟩ ⟨(Nat.le_of_ble_eq_true rfl), (Nat.le_of_ble_eq_true rfl)⟩ rfl hl.1 rfl (Nat.le_of_ble_eq_true rfl) d_A_grow_52 ⟨(Nat.le_of_ble_eq_true rfl), (Nat.le_of_ble_eq_true rfl)⟩) hP hD hS hA (fun u10 H locs hp9 hP hD hS => ?_)
      have hP : va_P D vwCl (TbW dA ta (TB.s_ce (TB.s_th t (va_up t.th r (t.th r ||| bitL w))) (va_up t.ce (r * t.wi + w) ((t.ce (r * t.wi + w)) + (v - (x.abf o))))) ++ (VW dA h ad x)) H := hP
      have hD : va_D A (TbW dA ta (TB.s_ce (TB.s_th t (va_up t.th r (t.th r ||| bitL w))) (va_up t.ce (r * t.wi + w) ((t.ce (r * t.wi + w)) + (v - (x.abf o))))) ++ (VW dA h ad x)) := hD
      exact rfV hx hb hr hlk hS (TB.s_ce (TB.s_th t (va_up t.th r (t.th r ||| bitL w))) (va_up t.ce (r * t.wi + w) ((t.ce (r * t.wi + w)) + (v - (x.abf o))))) (by unfold gwT; rw [if_pos g1, if_neg g2]; rfl) hP hD (Nat.le_of_ble_eq_true rfl) (Nat.le_of_ble_eq_true rfl) d_A_grow_55
theorem d_A_makeBestRoom_0 : decode prog_2_method_7_code 0 = .ok (.iload_n 1, 1) := by decide +kernel
theorem d_A_makeBestRoom_1 : decode prog_2_method_7_code 1 = .ok (.aload_n 0, 1) := by decide +kernel
theorem d_A_makeBestRoom_2 : decode prog_2_method_7_code 2 = .ok (.getfield 30, 3) := by decide +kernel
theorem d_A_makeBestRoom_5 : decode prog_2_method_7_code 5 = .ok (.arraylength, 1) := by decide +kernel
theorem d_A_makeBestRoom_6 : decode prog_2_method_7_code 6 = .ok (.if_icmp .le 29, 3) := by decide +kernel
theorem d_A_makeBestRoom_35 : decode prog_2_method_7_code 35 = .ok (.return_, 1) := by decide +kernel
set_option maxHeartbeats 4000000 in
set_option maxRecDepth 100000 in
theorem v_makeBestRoom_0 (l : Launch) (D : va_G) (dA : Nat → ClassId) (sz : Nat) (h : Nat) (ad : Nat → Nat) (x : VS) (n : Nat) (h1 : n ≤ x.bN) (h2 : x.bN ≤ 65536) : Met l ⟨"SeriesVault$Answers", "makeBestRoom", "(I)V"⟩ [Cond.code ⟨"SeriesVault$Answers", "makeBestRoom", "(I)V"⟩ prog_2_method_7_code 3 none] { frames := 1, cells := 0, slots := 0, locals := 0 } (pC D dA [.ref (ad 24), .int (nI n)] (VW dA h ad x) sz) (va_Qv (fun (u9 : Unit) => True) (fun (u9 : Unit) t9 => bW D (va_A (VW dA h ad x) sz) (VW dA h ad x) t9) (va_A (VW dA h ad x) sz)) 0 0 (va_A (VW dA h ad x) sz) := by
  refine mkC (y := ⟨"SeriesVault$Answers", "makeBestRoom", "(I)V"⟩) (cc := prog_2_method_7_code) (maxL := 3) (av := [.ref (ad 24), .int (nI n)]) (ws := VW dA h ad x) (sz := sz) (Qc := fun A => va_Qv (fun (u9 : Unit) => True) (fun (u9 : Unit) t9 => bW D A (VW dA h ad x) t9) A) (by decide) (Nat.le_of_ble_eq_true rfl) ?_
  intro A p e s m below meth c ls hsz hB
  obtain ⟨hx, hb, hr, hml, hown, hin, hlk, hE, hK, hP, hD, hS, hA, hN, hl⟩ := hB
  have hown : s.vm.findClass "SeriesVault$Answers" = some m.cls := hown
  have hl : lv_has ls 3 [(0, .ref (ad 24)), (1, .int (nI n))] := hl
  obtain ⟨H, hH⟩ : ∃ z, z = s.heap := ⟨_, rfl⟩
  have hP : va_P D vwCl (VW dA h ad x) H := by rw [hH]; exact hP
  have hS : va_S A s.heap H [] := by rw [hH]; exact hS
  rw [← hH]
  refine lv_iload_n hx hb d_A_makeBestRoom_0 rfl (lv_at hl 1 rfl) ?_
  refine lv_aload_n hx hb d_A_makeBestRoom_1 rfl (lv_at hl 0 rfl) ?_
  refine gF (v := .ref (x.bA 0)) hx hb hown hE hK hP 37 rfl rfl layA 5 (by decide) w803 rfl d_A_makeBestRoom_2 ?_
  refine va_alen (v := nI x.bN) hx hb hK hP (41) 2 rfl rfl rfl d_A_makeBestRoom_5 ?_
  refine lv_icmp_le hx hb d_A_makeBestRoom_6 (tgt := 35) rfl (fun _ => ?_) (fun h9 => absurd ((nI_leI (a := n) (b := x.bN) (by omega) (by omega)).mpr h1) h9)
  exact rfV hx hb hr hlk hS () trivial hP hD (Nat.le_of_ble_eq_true rfl) (Nat.le_of_ble_eq_true rfl) d_A_makeBestRoom_35
theorem d_A_choose_0 : decode prog_2_method_12_code 0 = .ok (.iload_n 3, 1) := by decide +kernel
theorem d_A_choose_1 : decode prog_2_method_12_code 1 = .ok (.aload_n 0, 1) := by decide +kernel
theorem d_A_choose_2 : decode prog_2_method_12_code 2 = .ok (.getfield 54, 3) := by decide +kernel
theorem d_A_choose_5 : decode prog_2_method_12_code 5 = .ok (.imul, 1) := by decide +kernel
theorem d_A_choose_6 : decode prog_2_method_12_code 6 = .ok (.iload 4, 2) := by decide +kernel
theorem d_A_choose_8 : decode prog_2_method_12_code 8 = .ok (.iadd, 1) := by decide +kernel
theorem d_A_choose_9 : decode prog_2_method_12_code 9 = .ok (.istore 10, 2) := by decide +kernel
theorem d_A_choose_11 : decode prog_2_method_12_code 11 = .ok (.aload_n 0, 1) := by decide +kernel
theorem d_A_choose_12 : decode prog_2_method_12_code 12 = .ok (.getfield 30, 3) := by decide +kernel
theorem d_A_choose_15 : decode prog_2_method_12_code 15 = .ok (.iload 10, 2) := by decide +kernel
theorem d_A_choose_17 : decode prog_2_method_12_code 17 = .ok (.laload, 1) := by decide +kernel
theorem d_A_choose_18 : decode prog_2_method_12_code 18 = .ok (.lstore 11, 2) := by decide +kernel
theorem d_A_choose_20 : decode prog_2_method_12_code 20 = .ok (.iload_n 1, 1) := by decide +kernel
theorem d_A_choose_21 : decode prog_2_method_12_code 21 = .ok (.iconst 4, 1) := by decide +kernel
theorem d_A_choose_22 : decode prog_2_method_12_code 22 = .ok (.if_icmp .ne 19, 3) := by decide +kernel
theorem d_A_choose_25 : decode prog_2_method_12_code 25 = .ok (.lload 6, 2) := by decide +kernel
theorem d_A_choose_27 : decode prog_2_method_12_code 27 = .ok (.lload 11, 2) := by decide +kernel
theorem d_A_choose_29 : decode prog_2_method_12_code 29 = .ok (.lcmp, 1) := by decide +kernel
theorem d_A_choose_30 : decode prog_2_method_12_code 30 = .ok (.ifCond .ge 7, 3) := by decide +kernel
theorem d_A_choose_37 : decode prog_2_method_12_code 37 = .ok (.iconst 0, 1) := by decide +kernel
theorem d_A_choose_38 : decode prog_2_method_12_code 38 = .ok (.goto 16, 3) := by decide +kernel
theorem d_A_choose_56 : decode prog_2_method_12_code 56 = .ok (.aload_n 2, 1) := by decide +kernel
theorem d_A_choose_57 : decode prog_2_method_12_code 57 = .ok (.iload_n 3, 1) := by decide +kernel
theorem d_A_choose_58 : decode prog_2_method_12_code 58 = .ok (.iload 4, 2) := by decide +kernel
theorem d_A_choose_60 : decode prog_2_method_12_code 60 = .ok (.invokevirtual 220, 3) := by decide +kernel
theorem d_A_choose_63 : decode prog_2_method_12_code 63 = .ok (.ifCond .eq 28, 3) := by decide +kernel
theorem d_A_choose_91 : decode prog_2_method_12_code 91 = .ok (.aload_n 2, 1) := by decide +kernel
theorem d_A_choose_92 : decode prog_2_method_12_code 92 = .ok (.iload_n 3, 1) := by decide +kernel
theorem d_A_choose_93 : decode prog_2_method_12_code 93 = .ok (.iload 4, 2) := by decide +kernel
theorem d_A_choose_95 : decode prog_2_method_12_code 95 = .ok (.lload 8, 2) := by decide +kernel
theorem d_A_choose_97 : decode prog_2_method_12_code 97 = .ok (.invokevirtual 212, 3) := by decide +kernel
theorem d_A_choose_100 : decode prog_2_method_12_code 100 = .ok (.aload_n 0, 1) := by decide +kernel
theorem d_A_choose_101 : decode prog_2_method_12_code 101 = .ok (.getfield 30, 3) := by decide +kernel
theorem d_A_choose_104 : decode prog_2_method_12_code 104 = .ok (.iload 10, 2) := by decide +kernel
theorem d_A_choose_106 : decode prog_2_method_12_code 106 = .ok (.lload 6, 2) := by decide +kernel
theorem d_A_choose_108 : decode prog_2_method_12_code 108 = .ok (.lastore, 1) := by decide +kernel
theorem d_A_choose_109 : decode prog_2_method_12_code 109 = .ok (.aload_n 0, 1) := by decide +kernel
theorem d_A_choose_110 : decode prog_2_method_12_code 110 = .ok (.getfield 33, 3) := by decide +kernel
theorem d_A_choose_113 : decode prog_2_method_12_code 113 = .ok (.iload 10, 2) := by decide +kernel
theorem d_A_choose_115 : decode prog_2_method_12_code 115 = .ok (.iload 5, 2) := by decide +kernel
theorem d_A_choose_117 : decode prog_2_method_12_code 117 = .ok (.iastore, 1) := by decide +kernel
theorem d_A_choose_118 : decode prog_2_method_12_code 118 = .ok (.return_, 1) := by decide +kernel
theorem d_A_choose_66 : decode prog_2_method_12_code 66 = .ok (.iload 13, 2) := by decide +kernel
theorem d_A_choose_68 : decode prog_2_method_12_code 68 = .ok (.ifCond .ne 23, 3) := by decide +kernel
theorem d_A_choose_71 : decode prog_2_method_12_code 71 = .ok (.lload 6, 2) := by decide +kernel
theorem d_A_choose_73 : decode prog_2_method_12_code 73 = .ok (.lload 11, 2) := by decide +kernel
theorem d_A_choose_75 : decode prog_2_method_12_code 75 = .ok (.lcmp, 1) := by decide +kernel
theorem d_A_choose_76 : decode prog_2_method_12_code 76 = .ok (.ifCond .ne 42, 3) := by decide +kernel
theorem d_A_choose_79 : decode prog_2_method_12_code 79 = .ok (.iload 5, 2) := by decide +kernel
theorem d_A_choose_81 : decode prog_2_method_12_code 81 = .ok (.aload_n 0, 1) := by decide +kernel
theorem d_A_choose_82 : decode prog_2_method_12_code 82 = .ok (.getfield 33, 3) := by decide +kernel
theorem d_A_choose_85 : decode prog_2_method_12_code 85 = .ok (.iload 10, 2) := by decide +kernel
theorem d_A_choose_87 : decode prog_2_method_12_code 87 = .ok (.iaload, 1) := by decide +kernel
theorem d_A_choose_88 : decode prog_2_method_12_code 88 = .ok (.if_icmp .ge 30, 3) := by decide +kernel
theorem d_A_choose_54 : decode prog_2_method_12_code 54 = .ok (.istore 13, 2) := by decide +kernel
theorem d_A_choose_33 : decode prog_2_method_12_code 33 = .ok (.iconst 1, 1) := by decide +kernel
theorem d_A_choose_34 : decode prog_2_method_12_code 34 = .ok (.goto 20, 3) := by decide +kernel
set_option maxHeartbeats 4000000 in
set_option maxRecDepth 100000 in
theorem v_choose_4 (l : Launch) (D : va_G) (dA : Nat → ClassId) (sz : Nat) (h : Nat) (ad : Nat → Nat) (ta : Nat → Nat) (t : TB) (x : VS) (r : Nat) (w : Nat) (o : Nat) (tm : Int64) (v : Int64) (hcN : t.cN ≤ 65536) (h1 : r * t.wi + w < t.cN) (h2 : r < 256) (h3 : o < 256) (h4 : r * x.awi + w < x.bN) (h5 : x.bN ≤ 65536) (h6 : x.bO (r * x.awi + w) < 256) : Met l ⟨"SeriesVault$Answers", "choose", "(ILSeriesVault$Table;IIIJJ)V"⟩ [Cond.code ⟨"SeriesVault$Answers", "choose", "(ILSeriesVault$Table;IIIJJ)V"⟩ prog_2_method_12_code 14 none] { frames := 2, cells := 0, slots := 0, locals := 24 } (pC D dA [.ref (ad 24), .int 4, .ref (ta 0), .int (nI r), .int (nI w), .int (nI o), .long tm, .long v] (TbW dA ta t ++ (VW dA h ad x)) sz) (va_Qv (fun (u9 : TB × VS) => u9.1 = (if chsB 4 (hasB (t.th r) w) tm (x.bT ((r * x.awi) + w)) o (x.bO ((r * x.awi) + w)) = true then t.pt r w v else t) ∧ u9.2 = (if chsB 4 (hasB (t.th r) w) tm (x.bT ((r * x.awi) + w)) o (x.bO ((r * x.awi) + w)) = true then chX x (r * x.awi + w) o tm else x)) (fun (u9 : TB × VS) t9 => bW D (va_A (TbW dA ta t ++ (VW dA h ad x)) sz) (TbW dA ta u9.1 ++ (VW dA h ad u9.2)) t9) (va_A (TbW dA ta t ++ (VW dA h ad x)) sz)) 0 0 (va_A (TbW dA ta t ++ (VW dA h ad x)) sz) := by
  refine mkC (y := ⟨"SeriesVault$Answers", "choose", "(ILSeriesVault$Table;IIIJJ)V"⟩) (cc := prog_2_method_12_code) (maxL := 14) (av := [.ref (ad 24), .int 4, .ref (ta 0), .int (nI r), .int (nI w), .int (nI o), .long tm, .long v]) (ws := TbW dA ta t ++ (VW dA h ad x)) (sz := sz) (Qc := fun A => va_Qv (fun (u9 : TB × VS) => u9.1 = (if chsB 4 (hasB (t.th r) w) tm (x.bT ((r * x.awi) + w)) o (x.bO ((r * x.awi) + w)) = true then t.pt r w v else t) ∧ u9.2 = (if chsB 4 (hasB (t.th r) w) tm (x.bT ((r * x.awi) + w)) o (x.bO ((r * x.awi) + w)) = true then chX x (r * x.awi + w) o tm else x)) (fun (u9 : TB × VS) t9 => bW D A (TbW dA ta u9.1 ++ (VW dA h ad u9.2)) t9) A) (by decide) (Nat.le_of_ble_eq_true rfl) ?_
  intro A p e s m below meth c ls hsz hB
  obtain ⟨hx, hb, hr, hml, hown, hin, hlk, hE, hK, hP, hD, hS, hA, hN, hl⟩ := hB
  have hown : s.vm.findClass "SeriesVault$Answers" = some m.cls := hown
  have hl : lv_has ls 14 [(0, .ref (ad 24)), (1, .int 4), (2, .ref (ta 0)), (3, .int (nI r)), (4, .int (nI w)), (5, .int (nI o)), (6, .long tm), (8, .long v)] := hl
  obtain ⟨H, hH⟩ : ∃ z, z = s.heap := ⟨_, rfl⟩
  have hP : va_P D vwCl (TbW dA ta t ++ (VW dA h ad x)) H := by rw [hH]; exact hP
  have hS : va_S A s.heap H [] := by rw [hH]; exact hS
  rw [← hH]
  refine lv_iload_n hx hb d_A_choose_0 rfl (lv_at hl 3 rfl) ?_
  refine lv_aload_n hx hb d_A_choose_1 rfl (lv_at hl 0 rfl) ?_
  refine gF (v := .int (nI x.awi)) hx hb hown hE hK hP 42 rfl rfl layA 9 (by decide) w1503 rfl d_A_choose_2 ?_
  refine lv_imul hx hb d_A_choose_5 (tpi (y := nI (r * x.awi)) (pk_mul (r) (x.awi)) ?_)
  refine lv_iload hx hb d_A_choose_6 (lv_at hl 4 rfl) ?_
  refine lv_iadd hx hb d_A_choose_8 (tpi (y := nI ((r * x.awi) + w)) (nI_add (r * x.awi) (w)) ?_)
  refine lv_istore hx hb d_A_choose_9 hl (by decide) rfl (fun ls hl => ?_)
  have hl : lv_has ls 14 [(10, .int (nI ((r * x.awi) + w))), (0, .ref (ad 24)), (1, .int 4), (2, .ref (ta 0)), (3, .int (nI r)), (4, .int (nI w)), (5, .int (nI o)), (6, .long tm), (8, .long v)] := hl
  refine lv_aload_n hx hb d_A_choose_11 rfl (lv_at hl 1 rfl) ?_
  refine gF (v := .ref (x.bA 0)) hx hb hown hE hK hP 42 rfl rfl layA 5 (by decide) w803 rfl d_A_choose_12 ?_
  refine lv_iload hx hb d_A_choose_15 (lv_at hl 0 rfl) ?_
  refine nlld (f := x.bT) (n := x.bN) hx hb hK hP (46) 2 rfl rfl ((r * x.awi) + w) (by omega) (by omega) d_A_choose_17 ?_
  refine lv_lstore hx hb d_A_choose_18 hl (by decide) rfl (fun ls hl => ?_)
  have hl : lv_has ls 14 [(11, .long (x.bT ((r * x.awi) + w))), (10, .int (nI ((r * x.awi) + w))), (0, .ref (ad 24)), (1, .int 4), (2, .ref (ta 0)), (3, .int (nI r)), (4, .int (nI w)), (5, .int (nI o)), (6, .long tm), (8, .long v)] := hl
  refine lv_iload_n hx hb d_A_choose_20 rfl (lv_at hl 3 rfl) ?_
  refine lv_iconst (v := 4) hx hb d_A_choose_21 (by decide) ?_
  refine lv_icmp_ne hx hb d_A_choose_22 (tgt := 41) rfl (fun h9 => absurd (by decide) h9) (fun _ => ?_)
  refine lv_lload hx hb d_A_choose_25 (lv_at hl 8 rfl) ?_
  refine lv_lload hx hb d_A_choose_27 (lv_at hl 0 rfl) ?_
  refine W.lcmp hx hb d_A_choose_29 ?_
  refine lv_if_ge hx hb d_A_choose_30 (tgt := 37) rfl (fun g1 => ?_) (fun g1 => ?_)
  · have g1 := (lg_cmp_ge _ _).mp g1
    refine lv_iconst (v := 0) hx hb d_A_choose_37 (by decide) ?_
    refine lv_goto hx hb d_A_choose_38 (tgt := 54) rfl ?_
    have J56 : ∀ (bb : Bool) (ebb : btB 4 tm (x.bT ((r * x.awi) + w)) = bb), ∀ (H : Heap) (locs : List Loc) (ls : Array Slot) (hP : va_P D vwCl (TbW dA ta t ++ (VW dA h ad x)) H) (hD : va_D A (TbW dA ta t ++ (VW dA h ad x))) (hS : va_S A s.heap H locs) (hl : lv_has ls 14 [(13, .int (bI bb)), (10, .int (nI ((r * x.awi) + w))), (11, .long (x.bT ((r * x.awi) + w))), (0, .ref (ad 24)), (1, .int 4), (2, .ref (ta 0)), (3, .int (nI r)), (4, .int (nI w)), (5, .int (nI o)), (6, .long tm), (8, .long v)]), W p l e ({ frames := 2, cells := 0, slots := 0, locals := 24 } : Room) s m ([.ref (ad 24), .int 4, .ref (ta 0), .int (nI r), .int (nI w), .int (nI o), .long tm, .long v] : List Value).toArray below meth c H locs 0 0 (MQ below (va_Qv (fun (u9 : TB × VS) => u9.1 = (if chsB 4 (hasB (t.th r) w) tm (x.bT ((r * x.awi) + w)) o (x.bO ((r * x.awi) + w)) = true then t.pt r w v else t) ∧ u9.2 = (if chsB 4 (hasB (t.th r) w) tm (x.bT ((r * x.awi) + w)) o (x.bO ((r * x.awi) + w)) = true then chX x (r * x.awi + w) o tm else x)) (fun (u9 : TB × VS) t9 => bW D A (TbW dA ta u9.1 ++ (VW dA h ad u9.2)) t9) A) ([.ref (ad 24), .int 4, .ref (ta 0), .int (nI r), .int (nI w), .int (nI o), .long tm, .long v] : List Value).toArray s 0 0 A) (F0 m 56 ls []) := by
      intro bb ebb H locs ls hP hD hS hl
      refine lv_aload_n hx hb d_A_choose_56 rfl (lv_at hl 5 rfl) ?_
      refine lv_iload_n hx hb d_A_choose_57 rfl (lv_at hl 6 rfl) ?_
      refine lv_iload hx hb d_A_choose_58 (lv_at hl 7 rfl) ?_
      refine jkI (wr := []) (rnV (As := [.int (nI r), .int (nI w)]) (rest := []) hx hb hml hown hE hK (hN _ _ hS) hP hD (v_Thas l D dA H.size (VW dA h ad x) ta t r w (show r < 256 from by omega)) (q0 := 0) rfl rfl w1506 w1505 w1507 w1508 w807 rfl rfl ⟨⟨by decide, by decide⟩, rfl⟩ ⟨(Nat.le_of_ble_eq_true rfl), (Nat.le_of_ble_eq_true rfl)⟩ rfl hl.1 rfl (Nat.le_of_ble_eq_true rfl) d_A_choose_60 ⟨(Nat.le_of_ble_eq_true rfl), (Nat.le_of_ble_eq_true rfl)⟩) hP hD hS hA (fun r2 u3 H locs hp9 hP hD hS => ?_)
      have hP : va_P D vwCl (TbW dA ta t ++ (VW dA h ad x)) H := hP
      have hD : va_D A (TbW dA ta t ++ (VW dA h ad x)) := hD
      replace hp9 : bI (hasB (t.th r) w) = r2 := Eq.symm hp9
      subst hp9
      refine lv_if_eq hx hb d_A_choose_63 (tgt := 91) rfl (fun g4 => ?_) (fun g4 => ?_)
      · have g4 := bI_0 g4
        refine lv_aload_n hx hb d_A_choose_91 rfl (lv_at hl 5 rfl) ?_
        refine lv_iload_n hx hb d_A_choose_92 rfl (lv_at hl 6 rfl) ?_
        refine lv_iload hx hb d_A_choose_93 (lv_at hl 7 rfl) ?_
        refine lv_lload hx hb d_A_choose_95 (lv_at hl 10 rfl) ?_
        refine jkV (wr := []) (rnV (As := [.int (nI r), .int (nI w), .long v]) (rest := []) hx hb hml hown hE hK (hN _ _ hS) hP hD (v_Tput l D dA H.size (VW dA h ad x) ta t r w v hcN (show r * t.wi + w < t.cN from by omega) (show r < 256 from by omega)) (q0 := 0) rfl rfl w1433 w1511 w1434 w1435 w807 rfl rfl ⟨⟨by decide, by decide⟩, rfl⟩ ⟨(Nat.le_of_ble_eq_true rfl), (Nat.le_of_ble_eq_true rfl)⟩ rfl hl.1 rfl (Nat.le_of_ble_eq_true rfl) d_A_choose_97 ⟨(Nat.le_of_ble_eq_true rfl), (Nat.le_of_ble_eq_true rfl)⟩) hP hD hS hA (fun u6 H locs hp9 hP hD hS => ?_)
        have hP : va_P D vwCl (TbW dA ta (TB.s_ce (TB.s_th t (va_up t.th r (t.th r ||| bitL w))) (va_up t.ce (r * t.wi + w) v)) ++ (VW dA h ad x)) H := hP
        have hD : va_D A (TbW dA ta (TB.s_ce (TB.s_th t (va_up t.th r (t.th r ||| bitL w))) (va_up t.ce (r * t.wi + w) v)) ++ (VW dA h ad x)) := hD
        refine lv_aload_n hx hb d_A_choose_100 rfl (lv_at hl 3 rfl) ?_
        refine gF (v := .ref (x.bA 0)) hx hb hown hE hK hP 42 rfl rfl layA 5 (by decide) w803 rfl d_A_choose_101 ?_
        refine lv_iload hx hb d_A_choose_104 (lv_at hl 1 rfl) ?_
        refine lv_lload hx hb d_A_choose_106 (lv_at hl 9 rfl) ?_
        refine nlst (n := x.bN) hx hb hK hP hD hS (46) 2 rfl rfl ((r * x.awi) + w) (by omega) (by omega) d_A_choose_108 (fun H locs hP hD hS => ?_)
        have hP : va_P D vwCl (TbW dA ta (TB.s_ce (TB.s_th t (va_up t.th r (t.th r ||| bitL w))) (va_up t.ce (r * t.wi + w) v)) ++ (VW dA h ad (VS.s_bT x (va_up x.bT ((r * x.awi) + w) tm)))) H := hP
        have hD : va_D A (TbW dA ta (TB.s_ce (TB.s_th t (va_up t.th r (t.th r ||| bitL w))) (va_up t.ce (r * t.wi + w) v)) ++ (VW dA h ad (VS.s_bT x (va_up x.bT ((r * x.awi) + w) tm)))) := hD
        refine lv_aload_n hx hb d_A_choose_109 rfl (lv_at hl 3 rfl) ?_
        refine gF (v := .ref (x.bA 1)) hx hb hown hE hK hP 42 rfl rfl layA 6 (by decide) w804 rfl d_A_choose_110 ?_
        refine lv_iload hx hb d_A_choose_113 (lv_at hl 1 rfl) ?_
        refine lv_iload hx hb d_A_choose_115 (lv_at hl 8 rfl) ?_
        refine nistN (v := o) (n := x.bN) hx hb hK hP hD hS (47) 1 rfl rfl ((r * x.awi) + w) (by omega) (by omega) d_A_choose_117 (fun H locs hP hD hS => ?_)
        have hP : va_P D vwCl (TbW dA ta (TB.s_ce (TB.s_th t (va_up t.th r (t.th r ||| bitL w))) (va_up t.ce (r * t.wi + w) v)) ++ (VW dA h ad (VS.s_bO (VS.s_bT x (va_up x.bT ((r * x.awi) + w) tm)) (va_up x.bO ((r * x.awi) + w) o)))) H := hP
        have hD : va_D A (TbW dA ta (TB.s_ce (TB.s_th t (va_up t.th r (t.th r ||| bitL w))) (va_up t.ce (r * t.wi + w) v)) ++ (VW dA h ad (VS.s_bO (VS.s_bT x (va_up x.bT ((r * x.awi) + w) tm)) (va_up x.bO ((r * x.awi) + w) o)))) := hD
        exact rfV hx hb hr hlk hS (⟨TB.s_ce (TB.s_th t (va_up t.th r (t.th r ||| bitL w))) (va_up t.ce (r * t.wi + w) v), VS.s_bO (VS.s_bT x (va_up x.bT ((r * x.awi) + w) tm)) (va_up x.bO ((r * x.awi) + w) o)⟩) ⟨by rw [if_pos (chsB_1 g4)]; rfl, by rw [if_pos (chsB_1 g4)]; rfl⟩ hP hD (Nat.le_of_ble_eq_true rfl) (Nat.le_of_ble_eq_true rfl) d_A_choose_118
      · have g4 := bI_n0 g4
        refine lv_iload hx hb d_A_choose_66 (lv_at hl 0 rfl) ?_
        refine lv_if_ne hx hb d_A_choose_68 (tgt := 91) rfl (fun g7 => ?_) (fun g7 => ?_)
        · have g7 := bI_n0 g7
          refine lv_aload_n hx hb d_A_choose_91 rfl (lv_at hl 5 rfl) ?_
          refine lv_iload_n hx hb d_A_choose_92 rfl (lv_at hl 6 rfl) ?_
          refine lv_iload hx hb d_A_choose_93 (lv_at hl 7 rfl) ?_
          refine lv_lload hx hb d_A_choose_95 (lv_at hl 10 rfl) ?_
          refine jkV (wr := []) (rnV (As := [.int (nI r), .int (nI w), .long v]) (rest := []) hx hb hml hown hE hK (hN _ _ hS) hP hD (v_Tput l D dA H.size (VW dA h ad x) ta t r w v hcN (show r * t.wi + w < t.cN from by omega) (show r < 256 from by omega)) (q0 := 0) rfl rfl w1433 w1511 w1434 w1435 w807 rfl rfl ⟨⟨by decide, by decide⟩, rfl⟩ ⟨(Nat.le_of_ble_eq_true rfl), (Nat.le_of_ble_eq_true rfl)⟩ rfl hl.1 rfl (Nat.le_of_ble_eq_true rfl) d_A_choose_97 ⟨(Nat.le_of_ble_eq_true rfl), (Nat.le_of_ble_eq_true rfl)⟩) hP hD hS hA (fun u9 H locs hp9 hP hD hS => ?_)
          have hP : va_P D vwCl (TbW dA ta (TB.s_ce (TB.s_th t (va_up t.th r (t.th r ||| bitL w))) (va_up t.ce (r * t.wi + w) v)) ++ (VW dA h ad x)) H := hP
          have hD : va_D A (TbW dA ta (TB.s_ce (TB.s_th t (va_up t.th r (t.th r ||| bitL w))) (va_up t.ce (r * t.wi + w) v)) ++ (VW dA h ad x)) := hD
          refine lv_aload_n hx hb d_A_choose_100 rfl (lv_at hl 3 rfl) ?_
          refine gF (v := .ref (x.bA 0)) hx hb hown hE hK hP 42 rfl rfl layA 5 (by decide) w803 rfl d_A_choose_101 ?_
          refine lv_iload hx hb d_A_choose_104 (lv_at hl 1 rfl) ?_
          refine lv_lload hx hb d_A_choose_106 (lv_at hl 9 rfl) ?_
          refine nlst (n := x.bN) hx hb hK hP hD hS (46) 2 rfl rfl ((r * x.awi) + w) (by omega) (by omega) d_A_choose_108 (fun H locs hP hD hS => ?_)
          have hP : va_P D vwCl (TbW dA ta (TB.s_ce (TB.s_th t (va_up t.th r (t.th r ||| bitL w))) (va_up t.ce (r * t.wi + w) v)) ++ (VW dA h ad (VS.s_bT x (va_up x.bT ((r * x.awi) + w) tm)))) H := hP
          have hD : va_D A (TbW dA ta (TB.s_ce (TB.s_th t (va_up t.th r (t.th r ||| bitL w))) (va_up t.ce (r * t.wi + w) v)) ++ (VW dA h ad (VS.s_bT x (va_up x.bT ((r * x.awi) + w) tm)))) := hD
          refine lv_aload_n hx hb d_A_choose_109 rfl (lv_at hl 3 rfl) ?_
          refine gF (v := .ref (x.bA 1)) hx hb hown hE hK hP 42 rfl rfl layA 6 (by decide) w804 rfl d_A_choose_110 ?_
          refine lv_iload hx hb d_A_choose_113 (lv_at hl 1 rfl) ?_
          refine lv_iload hx hb d_A_choose_115 (lv_at hl 8 rfl) ?_
          refine nistN (v := o) (n := x.bN) hx hb hK hP hD hS (47) 1 rfl rfl ((r * x.awi) + w) (by omega) (by omega) d_A_choose_117 (fun H locs hP hD hS => ?_)
          have hP : va_P D vwCl (TbW dA ta (TB.s_ce (TB.s_th t (va_up t.th r (t.th r ||| bitL w))) (va_up t.ce (r * t.wi + w) v)) ++ (VW dA h ad (VS.s_bO (VS.s_bT x (va_up x.bT ((r * x.awi) + w) tm)) (va_up x.bO ((r * x.awi) + w) o)))) H := hP
          have hD : va_D A (TbW dA ta (TB.s_ce (TB.s_th t (va_up t.th r (t.th r ||| bitL w))) (va_up t.ce (r * t.wi + w) v)) ++ (VW dA h ad (VS.s_bO (VS.s_bT x (va_up x.bT ((r * x.awi) + w) tm)) (va_up x.bO ((r * x.awi) + w) o)))) := hD
          exact rfV hx hb hr hlk hS (⟨TB.s_ce (TB.s_th t (va_up t.th r (t.th r ||| bitL w))) (va_up t.ce (r * t.wi + w) v), VS.s_bO (VS.s_bT x (va_up x.bT ((r * x.awi) + w) tm)) (va_up x.bO ((r * x.awi) + w) o)⟩) ⟨by rw [if_pos (chsB_2 (ebb.trans g7))]; rfl, by rw [if_pos (chsB_2 (ebb.trans g7))]; rfl⟩ hP hD (Nat.le_of_ble_eq_true rfl) (Nat.le_of_ble_eq_true rfl) d_A_choose_118
        · have g7 := bI_0 g7
          refine lv_lload hx hb d_A_choose_71 (lv_at hl 9 rfl) ?_
          refine lv_lload hx hb d_A_choose_73 (lv_at hl 2 rfl) ?_
          refine W.lcmp hx hb d_A_choose_75 ?_
          refine lv_if_ne hx hb d_A_choose_76 (tgt := 118) rfl (fun g10 => ?_) (fun g10 => ?_)
          · have g10 := mt (lg_cmp_eq _ _).mpr g10
            exact rfV hx hb hr hlk hS (⟨t, x⟩) ⟨by rw [if_neg (by rw [(chsB_4 g4 (ebb.trans g7) (Or.inl g10))]; decide)], by rw [if_neg (by rw [(chsB_4 g4 (ebb.trans g7) (Or.inl g10))]; decide)]⟩ hP hD (Nat.le_of_ble_eq_true rfl) (Nat.le_of_ble_eq_true rfl) d_A_choose_118
          · have g10 := (lg_cmp_eq _ _).mp g10
            refine lv_iload hx hb d_A_choose_79 (lv_at hl 8 rfl) ?_
            refine lv_aload_n hx hb d_A_choose_81 rfl (lv_at hl 3 rfl) ?_
            refine gF (v := .ref (x.bA 1)) hx hb hown hE hK hP 42 rfl rfl layA 6 (by decide) w804 rfl d_A_choose_82 ?_
            refine lv_iload hx hb d_A_choose_85 (lv_at hl 1 rfl) ?_
            refine nild (f := (fun z9 => nI (x.bO z9))) (n := x.bN) hx hb hK hP (47) 1 rfl rfl ((r * x.awi) + w) (by omega) (by omega) d_A_choose_87 ?_
            refine lv_icmp_ge hx hb d_A_choose_88 (tgt := 118) rfl (fun g11 => ?_) (fun g11 => ?_)
            · have g11 := (nI_leI (a := x.bO ((r * x.awi) + w)) (b := o) (by omega) (by omega)).mp g11
              exact rfV hx hb hr hlk hS (⟨t, x⟩) ⟨by rw [if_neg (by rw [(chsB_4 g4 (ebb.trans g7) (Or.inr (by omega)))]; decide)], by rw [if_neg (by rw [(chsB_4 g4 (ebb.trans g7) (Or.inr (by omega)))]; decide)]⟩ hP hD (Nat.le_of_ble_eq_true rfl) (Nat.le_of_ble_eq_true rfl) d_A_choose_118
            · have g11 := mt (nI_leI (a := x.bO ((r * x.awi) + w)) (b := o) (by omega) (by omega)).mpr g11
              refine lv_aload_n hx hb d_A_choose_91 rfl (lv_at hl 5 rfl) ?_
              refine lv_iload_n hx hb d_A_choose_92 rfl (lv_at hl 6 rfl) ?_
              refine lv_iload hx hb d_A_choose_93 (lv_at hl 7 rfl) ?_
              refine lv_lload hx hb d_A_choose_95 (lv_at hl 10 rfl) ?_
              refine jkV (wr := []) (rnV (As := [.int (nI r), .int (nI w), .long v]) (rest := []) hx hb hml hown hE hK (hN _ _ hS) hP hD (v_Tput l D dA H.size (VW dA h ad x) ta t r w v hcN (show r * t.wi + w < t.cN from by omega) (show r < 256 from by omega)) (q0 := 0) rfl rfl w1433 w1511 w1434 w1435 w807 rfl rfl ⟨⟨by decide, by decide⟩, rfl⟩ ⟨(Nat.le_of_ble_eq_true rfl), (Nat.le_of_ble_eq_true rfl)⟩ rfl hl.1 rfl (Nat.le_of_ble_eq_true rfl) d_A_choose_97 ⟨(Nat.le_of_ble_eq_true rfl), (Nat.le_of_ble_eq_true rfl)⟩) hP hD hS hA (fun u13 H locs hp9 hP hD hS => ?_)
              have hP : va_P D vwCl (TbW dA ta (TB.s_ce (TB.s_th t (va_up t.th r (t.th r ||| bitL w))) (va_up t.ce (r * t.wi + w) v)) ++ (VW dA h ad x)) H := hP
              have hD : va_D A (TbW dA ta (TB.s_ce (TB.s_th t (va_up t.th r (t.th r ||| bitL w))) (va_up t.ce (r * t.wi + w) v)) ++ (VW dA h ad x)) := hD
              refine lv_aload_n hx hb d_A_choose_100 rfl (lv_at hl 3 rfl) ?_
              refine gF (v := .ref (x.bA 0)) hx hb hown hE hK hP 42 rfl rfl layA 5 (by decide) w803 rfl d_A_choose_101 ?_
              refine lv_iload hx hb d_A_choose_104 (lv_at hl 1 rfl) ?_
              refine lv_lload hx hb d_A_choose_106 (lv_at hl 9 rfl) ?_
              refine nlst (n := x.bN) hx hb hK hP hD hS (46) 2 rfl rfl ((r * x.awi) + w) (by omega) (by omega) d_A_choose_108 (fun H locs hP hD hS => ?_)
              have hP : va_P D vwCl (TbW dA ta (TB.s_ce (TB.s_th t (va_up t.th r (t.th r ||| bitL w))) (va_up t.ce (r * t.wi + w) v)) ++ (VW dA h ad (VS.s_bT x (va_up x.bT ((r * x.awi) + w) tm)))) H := hP
              have hD : va_D A (TbW dA ta (TB.s_ce (TB.s_th t (va_up t.th r (t.th r ||| bitL w))) (va_up t.ce (r * t.wi + w) v)) ++ (VW dA h ad (VS.s_bT x (va_up x.bT ((r * x.awi) + w) tm)))) := hD
              refine lv_aload_n hx hb d_A_choose_109 rfl (lv_at hl 3 rfl) ?_
              refine gF (v := .ref (x.bA 1)) hx hb hown hE hK hP 42 rfl rfl layA 6 (by decide) w804 rfl d_A_choose_110 ?_
              refine lv_iload hx hb d_A_choose_113 (lv_at hl 1 rfl) ?_
              refine lv_iload hx hb d_A_choose_115 (lv_at hl 8 rfl) ?_
              refine nistN (v := o) (n := x.bN) hx hb hK hP hD hS (47) 1 rfl rfl ((r * x.awi) + w) (by omega) (by omega) d_A_choose_117 (fun H locs hP hD hS => ?_)
              have hP : va_P D vwCl (TbW dA ta (TB.s_ce (TB.s_th t (va_up t.th r (t.th r ||| bitL w))) (va_up t.ce (r * t.wi + w) v)) ++ (VW dA h ad (VS.s_bO (VS.s_bT x (va_up x.bT ((r * x.awi) + w) tm)) (va_up x.bO ((r * x.awi) + w) o)))) H := hP
              have hD : va_D A (TbW dA ta (TB.s_ce (TB.s_th t (va_up t.th r (t.th r ||| bitL w))) (va_up t.ce (r * t.wi + w) v)) ++ (VW dA h ad (VS.s_bO (VS.s_bT x (va_up x.bT ((r * x.awi) + w) tm)) (va_up x.bO ((r * x.awi) + w) o)))) := hD
              exact rfV hx hb hr hlk hS (⟨TB.s_ce (TB.s_th t (va_up t.th r (t.th r ||| bitL w))) (va_up t.ce (r * t.wi + w) v), VS.s_bO (VS.s_bT x (va_up x.bT ((r * x.awi) + w) tm)) (va_up x.bO ((r * x.awi) + w) o)⟩) ⟨by rw [if_pos (chsB_3 g10 (by omega))]; rfl, by rw [if_pos (chsB_3 g10 (by omega))]; rfl⟩ hP hD (Nat.le_of_ble_eq_true rfl) (Nat.le_of_ble_eq_true rfl) d_A_choose_118
    refine lv_istore hx hb d_A_choose_54 hl (by decide) rfl (fun ls hl => ?_)
    have hl : lv_has ls 14 [(13, .int 0), (11, .long (x.bT ((r * x.awi) + w))), (10, .int (nI ((r * x.awi) + w))), (0, .ref (ad 24)), (1, .int 4), (2, .ref (ta 0)), (3, .int (nI r)), (4, .int (nI w)), (5, .int (nI o)), (6, .long tm), (8, .long v)] := hl
    exact J56 false (by unfold btB; rw [if_pos rfl, decide_eq_false (Int64.not_lt.mpr g1)]) H _ ls hP hD hS (lv_sub hl [0, 2, 1, 3, 4, 5, 6, 7, 8, 9, 10] rfl)
  · have g1 := mt (lg_cmp_ge _ _).mpr g1
    refine lv_iconst (v := 1) hx hb d_A_choose_33 (by decide) ?_
    refine lv_goto hx hb d_A_choose_34 (tgt := 54) rfl ?_
    have J56 : ∀ (bb : Bool) (ebb : btB 4 tm (x.bT ((r * x.awi) + w)) = bb), ∀ (H : Heap) (locs : List Loc) (ls : Array Slot) (hP : va_P D vwCl (TbW dA ta t ++ (VW dA h ad x)) H) (hD : va_D A (TbW dA ta t ++ (VW dA h ad x))) (hS : va_S A s.heap H locs) (hl : lv_has ls 14 [(13, .int (bI bb)), (10, .int (nI ((r * x.awi) + w))), (11, .long (x.bT ((r * x.awi) + w))), (0, .ref (ad 24)), (1, .int 4), (2, .ref (ta 0)), (3, .int (nI r)), (4, .int (nI w)), (5, .int (nI o)), (6, .long tm), (8, .long v)]), W p l e ({ frames := 2, cells := 0, slots := 0, locals := 24 } : Room) s m ([.ref (ad 24), .int 4, .ref (ta 0), .int (nI r), .int (nI w), .int (nI o), .long tm, .long v] : List Value).toArray below meth c H locs 0 0 (MQ below (va_Qv (fun (u9 : TB × VS) => u9.1 = (if chsB 4 (hasB (t.th r) w) tm (x.bT ((r * x.awi) + w)) o (x.bO ((r * x.awi) + w)) = true then t.pt r w v else t) ∧ u9.2 = (if chsB 4 (hasB (t.th r) w) tm (x.bT ((r * x.awi) + w)) o (x.bO ((r * x.awi) + w)) = true then chX x (r * x.awi + w) o tm else x)) (fun (u9 : TB × VS) t9 => bW D A (TbW dA ta u9.1 ++ (VW dA h ad u9.2)) t9) A) ([.ref (ad 24), .int 4, .ref (ta 0), .int (nI r), .int (nI w), .int (nI o), .long tm, .long v] : List Value).toArray s 0 0 A) (F0 m 56 ls []) := by
      intro bb ebb H locs ls hP hD hS hl
      refine lv_aload_n hx hb d_A_choose_56 rfl (lv_at hl 5 rfl) ?_
      refine lv_iload_n hx hb d_A_choose_57 rfl (lv_at hl 6 rfl) ?_
      refine lv_iload hx hb d_A_choose_58 (lv_at hl 7 rfl) ?_
      refine jkI (wr := []) (rnV (As := [.int (nI r), .int (nI w)]) (rest := []) hx hb hml hown hE hK (hN _ _ hS) hP hD (v_Thas l D dA H.size (VW dA h ad x) ta t r w (show r < 256 from by omega)) (q0 := 0) rfl rfl w1506 w1505 w1507 w1508 w807 rfl rfl ⟨⟨by decide, by decide⟩, rfl⟩ ⟨(Nat.le_of_ble_eq_true rfl), (Nat.le_of_ble_eq_true rfl)⟩ rfl hl.1 rfl (Nat.le_of_ble_eq_true rfl) d_A_choose_60 ⟨(Nat.le_of_ble_eq_true rfl), (Nat.le_of_ble_eq_true rfl)⟩) hP hD hS hA (fun r14 u15 H locs hp9 hP hD hS => ?_)
      have hP : va_P D vwCl (TbW dA ta t ++ (VW dA h ad x)) H := hP
      have hD : va_D A (TbW dA ta t ++ (VW dA h ad x)) := hD
      replace hp9 : bI (hasB (t.th r) w) = r14 := Eq.symm hp9
      subst hp9
      refine lv_if_eq hx hb d_A_choose_63 (tgt := 91) rfl (fun g16 => ?_) (fun g16 => ?_)
      · have g16 := bI_0 g16
        refine lv_aload_n hx hb d_A_choose_91 rfl (lv_at hl 5 rfl) ?_
        refine lv_iload_n hx hb d_A_choose_92 rfl (lv_at hl 6 rfl) ?_
        refine lv_iload hx hb d_A_choose_93 (lv_at hl 7 rfl) ?_
        refine lv_lload hx hb d_A_choose_95 (lv_at hl 10 rfl) ?_
        refine jkV (wr := []) (rnV (As := [.int (nI r), .int (nI w), .long v]) (rest := []) hx hb hml hown hE hK (hN _ _ hS) hP hD (v_Tput l D dA H.size (VW dA h ad x) ta t r w v hcN (show r * t.wi + w < t.cN from by omega) (show r < 256 from by omega)) (q0 := 0) rfl rfl w1433 w1511 w1434 w1435 w807 rfl rfl ⟨⟨by decide, by decide⟩, rfl⟩ ⟨(Nat.le_of_ble_eq_true rfl), (Nat.le_of_ble_eq_true rfl)⟩ rfl hl.1 rfl (Nat.le_of_ble_eq_true rfl) d_A_choose_97 ⟨(Nat.le_of_ble_eq_true rfl), (Nat.le_of_ble_eq_true rfl)⟩) hP hD hS hA (fun u18 H locs hp9 hP hD hS => ?_)
        have hP : va_P D vwCl (TbW dA ta (TB.s_ce (TB.s_th t (va_up t.th r (t.th r ||| bitL w))) (va_up t.ce (r * t.wi + w) v)) ++ (VW dA h ad x)) H := hP
        have hD : va_D A (TbW dA ta (TB.s_ce (TB.s_th t (va_up t.th r (t.th r ||| bitL w))) (va_up t.ce (r * t.wi + w) v)) ++ (VW dA h ad x)) := hD
        refine lv_aload_n hx hb d_A_choose_100 rfl (lv_at hl 3 rfl) ?_
        refine gF (v := .ref (x.bA 0)) hx hb hown hE hK hP 42 rfl rfl layA 5 (by decide) w803 rfl d_A_choose_101 ?_
        refine lv_iload hx hb d_A_choose_104 (lv_at hl 1 rfl) ?_
        refine lv_lload hx hb d_A_choose_106 (lv_at hl 9 rfl) ?_
        refine nlst (n := x.bN) hx hb hK hP hD hS (46) 2 rfl rfl ((r * x.awi) + w) (by omega) (by omega) d_A_choose_108 (fun H locs hP hD hS => ?_)
        have hP : va_P D vwCl (TbW dA ta (TB.s_ce (TB.s_th t (va_up t.th r (t.th r ||| bitL w))) (va_up t.ce (r * t.wi + w) v)) ++ (VW dA h ad (VS.s_bT x (va_up x.bT ((r * x.awi) + w) tm)))) H := hP
        have hD : va_D A (TbW dA ta (TB.s_ce (TB.s_th t (va_up t.th r (t.th r ||| bitL w))) (va_up t.ce (r * t.wi + w) v)) ++ (VW dA h ad (VS.s_bT x (va_up x.bT ((r * x.awi) + w) tm)))) := hD
        refine lv_aload_n hx hb d_A_choose_109 rfl (lv_at hl 3 rfl) ?_
        refine gF (v := .ref (x.bA 1)) hx hb hown hE hK hP 42 rfl rfl layA 6 (by decide) w804 rfl d_A_choose_110 ?_
        refine lv_iload hx hb d_A_choose_113 (lv_at hl 1 rfl) ?_
        refine lv_iload hx hb d_A_choose_115 (lv_at hl 8 rfl) ?_
        refine nistN (v := o) (n := x.bN) hx hb hK hP hD hS (47) 1 rfl rfl ((r * x.awi) + w) (by omega) (by omega) d_A_choose_117 (fun H locs hP hD hS => ?_)
        have hP : va_P D vwCl (TbW dA ta (TB.s_ce (TB.s_th t (va_up t.th r (t.th r ||| bitL w))) (va_up t.ce (r * t.wi + w) v)) ++ (VW dA h ad (VS.s_bO (VS.s_bT x (va_up x.bT ((r * x.awi) + w) tm)) (va_up x.bO ((r * x.awi) + w) o)))) H := hP
        have hD : va_D A (TbW dA ta (TB.s_ce (TB.s_th t (va_up t.th r (t.th r ||| bitL w))) (va_up t.ce (r * t.wi + w) v)) ++ (VW dA h ad (VS.s_bO (VS.s_bT x (va_up x.bT ((r * x.awi) + w) tm)) (va_up x.bO ((r * x.awi) + w) o)))) := hD
        exact rfV hx hb hr hlk hS (⟨TB.s_ce (TB.s_th t (va_up t.th r (t.th r ||| bitL w))) (va_up t.ce (r * t.wi + w) v), VS.s_bO (VS.s_bT x (va_up x.bT ((r * x.awi) + w) tm)) (va_up x.bO ((r * x.awi) + w) o)⟩) ⟨by rw [if_pos (chsB_1 g16)]; rfl, by rw [if_pos (chsB_1 g16)]; rfl⟩ hP hD (Nat.le_of_ble_eq_true rfl) (Nat.le_of_ble_eq_true rfl) d_A_choose_118
      · have g16 := bI_n0 g16
        refine lv_iload hx hb d_A_choose_66 (lv_at hl 0 rfl) ?_
        refine lv_if_ne hx hb d_A_choose_68 (tgt := 91) rfl (fun g19 => ?_) (fun g19 => ?_)
        · have g19 := bI_n0 g19
          refine lv_aload_n hx hb d_A_choose_91 rfl (lv_at hl 5 rfl) ?_
          refine lv_iload_n hx hb d_A_choose_92 rfl (lv_at hl 6 rfl) ?_
          refine lv_iload hx hb d_A_choose_93 (lv_at hl 7 rfl) ?_
          refine lv_lload hx hb d_A_choose_95 (lv_at hl 10 rfl) ?_
          refine jkV (wr := []) (rnV (As := [.int (nI r), .int (nI w), .long v]) (rest := []) hx hb hml hown hE hK (hN _ _ hS) hP hD (v_Tput l D dA H.size (VW dA h ad x) ta t r w v hcN (show r * t.wi + w < t.cN from by omega) (show r < 256 from by omega)) (q0 := 0) rfl rfl w1433 w1511 w1434 w1435 w807 rfl rfl ⟨⟨by decide, by decide⟩, rfl⟩ ⟨(Nat.le_of_ble_eq_true rfl), (Nat.le_of_ble_eq_true rfl)⟩ rfl hl.1 rfl (Nat.le_of_ble_eq_true rfl) d_A_choose_97 ⟨(Nat.le_of_ble_eq_true rfl), (Nat.le_of_ble_eq_true rfl)⟩) hP hD hS hA (fun u21 H locs hp9 hP hD hS => ?_)
          have hP : va_P D vwCl (TbW dA ta (TB.s_ce (TB.s_th t (va_up t.th r (t.th r ||| bitL w))) (va_up t.ce (r * t.wi + w) v)) ++ (VW dA h ad x)) H := hP
          have hD : va_D A (TbW dA ta (TB.s_ce (TB.s_th t (va_up t.th r (t.th r ||| bitL w))) (va_up t.ce (r * t.wi + w) v)) ++ (VW dA h ad x)) := hD
          refine lv_aload_n hx hb d_A_choose_100 rfl (lv_at hl 3 rfl) ?_
          refine gF (v := .ref (x.bA 0)) hx hb hown hE hK hP 42 rfl rfl layA 5 (by decide) w803 rfl d_A_choose_101 ?_
          refine lv_iload hx hb d_A_choose_104 (lv_at hl 1 rfl) ?_
          refine lv_lload hx hb d_A_choose_106 (lv_at hl 9 rfl) ?_
          refine nlst (n := x.bN) hx hb hK hP hD hS (46) 2 rfl rfl ((r * x.awi) + w) (by omega) (by omega) d_A_choose_108 (fun H locs hP hD hS => ?_)
          have hP : va_P D vwCl (TbW dA ta (TB.s_ce (TB.s_th t (va_up t.th r (t.th r ||| bitL w))) (va_up t.ce (r * t.wi + w) v)) ++ (VW dA h ad (VS.s_bT x (va_up x.bT ((r * x.awi) + w) tm)))) H := hP
          have hD : va_D A (TbW dA ta (TB.s_ce (TB.s_th t (va_up t.th r (t.th r ||| bitL w))) (va_up t.ce (r * t.wi + w) v)) ++ (VW dA h ad (VS.s_bT x (va_up x.bT ((r * x.awi) + w) tm)))) := hD
          refine lv_aload_n hx hb d_A_choose_109 rfl (lv_at hl 3 rfl) ?_
          refine gF (v := .ref (x.bA 1)) hx hb hown hE hK hP 42 rfl rfl layA 6 (by decide) w804 rfl d_A_choose_110 ?_
          refine lv_iload hx hb d_A_choose_113 (lv_at hl 1 rfl) ?_
          refine lv_iload hx hb d_A_choose_115 (lv_at hl 8 rfl) ?_
          refine nistN (v := o) (n := x.bN) hx hb hK hP hD hS (47) 1 rfl rfl ((r * x.awi) + w) (by omega) (by omega) d_A_choose_117 (fun H locs hP hD hS => ?_)
          have hP : va_P D vwCl (TbW dA ta (TB.s_ce (TB.s_th t (va_up t.th r (t.th r ||| bitL w))) (va_up t.ce (r * t.wi + w) v)) ++ (VW dA h ad (VS.s_bO (VS.s_bT x (va_up x.bT ((r * x.awi) + w) tm)) (va_up x.bO ((r * x.awi) + w) o)))) H := hP
          have hD : va_D A (TbW dA ta (TB.s_ce (TB.s_th t (va_up t.th r (t.th r ||| bitL w))) (va_up t.ce (r * t.wi + w) v)) ++ (VW dA h ad (VS.s_bO (VS.s_bT x (va_up x.bT ((r * x.awi) + w) tm)) (va_up x.bO ((r * x.awi) + w) o)))) := hD
          exact rfV hx hb hr hlk hS (⟨TB.s_ce (TB.s_th t (va_up t.th r (t.th r ||| bitL w))) (va_up t.ce (r * t.wi + w) v), VS.s_bO (VS.s_bT x (va_up x.bT ((r * x.awi) + w) tm)) (va_up x.bO ((r * x.awi) + w) o)⟩) ⟨by rw [if_pos (chsB_2 (ebb.trans g19))]; rfl, by rw [if_pos (chsB_2 (ebb.trans g19))]; rfl⟩ hP hD (Nat.le_of_ble_eq_true rfl) (Nat.le_of_ble_eq_true rfl) d_A_choose_118
        · have g19 := bI_0 g19
          refine lv_lload hx hb d_A_choose_71 (lv_at hl 9 rfl) ?_
          refine lv_lload hx hb d_A_choose_73 (lv_at hl 2 rfl) ?_
          refine W.lcmp hx hb d_A_choose_75 ?_
          refine lv_if_ne hx hb d_A_choose_76 (tgt := 118) rfl (fun g22 => ?_) (fun g22 => ?_)
          · have g22 := mt (lg_cmp_eq _ _).mpr g22
            exact rfV hx hb hr hlk hS (⟨t, x⟩) ⟨by rw [if_neg (by rw [(chsB_4 g16 (ebb.trans g19) (Or.inl g22))]; decide)], by rw [if_neg (by rw [(chsB_4 g16 (ebb.trans g19) (Or.inl g22))]; decide)]⟩ hP hD (Nat.le_of_ble_eq_true rfl) (Nat.le_of_ble_eq_true rfl) d_A_choose_118
          · have g22 := (lg_cmp_eq _ _).mp g22
            refine lv_iload hx hb d_A_choose_79 (lv_at hl 8 rfl) ?_
            refine lv_aload_n hx hb d_A_choose_81 rfl (lv_at hl 3 rfl) ?_
            refine gF (v := .ref (x.bA 1)) hx hb hown hE hK hP 42 rfl rfl layA 6 (by decide) w804 rfl d_A_choose_82 ?_
            refine lv_iload hx hb d_A_choose_85 (lv_at hl 1 rfl) ?_
            refine nild (f := (fun z9 => nI (x.bO z9))) (n := x.bN) hx hb hK hP (47) 1 rfl rfl ((r * x.awi) + w) (by omega) (by omega) d_A_choose_87 ?_
            refine lv_icmp_ge hx hb d_A_choose_88 (tgt := 118) rfl (fun g23 => ?_) (fun g23 => ?_)
            · have g23 := (nI_leI (a := x.bO ((r * x.awi) + w)) (b := o) (by omega) (by omega)).mp g23
              exact rfV hx hb hr hlk hS (⟨t, x⟩) ⟨by rw [if_neg (by rw [(chsB_4 g16 (ebb.trans g19) (Or.inr (by omega)))]; decide)], by rw [if_neg (by rw [(chsB_4 g16 (ebb.trans g19) (Or.inr (by omega)))]; decide)]⟩ hP hD (Nat.le_of_ble_eq_true rfl) (Nat.le_of_ble_eq_true rfl) d_A_choose_118
            · have g23 := mt (nI_leI (a := x.bO ((r * x.awi) + w)) (b := o) (by omega) (by omega)).mpr g23
              refine lv_aload_n hx hb d_A_choose_91 rfl (lv_at hl 5 rfl) ?_
              refine lv_iload_n hx hb d_A_choose_92 rfl (lv_at hl 6 rfl) ?_
              refine lv_iload hx hb d_A_choose_93 (lv_at hl 7 rfl) ?_
              refine lv_lload hx hb d_A_choose_95 (lv_at hl 10 rfl) ?_
              refine jkV (wr := []) (rnV (As := [.int (nI r), .int (nI w), .long v]) (rest := []) hx hb hml hown hE hK (hN _ _ hS) hP hD (v_Tput l D dA H.size (VW dA h ad x) ta t r w v hcN (show r * t.wi + w < t.cN from by omega) (show r < 256 from by omega)) (q0 := 0) rfl rfl w1433 w1511 w1434 w1435 w807 rfl rfl ⟨⟨by decide, by decide⟩, rfl⟩ ⟨(Nat.le_of_ble_eq_true rfl), (Nat.le_of_ble_eq_true rfl)⟩ rfl hl.1 rfl (Nat.le_of_ble_eq_true rfl) d_A_choose_97 ⟨(Nat.le_of_ble_eq_true rfl), (Nat.le_of_ble_eq_true rfl)⟩) hP hD hS hA (fun u25 H locs hp9 hP hD hS => ?_)
              have hP : va_P D vwCl (TbW dA ta (TB.s_ce (TB.s_th t (va_up t.th r (t.th r ||| bitL w))) (va_up t.ce (r * t.wi + w) v)) ++ (VW dA h ad x)) H := hP
              have hD : va_D A (TbW dA ta (TB.s_ce (TB.s_th t (va_up t.th r (t.th r ||| bitL w))) (va_up t.ce (r * t.wi + w) v)) ++ (VW dA h ad x)) := hD
              refine lv_aload_n hx hb d_A_choose_100 rfl (lv_at hl 3 rfl) ?_
              refine gF (v := .ref (x.bA 0)) hx hb hown hE hK hP 42 rfl rfl layA 5 (by decide) w803 rfl d_A_choose_101 ?_
              refine lv_iload hx hb d_A_choose_104 (lv_at hl 1 rfl) ?_
              refine lv_lload hx hb d_A_choose_106 (lv_at hl 9 rfl) ?_
              refine nlst (n := x.bN) hx hb hK hP hD hS (46) 2 rfl rfl ((r * x.awi) + w) (by omega) (by omega) d_A_choose_108 (fun H locs hP hD hS => ?_)
              have hP : va_P D vwCl (TbW dA ta (TB.s_ce (TB.s_th t (va_up t.th r (t.th r ||| bitL w))) (va_up t.ce (r * t.wi + w) v)) ++ (VW dA h ad (VS.s_bT x (va_up x.bT ((r * x.awi) + w) tm)))) H := hP
              have hD : va_D A (TbW dA ta (TB.s_ce (TB.s_th t (va_up t.th r (t.th r ||| bitL w))) (va_up t.ce (r * t.wi + w) v)) ++ (VW dA h ad (VS.s_bT x (va_up x.bT ((r * x.awi) + w) tm)))) := hD
              refine lv_aload_n hx hb d_A_choose_109 rfl (lv_at hl 3 rfl) ?_
              refine gF (v := .ref (x.bA 1)) hx hb hown hE hK hP 42 rfl rfl layA 6 (by decide) w804 rfl d_A_choose_110 ?_
              refine lv_iload hx hb d_A_choose_113 (lv_at hl 1 rfl) ?_
              refine lv_iload hx hb d_A_choose_115 (lv_at hl 8 rfl) ?_
              refine nistN (v := o) (n := x.bN) hx hb hK hP hD hS (47) 1 rfl rfl ((r * x.awi) + w) (by omega) (by omega) d_A_choose_117 (fun H locs hP hD hS => ?_)
              have hP : va_P D vwCl (TbW dA ta (TB.s_ce (TB.s_th t (va_up t.th r (t.th r ||| bitL w))) (va_up t.ce (r * t.wi + w) v)) ++ (VW dA h ad (VS.s_bO (VS.s_bT x (va_up x.bT ((r * x.awi) + w) tm)) (va_up x.bO ((r * x.awi) + w) o)))) H := hP
              have hD : va_D A (TbW dA ta (TB.s_ce (TB.s_th t (va_up t.th r (t.th r ||| bitL w))) (va_up t.ce (r * t.wi + w) v)) ++ (VW dA h ad (VS.s_bO (VS.s_bT x (va_up x.bT ((r * x.awi) + w) tm)) (va_up x.bO ((r * x.awi) + w) o)))) := hD
              exact rfV hx hb hr hlk hS (⟨TB.s_ce (TB.s_th t (va_up t.th r (t.th r ||| bitL w))) (va_up t.ce (r * t.wi + w) v), VS.s_bO (VS.s_bT x (va_up x.bT ((r * x.awi) + w) tm)) (va_up x.bO ((r * x.awi) + w) o)⟩) ⟨by rw [if_pos (chsB_3 g22 (by omega))]; rfl, by rw [if_pos (chsB_3 g22 (by omega))]; rfl⟩ hP hD (Nat.le_of_ble_eq_true rfl) (Nat.le_of_ble_eq_true rfl) d_A_choose_118
    refine lv_istore hx hb d_A_choose_54 hl (by decide) rfl (fun ls hl => ?_)
    have hl : lv_has ls 14 [(13, .int 1), (11, .long (x.bT ((r * x.awi) + w))), (10, .int (nI ((r * x.awi) + w))), (0, .ref (ad 24)), (1, .int 4), (2, .ref (ta 0)), (3, .int (nI r)), (4, .int (nI w)), (5, .int (nI o)), (6, .long tm), (8, .long v)] := hl
    exact J56 true (by unfold btB; rw [if_pos rfl, decide_eq_true (Int64.not_le.mp g1)]) H _ ls hP hD hS (lv_sub hl [0, 2, 1, 3, 4, 5, 6, 7, 8, 9, 10] rfl)
theorem d_A_choose_41 : decode prog_2_method_12_code 41 = .ok (.lload 6, 2) := by decide +kernel
theorem d_A_choose_43 : decode prog_2_method_12_code 43 = .ok (.lload 11, 2) := by decide +kernel
theorem d_A_choose_45 : decode prog_2_method_12_code 45 = .ok (.lcmp, 1) := by decide +kernel
theorem d_A_choose_46 : decode prog_2_method_12_code 46 = .ok (.ifCond .le 7, 3) := by decide +kernel
theorem d_A_choose_53 : decode prog_2_method_12_code 53 = .ok (.iconst 0, 1) := by decide +kernel
theorem d_A_choose_49 : decode prog_2_method_12_code 49 = .ok (.iconst 1, 1) := by decide +kernel
theorem d_A_choose_50 : decode prog_2_method_12_code 50 = .ok (.goto 4, 3) := by decide +kernel
set_option maxHeartbeats 4000000 in
set_option maxRecDepth 100000 in
theorem v_choose_5 (l : Launch) (D : va_G) (dA : Nat → ClassId) (sz : Nat) (h : Nat) (ad : Nat → Nat) (ta : Nat → Nat) (t : TB) (x : VS) (r : Nat) (w : Nat) (o : Nat) (tm : Int64) (v : Int64) (hcN : t.cN ≤ 65536) (h1 : r * t.wi + w < t.cN) (h2 : r < 256) (h3 : o < 256) (h4 : r * x.awi + w < x.bN) (h5 : x.bN ≤ 65536) (h6 : x.bO (r * x.awi + w) < 256) : Met l ⟨"SeriesVault$Answers", "choose", "(ILSeriesVault$Table;IIIJJ)V"⟩ [Cond.code ⟨"SeriesVault$Answers", "choose", "(ILSeriesVault$Table;IIIJJ)V"⟩ prog_2_method_12_code 14 none] { frames := 2, cells := 0, slots := 0, locals := 24 } (pC D dA [.ref (ad 24), .int 5, .ref (ta 0), .int (nI r), .int (nI w), .int (nI o), .long tm, .long v] (TbW dA ta t ++ (VW dA h ad x)) sz) (va_Qv (fun (u9 : TB × VS) => u9.1 = (if chsB 5 (hasB (t.th r) w) tm (x.bT ((r * x.awi) + w)) o (x.bO ((r * x.awi) + w)) = true then t.pt r w v else t) ∧ u9.2 = (if chsB 5 (hasB (t.th r) w) tm (x.bT ((r * x.awi) + w)) o (x.bO ((r * x.awi) + w)) = true then chX x (r * x.awi + w) o tm else x)) (fun (u9 : TB × VS) t9 => bW D (va_A (TbW dA ta t ++ (VW dA h ad x)) sz) (TbW dA ta u9.1 ++ (VW dA h ad u9.2)) t9) (va_A (TbW dA ta t ++ (VW dA h ad x)) sz)) 0 0 (va_A (TbW dA ta t ++ (VW dA h ad x)) sz) := by
  refine mkC (y := ⟨"SeriesVault$Answers", "choose", "(ILSeriesVault$Table;IIIJJ)V"⟩) (cc := prog_2_method_12_code) (maxL := 14) (av := [.ref (ad 24), .int 5, .ref (ta 0), .int (nI r), .int (nI w), .int (nI o), .long tm, .long v]) (ws := TbW dA ta t ++ (VW dA h ad x)) (sz := sz) (Qc := fun A => va_Qv (fun (u9 : TB × VS) => u9.1 = (if chsB 5 (hasB (t.th r) w) tm (x.bT ((r * x.awi) + w)) o (x.bO ((r * x.awi) + w)) = true then t.pt r w v else t) ∧ u9.2 = (if chsB 5 (hasB (t.th r) w) tm (x.bT ((r * x.awi) + w)) o (x.bO ((r * x.awi) + w)) = true then chX x (r * x.awi + w) o tm else x)) (fun (u9 : TB × VS) t9 => bW D A (TbW dA ta u9.1 ++ (VW dA h ad u9.2)) t9) A) (by decide) (Nat.le_of_ble_eq_true rfl) ?_
  intro A p e s m below meth c ls hsz hB
  obtain ⟨hx, hb, hr, hml, hown, hin, hlk, hE, hK, hP, hD, hS, hA, hN, hl⟩ := hB
  have hown : s.vm.findClass "SeriesVault$Answers" = some m.cls := hown
  have hl : lv_has ls 14 [(0, .ref (ad 24)), (1, .int 5), (2, .ref (ta 0)), (3, .int (nI r)), (4, .int (nI w)), (5, .int (nI o)), (6, .long tm), (8, .long v)] := hl
  obtain ⟨H, hH⟩ : ∃ z, z = s.heap := ⟨_, rfl⟩
  have hP : va_P D vwCl (TbW dA ta t ++ (VW dA h ad x)) H := by rw [hH]; exact hP
  have hS : va_S A s.heap H [] := by rw [hH]; exact hS
  rw [← hH]
  refine lv_iload_n hx hb d_A_choose_0 rfl (lv_at hl 3 rfl) ?_
  refine lv_aload_n hx hb d_A_choose_1 rfl (lv_at hl 0 rfl) ?_
  refine gF (v := .int (nI x.awi)) hx hb hown hE hK hP 42 rfl rfl layA 9 (by decide) w1503 rfl d_A_choose_2 ?_
  refine lv_imul hx hb d_A_choose_5 (tpi (y := nI (r * x.awi)) (pk_mul (r) (x.awi)) ?_)
  refine lv_iload hx hb d_A_choose_6 (lv_at hl 4 rfl) ?_
  refine lv_iadd hx hb d_A_choose_8 (tpi (y := nI ((r * x.awi) + w)) (nI_add (r * x.awi) (w)) ?_)
  refine lv_istore hx hb d_A_choose_9 hl (by decide) rfl (fun ls hl => ?_)
  have hl : lv_has ls 14 [(10, .int (nI ((r * x.awi) + w))), (0, .ref (ad 24)), (1, .int 5), (2, .ref (ta 0)), (3, .int (nI r)), (4, .int (nI w)), (5, .int (nI o)), (6, .long tm), (8, .long v)] := hl
  refine lv_aload_n hx hb d_A_choose_11 rfl (lv_at hl 1 rfl) ?_
  refine gF (v := .ref (x.bA 0)) hx hb hown hE hK hP 42 rfl rfl layA 5 (by decide) w803 rfl d_A_choose_12 ?_
  refine lv_iload hx hb d_A_choose_15 (lv_at hl 0 rfl) ?_
  refine nlld (f := x.bT) (n := x.bN) hx hb hK hP (46) 2 rfl rfl ((r * x.awi) + w) (by omega) (by omega) d_A_choose_17 ?_
  refine lv_lstore hx hb d_A_choose_18 hl (by decide) rfl (fun ls hl => ?_)
  have hl : lv_has ls 14 [(11, .long (x.bT ((r * x.awi) + w))), (10, .int (nI ((r * x.awi) + w))), (0, .ref (ad 24)), (1, .int 5), (2, .ref (ta 0)), (3, .int (nI r)), (4, .int (nI w)), (5, .int (nI o)), (6, .long tm), (8, .long v)] := hl
  refine lv_iload_n hx hb d_A_choose_20 rfl (lv_at hl 3 rfl) ?_
  refine lv_iconst (v := 4) hx hb d_A_choose_21 (by decide) ?_
  refine lv_icmp_ne hx hb d_A_choose_22 (tgt := 41) rfl (fun _ => ?_) (fun h9 => absurd h9 (by decide))
  refine lv_lload hx hb d_A_choose_41 (lv_at hl 8 rfl) ?_
  refine lv_lload hx hb d_A_choose_43 (lv_at hl 0 rfl) ?_
  refine W.lcmp hx hb d_A_choose_45 ?_
  refine lv_if_le hx hb d_A_choose_46 (tgt := 53) rfl (fun g1 => ?_) (fun g1 => ?_)
  · have g1 := (lg_cmp_le _ _).mp g1
    refine lv_iconst (v := 0) hx hb d_A_choose_53 (by decide) ?_
    have J56 : ∀ (bb : Bool) (ebb : btB 5 tm (x.bT ((r * x.awi) + w)) = bb), ∀ (H : Heap) (locs : List Loc) (ls : Array Slot) (hP : va_P D vwCl (TbW dA ta t ++ (VW dA h ad x)) H) (hD : va_D A (TbW dA ta t ++ (VW dA h ad x))) (hS : va_S A s.heap H locs) (hl : lv_has ls 14 [(13, .int (bI bb)), (10, .int (nI ((r * x.awi) + w))), (11, .long (x.bT ((r * x.awi) + w))), (0, .ref (ad 24)), (1, .int 5), (2, .ref (ta 0)), (3, .int (nI r)), (4, .int (nI w)), (5, .int (nI o)), (6, .long tm), (8, .long v)]), W p l e ({ frames := 2, cells := 0, slots := 0, locals := 24 } : Room) s m ([.ref (ad 24), .int 5, .ref (ta 0), .int (nI r), .int (nI w), .int (nI o), .long tm, .long v] : List Value).toArray below meth c H locs 0 0 (MQ below (va_Qv (fun (u9 : TB × VS) => u9.1 = (if chsB 5 (hasB (t.th r) w) tm (x.bT ((r * x.awi) + w)) o (x.bO ((r * x.awi) + w)) = true then t.pt r w v else t) ∧ u9.2 = (if chsB 5 (hasB (t.th r) w) tm (x.bT ((r * x.awi) + w)) o (x.bO ((r * x.awi) + w)) = true then chX x (r * x.awi + w) o tm else x)) (fun (u9 : TB × VS) t9 => bW D A (TbW dA ta u9.1 ++ (VW dA h ad u9.2)) t9) A) ([.ref (ad 24), .int 5, .ref (ta 0), .int (nI r), .int (nI w), .int (nI o), .long tm, .long v] : List Value).toArray s 0 0 A) (F0 m 56 ls []) := by
      intro bb ebb H locs ls hP hD hS hl
      refine lv_aload_n hx hb d_A_choose_56 rfl (lv_at hl 5 rfl) ?_
      refine lv_iload_n hx hb d_A_choose_57 rfl (lv_at hl 6 rfl) ?_
      refine lv_iload hx hb d_A_choose_58 (lv_at hl 7 rfl) ?_
      refine jkI (wr := []) (rnV (As := [.int (nI r), .int (nI w)]) (rest := []) hx hb hml hown hE hK (hN _ _ hS) hP hD (v_Thas l D dA H.size (VW dA h ad x) ta t r w (show r < 256 from by omega)) (q0 := 0) rfl rfl w1506 w1505 w1507 w1508 w807 rfl rfl ⟨⟨by decide, by decide⟩, rfl⟩ ⟨(Nat.le_of_ble_eq_true rfl), (Nat.le_of_ble_eq_true rfl)⟩ rfl hl.1 rfl (Nat.le_of_ble_eq_true rfl) d_A_choose_60 ⟨(Nat.le_of_ble_eq_true rfl), (Nat.le_of_ble_eq_true rfl)⟩) hP hD hS hA (fun r2 u3 H locs hp9 hP hD hS => ?_)
      have hP : va_P D vwCl (TbW dA ta t ++ (VW dA h ad x)) H := hP
      have hD : va_D A (TbW dA ta t ++ (VW dA h ad x)) := hD
      replace hp9 : bI (hasB (t.th r) w) = r2 := Eq.symm hp9
      subst hp9
      refine lv_if_eq hx hb d_A_choose_63 (tgt := 91) rfl (fun g4 => ?_) (fun g4 => ?_)
      · have g4 := bI_0 g4
        refine lv_aload_n hx hb d_A_choose_91 rfl (lv_at hl 5 rfl) ?_
        refine lv_iload_n hx hb d_A_choose_92 rfl (lv_at hl 6 rfl) ?_
        refine lv_iload hx hb d_A_choose_93 (lv_at hl 7 rfl) ?_
        refine lv_lload hx hb d_A_choose_95 (lv_at hl 10 rfl) ?_
        refine jkV (wr := []) (rnV (As := [.int (nI r), .int (nI w), .long v]) (rest := []) hx hb hml hown hE hK (hN _ _ hS) hP hD (v_Tput l D dA H.size (VW dA h ad x) ta t r w v hcN (show r * t.wi + w < t.cN from by omega) (show r < 256 from by omega)) (q0 := 0) rfl rfl w1433 w1511 w1434 w1435 w807 rfl rfl ⟨⟨by decide, by decide⟩, rfl⟩ ⟨(Nat.le_of_ble_eq_true rfl), (Nat.le_of_ble_eq_true rfl)⟩ rfl hl.1 rfl (Nat.le_of_ble_eq_true rfl) d_A_choose_97 ⟨(Nat.le_of_ble_eq_true rfl), (Nat.le_of_ble_eq_true rfl)⟩) hP hD hS hA (fun u6 H locs hp9 hP hD hS => ?_)
        have hP : va_P D vwCl (TbW dA ta (TB.s_ce (TB.s_th t (va_up t.th r (t.th r ||| bitL w))) (va_up t.ce (r * t.wi + w) v)) ++ (VW dA h ad x)) H := hP
        have hD : va_D A (TbW dA ta (TB.s_ce (TB.s_th t (va_up t.th r (t.th r ||| bitL w))) (va_up t.ce (r * t.wi + w) v)) ++ (VW dA h ad x)) := hD
        refine lv_aload_n hx hb d_A_choose_100 rfl (lv_at hl 3 rfl) ?_
        refine gF (v := .ref (x.bA 0)) hx hb hown hE hK hP 42 rfl rfl layA 5 (by decide) w803 rfl d_A_choose_101 ?_
        refine lv_iload hx hb d_A_choose_104 (lv_at hl 1 rfl) ?_
        refine lv_lload hx hb d_A_choose_106 (lv_at hl 9 rfl) ?_
        refine nlst (n := x.bN) hx hb hK hP hD hS (46) 2 rfl rfl ((r * x.awi) + w) (by omega) (by omega) d_A_choose_108 (fun H locs hP hD hS => ?_)
        have hP : va_P D vwCl (TbW dA ta (TB.s_ce (TB.s_th t (va_up t.th r (t.th r ||| bitL w))) (va_up t.ce (r * t.wi + w) v)) ++ (VW dA h ad (VS.s_bT x (va_up x.bT ((r * x.awi) + w) tm)))) H := hP
        have hD : va_D A (TbW dA ta (TB.s_ce (TB.s_th t (va_up t.th r (t.th r ||| bitL w))) (va_up t.ce (r * t.wi + w) v)) ++ (VW dA h ad (VS.s_bT x (va_up x.bT ((r * x.awi) + w) tm)))) := hD
        refine lv_aload_n hx hb d_A_choose_109 rfl (lv_at hl 3 rfl) ?_
        refine gF (v := .ref (x.bA 1)) hx hb hown hE hK hP 42 rfl rfl layA 6 (by decide) w804 rfl d_A_choose_110 ?_
        refine lv_iload hx hb d_A_choose_113 (lv_at hl 1 rfl) ?_
        refine lv_iload hx hb d_A_choose_115 (lv_at hl 8 rfl) ?_
        refine nistN (v := o) (n := x.bN) hx hb hK hP hD hS (47) 1 rfl rfl ((r * x.awi) + w) (by omega) (by omega) d_A_choose_117 (fun H locs hP hD hS => ?_)
        have hP : va_P D vwCl (TbW dA ta (TB.s_ce (TB.s_th t (va_up t.th r (t.th r ||| bitL w))) (va_up t.ce (r * t.wi + w) v)) ++ (VW dA h ad (VS.s_bO (VS.s_bT x (va_up x.bT ((r * x.awi) + w) tm)) (va_up x.bO ((r * x.awi) + w) o)))) H := hP
        have hD : va_D A (TbW dA ta (TB.s_ce (TB.s_th t (va_up t.th r (t.th r ||| bitL w))) (va_up t.ce (r * t.wi + w) v)) ++ (VW dA h ad (VS.s_bO (VS.s_bT x (va_up x.bT ((r * x.awi) + w) tm)) (va_up x.bO ((r * x.awi) + w) o)))) := hD
        exact rfV hx hb hr hlk hS (⟨TB.s_ce (TB.s_th t (va_up t.th r (t.th r ||| bitL w))) (va_up t.ce (r * t.wi + w) v), VS.s_bO (VS.s_bT x (va_up x.bT ((r * x.awi) + w) tm)) (va_up x.bO ((r * x.awi) + w) o)⟩) ⟨by rw [if_pos (chsB_1 g4)]; rfl, by rw [if_pos (chsB_1 g4)]; rfl⟩ hP hD (Nat.le_of_ble_eq_true rfl) (Nat.le_of_ble_eq_true rfl) d_A_choose_118
      · have g4 := bI_n0 g4
        refine lv_iload hx hb d_A_choose_66 (lv_at hl 0 rfl) ?_
        refine lv_if_ne hx hb d_A_choose_68 (tgt := 91) rfl (fun g7 => ?_) (fun g7 => ?_)
        · have g7 := bI_n0 g7
          refine lv_aload_n hx hb d_A_choose_91 rfl (lv_at hl 5 rfl) ?_
          refine lv_iload_n hx hb d_A_choose_92 rfl (lv_at hl 6 rfl) ?_
          refine lv_iload hx hb d_A_choose_93 (lv_at hl 7 rfl) ?_
          refine lv_lload hx hb d_A_choose_95 (lv_at hl 10 rfl) ?_
          refine jkV (wr := []) (rnV (As := [.int (nI r), .int (nI w), .long v]) (rest := []) hx hb hml hown hE hK (hN _ _ hS) hP hD (v_Tput l D dA H.size (VW dA h ad x) ta t r w v hcN (show r * t.wi + w < t.cN from by omega) (show r < 256 from by omega)) (q0 := 0) rfl rfl w1433 w1511 w1434 w1435 w807 rfl rfl ⟨⟨by decide, by decide⟩, rfl⟩ ⟨(Nat.le_of_ble_eq_true rfl), (Nat.le_of_ble_eq_true rfl)⟩ rfl hl.1 rfl (Nat.le_of_ble_eq_true rfl) d_A_choose_97 ⟨(Nat.le_of_ble_eq_true rfl), (Nat.le_of_ble_eq_true rfl)⟩) hP hD hS hA (fun u9 H locs hp9 hP hD hS => ?_)
          have hP : va_P D vwCl (TbW dA ta (TB.s_ce (TB.s_th t (va_up t.th r (t.th r ||| bitL w))) (va_up t.ce (r * t.wi + w) v)) ++ (VW dA h ad x)) H := hP
          have hD : va_D A (TbW dA ta (TB.s_ce (TB.s_th t (va_up t.th r (t.th r ||| bitL w))) (va_up t.ce (r * t.wi + w) v)) ++ (VW dA h ad x)) := hD
          refine lv_aload_n hx hb d_A_choose_100 rfl (lv_at hl 3 rfl) ?_
          refine gF (v := .ref (x.bA 0)) hx hb hown hE hK hP 42 rfl rfl layA 5 (by decide) w803 rfl d_A_choose_101 ?_
          refine lv_iload hx hb d_A_choose_104 (lv_at hl 1 rfl) ?_
          refine lv_lload hx hb d_A_choose_106 (lv_at hl 9 rfl) ?_
          refine nlst (n := x.bN) hx hb hK hP hD hS (46) 2 rfl rfl ((r * x.awi) + w) (by omega) (by omega) d_A_choose_108 (fun H locs hP hD hS => ?_)
          have hP : va_P D vwCl (TbW dA ta (TB.s_ce (TB.s_th t (va_up t.th r (t.th r ||| bitL w))) (va_up t.ce (r * t.wi + w) v)) ++ (VW dA h ad (VS.s_bT x (va_up x.bT ((r * x.awi) + w) tm)))) H := hP
          have hD : va_D A (TbW dA ta (TB.s_ce (TB.s_th t (va_up t.th r (t.th r ||| bitL w))) (va_up t.ce (r * t.wi + w) v)) ++ (VW dA h ad (VS.s_bT x (va_up x.bT ((r * x.awi) + w) tm)))) := hD
          refine lv_aload_n hx hb d_A_choose_109 rfl (lv_at hl 3 rfl) ?_
          refine gF (v := .ref (x.bA 1)) hx hb hown hE hK hP 42 rfl rfl layA 6 (by decide) w804 rfl d_A_choose_110 ?_
          refine lv_iload hx hb d_A_choose_113 (lv_at hl 1 rfl) ?_
          refine lv_iload hx hb d_A_choose_115 (lv_at hl 8 rfl) ?_
          refine nistN (v := o) (n := x.bN) hx hb hK hP hD hS (47) 1 rfl rfl ((r * x.awi) + w) (by omega) (by omega) d_A_choose_117 (fun H locs hP hD hS => ?_)
          have hP : va_P D vwCl (TbW dA ta (TB.s_ce (TB.s_th t (va_up t.th r (t.th r ||| bitL w))) (va_up t.ce (r * t.wi + w) v)) ++ (VW dA h ad (VS.s_bO (VS.s_bT x (va_up x.bT ((r * x.awi) + w) tm)) (va_up x.bO ((r * x.awi) + w) o)))) H := hP
          have hD : va_D A (TbW dA ta (TB.s_ce (TB.s_th t (va_up t.th r (t.th r ||| bitL w))) (va_up t.ce (r * t.wi + w) v)) ++ (VW dA h ad (VS.s_bO (VS.s_bT x (va_up x.bT ((r * x.awi) + w) tm)) (va_up x.bO ((r * x.awi) + w) o)))) := hD
          exact rfV hx hb hr hlk hS (⟨TB.s_ce (TB.s_th t (va_up t.th r (t.th r ||| bitL w))) (va_up t.ce (r * t.wi + w) v), VS.s_bO (VS.s_bT x (va_up x.bT ((r * x.awi) + w) tm)) (va_up x.bO ((r * x.awi) + w) o)⟩) ⟨by rw [if_pos (chsB_2 (ebb.trans g7))]; rfl, by rw [if_pos (chsB_2 (ebb.trans g7))]; rfl⟩ hP hD (Nat.le_of_ble_eq_true rfl) (Nat.le_of_ble_eq_true rfl) d_A_choose_118
        · have g7 := bI_0 g7
          refine lv_lload hx hb d_A_choose_71 (lv_at hl 9 rfl) ?_
          refine lv_lload hx hb d_A_choose_73 (lv_at hl 2 rfl) ?_
          refine W.lcmp hx hb d_A_choose_75 ?_
          refine lv_if_ne hx hb d_A_choose_76 (tgt := 118) rfl (fun g10 => ?_) (fun g10 => ?_)
          · have g10 := mt (lg_cmp_eq _ _).mpr g10
            exact rfV hx hb hr hlk hS (⟨t, x⟩) ⟨by rw [if_neg (by rw [(chsB_4 g4 (ebb.trans g7) (Or.inl g10))]; decide)], by rw [if_neg (by rw [(chsB_4 g4 (ebb.trans g7) (Or.inl g10))]; decide)]⟩ hP hD (Nat.le_of_ble_eq_true rfl) (Nat.le_of_ble_eq_true rfl) d_A_choose_118
          · have g10 := (lg_cmp_eq _ _).mp g10
            refine lv_iload hx hb d_A_choose_79 (lv_at hl 8 rfl) ?_
            refine lv_aload_n hx hb d_A_choose_81 rfl (lv_at hl 3 rfl) ?_
            refine gF (v := .ref (x.bA 1)) hx hb hown hE hK hP 42 rfl rfl layA 6 (by decide) w804 rfl d_A_choose_82 ?_
            refine lv_iload hx hb d_A_choose_85 (lv_at hl 1 rfl) ?_
            refine nild (f := (fun z9 => nI (x.bO z9))) (n := x.bN) hx hb hK hP (47) 1 rfl rfl ((r * x.awi) + w) (by omega) (by omega) d_A_choose_87 ?_
            refine lv_icmp_ge hx hb d_A_choose_88 (tgt := 118) rfl (fun g11 => ?_) (fun g11 => ?_)
            · have g11 := (nI_leI (a := x.bO ((r * x.awi) + w)) (b := o) (by omega) (by omega)).mp g11
              exact rfV hx hb hr hlk hS (⟨t, x⟩) ⟨by rw [if_neg (by rw [(chsB_4 g4 (ebb.trans g7) (Or.inr (by omega)))]; decide)], by rw [if_neg (by rw [(chsB_4 g4 (ebb.trans g7) (Or.inr (by omega)))]; decide)]⟩ hP hD (Nat.le_of_ble_eq_true rfl) (Nat.le_of_ble_eq_true rfl) d_A_choose_118
            · have g11 := mt (nI_leI (a := x.bO ((r * x.awi) + w)) (b := o) (by omega) (by omega)).mpr g11
              refine lv_aload_n hx hb d_A_choose_91 rfl (lv_at hl 5 rfl) ?_
              refine lv_iload_n hx hb d_A_choose_92 rfl (lv_at hl 6 rfl) ?_
              refine lv_iload hx hb d_A_choose_93 (lv_at hl 7 rfl) ?_
              refine lv_lload hx hb d_A_choose_95 (lv_at hl 10 rfl) ?_
              refine jkV (wr := []) (rnV (As := [.int (nI r), .int (nI w), .long v]) (rest := []) hx hb hml hown hE hK (hN _ _ hS) hP hD (v_Tput l D dA H.size (VW dA h ad x) ta t r w v hcN (show r * t.wi + w < t.cN from by omega) (show r < 256 from by omega)) (q0 := 0) rfl rfl w1433 w1511 w1434 w1435 w807 rfl rfl ⟨⟨by decide, by decide⟩, rfl⟩ ⟨(Nat.le_of_ble_eq_true rfl), (Nat.le_of_ble_eq_true rfl)⟩ rfl hl.1 rfl (Nat.le_of_ble_eq_true rfl) d_A_choose_97 ⟨(Nat.le_of_ble_eq_true rfl), (Nat.le_of_ble_eq_true rfl)⟩) hP hD hS hA (fun u13 H locs hp9 hP hD hS => ?_)
              have hP : va_P D vwCl (TbW dA ta (TB.s_ce (TB.s_th t (va_up t.th r (t.th r ||| bitL w))) (va_up t.ce (r * t.wi + w) v)) ++ (VW dA h ad x)) H := hP
              have hD : va_D A (TbW dA ta (TB.s_ce (TB.s_th t (va_up t.th r (t.th r ||| bitL w))) (va_up t.ce (r * t.wi + w) v)) ++ (VW dA h ad x)) := hD
              refine lv_aload_n hx hb d_A_choose_100 rfl (lv_at hl 3 rfl) ?_
              refine gF (v := .ref (x.bA 0)) hx hb hown hE hK hP 42 rfl rfl layA 5 (by decide) w803 rfl d_A_choose_101 ?_
              refine lv_iload hx hb d_A_choose_104 (lv_at hl 1 rfl) ?_
              refine lv_lload hx hb d_A_choose_106 (lv_at hl 9 rfl) ?_
              refine nlst (n := x.bN) hx hb hK hP hD hS (46) 2 rfl rfl ((r * x.awi) + w) (by omega) (by omega) d_A_choose_108 (fun H locs hP hD hS => ?_)
              have hP : va_P D vwCl (TbW dA ta (TB.s_ce (TB.s_th t (va_up t.th r (t.th r ||| bitL w))) (va_up t.ce (r * t.wi + w) v)) ++ (VW dA h ad (VS.s_bT x (va_up x.bT ((r * x.awi) + w) tm)))) H := hP
              have hD : va_D A (TbW dA ta (TB.s_ce (TB.s_th t (va_up t.th r (t.th r ||| bitL w))) (va_up t.ce (r * t.wi + w) v)) ++ (VW dA h ad (VS.s_bT x (va_up x.bT ((r * x.awi) + w) tm)))) := hD
              refine lv_aload_n hx hb d_A_choose_109 rfl (lv_at hl 3 rfl) ?_
              refine gF (v := .ref (x.bA 1)) hx hb hown hE hK hP 42 rfl rfl layA 6 (by decide) w804 rfl d_A_choose_110 ?_
              refine lv_iload hx hb d_A_choose_113 (lv_at hl 1 rfl) ?_
              refine lv_iload hx hb d_A_choose_115 (lv_at hl 8 rfl) ?_
              refine nistN (v := o) (n := x.bN) hx hb hK hP hD hS (47) 1 rfl rfl ((r * x.awi) + w) (by omega) (by omega) d_A_choose_117 (fun H locs hP hD hS => ?_)
              have hP : va_P D vwCl (TbW dA ta (TB.s_ce (TB.s_th t (va_up t.th r (t.th r ||| bitL w))) (va_up t.ce (r * t.wi + w) v)) ++ (VW dA h ad (VS.s_bO (VS.s_bT x (va_up x.bT ((r * x.awi) + w) tm)) (va_up x.bO ((r * x.awi) + w) o)))) H := hP
              have hD : va_D A (TbW dA ta (TB.s_ce (TB.s_th t (va_up t.th r (t.th r ||| bitL w))) (va_up t.ce (r * t.wi + w) v)) ++ (VW dA h ad (VS.s_bO (VS.s_bT x (va_up x.bT ((r * x.awi) + w) tm)) (va_up x.bO ((r * x.awi) + w) o)))) := hD
              exact rfV hx hb hr hlk hS (⟨TB.s_ce (TB.s_th t (va_up t.th r (t.th r ||| bitL w))) (va_up t.ce (r * t.wi + w) v), VS.s_bO (VS.s_bT x (va_up x.bT ((r * x.awi) + w) tm)) (va_up x.bO ((r * x.awi) + w) o)⟩) ⟨by rw [if_pos (chsB_3 g10 (by omega))]; rfl, by rw [if_pos (chsB_3 g10 (by omega))]; rfl⟩ hP hD (Nat.le_of_ble_eq_true rfl) (Nat.le_of_ble_eq_true rfl) d_A_choose_118
    refine lv_istore hx hb d_A_choose_54 hl (by decide) rfl (fun ls hl => ?_)
    have hl : lv_has ls 14 [(13, .int 0), (11, .long (x.bT ((r * x.awi) + w))), (10, .int (nI ((r * x.awi) + w))), (0, .ref (ad 24)), (1, .int 5), (2, .ref (ta 0)), (3, .int (nI r)), (4, .int (nI w)), (5, .int (nI o)), (6, .long tm), (8, .long v)] := hl
    exact J56 false (by unfold btB; rw [if_neg (by decide), decide_eq_false (Int64.not_lt.mpr g1)]) H _ ls hP hD hS (lv_sub hl [0, 2, 1, 3, 4, 5, 6, 7, 8, 9, 10] rfl)
  · have g1 := mt (lg_cmp_le _ _).mpr g1
    refine lv_iconst (v := 1) hx hb d_A_choose_49 (by decide) ?_
    refine lv_goto hx hb d_A_choose_50 (tgt := 54) rfl ?_
    have J56 : ∀ (bb : Bool) (ebb : btB 5 tm (x.bT ((r * x.awi) + w)) = bb), ∀ (H : Heap) (locs : List Loc) (ls : Array Slot) (hP : va_P D vwCl (TbW dA ta t ++ (VW dA h ad x)) H) (hD : va_D A (TbW dA ta t ++ (VW dA h ad x))) (hS : va_S A s.heap H locs) (hl : lv_has ls 14 [(13, .int (bI bb)), (10, .int (nI ((r * x.awi) + w))), (11, .long (x.bT ((r * x.awi) + w))), (0, .ref (ad 24)), (1, .int 5), (2, .ref (ta 0)), (3, .int (nI r)), (4, .int (nI w)), (5, .int (nI o)), (6, .long tm), (8, .long v)]), W p l e ({ frames := 2, cells := 0, slots := 0, locals := 24 } : Room) s m ([.ref (ad 24), .int 5, .ref (ta 0), .int (nI r), .int (nI w), .int (nI o), .long tm, .long v] : List Value).toArray below meth c H locs 0 0 (MQ below (va_Qv (fun (u9 : TB × VS) => u9.1 = (if chsB 5 (hasB (t.th r) w) tm (x.bT ((r * x.awi) + w)) o (x.bO ((r * x.awi) + w)) = true then t.pt r w v else t) ∧ u9.2 = (if chsB 5 (hasB (t.th r) w) tm (x.bT ((r * x.awi) + w)) o (x.bO ((r * x.awi) + w)) = true then chX x (r * x.awi + w) o tm else x)) (fun (u9 : TB × VS) t9 => bW D A (TbW dA ta u9.1 ++ (VW dA h ad u9.2)) t9) A) ([.ref (ad 24), .int 5, .ref (ta 0), .int (nI r), .int (nI w), .int (nI o), .long tm, .long v] : List Value).toArray s 0 0 A) (F0 m 56 ls []) := by
      intro bb ebb H locs ls hP hD hS hl
      refine lv_aload_n hx hb d_A_choose_56 rfl (lv_at hl 5 rfl) ?_
      refine lv_iload_n hx hb d_A_choose_57 rfl (lv_at hl 6 rfl) ?_
      refine lv_iload hx hb d_A_choose_58 (lv_at hl 7 rfl) ?_
      refine jkI (wr := []) (rnV (As := [.int (nI r), .int (nI w)]) (rest := []) hx hb hml hown hE hK (hN _ _ hS) hP hD (v_Thas l D dA H.size (VW dA h ad x) ta t r w (show r < 256 from by omega)) (q0 := 0) rfl rfl w1506 w1505 w1507 w1508 w807 rfl rfl ⟨⟨by decide, by decide⟩, rfl⟩ ⟨(Nat.le_of_ble_eq_true rfl), (Nat.le_of_ble_eq_true rfl)⟩ rfl hl.1 rfl (Nat.le_of_ble_eq_true rfl) d_A_choose_60 ⟨(Nat.le_of_ble_eq_true rfl), (Nat.le_of_ble_eq_true rfl)⟩) hP hD hS hA (fun r14 u15 H locs hp9 hP hD hS => ?_)
      have hP : va_P D vwCl (TbW dA ta t ++ (VW dA h ad x)) H := hP
      have hD : va_D A (TbW dA ta t ++ (VW dA h ad x)) := hD
      replace hp9 : bI (hasB (t.th r) w) = r14 := Eq.symm hp9
      subst hp9
      refine lv_if_eq hx hb d_A_choose_63 (tgt := 91) rfl (fun g16 => ?_) (fun g16 => ?_)
      · have g16 := bI_0 g16
        refine lv_aload_n hx hb d_A_choose_91 rfl (lv_at hl 5 rfl) ?_
        refine lv_iload_n hx hb d_A_choose_92 rfl (lv_at hl 6 rfl) ?_
        refine lv_iload hx hb d_A_choose_93 (lv_at hl 7 rfl) ?_
        refine lv_lload hx hb d_A_choose_95 (lv_at hl 10 rfl) ?_
        refine jkV (wr := []) (rnV (As := [.int (nI r), .int (nI w), .long v]) (rest := []) hx hb hml hown hE hK (hN _ _ hS) hP hD (v_Tput l D dA H.size (VW dA h ad x) ta t r w v hcN (show r * t.wi + w < t.cN from by omega) (show r < 256 from by omega)) (q0 := 0) rfl rfl w1433 w1511 w1434 w1435 w807 rfl rfl ⟨⟨by decide, by decide⟩, rfl⟩ ⟨(Nat.le_of_ble_eq_true rfl), (Nat.le_of_ble_eq_true rfl)⟩ rfl hl.1 rfl (Nat.le_of_ble_eq_true rfl) d_A_choose_97 ⟨(Nat.le_of_ble_eq_true rfl), (Nat.le_of_ble_eq_true rfl)⟩) hP hD hS hA (fun u18 H locs hp9 hP hD hS => ?_)
        have hP : va_P D vwCl (TbW dA ta (TB.s_ce (TB.s_th t (va_up t.th r (t.th r ||| bitL w))) (va_up t.ce (r * t.wi + w) v)) ++ (VW dA h ad x)) H := hP
        have hD : va_D A (TbW dA ta (TB.s_ce (TB.s_th t (va_up t.th r (t.th r ||| bitL w))) (va_up t.ce (r * t.wi + w) v)) ++ (VW dA h ad x)) := hD
        refine lv_aload_n hx hb d_A_choose_100 rfl (lv_at hl 3 rfl) ?_
        refine gF (v := .ref (x.bA 0)) hx hb hown hE hK hP 42 rfl rfl layA 5 (by decide) w803 rfl d_A_choose_101 ?_
        refine lv_iload hx hb d_A_choose_104 (lv_at hl 1 rfl) ?_
        refine lv_lload hx hb d_A_choose_106 (lv_at hl 9 rfl) ?_
        refine nlst (n := x.bN) hx hb hK hP hD hS (46) 2 rfl rfl ((r * x.awi) + w) (by omega) (by omega) d_A_choose_108 (fun H locs hP hD hS => ?_)
        have hP : va_P D vwCl (TbW dA ta (TB.s_ce (TB.s_th t (va_up t.th r (t.th r ||| bitL w))) (va_up t.ce (r * t.wi + w) v)) ++ (VW dA h ad (VS.s_bT x (va_up x.bT ((r * x.awi) + w) tm)))) H := hP
        have hD : va_D A (TbW dA ta (TB.s_ce (TB.s_th t (va_up t.th r (t.th r ||| bitL w))) (va_up t.ce (r * t.wi + w) v)) ++ (VW dA h ad (VS.s_bT x (va_up x.bT ((r * x.awi) + w) tm)))) := hD
        refine lv_aload_n hx hb d_A_choose_109 rfl (lv_at hl 3 rfl) ?_
        refine gF (v := .ref (x.bA 1)) hx hb hown hE hK hP 42 rfl rfl layA 6 (by decide) w804 rfl d_A_choose_110 ?_
        refine lv_iload hx hb d_A_choose_113 (lv_at hl 1 rfl) ?_
        refine lv_iload hx hb d_A_choose_115 (lv_at hl 8 rfl) ?_
        refine nistN (v := o) (n := x.bN) hx hb hK hP hD hS (47) 1 rfl rfl ((r * x.awi) + w) (by omega) (by omega) d_A_choose_117 (fun H locs hP hD hS => ?_)
        have hP : va_P D vwCl (TbW dA ta (TB.s_ce (TB.s_th t (va_up t.th r (t.th r ||| bitL w))) (va_up t.ce (r * t.wi + w) v)) ++ (VW dA h ad (VS.s_bO (VS.s_bT x (va_up x.bT ((r * x.awi) + w) tm)) (va_up x.bO ((r * x.awi) + w) o)))) H := hP
        have hD : va_D A (TbW dA ta (TB.s_ce (TB.s_th t (va_up t.th r (t.th r ||| bitL w))) (va_up t.ce (r * t.wi + w) v)) ++ (VW dA h ad (VS.s_bO (VS.s_bT x (va_up x.bT ((r * x.awi) + w) tm)) (va_up x.bO ((r * x.awi) + w) o)))) := hD
        exact rfV hx hb hr hlk hS (⟨TB.s_ce (TB.s_th t (va_up t.th r (t.th r ||| bitL w))) (va_up t.ce (r * t.wi + w) v), VS.s_bO (VS.s_bT x (va_up x.bT ((r * x.awi) + w) tm)) (va_up x.bO ((r * x.awi) + w) o)⟩) ⟨by rw [if_pos (chsB_1 g16)]; rfl, by rw [if_pos (chsB_1 g16)]; rfl⟩ hP hD (Nat.le_of_ble_eq_true rfl) (Nat.le_of_ble_eq_true rfl) d_A_choose_118
      · have g16 := bI_n0 g16
        refine lv_iload hx hb d_A_choose_66 (lv_at hl 0 rfl) ?_
        refine lv_if_ne hx hb d_A_choose_68 (tgt := 91) rfl (fun g19 => ?_) (fun g19 => ?_)
        · have g19 := bI_n0 g19
          refine lv_aload_n hx hb d_A_choose_91 rfl (lv_at hl 5 rfl) ?_
          refine lv_iload_n hx hb d_A_choose_92 rfl (lv_at hl 6 rfl) ?_
          refine lv_iload hx hb d_A_choose_93 (lv_at hl 7 rfl) ?_
          refine lv_lload hx hb d_A_choose_95 (lv_at hl 10 rfl) ?_
          refine jkV (wr := []) (rnV (As := [.int (nI r), .int (nI w), .long v]) (rest := []) hx hb hml hown hE hK (hN _ _ hS) hP hD (v_Tput l D dA H.size (VW dA h ad x) ta t r w v hcN (show r * t.wi + w < t.cN from by omega) (show r < 256 from by omega)) (q0 := 0) rfl rfl w1433 w1511 w1434 w1435 w807 rfl rfl ⟨⟨by decide, by decide⟩, rfl⟩ ⟨(Nat.le_of_ble_eq_true rfl), (Nat.le_of_ble_eq_true rfl)⟩ rfl hl.1 rfl (Nat.le_of_ble_eq_true rfl) d_A_choose_97 ⟨(Nat.le_of_ble_eq_true rfl), (Nat.le_of_ble_eq_true rfl)⟩) hP hD hS hA (fun u21 H locs hp9 hP hD hS => ?_)
          have hP : va_P D vwCl (TbW dA ta (TB.s_ce (TB.s_th t (va_up t.th r (t.th r ||| bitL w))) (va_up t.ce (r * t.wi + w) v)) ++ (VW dA h ad x)) H := hP
          have hD : va_D A (TbW dA ta (TB.s_ce (TB.s_th t (va_up t.th r (t.th r ||| bitL w))) (va_up t.ce (r * t.wi + w) v)) ++ (VW dA h ad x)) := hD
          refine lv_aload_n hx hb d_A_choose_100 rfl (lv_at hl 3 rfl) ?_
          refine gF (v := .ref (x.bA 0)) hx hb hown hE hK hP 42 rfl rfl layA 5 (by decide) w803 rfl d_A_choose_101 ?_
          refine lv_iload hx hb d_A_choose_104 (lv_at hl 1 rfl) ?_
          refine lv_lload hx hb d_A_choose_106 (lv_at hl 9 rfl) ?_
          refine nlst (n := x.bN) hx hb hK hP hD hS (46) 2 rfl rfl ((r * x.awi) + w) (by omega) (by omega) d_A_choose_108 (fun H locs hP hD hS => ?_)
          have hP : va_P D vwCl (TbW dA ta (TB.s_ce (TB.s_th t (va_up t.th r (t.th r ||| bitL w))) (va_up t.ce (r * t.wi + w) v)) ++ (VW dA h ad (VS.s_bT x (va_up x.bT ((r * x.awi) + w) tm)))) H := hP
          have hD : va_D A (TbW dA ta (TB.s_ce (TB.s_th t (va_up t.th r (t.th r ||| bitL w))) (va_up t.ce (r * t.wi + w) v)) ++ (VW dA h ad (VS.s_bT x (va_up x.bT ((r * x.awi) + w) tm)))) := hD
          refine lv_aload_n hx hb d_A_choose_109 rfl (lv_at hl 3 rfl) ?_
          refine gF (v := .ref (x.bA 1)) hx hb hown hE hK hP 42 rfl rfl layA 6 (by decide) w804 rfl d_A_choose_110 ?_
          refine lv_iload hx hb d_A_choose_113 (lv_at hl 1 rfl) ?_
          refine lv_iload hx hb d_A_choose_115 (lv_at hl 8 rfl) ?_
          refine nistN (v := o) (n := x.bN) hx hb hK hP hD hS (47) 1 rfl rfl ((r * x.awi) + w) (by omega) (by omega) d_A_choose_117 (fun H locs hP hD hS => ?_)
          have hP : va_P D vwCl (TbW dA ta (TB.s_ce (TB.s_th t (va_up t.th r (t.th r ||| bitL w))) (va_up t.ce (r * t.wi + w) v)) ++ (VW dA h ad (VS.s_bO (VS.s_bT x (va_up x.bT ((r * x.awi) + w) tm)) (va_up x.bO ((r * x.awi) + w) o)))) H := hP
          have hD : va_D A (TbW dA ta (TB.s_ce (TB.s_th t (va_up t.th r (t.th r ||| bitL w))) (va_up t.ce (r * t.wi + w) v)) ++ (VW dA h ad (VS.s_bO (VS.s_bT x (va_up x.bT ((r * x.awi) + w) tm)) (va_up x.bO ((r * x.awi) + w) o)))) := hD
          exact rfV hx hb hr hlk hS (⟨TB.s_ce (TB.s_th t (va_up t.th r (t.th r ||| bitL w))) (va_up t.ce (r * t.wi + w) v), VS.s_bO (VS.s_bT x (va_up x.bT ((r * x.awi) + w) tm)) (va_up x.bO ((r * x.awi) + w) o)⟩) ⟨by rw [if_pos (chsB_2 (ebb.trans g19))]; rfl, by rw [if_pos (chsB_2 (ebb.trans g19))]; rfl⟩ hP hD (Nat.le_of_ble_eq_true rfl) (Nat.le_of_ble_eq_true rfl) d_A_choose_118
        · have g19 := bI_0 g19
          refine lv_lload hx hb d_A_choose_71 (lv_at hl 9 rfl) ?_
          refine lv_lload hx hb d_A_choose_73 (lv_at hl 2 rfl) ?_
          refine W.lcmp hx hb d_A_choose_75 ?_
          refine lv_if_ne hx hb d_A_choose_76 (tgt := 118) rfl (fun g22 => ?_) (fun g22 => ?_)
          · have g22 := mt (lg_cmp_eq _ _).mpr g22
            exact rfV hx hb hr hlk hS (⟨t, x⟩) ⟨by rw [if_neg (by rw [(chsB_4 g16 (ebb.trans g19) (Or.inl g22))]; decide)], by rw [if_neg (by rw [(chsB_4 g16 (ebb.trans g19) (Or.inl g22))]; decide)]⟩ hP hD (Nat.le_of_ble_eq_true rfl) (Nat.le_of_ble_eq_true rfl) d_A_choose_118
          · have g22 := (lg_cmp_eq _ _).mp g22
            refine lv_iload hx hb d_A_choose_79 (lv_at hl 8 rfl) ?_
            refine lv_aload_n hx hb d_A_choose_81 rfl (lv_at hl 3 rfl) ?_
            refine gF (v := .ref (x.bA 1)) hx hb hown hE hK hP 42 rfl rfl layA 6 (by decide) w804 rfl d_A_choose_82 ?_
            refine lv_iload hx hb d_A_choose_85 (lv_at hl 1 rfl) ?_
            refine nild (f := (fun z9 => nI (x.bO z9))) (n := x.bN) hx hb hK hP (47) 1 rfl rfl ((r * x.awi) + w) (by omega) (by omega) d_A_choose_87 ?_
            refine lv_icmp_ge hx hb d_A_choose_88 (tgt := 118) rfl (fun g23 => ?_) (fun g23 => ?_)
            · have g23 := (nI_leI (a := x.bO ((r * x.awi) + w)) (b := o) (by omega) (by omega)).mp g23
              exact rfV hx hb hr hlk hS (⟨t, x⟩) ⟨by rw [if_neg (by rw [(chsB_4 g16 (ebb.trans g19) (Or.inr (by omega)))]; decide)], by rw [if_neg (by rw [(chsB_4 g16 (ebb.trans g19) (Or.inr (by omega)))]; decide)]⟩ hP hD (Nat.le_of_ble_eq_true rfl) (Nat.le_of_ble_eq_true rfl) d_A_choose_118
            · have g23 := mt (nI_leI (a := x.bO ((r * x.awi) + w)) (b := o) (by omega) (by omega)).mpr g23
              refine lv_aload_n hx hb d_A_choose_91 rfl (lv_at hl 5 rfl) ?_
              refine lv_iload_n hx hb d_A_choose_92 rfl (lv_at hl 6 rfl) ?_
              refine lv_iload hx hb d_A_choose_93 (lv_at hl 7 rfl) ?_
              refine lv_lload hx hb d_A_choose_95 (lv_at hl 10 rfl) ?_
              refine jkV (wr := []) (rnV (As := [.int (nI r), .int (nI w), .long v]) (rest := []) hx hb hml hown hE hK (hN _ _ hS) hP hD (v_Tput l D dA H.size (VW dA h ad x) ta t r w v hcN (show r * t.wi + w < t.cN from by omega) (show r < 256 from by omega)) (q0 := 0) rfl rfl w1433 w1511 w1434 w1435 w807 rfl rfl ⟨⟨by decide, by decide⟩, rfl⟩ ⟨(Nat.le_of_ble_eq_true rfl), (Nat.le_of_ble_eq_true rfl)⟩ rfl hl.1 rfl (Nat.le_of_ble_eq_true rfl) d_A_choose_97 ⟨(Nat.le_of_ble_eq_true rfl), (Nat.le_of_ble_eq_true rfl)⟩) hP hD hS hA (fun u25 H locs hp9 hP hD hS => ?_)
              have hP : va_P D vwCl (TbW dA ta (TB.s_ce (TB.s_th t (va_up t.th r (t.th r ||| bitL w))) (va_up t.ce (r * t.wi + w) v)) ++ (VW dA h ad x)) H := hP
              have hD : va_D A (TbW dA ta (TB.s_ce (TB.s_th t (va_up t.th r (t.th r ||| bitL w))) (va_up t.ce (r * t.wi + w) v)) ++ (VW dA h ad x)) := hD
              refine lv_aload_n hx hb d_A_choose_100 rfl (lv_at hl 3 rfl) ?_
              refine gF (v := .ref (x.bA 0)) hx hb hown hE hK hP 42 rfl rfl layA 5 (by decide) w803 rfl d_A_choose_101 ?_
              refine lv_iload hx hb d_A_choose_104 (lv_at hl 1 rfl) ?_
              refine lv_lload hx hb d_A_choose_106 (lv_at hl 9 rfl) ?_
              refine nlst (n := x.bN) hx hb hK hP hD hS (46) 2 rfl rfl ((r * x.awi) + w) (by omega) (by omega) d_A_choose_108 (fun H locs hP hD hS => ?_)
              have hP : va_P D vwCl (TbW dA ta (TB.s_ce (TB.s_th t (va_up t.th r (t.th r ||| bitL w))) (va_up t.ce (r * t.wi + w) v)) ++ (VW dA h ad (VS.s_bT x (va_up x.bT ((r * x.awi) + w) tm)))) H := hP
              have hD : va_D A (TbW dA ta (TB.s_ce (TB.s_th t (va_up t.th r (t.th r ||| bitL w))) (va_up t.ce (r * t.wi + w) v)) ++ (VW dA h ad (VS.s_bT x (va_up x.bT ((r * x.awi) + w) tm)))) := hD
              refine lv_aload_n hx hb d_A_choose_109 rfl (lv_at hl 3 rfl) ?_
              refine gF (v := .ref (x.bA 1)) hx hb hown hE hK hP 42 rfl rfl layA 6 (by decide) w804 rfl d_A_choose_110 ?_
              refine lv_iload hx hb d_A_choose_113 (lv_at hl 1 rfl) ?_
              refine lv_iload hx hb d_A_choose_115 (lv_at hl 8 rfl) ?_
              refine nistN (v := o) (n := x.bN) hx hb hK hP hD hS (47) 1 rfl rfl ((r * x.awi) + w) (by omega) (by omega) d_A_choose_117 (fun H locs hP hD hS => ?_)
              have hP : va_P D vwCl (TbW dA ta (TB.s_ce (TB.s_th t (va_up t.th r (t.th r ||| bitL w))) (va_up t.ce (r * t.wi + w) v)) ++ (VW dA h ad (VS.s_bO (VS.s_bT x (va_up x.bT ((r * x.awi) + w) tm)) (va_up x.bO ((r * x.awi) + w) o)))) H := hP
              have hD : va_D A (TbW dA ta (TB.s_ce (TB.s_th t (va_up t.th r (t.th r ||| bitL w))) (va_up t.ce (r * t.wi + w) v)) ++ (VW dA h ad (VS.s_bO (VS.s_bT x (va_up x.bT ((r * x.awi) + w) tm)) (va_up x.bO ((r * x.awi) + w) o)))) := hD
              exact rfV hx hb hr hlk hS (⟨TB.s_ce (TB.s_th t (va_up t.th r (t.th r ||| bitL w))) (va_up t.ce (r * t.wi + w) v), VS.s_bO (VS.s_bT x (va_up x.bT ((r * x.awi) + w) tm)) (va_up x.bO ((r * x.awi) + w) o)⟩) ⟨by rw [if_pos (chsB_3 g22 (by omega))]; rfl, by rw [if_pos (chsB_3 g22 (by omega))]; rfl⟩ hP hD (Nat.le_of_ble_eq_true rfl) (Nat.le_of_ble_eq_true rfl) d_A_choose_118
    refine lv_istore hx hb d_A_choose_54 hl (by decide) rfl (fun ls hl => ?_)
    have hl : lv_has ls 14 [(13, .int 1), (11, .long (x.bT ((r * x.awi) + w))), (10, .int (nI ((r * x.awi) + w))), (0, .ref (ad 24)), (1, .int 5), (2, .ref (ta 0)), (3, .int (nI r)), (4, .int (nI w)), (5, .int (nI o)), (6, .long tm), (8, .long v)] := hl
    exact J56 true (by unfold btB; rw [if_neg (by decide), decide_eq_true (Int64.not_le.mp g1)]) H _ ls hP hD hS (lv_sub hl [0, 2, 1, 3, 4, 5, 6, 7, 8, 9, 10] rfl)
end
section
/-! A point met. -/
def isFn (z : Int32) : Prop := z = 0 ∨ z = 1 ∨ z = 2 ∨ z = 3 ∨ z = 4 ∨ z = 5 ∨ z = 6
def ccB (fn : Int32) (t : TB) (x : VS) (r w o : Nat) (tm : Int64) : Bool := chsB fn (hasB (t.th r) w) tm (x.bT (r * x.awi + w)) o (x.bO (r * x.awi + w))
def mtT (fn : Int32) (t : TB) (x : VS) (r w o : Nat) (tm v : Int64) : TB := if fn = 6 then gwT t (x.ahb o) (x.abf o) v r w else if fn = 4 ∨ fn = 5 then (if ccB fn t x r w o tm = true then t.pt r w v else t) else t.pt r w (gaV fn (hasB (t.th r) w) (t.ce (r * t.wi + w)) v)
def mbX (x : VS) (o : Nat) (v : Int64) : VS := VS.s_abf (VS.s_ahb x (va_up x.ahb o true)) (va_up x.abf o v)
def meX (fn : Int32) (t : TB) (x : VS) (r w o : Nat) (tm v : Int64) : VS := mbX (if fn = 4 ∨ fn = 5 then (if ccB fn t x r w o tm = true then chX x (r * x.awi + w) o tm else x) else x) o v
section ME
variable {fn : Int32} {t : TB} {x : VS} {r w o : Nat} {tm v : Int64}
theorem mtT_6 (h : fn = 6) : mtT fn t x r w o tm v = gwT t (x.ahb o) (x.abf o) v r w := by unfold mtT; rw [if_pos h]
theorem mtT_4 (h : ¬ fn = 6) (h1 : fn = 4 ∨ fn = 5) : mtT fn t x r w o tm v = (if ccB fn t x r w o tm = true then t.pt r w v else t) := by unfold mtT; rw [if_neg h, if_pos h1]
theorem mtT_0 (h : ¬ fn = 6) (h1 : ¬ (fn = 4 ∨ fn = 5)) : mtT fn t x r w o tm v = t.pt r w (gaV fn (hasB (t.th r) w) (t.ce (r * t.wi + w)) v) := by unfold mtT; rw [if_neg h, if_neg h1]
theorem meX_4 (h1 : fn = 4 ∨ fn = 5) : meX fn t x r w o tm v = mbX (if ccB fn t x r w o tm = true then chX x (r * x.awi + w) o tm else x) o v := by unfold meX; rw [if_pos h1]
theorem meX_0 (h1 : ¬ (fn = 4 ∨ fn = 5)) : meX fn t x r w o tm v = mbX x o v := by unfold meX; rw [if_neg h1]
end ME
theorem d_A_meet_0 : decode prog_2_method_9_code 0 = .ok (.aload_n 0, 1) := by decide +kernel
theorem d_A_meet_1 : decode prog_2_method_9_code 1 = .ok (.lload 4, 2) := by decide +kernel
theorem d_A_meet_3 : decode prog_2_method_9_code 3 = .ok (.invokevirtual 196, 3) := by decide +kernel
theorem d_A_meet_6 : decode prog_2_method_9_code 6 = .ok (.istore 8, 2) := by decide +kernel
theorem d_A_meet_8 : decode prog_2_method_9_code 8 = .ok (.aload_n 0, 1) := by decide +kernel
theorem d_A_meet_9 : decode prog_2_method_9_code 9 = .ok (.getfield 18, 3) := by decide +kernel
theorem d_A_meet_12 : decode prog_2_method_9_code 12 = .ok (.iload_n 3, 1) := by decide +kernel
theorem d_A_meet_13 : decode prog_2_method_9_code 13 = .ok (.iaload, 1) := by decide +kernel
theorem d_A_meet_14 : decode prog_2_method_9_code 14 = .ok (.istore 9, 2) := by decide +kernel
theorem d_A_meet_16 : decode prog_2_method_9_code 16 = .ok (.iload 8, 2) := by decide +kernel
theorem d_A_meet_18 : decode prog_2_method_9_code 18 = .ok (.iconst (-1), 1) := by decide +kernel
theorem d_A_meet_19 : decode prog_2_method_9_code 19 = .ok (.if_icmp .eq 24, 3) := by decide +kernel
theorem d_A_meet_22 : decode prog_2_method_9_code 22 = .ok (.iload_n 1, 1) := by decide +kernel
theorem d_A_meet_23 : decode prog_2_method_9_code 23 = .ok (.bipush 6, 2) := by decide +kernel
theorem d_A_meet_25 : decode prog_2_method_9_code 25 = .ok (.if_icmp .ne 18, 3) := by decide +kernel
theorem d_A_meet_43 : decode prog_2_method_9_code 43 = .ok (.iload 8, 2) := by decide +kernel
theorem d_A_meet_45 : decode prog_2_method_9_code 45 = .ok (.iconst (-1), 1) := by decide +kernel
theorem d_A_meet_46 : decode prog_2_method_9_code 46 = .ok (.if_icmp .eq 31, 3) := by decide +kernel
theorem d_A_meet_49 : decode prog_2_method_9_code 49 = .ok (.iload_n 1, 1) := by decide +kernel
theorem d_A_meet_50 : decode prog_2_method_9_code 50 = .ok (.iconst 4, 1) := by decide +kernel
theorem d_A_meet_51 : decode prog_2_method_9_code 51 = .ok (.if_icmp .eq 8, 3) := by decide +kernel
theorem d_A_meet_54 : decode prog_2_method_9_code 54 = .ok (.iload_n 1, 1) := by decide +kernel
theorem d_A_meet_55 : decode prog_2_method_9_code 55 = .ok (.iconst 5, 1) := by decide +kernel
theorem d_A_meet_56 : decode prog_2_method_9_code 56 = .ok (.if_icmp .ne 21, 3) := by decide +kernel
theorem d_A_meet_77 : decode prog_2_method_9_code 77 = .ok (.iload 8, 2) := by decide +kernel
theorem d_A_meet_79 : decode prog_2_method_9_code 79 = .ok (.iconst (-1), 1) := by decide +kernel
theorem d_A_meet_80 : decode prog_2_method_9_code 80 = .ok (.if_icmp .eq 22, 3) := by decide +kernel
theorem d_A_meet_83 : decode prog_2_method_9_code 83 = .ok (.aload_n 2, 1) := by decide +kernel
theorem d_A_meet_84 : decode prog_2_method_9_code 84 = .ok (.iload 9, 2) := by decide +kernel
theorem d_A_meet_86 : decode prog_2_method_9_code 86 = .ok (.iload 8, 2) := by decide +kernel
theorem d_A_meet_88 : decode prog_2_method_9_code 88 = .ok (.iload_n 1, 1) := by decide +kernel
theorem d_A_meet_89 : decode prog_2_method_9_code 89 = .ok (.aload_n 2, 1) := by decide +kernel
theorem d_A_meet_90 : decode prog_2_method_9_code 90 = .ok (.iload 9, 2) := by decide +kernel
theorem d_A_meet_92 : decode prog_2_method_9_code 92 = .ok (.iload 8, 2) := by decide +kernel
theorem d_A_meet_94 : decode prog_2_method_9_code 94 = .ok (.lload 6, 2) := by decide +kernel
theorem d_A_meet_96 : decode prog_2_method_9_code 96 = .ok (.invokestatic 208, 3) := by decide +kernel
theorem d_A_meet_99 : decode prog_2_method_9_code 99 = .ok (.invokevirtual 212, 3) := by decide +kernel
theorem d_A_meet_102 : decode prog_2_method_9_code 102 = .ok (.aload_n 0, 1) := by decide +kernel
theorem d_A_meet_103 : decode prog_2_method_9_code 103 = .ok (.getfield 22, 3) := by decide +kernel
theorem d_A_meet_106 : decode prog_2_method_9_code 106 = .ok (.iload_n 3, 1) := by decide +kernel
theorem d_A_meet_107 : decode prog_2_method_9_code 107 = .ok (.iconst 1, 1) := by decide +kernel
theorem d_A_meet_108 : decode prog_2_method_9_code 108 = .ok (.bastore, 1) := by decide +kernel
theorem d_A_meet_109 : decode prog_2_method_9_code 109 = .ok (.aload_n 0, 1) := by decide +kernel
theorem d_A_meet_110 : decode prog_2_method_9_code 110 = .ok (.getfield 26, 3) := by decide +kernel
theorem d_A_meet_113 : decode prog_2_method_9_code 113 = .ok (.iload_n 3, 1) := by decide +kernel
theorem d_A_meet_114 : decode prog_2_method_9_code 114 = .ok (.lload 6, 2) := by decide +kernel
theorem d_A_meet_116 : decode prog_2_method_9_code 116 = .ok (.lastore, 1) := by decide +kernel
theorem d_A_meet_117 : decode prog_2_method_9_code 117 = .ok (.return_, 1) := by decide +kernel
theorem w1512 : Cond.methodLink "SeriesVault$Answers" 196 ⟨"SeriesVault$Answers", "windowOf", "(J)I"⟩ ∈ aW := aw_of (tb_8 (List.mem_of_getElem? (i := 2) rfl)) rfl
theorem w1513 : Cond.code ⟨"SeriesVault$Answers", "windowOf", "(J)I"⟩ prog_2_method_10_code 5 (some FieldType.int) ∈ aW := aw_of (tb_8 (List.mem_of_getElem? (i := 5) rfl)) rfl
theorem w1514 : Cond.instanceMethod ⟨"SeriesVault$Answers", "windowOf", "(J)I"⟩ ∈ aW := aw_of (tb_8 (List.mem_of_getElem? (i := 4) rfl)) rfl
theorem w1515 : Cond.selects "SeriesVault$Answers" ⟨"SeriesVault$Answers", "windowOf", "(J)I"⟩ ⟨"SeriesVault$Answers", "windowOf", "(J)I"⟩ ∈ aW := aw_pr (List.mem_map.mpr ⟨_, pv_4 (List.mem_of_getElem? (i := 10) rfl), rfl⟩) rfl
theorem w1516 : Cond.methodLink "SeriesVault$Answers" 208 ⟨"SeriesVault$Answers", "gathered", "(ILSeriesVault$Table;IIJ)J"⟩ ∈ aW := aw_of (tb_8 (List.mem_of_getElem? (i := 23) rfl)) rfl
theorem w1517 : Cond.code ⟨"SeriesVault$Answers", "gathered", "(ILSeriesVault$Table;IIJ)J"⟩ prog_2_method_13_code 8 (some FieldType.long) ∈ aW := aw_of (tb_8 (List.mem_of_getElem? (i := 25) rfl)) rfl
theorem w1518 : Cond.static ⟨"SeriesVault$Answers", "gathered", "(ILSeriesVault$Table;IIJ)J"⟩ ∈ aW := aw_of (tb_8 (List.mem_of_getElem? (i := 24) rfl)) rfl
set_option maxHeartbeats 4000000 in
set_option maxRecDepth 100000 in
theorem v_meet_0 (l : Launch) (D : va_G) (dA : Nat → ClassId) (sz : Nat) (h : Nat) (ad : Nat → Nat) (ta : Nat → Nat) (t : TB) (x : VS) (o : Nat) (tm : Int64) (v : Int64) (r : Nat) (w : Nat) (hwi : x.awi ≤ 64) (hw : woA x.afr x.awd x.awi tm = nI w) (hw2 : w < x.awi) (hro : x.aro o = nI r) (hcN : t.cN ≤ 65536) (h1 : r * t.wi + w < t.cN) (h2 : r < 256) (h3 : o < 256) (h4 : r * x.awi + w < x.bN) (h5 : x.bN ≤ 65536) (h6 : x.bO (r * x.awi + w) < 256) : Met l ⟨"SeriesVault$Answers", "meet", "(ILSeriesVault$Table;IJJ)V"⟩ [Cond.code ⟨"SeriesVault$Answers", "meet", "(ILSeriesVault$Table;IJJ)V"⟩ prog_2_method_9_code 10 none] { frames := 4, cells := 0, slots := 0, locals := 300 } (pC D dA [.ref (ad 24), .int 0, .ref (ta 0), .int (nI o), .long tm, .long v] (TbW dA ta t ++ (VW dA h ad x)) sz) (va_Qv (fun (u9 : TB × VS) => u9.1 = mtT 0 t x r w o tm v ∧ u9.2 = meX 0 t x r w o tm v) (fun (u9 : TB × VS) t9 => bW D (va_A (TbW dA ta t ++ (VW dA h ad x)) sz) (TbW dA ta u9.1 ++ (VW dA h ad u9.2)) t9) (va_A (TbW dA ta t ++ (VW dA h ad x)) sz)) 0 0 (va_A (TbW dA ta t ++ (VW dA h ad x)) sz) := by
  refine mkC (y := ⟨"SeriesVault$Answers", "meet", "(ILSeriesVault$Table;IJJ)V"⟩) (cc := prog_2_method_9_code) (maxL := 10) (av := [.ref (ad 24), .int 0, .ref (ta 0), .int (nI o), .long tm, .long v]) (ws := TbW dA ta t ++ (VW dA h ad x)) (sz := sz) (Qc := fun A => va_Qv (fun (u9 : TB × VS) => u9.1 = mtT 0 t x r w o tm v ∧ u9.2 = meX 0 t x r w o tm v) (fun (u9 : TB × VS) t9 => bW D A (TbW dA ta u9.1 ++ (VW dA h ad u9.2)) t9) A) (by decide) (Nat.le_of_ble_eq_true rfl) ?_
  intro A p e s m below meth c ls hsz hB
  obtain ⟨hx, hb, hr, hml, hown, hin, hlk, hE, hK, hP, hD, hS, hA, hN, hl⟩ := hB
  have hown : s.vm.findClass "SeriesVault$Answers" = some m.cls := hown
  have hl : lv_has ls 10 [(0, .ref (ad 24)), (1, .int 0), (2, .ref (ta 0)), (3, .int (nI o)), (4, .long tm), (6, .long v)] := hl
  obtain ⟨H, hH⟩ : ∃ z, z = s.heap := ⟨_, rfl⟩
  have hP : va_P D vwCl (TbW dA ta t ++ (VW dA h ad x)) H := by rw [hH]; exact hP
  have hS : va_S A s.heap H [] := by rw [hH]; exact hS
  rw [← hH]
  refine lv_aload_n hx hb d_A_meet_0 rfl (lv_at hl 0 rfl) ?_
  refine lv_lload hx hb d_A_meet_1 (lv_at hl 4 rfl) ?_
  have hPc : va_P D vwCl (VW dA h ad x) H := spP (wr := TbW dA ta t) hP
  have hDc : va_D A (VW dA h ad x) := spD (wr := TbW dA ta t) hD
  refine jkI (wr := TbW dA ta t) (rnV (As := [.long tm]) (rest := []) hx hb hml hown hE hK (hN _ _ hS) hPc hDc (v_windowOf l D dA H.size h ad x tm (show x.awi ≤ 64 from by omega)) (q0 := 37) rfl rfl w1513 w1512 w1514 w1515 w846 rfl rfl ⟨⟨by decide, by decide⟩, rfl⟩ ⟨(Nat.le_of_ble_eq_true rfl), (Nat.le_of_ble_eq_true rfl)⟩ rfl hl.1 rfl (Nat.le_of_ble_eq_true rfl) d_A_meet_3 ⟨(Nat.le_of_ble_eq_true rfl), (Nat.le_of_ble_eq_true rfl)⟩) hP hD hS hA (fun r1 u2 H locs hp9 hP hD hS => ?_)
  have hP : va_P D vwCl (TbW dA ta t ++ (VW dA h ad x)) H := hP
  have hD : va_D A (TbW dA ta t ++ (VW dA h ad x)) := hD
  replace hp9 : woA x.afr x.awd x.awi tm = r1 := Eq.symm hp9
  subst hp9
  refine tpi (y := nI w) hw ?_
  refine lv_istore hx hb d_A_meet_6 hl (by decide) rfl (fun ls hl => ?_)
  have hl : lv_has ls 10 [(8, .int (nI w)), (0, .ref (ad 24)), (1, .int 0), (2, .ref (ta 0)), (3, .int (nI o)), (4, .long tm), (6, .long v)] := hl
  refine lv_aload_n hx hb d_A_meet_8 rfl (lv_at hl 1 rfl) ?_
  refine gF (v := .ref (ad 26)) hx hb hown hE hK hP 42 rfl rfl layA 2 (by decide) w800 rfl d_A_meet_9 ?_
  refine lv_iload_n hx hb d_A_meet_12 rfl (lv_at hl 4 rfl) ?_
  refine nild (f := x.aro) (n := 256) hx hb hK hP (43) 1 rfl rfl (o) (by omega) (by decide) d_A_meet_13 ?_
  refine tpi (y := (nI r)) hro ?_
  refine lv_istore hx hb d_A_meet_14 hl (by decide) rfl (fun ls hl => ?_)
  have hl : lv_has ls 10 [(9, .int (nI r)), (8, .int (nI w)), (0, .ref (ad 24)), (1, .int 0), (2, .ref (ta 0)), (3, .int (nI o)), (4, .long tm), (6, .long v)] := hl
  refine lv_iload hx hb d_A_meet_16 (lv_at hl 1 rfl) ?_
  refine lv_iconst (v := (-1)) hx hb d_A_meet_18 (by decide) ?_
  refine lv_icmp_eq hx hb d_A_meet_19 (tgt := 43) rfl (fun h9 => absurd h9 (nI_nm (by omega))) (fun _ => ?_)
  refine lv_iload_n hx hb d_A_meet_22 rfl (lv_at hl 3 rfl) ?_
  refine lv_bipush (v := 6) hx hb d_A_meet_23 (by decide) ?_
  refine lv_icmp_ne hx hb d_A_meet_25 (tgt := 43) rfl (fun _ => ?_) (fun h9 => absurd h9 (by decide))
  refine lv_iload hx hb d_A_meet_43 (lv_at hl 1 rfl) ?_
  refine lv_iconst (v := (-1)) hx hb d_A_meet_45 (by decide) ?_
  refine lv_icmp_eq hx hb d_A_meet_46 (tgt := 77) rfl (fun h9 => absurd h9 (nI_nm (by omega))) (fun _ => ?_)
  refine lv_iload_n hx hb d_A_meet_49 rfl (lv_at hl 3 rfl) ?_
  refine lv_iconst (v := 4) hx hb d_A_meet_50 (by decide) ?_
  refine lv_icmp_eq hx hb d_A_meet_51 (tgt := 59) rfl (fun h9 => absurd h9 (by decide)) (fun _ => ?_)
  refine lv_iload_n hx hb d_A_meet_54 rfl (lv_at hl 3 rfl) ?_
  refine lv_iconst (v := 5) hx hb d_A_meet_55 (by decide) ?_
  refine lv_icmp_ne hx hb d_A_meet_56 (tgt := 77) rfl (fun _ => ?_) (fun h9 => absurd h9 (by decide))
  refine lv_iload hx hb d_A_meet_77 (lv_at hl 1 rfl) ?_
  refine lv_iconst (v := (-1)) hx hb d_A_meet_79 (by decide) ?_
  refine lv_icmp_eq hx hb d_A_meet_80 (tgt := 102) rfl (fun h9 => absurd h9 (nI_nm (by omega))) (fun _ => ?_)
  refine lv_aload_n hx hb d_A_meet_83 rfl (lv_at hl 4 rfl) ?_
  refine lv_iload hx hb d_A_meet_84 (lv_at hl 0 rfl) ?_
  refine lv_iload hx hb d_A_meet_86 (lv_at hl 1 rfl) ?_
  refine lv_iload_n hx hb d_A_meet_88 rfl (lv_at hl 3 rfl) ?_
  refine lv_aload_n hx hb d_A_meet_89 rfl (lv_at hl 4 rfl) ?_
  refine lv_iload hx hb d_A_meet_90 (lv_at hl 0 rfl) ?_
  refine lv_iload hx hb d_A_meet_92 (lv_at hl 1 rfl) ?_
  refine lv_lload hx hb d_A_meet_94 (lv_at hl 7 rfl) ?_
  refine jkL (wr := []) (rnS (As := [.int 0, .ref (ta 0), .int (nI r), .int (nI w), .long v]) (rest := [.int (nI w), .int (nI r), .ref (ta 0)]) hx hb hml hown hE hK (hN _ _ hS) hP hD (v_gathered_0 l D dA H.size (VW dA h ad x) ta t r w v (show t.cN ≤ 65536 from by omega) (show r * t.wi + w < t.cN from by omega) (show r < 256 from by omega)) w1517 w1516 w1518 w846 rfl rfl ⟨⟨by decide, by decide⟩, rfl⟩ ⟨(Nat.le_of_ble_eq_true rfl), (Nat.le_of_ble_eq_true rfl)⟩ rfl hl.1 rfl (Nat.le_of_ble_eq_true rfl) d_A_meet_96 ⟨(Nat.le_of_ble_eq_true rfl), (Nat.le_of_ble_eq_true rfl)⟩) hP hD hS hA (fun r3 u4 H locs hp9 hP hD hS => ?_)
  have hP : va_P D vwCl (TbW dA ta t ++ (VW dA h ad x)) H := hP
  have hD : va_D A (TbW dA ta t ++ (VW dA h ad x)) := hD
  replace hp9 : gaV 0 (hasB (t.th r) w) (t.ce (r * t.wi + w)) v = r3 := Eq.symm hp9
  subst hp9
  refine jkV (wr := []) (rnV (As := [.int (nI r), .int (nI w), .long (gaV 0 (hasB (t.th r) w) (t.ce (r * t.wi + w)) v)]) (rest := []) hx hb hml hown hE hK (hN _ _ hS) hP hD (v_Tput l D dA H.size (VW dA h ad x) ta t r w (gaV 0 (hasB (t.th r) w) (t.ce (r * t.wi + w)) v) hcN (show r * t.wi + w < t.cN from by omega) (show r < 256 from by omega)) (q0 := 0) rfl rfl w1433 w1511 w1434 w1435 w807 rfl rfl ⟨⟨by decide, by decide⟩, rfl⟩ ⟨(Nat.le_of_ble_eq_true rfl), (Nat.le_of_ble_eq_true rfl)⟩ rfl hl.1 rfl (Nat.le_of_ble_eq_true rfl) d_A_meet_99 ⟨(Nat.le_of_ble_eq_true rfl), (Nat.le_of_ble_eq_true rfl)⟩) hP hD hS hA (fun u6 H locs hp9 hP hD hS => ?_)
  have hP : va_P D vwCl (TbW dA ta (TB.s_ce (TB.s_th t (va_up t.th r (t.th r ||| bitL w))) (va_up t.ce (r * t.wi + w) (gaV 0 (hasB (t.th r) w) (t.ce (r * t.wi + w)) v))) ++ (VW dA h ad x)) H := hP
  have hD : va_D A (TbW dA ta (TB.s_ce (TB.s_th t (va_up t.th r (t.th r ||| bitL w))) (va_up t.ce (r * t.wi + w) (gaV 0 (hasB (t.th r) w) (t.ce (r * t.wi + w)) v))) ++ (VW dA h ad x)) := hD
  refine lv_aload_n hx hb d_A_meet_102 rfl (lv_at hl 2 rfl) ?_
  refine gF (v := .ref (ad 27)) hx hb hown hE hK hP 42 rfl rfl layA 3 (by decide) w801 rfl d_A_meet_103 ?_
  refine lv_iload_n hx hb d_A_meet_106 rfl (lv_at hl 5 rfl) ?_
  refine lv_iconst (v := 1) hx hb d_A_meet_107 (by decide) ?_
  refine nzstB (v := true) (n := 256) hx hb hK hP hD hS (44) 3 rfl rfl (o) (by omega) (by decide) d_A_meet_108 (fun H locs hP hD hS => ?_)
  have hP : va_P D vwCl (TbW dA ta (TB.s_ce (TB.s_th t (va_up t.th r (t.th r ||| bitL w))) (va_up t.ce (r * t.wi + w) (gaV 0 (hasB (t.th r) w) (t.ce (r * t.wi + w)) v))) ++ (VW dA h ad (VS.s_ahb x (va_up x.ahb o true)))) H := hP
  have hD : va_D A (TbW dA ta (TB.s_ce (TB.s_th t (va_up t.th r (t.th r ||| bitL w))) (va_up t.ce (r * t.wi + w) (gaV 0 (hasB (t.th r) w) (t.ce (r * t.wi + w)) v))) ++ (VW dA h ad (VS.s_ahb x (va_up x.ahb o true)))) := hD
  refine lv_aload_n hx hb d_A_meet_109 rfl (lv_at hl 2 rfl) ?_
  refine gF (v := .ref (ad 28)) hx hb hown hE hK hP 42 rfl rfl layA 4 (by decide) w802 rfl d_A_meet_110 ?_
  refine lv_iload_n hx hb d_A_meet_113 rfl (lv_at hl 5 rfl) ?_
  refine lv_lload hx hb d_A_meet_114 (lv_at hl 7 rfl) ?_
  refine nlst (n := 256) hx hb hK hP hD hS (45) 2 rfl rfl (o) (by omega) (by decide) d_A_meet_116 (fun H locs hP hD hS => ?_)
  have hP : va_P D vwCl (TbW dA ta (TB.s_ce (TB.s_th t (va_up t.th r (t.th r ||| bitL w))) (va_up t.ce (r * t.wi + w) (gaV 0 (hasB (t.th r) w) (t.ce (r * t.wi + w)) v))) ++ (VW dA h ad (VS.s_abf (VS.s_ahb x (va_up x.ahb o true)) (va_up x.abf o v)))) H := hP
  have hD : va_D A (TbW dA ta (TB.s_ce (TB.s_th t (va_up t.th r (t.th r ||| bitL w))) (va_up t.ce (r * t.wi + w) (gaV 0 (hasB (t.th r) w) (t.ce (r * t.wi + w)) v))) ++ (VW dA h ad (VS.s_abf (VS.s_ahb x (va_up x.ahb o true)) (va_up x.abf o v)))) := hD
  exact rfV hx hb hr hlk hS (⟨TB.s_ce (TB.s_th t (va_up t.th r (t.th r ||| bitL w))) (va_up t.ce (r * t.wi + w) (gaV 0 (hasB (t.th r) w) (t.ce (r * t.wi + w)) v)), VS.s_abf (VS.s_ahb x (va_up x.ahb o true)) (va_up x.abf o v)⟩) ⟨(mtT_0 (by decide) (by decide)).symm, (meX_0 (by decide)).symm⟩ hP hD (Nat.le_of_ble_eq_true rfl) (Nat.le_of_ble_eq_true rfl) d_A_meet_117
set_option maxHeartbeats 4000000 in
set_option maxRecDepth 100000 in
theorem v_meet_1 (l : Launch) (D : va_G) (dA : Nat → ClassId) (sz : Nat) (h : Nat) (ad : Nat → Nat) (ta : Nat → Nat) (t : TB) (x : VS) (o : Nat) (tm : Int64) (v : Int64) (r : Nat) (w : Nat) (hwi : x.awi ≤ 64) (hw : woA x.afr x.awd x.awi tm = nI w) (hw2 : w < x.awi) (hro : x.aro o = nI r) (hcN : t.cN ≤ 65536) (h1 : r * t.wi + w < t.cN) (h2 : r < 256) (h3 : o < 256) (h4 : r * x.awi + w < x.bN) (h5 : x.bN ≤ 65536) (h6 : x.bO (r * x.awi + w) < 256) : Met l ⟨"SeriesVault$Answers", "meet", "(ILSeriesVault$Table;IJJ)V"⟩ [Cond.code ⟨"SeriesVault$Answers", "meet", "(ILSeriesVault$Table;IJJ)V"⟩ prog_2_method_9_code 10 none] { frames := 4, cells := 0, slots := 0, locals := 300 } (pC D dA [.ref (ad 24), .int 1, .ref (ta 0), .int (nI o), .long tm, .long v] (TbW dA ta t ++ (VW dA h ad x)) sz) (va_Qv (fun (u9 : TB × VS) => u9.1 = mtT 1 t x r w o tm v ∧ u9.2 = meX 1 t x r w o tm v) (fun (u9 : TB × VS) t9 => bW D (va_A (TbW dA ta t ++ (VW dA h ad x)) sz) (TbW dA ta u9.1 ++ (VW dA h ad u9.2)) t9) (va_A (TbW dA ta t ++ (VW dA h ad x)) sz)) 0 0 (va_A (TbW dA ta t ++ (VW dA h ad x)) sz) := by
  refine mkC (y := ⟨"SeriesVault$Answers", "meet", "(ILSeriesVault$Table;IJJ)V"⟩) (cc := prog_2_method_9_code) (maxL := 10) (av := [.ref (ad 24), .int 1, .ref (ta 0), .int (nI o), .long tm, .long v]) (ws := TbW dA ta t ++ (VW dA h ad x)) (sz := sz) (Qc := fun A => va_Qv (fun (u9 : TB × VS) => u9.1 = mtT 1 t x r w o tm v ∧ u9.2 = meX 1 t x r w o tm v) (fun (u9 : TB × VS) t9 => bW D A (TbW dA ta u9.1 ++ (VW dA h ad u9.2)) t9) A) (by decide) (Nat.le_of_ble_eq_true rfl) ?_
  intro A p e s m below meth c ls hsz hB
  obtain ⟨hx, hb, hr, hml, hown, hin, hlk, hE, hK, hP, hD, hS, hA, hN, hl⟩ := hB
  have hown : s.vm.findClass "SeriesVault$Answers" = some m.cls := hown
  have hl : lv_has ls 10 [(0, .ref (ad 24)), (1, .int 1), (2, .ref (ta 0)), (3, .int (nI o)), (4, .long tm), (6, .long v)] := hl
  obtain ⟨H, hH⟩ : ∃ z, z = s.heap := ⟨_, rfl⟩
  have hP : va_P D vwCl (TbW dA ta t ++ (VW dA h ad x)) H := by rw [hH]; exact hP
  have hS : va_S A s.heap H [] := by rw [hH]; exact hS
  rw [← hH]
  refine lv_aload_n hx hb d_A_meet_0 rfl (lv_at hl 0 rfl) ?_
  refine lv_lload hx hb d_A_meet_1 (lv_at hl 4 rfl) ?_
  have hPc : va_P D vwCl (VW dA h ad x) H := spP (wr := TbW dA ta t) hP
  have hDc : va_D A (VW dA h ad x) := spD (wr := TbW dA ta t) hD
  refine jkI (wr := TbW dA ta t) (rnV (As := [.long tm]) (rest := []) hx hb hml hown hE hK (hN _ _ hS) hPc hDc (v_windowOf l D dA H.size h ad x tm (show x.awi ≤ 64 from by omega)) (q0 := 37) rfl rfl w1513 w1512 w1514 w1515 w846 rfl rfl ⟨⟨by decide, by decide⟩, rfl⟩ ⟨(Nat.le_of_ble_eq_true rfl), (Nat.le_of_ble_eq_true rfl)⟩ rfl hl.1 rfl (Nat.le_of_ble_eq_true rfl) d_A_meet_3 ⟨(Nat.le_of_ble_eq_true rfl), (Nat.le_of_ble_eq_true rfl)⟩) hP hD hS hA (fun r1 u2 H locs hp9 hP hD hS => ?_)
  have hP : va_P D vwCl (TbW dA ta t ++ (VW dA h ad x)) H := hP
  have hD : va_D A (TbW dA ta t ++ (VW dA h ad x)) := hD
  replace hp9 : woA x.afr x.awd x.awi tm = r1 := Eq.symm hp9
  subst hp9
  refine tpi (y := nI w) hw ?_
  refine lv_istore hx hb d_A_meet_6 hl (by decide) rfl (fun ls hl => ?_)
  have hl : lv_has ls 10 [(8, .int (nI w)), (0, .ref (ad 24)), (1, .int 1), (2, .ref (ta 0)), (3, .int (nI o)), (4, .long tm), (6, .long v)] := hl
  refine lv_aload_n hx hb d_A_meet_8 rfl (lv_at hl 1 rfl) ?_
  refine gF (v := .ref (ad 26)) hx hb hown hE hK hP 42 rfl rfl layA 2 (by decide) w800 rfl d_A_meet_9 ?_
  refine lv_iload_n hx hb d_A_meet_12 rfl (lv_at hl 4 rfl) ?_
  refine nild (f := x.aro) (n := 256) hx hb hK hP (43) 1 rfl rfl (o) (by omega) (by decide) d_A_meet_13 ?_
  refine tpi (y := (nI r)) hro ?_
  refine lv_istore hx hb d_A_meet_14 hl (by decide) rfl (fun ls hl => ?_)
  have hl : lv_has ls 10 [(9, .int (nI r)), (8, .int (nI w)), (0, .ref (ad 24)), (1, .int 1), (2, .ref (ta 0)), (3, .int (nI o)), (4, .long tm), (6, .long v)] := hl
  refine lv_iload hx hb d_A_meet_16 (lv_at hl 1 rfl) ?_
  refine lv_iconst (v := (-1)) hx hb d_A_meet_18 (by decide) ?_
  refine lv_icmp_eq hx hb d_A_meet_19 (tgt := 43) rfl (fun h9 => absurd h9 (nI_nm (by omega))) (fun _ => ?_)
  refine lv_iload_n hx hb d_A_meet_22 rfl (lv_at hl 3 rfl) ?_
  refine lv_bipush (v := 6) hx hb d_A_meet_23 (by decide) ?_
  refine lv_icmp_ne hx hb d_A_meet_25 (tgt := 43) rfl (fun _ => ?_) (fun h9 => absurd h9 (by decide))
  refine lv_iload hx hb d_A_meet_43 (lv_at hl 1 rfl) ?_
  refine lv_iconst (v := (-1)) hx hb d_A_meet_45 (by decide) ?_
  refine lv_icmp_eq hx hb d_A_meet_46 (tgt := 77) rfl (fun h9 => absurd h9 (nI_nm (by omega))) (fun _ => ?_)
  refine lv_iload_n hx hb d_A_meet_49 rfl (lv_at hl 3 rfl) ?_
  refine lv_iconst (v := 4) hx hb d_A_meet_50 (by decide) ?_
  refine lv_icmp_eq hx hb d_A_meet_51 (tgt := 59) rfl (fun h9 => absurd h9 (by decide)) (fun _ => ?_)
  refine lv_iload_n hx hb d_A_meet_54 rfl (lv_at hl 3 rfl) ?_
  refine lv_iconst (v := 5) hx hb d_A_meet_55 (by decide) ?_
  refine lv_icmp_ne hx hb d_A_meet_56 (tgt := 77) rfl (fun _ => ?_) (fun h9 => absurd h9 (by decide))
  refine lv_iload hx hb d_A_meet_77 (lv_at hl 1 rfl) ?_
  refine lv_iconst (v := (-1)) hx hb d_A_meet_79 (by decide) ?_
  refine lv_icmp_eq hx hb d_A_meet_80 (tgt := 102) rfl (fun h9 => absurd h9 (nI_nm (by omega))) (fun _ => ?_)
  refine lv_aload_n hx hb d_A_meet_83 rfl (lv_at hl 4 rfl) ?_
  refine lv_iload hx hb d_A_meet_84 (lv_at hl 0 rfl) ?_
  refine lv_iload hx hb d_A_meet_86 (lv_at hl 1 rfl) ?_
  refine lv_iload_n hx hb d_A_meet_88 rfl (lv_at hl 3 rfl) ?_
  refine lv_aload_n hx hb d_A_meet_89 rfl (lv_at hl 4 rfl) ?_
  refine lv_iload hx hb d_A_meet_90 (lv_at hl 0 rfl) ?_
  refine lv_iload hx hb d_A_meet_92 (lv_at hl 1 rfl) ?_
  refine lv_lload hx hb d_A_meet_94 (lv_at hl 7 rfl) ?_
  refine jkL (wr := []) (rnS (As := [.int 1, .ref (ta 0), .int (nI r), .int (nI w), .long v]) (rest := [.int (nI w), .int (nI r), .ref (ta 0)]) hx hb hml hown hE hK (hN _ _ hS) hP hD (v_gathered_1 l D dA H.size (VW dA h ad x) ta t r w v (show t.cN ≤ 65536 from by omega) (show r * t.wi + w < t.cN from by omega) (show r < 256 from by omega)) w1517 w1516 w1518 w846 rfl rfl ⟨⟨by decide, by decide⟩, rfl⟩ ⟨(Nat.le_of_ble_eq_true rfl), (Nat.le_of_ble_eq_true rfl)⟩ rfl hl.1 rfl (Nat.le_of_ble_eq_true rfl) d_A_meet_96 ⟨(Nat.le_of_ble_eq_true rfl), (Nat.le_of_ble_eq_true rfl)⟩) hP hD hS hA (fun r3 u4 H locs hp9 hP hD hS => ?_)
  have hP : va_P D vwCl (TbW dA ta t ++ (VW dA h ad x)) H := hP
  have hD : va_D A (TbW dA ta t ++ (VW dA h ad x)) := hD
  replace hp9 : gaV 1 (hasB (t.th r) w) (t.ce (r * t.wi + w)) v = r3 := Eq.symm hp9
  subst hp9
  refine jkV (wr := []) (rnV (As := [.int (nI r), .int (nI w), .long (gaV 1 (hasB (t.th r) w) (t.ce (r * t.wi + w)) v)]) (rest := []) hx hb hml hown hE hK (hN _ _ hS) hP hD (v_Tput l D dA H.size (VW dA h ad x) ta t r w (gaV 1 (hasB (t.th r) w) (t.ce (r * t.wi + w)) v) hcN (show r * t.wi + w < t.cN from by omega) (show r < 256 from by omega)) (q0 := 0) rfl rfl w1433 w1511 w1434 w1435 w807 rfl rfl ⟨⟨by decide, by decide⟩, rfl⟩ ⟨(Nat.le_of_ble_eq_true rfl), (Nat.le_of_ble_eq_true rfl)⟩ rfl hl.1 rfl (Nat.le_of_ble_eq_true rfl) d_A_meet_99 ⟨(Nat.le_of_ble_eq_true rfl), (Nat.le_of_ble_eq_true rfl)⟩) hP hD hS hA (fun u6 H locs hp9 hP hD hS => ?_)
  have hP : va_P D vwCl (TbW dA ta (TB.s_ce (TB.s_th t (va_up t.th r (t.th r ||| bitL w))) (va_up t.ce (r * t.wi + w) (gaV 1 (hasB (t.th r) w) (t.ce (r * t.wi + w)) v))) ++ (VW dA h ad x)) H := hP
  have hD : va_D A (TbW dA ta (TB.s_ce (TB.s_th t (va_up t.th r (t.th r ||| bitL w))) (va_up t.ce (r * t.wi + w) (gaV 1 (hasB (t.th r) w) (t.ce (r * t.wi + w)) v))) ++ (VW dA h ad x)) := hD
  refine lv_aload_n hx hb d_A_meet_102 rfl (lv_at hl 2 rfl) ?_
  refine gF (v := .ref (ad 27)) hx hb hown hE hK hP 42 rfl rfl layA 3 (by decide) w801 rfl d_A_meet_103 ?_
  refine lv_iload_n hx hb d_A_meet_106 rfl (lv_at hl 5 rfl) ?_
  refine lv_iconst (v := 1) hx hb d_A_meet_107 (by decide) ?_
  refine nzstB (v := true) (n := 256) hx hb hK hP hD hS (44) 3 rfl rfl (o) (by omega) (by decide) d_A_meet_108 (fun H locs hP hD hS => ?_)
  have hP : va_P D vwCl (TbW dA ta (TB.s_ce (TB.s_th t (va_up t.th r (t.th r ||| bitL w))) (va_up t.ce (r * t.wi + w) (gaV 1 (hasB (t.th r) w) (t.ce (r * t.wi + w)) v))) ++ (VW dA h ad (VS.s_ahb x (va_up x.ahb o true)))) H := hP
  have hD : va_D A (TbW dA ta (TB.s_ce (TB.s_th t (va_up t.th r (t.th r ||| bitL w))) (va_up t.ce (r * t.wi + w) (gaV 1 (hasB (t.th r) w) (t.ce (r * t.wi + w)) v))) ++ (VW dA h ad (VS.s_ahb x (va_up x.ahb o true)))) := hD
  refine lv_aload_n hx hb d_A_meet_109 rfl (lv_at hl 2 rfl) ?_
  refine gF (v := .ref (ad 28)) hx hb hown hE hK hP 42 rfl rfl layA 4 (by decide) w802 rfl d_A_meet_110 ?_
  refine lv_iload_n hx hb d_A_meet_113 rfl (lv_at hl 5 rfl) ?_
  refine lv_lload hx hb d_A_meet_114 (lv_at hl 7 rfl) ?_
  refine nlst (n := 256) hx hb hK hP hD hS (45) 2 rfl rfl (o) (by omega) (by decide) d_A_meet_116 (fun H locs hP hD hS => ?_)
  have hP : va_P D vwCl (TbW dA ta (TB.s_ce (TB.s_th t (va_up t.th r (t.th r ||| bitL w))) (va_up t.ce (r * t.wi + w) (gaV 1 (hasB (t.th r) w) (t.ce (r * t.wi + w)) v))) ++ (VW dA h ad (VS.s_abf (VS.s_ahb x (va_up x.ahb o true)) (va_up x.abf o v)))) H := hP
  have hD : va_D A (TbW dA ta (TB.s_ce (TB.s_th t (va_up t.th r (t.th r ||| bitL w))) (va_up t.ce (r * t.wi + w) (gaV 1 (hasB (t.th r) w) (t.ce (r * t.wi + w)) v))) ++ (VW dA h ad (VS.s_abf (VS.s_ahb x (va_up x.ahb o true)) (va_up x.abf o v)))) := hD
  exact rfV hx hb hr hlk hS (⟨TB.s_ce (TB.s_th t (va_up t.th r (t.th r ||| bitL w))) (va_up t.ce (r * t.wi + w) (gaV 1 (hasB (t.th r) w) (t.ce (r * t.wi + w)) v)), VS.s_abf (VS.s_ahb x (va_up x.ahb o true)) (va_up x.abf o v)⟩) ⟨(mtT_0 (by decide) (by decide)).symm, (meX_0 (by decide)).symm⟩ hP hD (Nat.le_of_ble_eq_true rfl) (Nat.le_of_ble_eq_true rfl) d_A_meet_117
set_option maxHeartbeats 4000000 in
set_option maxRecDepth 100000 in
theorem v_meet_2 (l : Launch) (D : va_G) (dA : Nat → ClassId) (sz : Nat) (h : Nat) (ad : Nat → Nat) (ta : Nat → Nat) (t : TB) (x : VS) (o : Nat) (tm : Int64) (v : Int64) (r : Nat) (w : Nat) (hwi : x.awi ≤ 64) (hw : woA x.afr x.awd x.awi tm = nI w) (hw2 : w < x.awi) (hro : x.aro o = nI r) (hcN : t.cN ≤ 65536) (h1 : r * t.wi + w < t.cN) (h2 : r < 256) (h3 : o < 256) (h4 : r * x.awi + w < x.bN) (h5 : x.bN ≤ 65536) (h6 : x.bO (r * x.awi + w) < 256) : Met l ⟨"SeriesVault$Answers", "meet", "(ILSeriesVault$Table;IJJ)V"⟩ [Cond.code ⟨"SeriesVault$Answers", "meet", "(ILSeriesVault$Table;IJJ)V"⟩ prog_2_method_9_code 10 none] { frames := 4, cells := 0, slots := 0, locals := 300 } (pC D dA [.ref (ad 24), .int 2, .ref (ta 0), .int (nI o), .long tm, .long v] (TbW dA ta t ++ (VW dA h ad x)) sz) (va_Qv (fun (u9 : TB × VS) => u9.1 = mtT 2 t x r w o tm v ∧ u9.2 = meX 2 t x r w o tm v) (fun (u9 : TB × VS) t9 => bW D (va_A (TbW dA ta t ++ (VW dA h ad x)) sz) (TbW dA ta u9.1 ++ (VW dA h ad u9.2)) t9) (va_A (TbW dA ta t ++ (VW dA h ad x)) sz)) 0 0 (va_A (TbW dA ta t ++ (VW dA h ad x)) sz) := by
  refine mkC (y := ⟨"SeriesVault$Answers", "meet", "(ILSeriesVault$Table;IJJ)V"⟩) (cc := prog_2_method_9_code) (maxL := 10) (av := [.ref (ad 24), .int 2, .ref (ta 0), .int (nI o), .long tm, .long v]) (ws := TbW dA ta t ++ (VW dA h ad x)) (sz := sz) (Qc := fun A => va_Qv (fun (u9 : TB × VS) => u9.1 = mtT 2 t x r w o tm v ∧ u9.2 = meX 2 t x r w o tm v) (fun (u9 : TB × VS) t9 => bW D A (TbW dA ta u9.1 ++ (VW dA h ad u9.2)) t9) A) (by decide) (Nat.le_of_ble_eq_true rfl) ?_
  intro A p e s m below meth c ls hsz hB
  obtain ⟨hx, hb, hr, hml, hown, hin, hlk, hE, hK, hP, hD, hS, hA, hN, hl⟩ := hB
  have hown : s.vm.findClass "SeriesVault$Answers" = some m.cls := hown
  have hl : lv_has ls 10 [(0, .ref (ad 24)), (1, .int 2), (2, .ref (ta 0)), (3, .int (nI o)), (4, .long tm), (6, .long v)] := hl
  obtain ⟨H, hH⟩ : ∃ z, z = s.heap := ⟨_, rfl⟩
  have hP : va_P D vwCl (TbW dA ta t ++ (VW dA h ad x)) H := by rw [hH]; exact hP
  have hS : va_S A s.heap H [] := by rw [hH]; exact hS
  rw [← hH]
  refine lv_aload_n hx hb d_A_meet_0 rfl (lv_at hl 0 rfl) ?_
  refine lv_lload hx hb d_A_meet_1 (lv_at hl 4 rfl) ?_
  have hPc : va_P D vwCl (VW dA h ad x) H := spP (wr := TbW dA ta t) hP
  have hDc : va_D A (VW dA h ad x) := spD (wr := TbW dA ta t) hD
  refine jkI (wr := TbW dA ta t) (rnV (As := [.long tm]) (rest := []) hx hb hml hown hE hK (hN _ _ hS) hPc hDc (v_windowOf l D dA H.size h ad x tm (show x.awi ≤ 64 from by omega)) (q0 := 37) rfl rfl w1513 w1512 w1514 w1515 w846 rfl rfl ⟨⟨by decide, by decide⟩, rfl⟩ ⟨(Nat.le_of_ble_eq_true rfl), (Nat.le_of_ble_eq_true rfl)⟩ rfl hl.1 rfl (Nat.le_of_ble_eq_true rfl) d_A_meet_3 ⟨(Nat.le_of_ble_eq_true rfl), (Nat.le_of_ble_eq_true rfl)⟩) hP hD hS hA (fun r1 u2 H locs hp9 hP hD hS => ?_)
  have hP : va_P D vwCl (TbW dA ta t ++ (VW dA h ad x)) H := hP
  have hD : va_D A (TbW dA ta t ++ (VW dA h ad x)) := hD
  replace hp9 : woA x.afr x.awd x.awi tm = r1 := Eq.symm hp9
  subst hp9
  refine tpi (y := nI w) hw ?_
  refine lv_istore hx hb d_A_meet_6 hl (by decide) rfl (fun ls hl => ?_)
  have hl : lv_has ls 10 [(8, .int (nI w)), (0, .ref (ad 24)), (1, .int 2), (2, .ref (ta 0)), (3, .int (nI o)), (4, .long tm), (6, .long v)] := hl
  refine lv_aload_n hx hb d_A_meet_8 rfl (lv_at hl 1 rfl) ?_
  refine gF (v := .ref (ad 26)) hx hb hown hE hK hP 42 rfl rfl layA 2 (by decide) w800 rfl d_A_meet_9 ?_
  refine lv_iload_n hx hb d_A_meet_12 rfl (lv_at hl 4 rfl) ?_
  refine nild (f := x.aro) (n := 256) hx hb hK hP (43) 1 rfl rfl (o) (by omega) (by decide) d_A_meet_13 ?_
  refine tpi (y := (nI r)) hro ?_
  refine lv_istore hx hb d_A_meet_14 hl (by decide) rfl (fun ls hl => ?_)
  have hl : lv_has ls 10 [(9, .int (nI r)), (8, .int (nI w)), (0, .ref (ad 24)), (1, .int 2), (2, .ref (ta 0)), (3, .int (nI o)), (4, .long tm), (6, .long v)] := hl
  refine lv_iload hx hb d_A_meet_16 (lv_at hl 1 rfl) ?_
  refine lv_iconst (v := (-1)) hx hb d_A_meet_18 (by decide) ?_
  refine lv_icmp_eq hx hb d_A_meet_19 (tgt := 43) rfl (fun h9 => absurd h9 (nI_nm (by omega))) (fun _ => ?_)
  refine lv_iload_n hx hb d_A_meet_22 rfl (lv_at hl 3 rfl) ?_
  refine lv_bipush (v := 6) hx hb d_A_meet_23 (by decide) ?_
  refine lv_icmp_ne hx hb d_A_meet_25 (tgt := 43) rfl (fun _ => ?_) (fun h9 => absurd h9 (by decide))
  refine lv_iload hx hb d_A_meet_43 (lv_at hl 1 rfl) ?_
  refine lv_iconst (v := (-1)) hx hb d_A_meet_45 (by decide) ?_
  refine lv_icmp_eq hx hb d_A_meet_46 (tgt := 77) rfl (fun h9 => absurd h9 (nI_nm (by omega))) (fun _ => ?_)
  refine lv_iload_n hx hb d_A_meet_49 rfl (lv_at hl 3 rfl) ?_
  refine lv_iconst (v := 4) hx hb d_A_meet_50 (by decide) ?_
  refine lv_icmp_eq hx hb d_A_meet_51 (tgt := 59) rfl (fun h9 => absurd h9 (by decide)) (fun _ => ?_)
  refine lv_iload_n hx hb d_A_meet_54 rfl (lv_at hl 3 rfl) ?_
  refine lv_iconst (v := 5) hx hb d_A_meet_55 (by decide) ?_
  refine lv_icmp_ne hx hb d_A_meet_56 (tgt := 77) rfl (fun _ => ?_) (fun h9 => absurd h9 (by decide))
  refine lv_iload hx hb d_A_meet_77 (lv_at hl 1 rfl) ?_
  refine lv_iconst (v := (-1)) hx hb d_A_meet_79 (by decide) ?_
  refine lv_icmp_eq hx hb d_A_meet_80 (tgt := 102) rfl (fun h9 => absurd h9 (nI_nm (by omega))) (fun _ => ?_)
  refine lv_aload_n hx hb d_A_meet_83 rfl (lv_at hl 4 rfl) ?_
  refine lv_iload hx hb d_A_meet_84 (lv_at hl 0 rfl) ?_
  refine lv_iload hx hb d_A_meet_86 (lv_at hl 1 rfl) ?_
  refine lv_iload_n hx hb d_A_meet_88 rfl (lv_at hl 3 rfl) ?_
  refine lv_aload_n hx hb d_A_meet_89 rfl (lv_at hl 4 rfl) ?_
  refine lv_iload hx hb d_A_meet_90 (lv_at hl 0 rfl) ?_
  refine lv_iload hx hb d_A_meet_92 (lv_at hl 1 rfl) ?_
  refine lv_lload hx hb d_A_meet_94 (lv_at hl 7 rfl) ?_
  refine jkL (wr := []) (rnS (As := [.int 2, .ref (ta 0), .int (nI r), .int (nI w), .long v]) (rest := [.int (nI w), .int (nI r), .ref (ta 0)]) hx hb hml hown hE hK (hN _ _ hS) hP hD (v_gathered_2 l D dA H.size (VW dA h ad x) ta t r w v (show t.cN ≤ 65536 from by omega) (show r * t.wi + w < t.cN from by omega) (show r < 256 from by omega)) w1517 w1516 w1518 w846 rfl rfl ⟨⟨by decide, by decide⟩, rfl⟩ ⟨(Nat.le_of_ble_eq_true rfl), (Nat.le_of_ble_eq_true rfl)⟩ rfl hl.1 rfl (Nat.le_of_ble_eq_true rfl) d_A_meet_96 ⟨(Nat.le_of_ble_eq_true rfl), (Nat.le_of_ble_eq_true rfl)⟩) hP hD hS hA (fun r3 u4 H locs hp9 hP hD hS => ?_)
  have hP : va_P D vwCl (TbW dA ta t ++ (VW dA h ad x)) H := hP
  have hD : va_D A (TbW dA ta t ++ (VW dA h ad x)) := hD
  replace hp9 : gaV 2 (hasB (t.th r) w) (t.ce (r * t.wi + w)) v = r3 := Eq.symm hp9
  subst hp9
  refine jkV (wr := []) (rnV (As := [.int (nI r), .int (nI w), .long (gaV 2 (hasB (t.th r) w) (t.ce (r * t.wi + w)) v)]) (rest := []) hx hb hml hown hE hK (hN _ _ hS) hP hD (v_Tput l D dA H.size (VW dA h ad x) ta t r w (gaV 2 (hasB (t.th r) w) (t.ce (r * t.wi + w)) v) hcN (show r * t.wi + w < t.cN from by omega) (show r < 256 from by omega)) (q0 := 0) rfl rfl w1433 w1511 w1434 w1435 w807 rfl rfl ⟨⟨by decide, by decide⟩, rfl⟩ ⟨(Nat.le_of_ble_eq_true rfl), (Nat.le_of_ble_eq_true rfl)⟩ rfl hl.1 rfl (Nat.le_of_ble_eq_true rfl) d_A_meet_99 ⟨(Nat.le_of_ble_eq_true rfl), (Nat.le_of_ble_eq_true rfl)⟩) hP hD hS hA (fun u6 H locs hp9 hP hD hS => ?_)
  have hP : va_P D vwCl (TbW dA ta (TB.s_ce (TB.s_th t (va_up t.th r (t.th r ||| bitL w))) (va_up t.ce (r * t.wi + w) (gaV 2 (hasB (t.th r) w) (t.ce (r * t.wi + w)) v))) ++ (VW dA h ad x)) H := hP
  have hD : va_D A (TbW dA ta (TB.s_ce (TB.s_th t (va_up t.th r (t.th r ||| bitL w))) (va_up t.ce (r * t.wi + w) (gaV 2 (hasB (t.th r) w) (t.ce (r * t.wi + w)) v))) ++ (VW dA h ad x)) := hD
  refine lv_aload_n hx hb d_A_meet_102 rfl (lv_at hl 2 rfl) ?_
  refine gF (v := .ref (ad 27)) hx hb hown hE hK hP 42 rfl rfl layA 3 (by decide) w801 rfl d_A_meet_103 ?_
  refine lv_iload_n hx hb d_A_meet_106 rfl (lv_at hl 5 rfl) ?_
  refine lv_iconst (v := 1) hx hb d_A_meet_107 (by decide) ?_
  refine nzstB (v := true) (n := 256) hx hb hK hP hD hS (44) 3 rfl rfl (o) (by omega) (by decide) d_A_meet_108 (fun H locs hP hD hS => ?_)
  have hP : va_P D vwCl (TbW dA ta (TB.s_ce (TB.s_th t (va_up t.th r (t.th r ||| bitL w))) (va_up t.ce (r * t.wi + w) (gaV 2 (hasB (t.th r) w) (t.ce (r * t.wi + w)) v))) ++ (VW dA h ad (VS.s_ahb x (va_up x.ahb o true)))) H := hP
  have hD : va_D A (TbW dA ta (TB.s_ce (TB.s_th t (va_up t.th r (t.th r ||| bitL w))) (va_up t.ce (r * t.wi + w) (gaV 2 (hasB (t.th r) w) (t.ce (r * t.wi + w)) v))) ++ (VW dA h ad (VS.s_ahb x (va_up x.ahb o true)))) := hD
  refine lv_aload_n hx hb d_A_meet_109 rfl (lv_at hl 2 rfl) ?_
  refine gF (v := .ref (ad 28)) hx hb hown hE hK hP 42 rfl rfl layA 4 (by decide) w802 rfl d_A_meet_110 ?_
  refine lv_iload_n hx hb d_A_meet_113 rfl (lv_at hl 5 rfl) ?_
  refine lv_lload hx hb d_A_meet_114 (lv_at hl 7 rfl) ?_
  refine nlst (n := 256) hx hb hK hP hD hS (45) 2 rfl rfl (o) (by omega) (by decide) d_A_meet_116 (fun H locs hP hD hS => ?_)
  have hP : va_P D vwCl (TbW dA ta (TB.s_ce (TB.s_th t (va_up t.th r (t.th r ||| bitL w))) (va_up t.ce (r * t.wi + w) (gaV 2 (hasB (t.th r) w) (t.ce (r * t.wi + w)) v))) ++ (VW dA h ad (VS.s_abf (VS.s_ahb x (va_up x.ahb o true)) (va_up x.abf o v)))) H := hP
  have hD : va_D A (TbW dA ta (TB.s_ce (TB.s_th t (va_up t.th r (t.th r ||| bitL w))) (va_up t.ce (r * t.wi + w) (gaV 2 (hasB (t.th r) w) (t.ce (r * t.wi + w)) v))) ++ (VW dA h ad (VS.s_abf (VS.s_ahb x (va_up x.ahb o true)) (va_up x.abf o v)))) := hD
  exact rfV hx hb hr hlk hS (⟨TB.s_ce (TB.s_th t (va_up t.th r (t.th r ||| bitL w))) (va_up t.ce (r * t.wi + w) (gaV 2 (hasB (t.th r) w) (t.ce (r * t.wi + w)) v)), VS.s_abf (VS.s_ahb x (va_up x.ahb o true)) (va_up x.abf o v)⟩) ⟨(mtT_0 (by decide) (by decide)).symm, (meX_0 (by decide)).symm⟩ hP hD (Nat.le_of_ble_eq_true rfl) (Nat.le_of_ble_eq_true rfl) d_A_meet_117
set_option maxHeartbeats 4000000 in
set_option maxRecDepth 100000 in
theorem v_meet_3 (l : Launch) (D : va_G) (dA : Nat → ClassId) (sz : Nat) (h : Nat) (ad : Nat → Nat) (ta : Nat → Nat) (t : TB) (x : VS) (o : Nat) (tm : Int64) (v : Int64) (r : Nat) (w : Nat) (hwi : x.awi ≤ 64) (hw : woA x.afr x.awd x.awi tm = nI w) (hw2 : w < x.awi) (hro : x.aro o = nI r) (hcN : t.cN ≤ 65536) (h1 : r * t.wi + w < t.cN) (h2 : r < 256) (h3 : o < 256) (h4 : r * x.awi + w < x.bN) (h5 : x.bN ≤ 65536) (h6 : x.bO (r * x.awi + w) < 256) : Met l ⟨"SeriesVault$Answers", "meet", "(ILSeriesVault$Table;IJJ)V"⟩ [Cond.code ⟨"SeriesVault$Answers", "meet", "(ILSeriesVault$Table;IJJ)V"⟩ prog_2_method_9_code 10 none] { frames := 4, cells := 0, slots := 0, locals := 300 } (pC D dA [.ref (ad 24), .int 3, .ref (ta 0), .int (nI o), .long tm, .long v] (TbW dA ta t ++ (VW dA h ad x)) sz) (va_Qv (fun (u9 : TB × VS) => u9.1 = mtT 3 t x r w o tm v ∧ u9.2 = meX 3 t x r w o tm v) (fun (u9 : TB × VS) t9 => bW D (va_A (TbW dA ta t ++ (VW dA h ad x)) sz) (TbW dA ta u9.1 ++ (VW dA h ad u9.2)) t9) (va_A (TbW dA ta t ++ (VW dA h ad x)) sz)) 0 0 (va_A (TbW dA ta t ++ (VW dA h ad x)) sz) := by
  refine mkC (y := ⟨"SeriesVault$Answers", "meet", "(ILSeriesVault$Table;IJJ)V"⟩) (cc := prog_2_method_9_code) (maxL := 10) (av := [.ref (ad 24), .int 3, .ref (ta 0), .int (nI o), .long tm, .long v]) (ws := TbW dA ta t ++ (VW dA h ad x)) (sz := sz) (Qc := fun A => va_Qv (fun (u9 : TB × VS) => u9.1 = mtT 3 t x r w o tm v ∧ u9.2 = meX 3 t x r w o tm v) (fun (u9 : TB × VS) t9 => bW D A (TbW dA ta u9.1 ++ (VW dA h ad u9.2)) t9) A) (by decide) (Nat.le_of_ble_eq_true rfl) ?_
  intro A p e s m below meth c ls hsz hB
  obtain ⟨hx, hb, hr, hml, hown, hin, hlk, hE, hK, hP, hD, hS, hA, hN, hl⟩ := hB
  have hown : s.vm.findClass "SeriesVault$Answers" = some m.cls := hown
  have hl : lv_has ls 10 [(0, .ref (ad 24)), (1, .int 3), (2, .ref (ta 0)), (3, .int (nI o)), (4, .long tm), (6, .long v)] := hl
  obtain ⟨H, hH⟩ : ∃ z, z = s.heap := ⟨_, rfl⟩
  have hP : va_P D vwCl (TbW dA ta t ++ (VW dA h ad x)) H := by rw [hH]; exact hP
  have hS : va_S A s.heap H [] := by rw [hH]; exact hS
  rw [← hH]
  refine lv_aload_n hx hb d_A_meet_0 rfl (lv_at hl 0 rfl) ?_
  refine lv_lload hx hb d_A_meet_1 (lv_at hl 4 rfl) ?_
  have hPc : va_P D vwCl (VW dA h ad x) H := spP (wr := TbW dA ta t) hP
  have hDc : va_D A (VW dA h ad x) := spD (wr := TbW dA ta t) hD
  refine jkI (wr := TbW dA ta t) (rnV (As := [.long tm]) (rest := []) hx hb hml hown hE hK (hN _ _ hS) hPc hDc (v_windowOf l D dA H.size h ad x tm (show x.awi ≤ 64 from by omega)) (q0 := 37) rfl rfl w1513 w1512 w1514 w1515 w846 rfl rfl ⟨⟨by decide, by decide⟩, rfl⟩ ⟨(Nat.le_of_ble_eq_true rfl), (Nat.le_of_ble_eq_true rfl)⟩ rfl hl.1 rfl (Nat.le_of_ble_eq_true rfl) d_A_meet_3 ⟨(Nat.le_of_ble_eq_true rfl), (Nat.le_of_ble_eq_true rfl)⟩) hP hD hS hA (fun r1 u2 H locs hp9 hP hD hS => ?_)
  have hP : va_P D vwCl (TbW dA ta t ++ (VW dA h ad x)) H := hP
  have hD : va_D A (TbW dA ta t ++ (VW dA h ad x)) := hD
  replace hp9 : woA x.afr x.awd x.awi tm = r1 := Eq.symm hp9
  subst hp9
  refine tpi (y := nI w) hw ?_
  refine lv_istore hx hb d_A_meet_6 hl (by decide) rfl (fun ls hl => ?_)
  have hl : lv_has ls 10 [(8, .int (nI w)), (0, .ref (ad 24)), (1, .int 3), (2, .ref (ta 0)), (3, .int (nI o)), (4, .long tm), (6, .long v)] := hl
  refine lv_aload_n hx hb d_A_meet_8 rfl (lv_at hl 1 rfl) ?_
  refine gF (v := .ref (ad 26)) hx hb hown hE hK hP 42 rfl rfl layA 2 (by decide) w800 rfl d_A_meet_9 ?_
  refine lv_iload_n hx hb d_A_meet_12 rfl (lv_at hl 4 rfl) ?_
  refine nild (f := x.aro) (n := 256) hx hb hK hP (43) 1 rfl rfl (o) (by omega) (by decide) d_A_meet_13 ?_
  refine tpi (y := (nI r)) hro ?_
  refine lv_istore hx hb d_A_meet_14 hl (by decide) rfl (fun ls hl => ?_)
  have hl : lv_has ls 10 [(9, .int (nI r)), (8, .int (nI w)), (0, .ref (ad 24)), (1, .int 3), (2, .ref (ta 0)), (3, .int (nI o)), (4, .long tm), (6, .long v)] := hl
  refine lv_iload hx hb d_A_meet_16 (lv_at hl 1 rfl) ?_
  refine lv_iconst (v := (-1)) hx hb d_A_meet_18 (by decide) ?_
  refine lv_icmp_eq hx hb d_A_meet_19 (tgt := 43) rfl (fun h9 => absurd h9 (nI_nm (by omega))) (fun _ => ?_)
  refine lv_iload_n hx hb d_A_meet_22 rfl (lv_at hl 3 rfl) ?_
  refine lv_bipush (v := 6) hx hb d_A_meet_23 (by decide) ?_
  refine lv_icmp_ne hx hb d_A_meet_25 (tgt := 43) rfl (fun _ => ?_) (fun h9 => absurd h9 (by decide))
  refine lv_iload hx hb d_A_meet_43 (lv_at hl 1 rfl) ?_
  refine lv_iconst (v := (-1)) hx hb d_A_meet_45 (by decide) ?_
  refine lv_icmp_eq hx hb d_A_meet_46 (tgt := 77) rfl (fun h9 => absurd h9 (nI_nm (by omega))) (fun _ => ?_)
  refine lv_iload_n hx hb d_A_meet_49 rfl (lv_at hl 3 rfl) ?_
  refine lv_iconst (v := 4) hx hb d_A_meet_50 (by decide) ?_
  refine lv_icmp_eq hx hb d_A_meet_51 (tgt := 59) rfl (fun h9 => absurd h9 (by decide)) (fun _ => ?_)
  refine lv_iload_n hx hb d_A_meet_54 rfl (lv_at hl 3 rfl) ?_
  refine lv_iconst (v := 5) hx hb d_A_meet_55 (by decide) ?_
  refine lv_icmp_ne hx hb d_A_meet_56 (tgt := 77) rfl (fun _ => ?_) (fun h9 => absurd h9 (by decide))
  refine lv_iload hx hb d_A_meet_77 (lv_at hl 1 rfl) ?_
  refine lv_iconst (v := (-1)) hx hb d_A_meet_79 (by decide) ?_
  refine lv_icmp_eq hx hb d_A_meet_80 (tgt := 102) rfl (fun h9 => absurd h9 (nI_nm (by omega))) (fun _ => ?_)
  refine lv_aload_n hx hb d_A_meet_83 rfl (lv_at hl 4 rfl) ?_
  refine lv_iload hx hb d_A_meet_84 (lv_at hl 0 rfl) ?_
  refine lv_iload hx hb d_A_meet_86 (lv_at hl 1 rfl) ?_
  refine lv_iload_n hx hb d_A_meet_88 rfl (lv_at hl 3 rfl) ?_
  refine lv_aload_n hx hb d_A_meet_89 rfl (lv_at hl 4 rfl) ?_
  refine lv_iload hx hb d_A_meet_90 (lv_at hl 0 rfl) ?_
  refine lv_iload hx hb d_A_meet_92 (lv_at hl 1 rfl) ?_
  refine lv_lload hx hb d_A_meet_94 (lv_at hl 7 rfl) ?_
  refine jkL (wr := []) (rnS (As := [.int 3, .ref (ta 0), .int (nI r), .int (nI w), .long v]) (rest := [.int (nI w), .int (nI r), .ref (ta 0)]) hx hb hml hown hE hK (hN _ _ hS) hP hD (v_gathered_3 l D dA H.size (VW dA h ad x) ta t r w v (show t.cN ≤ 65536 from by omega) (show r * t.wi + w < t.cN from by omega) (show r < 256 from by omega)) w1517 w1516 w1518 w846 rfl rfl ⟨⟨by decide, by decide⟩, rfl⟩ ⟨(Nat.le_of_ble_eq_true rfl), (Nat.le_of_ble_eq_true rfl)⟩ rfl hl.1 rfl (Nat.le_of_ble_eq_true rfl) d_A_meet_96 ⟨(Nat.le_of_ble_eq_true rfl), (Nat.le_of_ble_eq_true rfl)⟩) hP hD hS hA (fun r3 u4 H locs hp9 hP hD hS => ?_)
  have hP : va_P D vwCl (TbW dA ta t ++ (VW dA h ad x)) H := hP
  have hD : va_D A (TbW dA ta t ++ (VW dA h ad x)) := hD
  replace hp9 : gaV 3 (hasB (t.th r) w) (t.ce (r * t.wi + w)) v = r3 := Eq.symm hp9
  subst hp9
  refine jkV (wr := []) (rnV (As := [.int (nI r), .int (nI w), .long (gaV 3 (hasB (t.th r) w) (t.ce (r * t.wi + w)) v)]) (rest := []) hx hb hml hown hE hK (hN _ _ hS) hP hD (v_Tput l D dA H.size (VW dA h ad x) ta t r w (gaV 3 (hasB (t.th r) w) (t.ce (r * t.wi + w)) v) hcN (show r * t.wi + w < t.cN from by omega) (show r < 256 from by omega)) (q0 := 0) rfl rfl w1433 w1511 w1434 w1435 w807 rfl rfl ⟨⟨by decide, by decide⟩, rfl⟩ ⟨(Nat.le_of_ble_eq_true rfl), (Nat.le_of_ble_eq_true rfl)⟩ rfl hl.1 rfl (Nat.le_of_ble_eq_true rfl) d_A_meet_99 ⟨(Nat.le_of_ble_eq_true rfl), (Nat.le_of_ble_eq_true rfl)⟩) hP hD hS hA (fun u6 H locs hp9 hP hD hS => ?_)
  have hP : va_P D vwCl (TbW dA ta (TB.s_ce (TB.s_th t (va_up t.th r (t.th r ||| bitL w))) (va_up t.ce (r * t.wi + w) (gaV 3 (hasB (t.th r) w) (t.ce (r * t.wi + w)) v))) ++ (VW dA h ad x)) H := hP
  have hD : va_D A (TbW dA ta (TB.s_ce (TB.s_th t (va_up t.th r (t.th r ||| bitL w))) (va_up t.ce (r * t.wi + w) (gaV 3 (hasB (t.th r) w) (t.ce (r * t.wi + w)) v))) ++ (VW dA h ad x)) := hD
  refine lv_aload_n hx hb d_A_meet_102 rfl (lv_at hl 2 rfl) ?_
  refine gF (v := .ref (ad 27)) hx hb hown hE hK hP 42 rfl rfl layA 3 (by decide) w801 rfl d_A_meet_103 ?_
  refine lv_iload_n hx hb d_A_meet_106 rfl (lv_at hl 5 rfl) ?_
  refine lv_iconst (v := 1) hx hb d_A_meet_107 (by decide) ?_
  refine nzstB (v := true) (n := 256) hx hb hK hP hD hS (44) 3 rfl rfl (o) (by omega) (by decide) d_A_meet_108 (fun H locs hP hD hS => ?_)
  have hP : va_P D vwCl (TbW dA ta (TB.s_ce (TB.s_th t (va_up t.th r (t.th r ||| bitL w))) (va_up t.ce (r * t.wi + w) (gaV 3 (hasB (t.th r) w) (t.ce (r * t.wi + w)) v))) ++ (VW dA h ad (VS.s_ahb x (va_up x.ahb o true)))) H := hP
  have hD : va_D A (TbW dA ta (TB.s_ce (TB.s_th t (va_up t.th r (t.th r ||| bitL w))) (va_up t.ce (r * t.wi + w) (gaV 3 (hasB (t.th r) w) (t.ce (r * t.wi + w)) v))) ++ (VW dA h ad (VS.s_ahb x (va_up x.ahb o true)))) := hD
  refine lv_aload_n hx hb d_A_meet_109 rfl (lv_at hl 2 rfl) ?_
  refine gF (v := .ref (ad 28)) hx hb hown hE hK hP 42 rfl rfl layA 4 (by decide) w802 rfl d_A_meet_110 ?_
  refine lv_iload_n hx hb d_A_meet_113 rfl (lv_at hl 5 rfl) ?_
  refine lv_lload hx hb d_A_meet_114 (lv_at hl 7 rfl) ?_
  refine nlst (n := 256) hx hb hK hP hD hS (45) 2 rfl rfl (o) (by omega) (by decide) d_A_meet_116 (fun H locs hP hD hS => ?_)
  have hP : va_P D vwCl (TbW dA ta (TB.s_ce (TB.s_th t (va_up t.th r (t.th r ||| bitL w))) (va_up t.ce (r * t.wi + w) (gaV 3 (hasB (t.th r) w) (t.ce (r * t.wi + w)) v))) ++ (VW dA h ad (VS.s_abf (VS.s_ahb x (va_up x.ahb o true)) (va_up x.abf o v)))) H := hP
  have hD : va_D A (TbW dA ta (TB.s_ce (TB.s_th t (va_up t.th r (t.th r ||| bitL w))) (va_up t.ce (r * t.wi + w) (gaV 3 (hasB (t.th r) w) (t.ce (r * t.wi + w)) v))) ++ (VW dA h ad (VS.s_abf (VS.s_ahb x (va_up x.ahb o true)) (va_up x.abf o v)))) := hD
  exact rfV hx hb hr hlk hS (⟨TB.s_ce (TB.s_th t (va_up t.th r (t.th r ||| bitL w))) (va_up t.ce (r * t.wi + w) (gaV 3 (hasB (t.th r) w) (t.ce (r * t.wi + w)) v)), VS.s_abf (VS.s_ahb x (va_up x.ahb o true)) (va_up x.abf o v)⟩) ⟨(mtT_0 (by decide) (by decide)).symm, (meX_0 (by decide)).symm⟩ hP hD (Nat.le_of_ble_eq_true rfl) (Nat.le_of_ble_eq_true rfl) d_A_meet_117
theorem d_A_meet_59 : decode prog_2_method_9_code 59 = .ok (.aload_n 0, 1) := by decide +kernel
theorem d_A_meet_60 : decode prog_2_method_9_code 60 = .ok (.iload_n 1, 1) := by decide +kernel
theorem d_A_meet_61 : decode prog_2_method_9_code 61 = .ok (.aload_n 2, 1) := by decide +kernel
theorem d_A_meet_62 : decode prog_2_method_9_code 62 = .ok (.iload 9, 2) := by decide +kernel
theorem d_A_meet_64 : decode prog_2_method_9_code 64 = .ok (.iload 8, 2) := by decide +kernel
theorem d_A_meet_66 : decode prog_2_method_9_code 66 = .ok (.iload_n 3, 1) := by decide +kernel
theorem d_A_meet_67 : decode prog_2_method_9_code 67 = .ok (.lload 4, 2) := by decide +kernel
theorem d_A_meet_69 : decode prog_2_method_9_code 69 = .ok (.lload 6, 2) := by decide +kernel
theorem d_A_meet_71 : decode prog_2_method_9_code 71 = .ok (.invokevirtual 204, 3) := by decide +kernel
theorem d_A_meet_74 : decode prog_2_method_9_code 74 = .ok (.goto 28, 3) := by decide +kernel
theorem w1519 : Cond.methodLink "SeriesVault$Answers" 204 ⟨"SeriesVault$Answers", "choose", "(ILSeriesVault$Table;IIIJJ)V"⟩ ∈ aW := aw_of (tb_8 (List.mem_of_getElem? (i := 15) rfl)) rfl
theorem w1520 : Cond.code ⟨"SeriesVault$Answers", "choose", "(ILSeriesVault$Table;IIIJJ)V"⟩ prog_2_method_12_code 14 none ∈ aW := aw_of (tb_8 (List.mem_of_getElem? (i := 18) rfl)) rfl
theorem w1521 : Cond.instanceMethod ⟨"SeriesVault$Answers", "choose", "(ILSeriesVault$Table;IIIJJ)V"⟩ ∈ aW := aw_of (tb_8 (List.mem_of_getElem? (i := 17) rfl)) rfl
theorem w1522 : Cond.selects "SeriesVault$Answers" ⟨"SeriesVault$Answers", "choose", "(ILSeriesVault$Table;IIIJJ)V"⟩ ⟨"SeriesVault$Answers", "choose", "(ILSeriesVault$Table;IIIJJ)V"⟩ ∈ aW := aw_pr (List.mem_map.mpr ⟨_, pv_4 (List.mem_of_getElem? (i := 12) rfl), rfl⟩) rfl
set_option maxHeartbeats 4000000 in
set_option maxRecDepth 100000 in
theorem v_meet_4 (l : Launch) (D : va_G) (dA : Nat → ClassId) (sz : Nat) (h : Nat) (ad : Nat → Nat) (ta : Nat → Nat) (t : TB) (x : VS) (o : Nat) (tm : Int64) (v : Int64) (r : Nat) (w : Nat) (hwi : x.awi ≤ 64) (hw : woA x.afr x.awd x.awi tm = nI w) (hw2 : w < x.awi) (hro : x.aro o = nI r) (hcN : t.cN ≤ 65536) (h1 : r * t.wi + w < t.cN) (h2 : r < 256) (h3 : o < 256) (h4 : r * x.awi + w < x.bN) (h5 : x.bN ≤ 65536) (h6 : x.bO (r * x.awi + w) < 256) : Met l ⟨"SeriesVault$Answers", "meet", "(ILSeriesVault$Table;IJJ)V"⟩ [Cond.code ⟨"SeriesVault$Answers", "meet", "(ILSeriesVault$Table;IJJ)V"⟩ prog_2_method_9_code 10 none] { frames := 4, cells := 0, slots := 0, locals := 300 } (pC D dA [.ref (ad 24), .int 4, .ref (ta 0), .int (nI o), .long tm, .long v] (TbW dA ta t ++ (VW dA h ad x)) sz) (va_Qv (fun (u9 : TB × VS) => u9.1 = mtT 4 t x r w o tm v ∧ u9.2 = meX 4 t x r w o tm v) (fun (u9 : TB × VS) t9 => bW D (va_A (TbW dA ta t ++ (VW dA h ad x)) sz) (TbW dA ta u9.1 ++ (VW dA h ad u9.2)) t9) (va_A (TbW dA ta t ++ (VW dA h ad x)) sz)) 0 0 (va_A (TbW dA ta t ++ (VW dA h ad x)) sz) := by
  refine mkC (y := ⟨"SeriesVault$Answers", "meet", "(ILSeriesVault$Table;IJJ)V"⟩) (cc := prog_2_method_9_code) (maxL := 10) (av := [.ref (ad 24), .int 4, .ref (ta 0), .int (nI o), .long tm, .long v]) (ws := TbW dA ta t ++ (VW dA h ad x)) (sz := sz) (Qc := fun A => va_Qv (fun (u9 : TB × VS) => u9.1 = mtT 4 t x r w o tm v ∧ u9.2 = meX 4 t x r w o tm v) (fun (u9 : TB × VS) t9 => bW D A (TbW dA ta u9.1 ++ (VW dA h ad u9.2)) t9) A) (by decide) (Nat.le_of_ble_eq_true rfl) ?_
  intro A p e s m below meth c ls hsz hB
  obtain ⟨hx, hb, hr, hml, hown, hin, hlk, hE, hK, hP, hD, hS, hA, hN, hl⟩ := hB
  have hown : s.vm.findClass "SeriesVault$Answers" = some m.cls := hown
  have hl : lv_has ls 10 [(0, .ref (ad 24)), (1, .int 4), (2, .ref (ta 0)), (3, .int (nI o)), (4, .long tm), (6, .long v)] := hl
  obtain ⟨H, hH⟩ : ∃ z, z = s.heap := ⟨_, rfl⟩
  have hP : va_P D vwCl (TbW dA ta t ++ (VW dA h ad x)) H := by rw [hH]; exact hP
  have hS : va_S A s.heap H [] := by rw [hH]; exact hS
  rw [← hH]
  refine lv_aload_n hx hb d_A_meet_0 rfl (lv_at hl 0 rfl) ?_
  refine lv_lload hx hb d_A_meet_1 (lv_at hl 4 rfl) ?_
  have hPc : va_P D vwCl (VW dA h ad x) H := spP (wr := TbW dA ta t) hP
  have hDc : va_D A (VW dA h ad x) := spD (wr := TbW dA ta t) hD
  refine jkI (wr := TbW dA ta t) (rnV (As := [.long tm]) (rest := []) hx hb hml hown hE hK (hN _ _ hS) hPc hDc (v_windowOf l D dA H.size h ad x tm (show x.awi ≤ 64 from by omega)) (q0 := 37) rfl rfl w1513 w1512 w1514 w1515 w846 rfl rfl ⟨⟨by decide, by decide⟩, rfl⟩ ⟨(Nat.le_of_ble_eq_true rfl), (Nat.le_of_ble_eq_true rfl)⟩ rfl hl.1 rfl (Nat.le_of_ble_eq_true rfl) d_A_meet_3 ⟨(Nat.le_of_ble_eq_true rfl), (Nat.le_of_ble_eq_true rfl)⟩) hP hD hS hA (fun r1 u2 H locs hp9 hP hD hS => ?_)
  have hP : va_P D vwCl (TbW dA ta t ++ (VW dA h ad x)) H := hP
  have hD : va_D A (TbW dA ta t ++ (VW dA h ad x)) := hD
  replace hp9 : woA x.afr x.awd x.awi tm = r1 := Eq.symm hp9
  subst hp9
  refine tpi (y := nI w) hw ?_
  refine lv_istore hx hb d_A_meet_6 hl (by decide) rfl (fun ls hl => ?_)
  have hl : lv_has ls 10 [(8, .int (nI w)), (0, .ref (ad 24)), (1, .int 4), (2, .ref (ta 0)), (3, .int (nI o)), (4, .long tm), (6, .long v)] := hl
  refine lv_aload_n hx hb d_A_meet_8 rfl (lv_at hl 1 rfl) ?_
  refine gF (v := .ref (ad 26)) hx hb hown hE hK hP 42 rfl rfl layA 2 (by decide) w800 rfl d_A_meet_9 ?_
  refine lv_iload_n hx hb d_A_meet_12 rfl (lv_at hl 4 rfl) ?_
  refine nild (f := x.aro) (n := 256) hx hb hK hP (43) 1 rfl rfl (o) (by omega) (by decide) d_A_meet_13 ?_
  refine tpi (y := (nI r)) hro ?_
  refine lv_istore hx hb d_A_meet_14 hl (by decide) rfl (fun ls hl => ?_)
  have hl : lv_has ls 10 [(9, .int (nI r)), (8, .int (nI w)), (0, .ref (ad 24)), (1, .int 4), (2, .ref (ta 0)), (3, .int (nI o)), (4, .long tm), (6, .long v)] := hl
  refine lv_iload hx hb d_A_meet_16 (lv_at hl 1 rfl) ?_
  refine lv_iconst (v := (-1)) hx hb d_A_meet_18 (by decide) ?_
  refine lv_icmp_eq hx hb d_A_meet_19 (tgt := 43) rfl (fun h9 => absurd h9 (nI_nm (by omega))) (fun _ => ?_)
  refine lv_iload_n hx hb d_A_meet_22 rfl (lv_at hl 3 rfl) ?_
  refine lv_bipush (v := 6) hx hb d_A_meet_23 (by decide) ?_
  refine lv_icmp_ne hx hb d_A_meet_25 (tgt := 43) rfl (fun _ => ?_) (fun h9 => absurd h9 (by decide))
  refine lv_iload hx hb d_A_meet_43 (lv_at hl 1 rfl) ?_
  refine lv_iconst (v := (-1)) hx hb d_A_meet_45 (by decide) ?_
  refine lv_icmp_eq hx hb d_A_meet_46 (tgt := 77) rfl (fun h9 => absurd h9 (nI_nm (by omega))) (fun _ => ?_)
  refine lv_iload_n hx hb d_A_meet_49 rfl (lv_at hl 3 rfl) ?_
  refine lv_iconst (v := 4) hx hb d_A_meet_50 (by decide) ?_
  refine lv_icmp_eq hx hb d_A_meet_51 (tgt := 59) rfl (fun _ => ?_) (fun h9 => absurd (by decide) h9)
  refine lv_aload_n hx hb d_A_meet_59 rfl (lv_at hl 2 rfl) ?_
  refine lv_iload_n hx hb d_A_meet_60 rfl (lv_at hl 3 rfl) ?_
  refine lv_aload_n hx hb d_A_meet_61 rfl (lv_at hl 4 rfl) ?_
  refine lv_iload hx hb d_A_meet_62 (lv_at hl 0 rfl) ?_
  refine lv_iload hx hb d_A_meet_64 (lv_at hl 1 rfl) ?_
  refine lv_iload_n hx hb d_A_meet_66 rfl (lv_at hl 5 rfl) ?_
  refine lv_lload hx hb d_A_meet_67 (lv_at hl 6 rfl) ?_
  refine lv_lload hx hb d_A_meet_69 (lv_at hl 7 rfl) ?_
  refine jkV (wr := []) (rnV (As := [.int 4, .ref (ta 0), .int (nI r), .int (nI w), .int (nI o), .long tm, .long v]) (rest := []) hx hb hml hown hE hK (hN _ _ hS) hP hD (v_choose_4 l D dA H.size h ad ta t x r w o tm v (show t.cN ≤ 65536 from by omega) (show r * t.wi + w < t.cN from by omega) (show r < 256 from by omega) (show o < 256 from by omega) (show r * x.awi + w < x.bN from by omega) (show x.bN ≤ 65536 from by omega) (show x.bO (r * x.awi + w) < 256 from by omega)) (q0 := 42) rfl rfl w1520 w1519 w1521 w1522 w846 rfl rfl ⟨⟨by decide, by decide⟩, rfl⟩ ⟨(Nat.le_of_ble_eq_true rfl), (Nat.le_of_ble_eq_true rfl)⟩ rfl hl.1 rfl (Nat.le_of_ble_eq_true rfl) d_A_meet_71 ⟨(Nat.le_of_ble_eq_true rfl), (Nat.le_of_ble_eq_true rfl)⟩) hP hD hS hA (fun u4 H locs hp9 hP hD hS => ?_)
  obtain ⟨y5, z6⟩ := u4
  have hP : va_P D vwCl (TbW dA ta y5 ++ (VW dA h ad z6)) H := hP
  have hD : va_D A (TbW dA ta y5 ++ (VW dA h ad z6)) := hD
  obtain ⟨f_e_7, f_e2_8⟩ := hp9
  refine lv_goto hx hb d_A_meet_74 (tgt := 102) rfl ?_
  refine lv_aload_n hx hb d_A_meet_102 rfl (lv_at hl 2 rfl) ?_
  refine gF (v := .ref (ad 27)) hx hb hown hE hK hP 42 rfl rfl layA 3 (by decide) w801 rfl d_A_meet_103 ?_
  refine lv_iload_n hx hb d_A_meet_106 rfl (lv_at hl 5 rfl) ?_
  refine lv_iconst (v := 1) hx hb d_A_meet_107 (by decide) ?_
  refine nzstB (v := true) (n := 256) hx hb hK hP hD hS (44) 3 rfl rfl (o) (by omega) (by decide) d_A_meet_108 (fun H locs hP hD hS => ?_)
  have hP : va_P D vwCl (TbW dA ta y5 ++ (VW dA h ad (VS.s_ahb z6 (va_up z6.ahb o true)))) H := hP
  have hD : va_D A (TbW dA ta y5 ++ (VW dA h ad (VS.s_ahb z6 (va_up z6.ahb o true)))) := hD
  refine lv_aload_n hx hb d_A_meet_109 rfl (lv_at hl 2 rfl) ?_
  refine gF (v := .ref (ad 28)) hx hb hown hE hK hP 42 rfl rfl layA 4 (by decide) w802 rfl d_A_meet_110 ?_
  refine lv_iload_n hx hb d_A_meet_113 rfl (lv_at hl 5 rfl) ?_
  refine lv_lload hx hb d_A_meet_114 (lv_at hl 7 rfl) ?_
  refine nlst (n := 256) hx hb hK hP hD hS (45) 2 rfl rfl (o) (by omega) (by decide) d_A_meet_116 (fun H locs hP hD hS => ?_)
  have hP : va_P D vwCl (TbW dA ta y5 ++ (VW dA h ad (VS.s_abf (VS.s_ahb z6 (va_up z6.ahb o true)) (va_up z6.abf o v)))) H := hP
  have hD : va_D A (TbW dA ta y5 ++ (VW dA h ad (VS.s_abf (VS.s_ahb z6 (va_up z6.ahb o true)) (va_up z6.abf o v)))) := hD
  exact rfV hx hb hr hlk hS (⟨y5, VS.s_abf (VS.s_ahb z6 (va_up z6.ahb o true)) (va_up z6.abf o v)⟩) ⟨by rw [mtT_4 (by decide) (by decide), f_e_7]; rfl, by rw [meX_4 (by decide)]; exact congrArg (fun q => mbX q o v) f_e2_8⟩ hP hD (Nat.le_of_ble_eq_true rfl) (Nat.le_of_ble_eq_true rfl) d_A_meet_117
set_option maxHeartbeats 4000000 in
set_option maxRecDepth 100000 in
theorem v_meet_5 (l : Launch) (D : va_G) (dA : Nat → ClassId) (sz : Nat) (h : Nat) (ad : Nat → Nat) (ta : Nat → Nat) (t : TB) (x : VS) (o : Nat) (tm : Int64) (v : Int64) (r : Nat) (w : Nat) (hwi : x.awi ≤ 64) (hw : woA x.afr x.awd x.awi tm = nI w) (hw2 : w < x.awi) (hro : x.aro o = nI r) (hcN : t.cN ≤ 65536) (h1 : r * t.wi + w < t.cN) (h2 : r < 256) (h3 : o < 256) (h4 : r * x.awi + w < x.bN) (h5 : x.bN ≤ 65536) (h6 : x.bO (r * x.awi + w) < 256) : Met l ⟨"SeriesVault$Answers", "meet", "(ILSeriesVault$Table;IJJ)V"⟩ [Cond.code ⟨"SeriesVault$Answers", "meet", "(ILSeriesVault$Table;IJJ)V"⟩ prog_2_method_9_code 10 none] { frames := 4, cells := 0, slots := 0, locals := 300 } (pC D dA [.ref (ad 24), .int 5, .ref (ta 0), .int (nI o), .long tm, .long v] (TbW dA ta t ++ (VW dA h ad x)) sz) (va_Qv (fun (u9 : TB × VS) => u9.1 = mtT 5 t x r w o tm v ∧ u9.2 = meX 5 t x r w o tm v) (fun (u9 : TB × VS) t9 => bW D (va_A (TbW dA ta t ++ (VW dA h ad x)) sz) (TbW dA ta u9.1 ++ (VW dA h ad u9.2)) t9) (va_A (TbW dA ta t ++ (VW dA h ad x)) sz)) 0 0 (va_A (TbW dA ta t ++ (VW dA h ad x)) sz) := by
  refine mkC (y := ⟨"SeriesVault$Answers", "meet", "(ILSeriesVault$Table;IJJ)V"⟩) (cc := prog_2_method_9_code) (maxL := 10) (av := [.ref (ad 24), .int 5, .ref (ta 0), .int (nI o), .long tm, .long v]) (ws := TbW dA ta t ++ (VW dA h ad x)) (sz := sz) (Qc := fun A => va_Qv (fun (u9 : TB × VS) => u9.1 = mtT 5 t x r w o tm v ∧ u9.2 = meX 5 t x r w o tm v) (fun (u9 : TB × VS) t9 => bW D A (TbW dA ta u9.1 ++ (VW dA h ad u9.2)) t9) A) (by decide) (Nat.le_of_ble_eq_true rfl) ?_
  intro A p e s m below meth c ls hsz hB
  obtain ⟨hx, hb, hr, hml, hown, hin, hlk, hE, hK, hP, hD, hS, hA, hN, hl⟩ := hB
  have hown : s.vm.findClass "SeriesVault$Answers" = some m.cls := hown
  have hl : lv_has ls 10 [(0, .ref (ad 24)), (1, .int 5), (2, .ref (ta 0)), (3, .int (nI o)), (4, .long tm), (6, .long v)] := hl
  obtain ⟨H, hH⟩ : ∃ z, z = s.heap := ⟨_, rfl⟩
  have hP : va_P D vwCl (TbW dA ta t ++ (VW dA h ad x)) H := by rw [hH]; exact hP
  have hS : va_S A s.heap H [] := by rw [hH]; exact hS
  rw [← hH]
  refine lv_aload_n hx hb d_A_meet_0 rfl (lv_at hl 0 rfl) ?_
  refine lv_lload hx hb d_A_meet_1 (lv_at hl 4 rfl) ?_
  have hPc : va_P D vwCl (VW dA h ad x) H := spP (wr := TbW dA ta t) hP
  have hDc : va_D A (VW dA h ad x) := spD (wr := TbW dA ta t) hD
  refine jkI (wr := TbW dA ta t) (rnV (As := [.long tm]) (rest := []) hx hb hml hown hE hK (hN _ _ hS) hPc hDc (v_windowOf l D dA H.size h ad x tm (show x.awi ≤ 64 from by omega)) (q0 := 37) rfl rfl w1513 w1512 w1514 w1515 w846 rfl rfl ⟨⟨by decide, by decide⟩, rfl⟩ ⟨(Nat.le_of_ble_eq_true rfl), (Nat.le_of_ble_eq_true rfl)⟩ rfl hl.1 rfl (Nat.le_of_ble_eq_true rfl) d_A_meet_3 ⟨(Nat.le_of_ble_eq_true rfl), (Nat.le_of_ble_eq_true rfl)⟩) hP hD hS hA (fun r1 u2 H locs hp9 hP hD hS => ?_)
  have hP : va_P D vwCl (TbW dA ta t ++ (VW dA h ad x)) H := hP
  have hD : va_D A (TbW dA ta t ++ (VW dA h ad x)) := hD
  replace hp9 : woA x.afr x.awd x.awi tm = r1 := Eq.symm hp9
  subst hp9
  refine tpi (y := nI w) hw ?_
  refine lv_istore hx hb d_A_meet_6 hl (by decide) rfl (fun ls hl => ?_)
  have hl : lv_has ls 10 [(8, .int (nI w)), (0, .ref (ad 24)), (1, .int 5), (2, .ref (ta 0)), (3, .int (nI o)), (4, .long tm), (6, .long v)] := hl
  refine lv_aload_n hx hb d_A_meet_8 rfl (lv_at hl 1 rfl) ?_
  refine gF (v := .ref (ad 26)) hx hb hown hE hK hP 42 rfl rfl layA 2 (by decide) w800 rfl d_A_meet_9 ?_
  refine lv_iload_n hx hb d_A_meet_12 rfl (lv_at hl 4 rfl) ?_
  refine nild (f := x.aro) (n := 256) hx hb hK hP (43) 1 rfl rfl (o) (by omega) (by decide) d_A_meet_13 ?_
  refine tpi (y := (nI r)) hro ?_
  refine lv_istore hx hb d_A_meet_14 hl (by decide) rfl (fun ls hl => ?_)
  have hl : lv_has ls 10 [(9, .int (nI r)), (8, .int (nI w)), (0, .ref (ad 24)), (1, .int 5), (2, .ref (ta 0)), (3, .int (nI o)), (4, .long tm), (6, .long v)] := hl
  refine lv_iload hx hb d_A_meet_16 (lv_at hl 1 rfl) ?_
  refine lv_iconst (v := (-1)) hx hb d_A_meet_18 (by decide) ?_
  refine lv_icmp_eq hx hb d_A_meet_19 (tgt := 43) rfl (fun h9 => absurd h9 (nI_nm (by omega))) (fun _ => ?_)
  refine lv_iload_n hx hb d_A_meet_22 rfl (lv_at hl 3 rfl) ?_
  refine lv_bipush (v := 6) hx hb d_A_meet_23 (by decide) ?_
  refine lv_icmp_ne hx hb d_A_meet_25 (tgt := 43) rfl (fun _ => ?_) (fun h9 => absurd h9 (by decide))
  refine lv_iload hx hb d_A_meet_43 (lv_at hl 1 rfl) ?_
  refine lv_iconst (v := (-1)) hx hb d_A_meet_45 (by decide) ?_
  refine lv_icmp_eq hx hb d_A_meet_46 (tgt := 77) rfl (fun h9 => absurd h9 (nI_nm (by omega))) (fun _ => ?_)
  refine lv_iload_n hx hb d_A_meet_49 rfl (lv_at hl 3 rfl) ?_
  refine lv_iconst (v := 4) hx hb d_A_meet_50 (by decide) ?_
  refine lv_icmp_eq hx hb d_A_meet_51 (tgt := 59) rfl (fun h9 => absurd h9 (by decide)) (fun _ => ?_)
  refine lv_iload_n hx hb d_A_meet_54 rfl (lv_at hl 3 rfl) ?_
  refine lv_iconst (v := 5) hx hb d_A_meet_55 (by decide) ?_
  refine lv_icmp_ne hx hb d_A_meet_56 (tgt := 77) rfl (fun h9 => absurd (by decide) h9) (fun _ => ?_)
  refine lv_aload_n hx hb d_A_meet_59 rfl (lv_at hl 2 rfl) ?_
  refine lv_iload_n hx hb d_A_meet_60 rfl (lv_at hl 3 rfl) ?_
  refine lv_aload_n hx hb d_A_meet_61 rfl (lv_at hl 4 rfl) ?_
  refine lv_iload hx hb d_A_meet_62 (lv_at hl 0 rfl) ?_
  refine lv_iload hx hb d_A_meet_64 (lv_at hl 1 rfl) ?_
  refine lv_iload_n hx hb d_A_meet_66 rfl (lv_at hl 5 rfl) ?_
  refine lv_lload hx hb d_A_meet_67 (lv_at hl 6 rfl) ?_
  refine lv_lload hx hb d_A_meet_69 (lv_at hl 7 rfl) ?_
  refine jkV (wr := []) (rnV (As := [.int 5, .ref (ta 0), .int (nI r), .int (nI w), .int (nI o), .long tm, .long v]) (rest := []) hx hb hml hown hE hK (hN _ _ hS) hP hD (v_choose_5 l D dA H.size h ad ta t x r w o tm v (show t.cN ≤ 65536 from by omega) (show r * t.wi + w < t.cN from by omega) (show r < 256 from by omega) (show o < 256 from by omega) (show r * x.awi + w < x.bN from by omega) (show x.bN ≤ 65536 from by omega) (show x.bO (r * x.awi + w) < 256 from by omega)) (q0 := 42) rfl rfl w1520 w1519 w1521 w1522 w846 rfl rfl ⟨⟨by decide, by decide⟩, rfl⟩ ⟨(Nat.le_of_ble_eq_true rfl), (Nat.le_of_ble_eq_true rfl)⟩ rfl hl.1 rfl (Nat.le_of_ble_eq_true rfl) d_A_meet_71 ⟨(Nat.le_of_ble_eq_true rfl), (Nat.le_of_ble_eq_true rfl)⟩) hP hD hS hA (fun u4 H locs hp9 hP hD hS => ?_)
  obtain ⟨y5, z6⟩ := u4
  have hP : va_P D vwCl (TbW dA ta y5 ++ (VW dA h ad z6)) H := hP
  have hD : va_D A (TbW dA ta y5 ++ (VW dA h ad z6)) := hD
  obtain ⟨f_e_7, f_e2_8⟩ := hp9
  refine lv_goto hx hb d_A_meet_74 (tgt := 102) rfl ?_
  refine lv_aload_n hx hb d_A_meet_102 rfl (lv_at hl 2 rfl) ?_
  refine gF (v := .ref (ad 27)) hx hb hown hE hK hP 42 rfl rfl layA 3 (by decide) w801 rfl d_A_meet_103 ?_
  refine lv_iload_n hx hb d_A_meet_106 rfl (lv_at hl 5 rfl) ?_
  refine lv_iconst (v := 1) hx hb d_A_meet_107 (by decide) ?_
  refine nzstB (v := true) (n := 256) hx hb hK hP hD hS (44) 3 rfl rfl (o) (by omega) (by decide) d_A_meet_108 (fun H locs hP hD hS => ?_)
  have hP : va_P D vwCl (TbW dA ta y5 ++ (VW dA h ad (VS.s_ahb z6 (va_up z6.ahb o true)))) H := hP
  have hD : va_D A (TbW dA ta y5 ++ (VW dA h ad (VS.s_ahb z6 (va_up z6.ahb o true)))) := hD
  refine lv_aload_n hx hb d_A_meet_109 rfl (lv_at hl 2 rfl) ?_
  refine gF (v := .ref (ad 28)) hx hb hown hE hK hP 42 rfl rfl layA 4 (by decide) w802 rfl d_A_meet_110 ?_
  refine lv_iload_n hx hb d_A_meet_113 rfl (lv_at hl 5 rfl) ?_
  refine lv_lload hx hb d_A_meet_114 (lv_at hl 7 rfl) ?_
  refine nlst (n := 256) hx hb hK hP hD hS (45) 2 rfl rfl (o) (by omega) (by decide) d_A_meet_116 (fun H locs hP hD hS => ?_)
  have hP : va_P D vwCl (TbW dA ta y5 ++ (VW dA h ad (VS.s_abf (VS.s_ahb z6 (va_up z6.ahb o true)) (va_up z6.abf o v)))) H := hP
  have hD : va_D A (TbW dA ta y5 ++ (VW dA h ad (VS.s_abf (VS.s_ahb z6 (va_up z6.ahb o true)) (va_up z6.abf o v)))) := hD
  exact rfV hx hb hr hlk hS (⟨y5, VS.s_abf (VS.s_ahb z6 (va_up z6.ahb o true)) (va_up z6.abf o v)⟩) ⟨by rw [mtT_4 (by decide) (by decide), f_e_7]; rfl, by rw [meX_4 (by decide)]; exact congrArg (fun q => mbX q o v) f_e2_8⟩ hP hD (Nat.le_of_ble_eq_true rfl) (Nat.le_of_ble_eq_true rfl) d_A_meet_117
theorem d_A_meet_28 : decode prog_2_method_9_code 28 = .ok (.aload_n 0, 1) := by decide +kernel
theorem d_A_meet_29 : decode prog_2_method_9_code 29 = .ok (.aload_n 2, 1) := by decide +kernel
theorem d_A_meet_30 : decode prog_2_method_9_code 30 = .ok (.iload 9, 2) := by decide +kernel
theorem d_A_meet_32 : decode prog_2_method_9_code 32 = .ok (.iload 8, 2) := by decide +kernel
theorem d_A_meet_34 : decode prog_2_method_9_code 34 = .ok (.iload_n 3, 1) := by decide +kernel
theorem d_A_meet_35 : decode prog_2_method_9_code 35 = .ok (.lload 6, 2) := by decide +kernel
theorem d_A_meet_37 : decode prog_2_method_9_code 37 = .ok (.invokevirtual 200, 3) := by decide +kernel
theorem d_A_meet_40 : decode prog_2_method_9_code 40 = .ok (.goto 62, 3) := by decide +kernel
theorem w1523 : Cond.methodLink "SeriesVault$Answers" 200 ⟨"SeriesVault$Answers", "grow", "(LSeriesVault$Table;IIIJ)V"⟩ ∈ aW := aw_of (tb_8 (List.mem_of_getElem? (i := 6) rfl)) rfl
theorem w1524 : Cond.code ⟨"SeriesVault$Answers", "grow", "(LSeriesVault$Table;IIIJ)V"⟩ prog_2_method_11_code 9 none ∈ aW := aw_of (tb_8 (List.mem_of_getElem? (i := 9) rfl)) rfl
theorem w1525 : Cond.instanceMethod ⟨"SeriesVault$Answers", "grow", "(LSeriesVault$Table;IIIJ)V"⟩ ∈ aW := aw_of (tb_8 (List.mem_of_getElem? (i := 8) rfl)) rfl
theorem w1526 : Cond.selects "SeriesVault$Answers" ⟨"SeriesVault$Answers", "grow", "(LSeriesVault$Table;IIIJ)V"⟩ ⟨"SeriesVault$Answers", "grow", "(LSeriesVault$Table;IIIJ)V"⟩ ∈ aW := aw_pr (List.mem_map.mpr ⟨_, pv_4 (List.mem_of_getElem? (i := 11) rfl), rfl⟩) rfl
set_option maxHeartbeats 4000000 in
set_option maxRecDepth 100000 in
theorem v_meet_6 (l : Launch) (D : va_G) (dA : Nat → ClassId) (sz : Nat) (h : Nat) (ad : Nat → Nat) (ta : Nat → Nat) (t : TB) (x : VS) (o : Nat) (tm : Int64) (v : Int64) (r : Nat) (w : Nat) (hwi : x.awi ≤ 64) (hw : woA x.afr x.awd x.awi tm = nI w) (hw2 : w < x.awi) (hro : x.aro o = nI r) (hcN : t.cN ≤ 65536) (h1 : r * t.wi + w < t.cN) (h2 : r < 256) (h3 : o < 256) (h4 : r * x.awi + w < x.bN) (h5 : x.bN ≤ 65536) (h6 : x.bO (r * x.awi + w) < 256) : Met l ⟨"SeriesVault$Answers", "meet", "(ILSeriesVault$Table;IJJ)V"⟩ [Cond.code ⟨"SeriesVault$Answers", "meet", "(ILSeriesVault$Table;IJJ)V"⟩ prog_2_method_9_code 10 none] { frames := 4, cells := 0, slots := 0, locals := 300 } (pC D dA [.ref (ad 24), .int 6, .ref (ta 0), .int (nI o), .long tm, .long v] (TbW dA ta t ++ (VW dA h ad x)) sz) (va_Qv (fun (u9 : TB × VS) => u9.1 = mtT 6 t x r w o tm v ∧ u9.2 = meX 6 t x r w o tm v) (fun (u9 : TB × VS) t9 => bW D (va_A (TbW dA ta t ++ (VW dA h ad x)) sz) (TbW dA ta u9.1 ++ (VW dA h ad u9.2)) t9) (va_A (TbW dA ta t ++ (VW dA h ad x)) sz)) 0 0 (va_A (TbW dA ta t ++ (VW dA h ad x)) sz) := by
  refine mkC (y := ⟨"SeriesVault$Answers", "meet", "(ILSeriesVault$Table;IJJ)V"⟩) (cc := prog_2_method_9_code) (maxL := 10) (av := [.ref (ad 24), .int 6, .ref (ta 0), .int (nI o), .long tm, .long v]) (ws := TbW dA ta t ++ (VW dA h ad x)) (sz := sz) (Qc := fun A => va_Qv (fun (u9 : TB × VS) => u9.1 = mtT 6 t x r w o tm v ∧ u9.2 = meX 6 t x r w o tm v) (fun (u9 : TB × VS) t9 => bW D A (TbW dA ta u9.1 ++ (VW dA h ad u9.2)) t9) A) (by decide) (Nat.le_of_ble_eq_true rfl) ?_
  intro A p e s m below meth c ls hsz hB
  obtain ⟨hx, hb, hr, hml, hown, hin, hlk, hE, hK, hP, hD, hS, hA, hN, hl⟩ := hB
  have hown : s.vm.findClass "SeriesVault$Answers" = some m.cls := hown
  have hl : lv_has ls 10 [(0, .ref (ad 24)), (1, .int 6), (2, .ref (ta 0)), (3, .int (nI o)), (4, .long tm), (6, .long v)] := hl
  obtain ⟨H, hH⟩ : ∃ z, z = s.heap := ⟨_, rfl⟩
  have hP : va_P D vwCl (TbW dA ta t ++ (VW dA h ad x)) H := by rw [hH]; exact hP
  have hS : va_S A s.heap H [] := by rw [hH]; exact hS
  rw [← hH]
  refine lv_aload_n hx hb d_A_meet_0 rfl (lv_at hl 0 rfl) ?_
  refine lv_lload hx hb d_A_meet_1 (lv_at hl 4 rfl) ?_
  have hPc : va_P D vwCl (VW dA h ad x) H := spP (wr := TbW dA ta t) hP
  have hDc : va_D A (VW dA h ad x) := spD (wr := TbW dA ta t) hD
  refine jkI (wr := TbW dA ta t) (rnV (As := [.long tm]) (rest := []) hx hb hml hown hE hK (hN _ _ hS) hPc hDc (v_windowOf l D dA H.size h ad x tm (show x.awi ≤ 64 from by omega)) (q0 := 37) rfl rfl w1513 w1512 w1514 w1515 w846 rfl rfl ⟨⟨by decide, by decide⟩, rfl⟩ ⟨(Nat.le_of_ble_eq_true rfl), (Nat.le_of_ble_eq_true rfl)⟩ rfl hl.1 rfl (Nat.le_of_ble_eq_true rfl) d_A_meet_3 ⟨(Nat.le_of_ble_eq_true rfl), (Nat.le_of_ble_eq_true rfl)⟩) hP hD hS hA (fun r1 u2 H locs hp9 hP hD hS => ?_)
  have hP : va_P D vwCl (TbW dA ta t ++ (VW dA h ad x)) H := hP
  have hD : va_D A (TbW dA ta t ++ (VW dA h ad x)) := hD
  replace hp9 : woA x.afr x.awd x.awi tm = r1 := Eq.symm hp9
  subst hp9
  refine tpi (y := nI w) hw ?_
  refine lv_istore hx hb d_A_meet_6 hl (by decide) rfl (fun ls hl => ?_)
  have hl : lv_has ls 10 [(8, .int (nI w)), (0, .ref (ad 24)), (1, .int 6), (2, .ref (ta 0)), (3, .int (nI o)), (4, .long tm), (6, .long v)] := hl
  refine lv_aload_n hx hb d_A_meet_8 rfl (lv_at hl 1 rfl) ?_
  refine gF (v := .ref (ad 26)) hx hb hown hE hK hP 42 rfl rfl layA 2 (by decide) w800 rfl d_A_meet_9 ?_
  refine lv_iload_n hx hb d_A_meet_12 rfl (lv_at hl 4 rfl) ?_
  refine nild (f := x.aro) (n := 256) hx hb hK hP (43) 1 rfl rfl (o) (by omega) (by decide) d_A_meet_13 ?_
  refine tpi (y := (nI r)) hro ?_
  refine lv_istore hx hb d_A_meet_14 hl (by decide) rfl (fun ls hl => ?_)
  have hl : lv_has ls 10 [(9, .int (nI r)), (8, .int (nI w)), (0, .ref (ad 24)), (1, .int 6), (2, .ref (ta 0)), (3, .int (nI o)), (4, .long tm), (6, .long v)] := hl
  refine lv_iload hx hb d_A_meet_16 (lv_at hl 1 rfl) ?_
  refine lv_iconst (v := (-1)) hx hb d_A_meet_18 (by decide) ?_
  refine lv_icmp_eq hx hb d_A_meet_19 (tgt := 43) rfl (fun h9 => absurd h9 (nI_nm (by omega))) (fun _ => ?_)
  refine lv_iload_n hx hb d_A_meet_22 rfl (lv_at hl 3 rfl) ?_
  refine lv_bipush (v := 6) hx hb d_A_meet_23 (by decide) ?_
  refine lv_icmp_ne hx hb d_A_meet_25 (tgt := 43) rfl (fun h9 => absurd (by decide) h9) (fun _ => ?_)
  refine lv_aload_n hx hb d_A_meet_28 rfl (lv_at hl 2 rfl) ?_
  refine lv_aload_n hx hb d_A_meet_29 rfl (lv_at hl 4 rfl) ?_
  refine lv_iload hx hb d_A_meet_30 (lv_at hl 0 rfl) ?_
  refine lv_iload hx hb d_A_meet_32 (lv_at hl 1 rfl) ?_
  refine lv_iload_n hx hb d_A_meet_34 rfl (lv_at hl 5 rfl) ?_
  refine lv_lload hx hb d_A_meet_35 (lv_at hl 7 rfl) ?_
  refine jkV (wr := []) (rnV (As := [.ref (ta 0), .int (nI r), .int (nI w), .int (nI o), .long v]) (rest := []) hx hb hml hown hE hK (hN _ _ hS) hP hD (v_growth l D dA H.size h ad ta t x r w o v (show t.cN ≤ 65536 from by omega) (show r * t.wi + w < t.cN from by omega) (show r < 256 from by omega) (show o < 256 from by omega)) (q0 := 42) rfl rfl w1524 w1523 w1525 w1526 w846 rfl rfl ⟨⟨by decide, by decide⟩, rfl⟩ ⟨(Nat.le_of_ble_eq_true rfl), (Nat.le_of_ble_eq_true rfl)⟩ rfl hl.1 rfl (Nat.le_of_ble_eq_true rfl) d_A_meet_37 ⟨(Nat.le_of_ble_eq_true rfl), (Nat.le_of_ble_eq_true rfl)⟩) hP hD hS hA (fun u4 H locs hp9 hP hD hS => ?_)
  obtain ⟨y5, h9u⟩ : ∃ z9, z9 = u4 := ⟨_, rfl⟩
  subst h9u
  have hP : va_P D vwCl (TbW dA ta y5 ++ (VW dA h ad x)) H := hP
  have hD : va_D A (TbW dA ta y5 ++ (VW dA h ad x)) := hD
  have f_e_6 := hp9
  refine lv_goto hx hb d_A_meet_40 (tgt := 102) rfl ?_
  refine lv_aload_n hx hb d_A_meet_102 rfl (lv_at hl 2 rfl) ?_
  refine gF (v := .ref (ad 27)) hx hb hown hE hK hP 42 rfl rfl layA 3 (by decide) w801 rfl d_A_meet_103 ?_
  refine lv_iload_n hx hb d_A_meet_106 rfl (lv_at hl 5 rfl) ?_
  refine lv_iconst (v := 1) hx hb d_A_meet_107 (by decide) ?_
  refine nzstB (v := true) (n := 256) hx hb hK hP hD hS (44) 3 rfl rfl (o) (by omega) (by decide) d_A_meet_108 (fun H locs hP hD hS => ?_)
  have hP : va_P D vwCl (TbW dA ta y5 ++ (VW dA h ad (VS.s_ahb x (va_up x.ahb o true)))) H := hP
  have hD : va_D A (TbW dA ta y5 ++ (VW dA h ad (VS.s_ahb x (va_up x.ahb o true)))) := hD
  refine lv_aload_n hx hb d_A_meet_109 rfl (lv_at hl 2 rfl) ?_
  refine gF (v := .ref (ad 28)) hx hb hown hE hK hP 42 rfl rfl layA 4 (by decide) w802 rfl d_A_meet_110 ?_
  refine lv_iload_n hx hb d_A_meet_113 rfl (lv_at hl 5 rfl) ?_
  refine lv_lload hx hb d_A_meet_114 (lv_at hl 7 rfl) ?_
  refine nlst (n := 256) hx hb hK hP hD hS (45) 2 rfl rfl (o) (by omega) (by decide) d_A_meet_116 (fun H locs hP hD hS => ?_)
  have hP : va_P D vwCl (TbW dA ta y5 ++ (VW dA h ad (VS.s_abf (VS.s_ahb x (va_up x.ahb o true)) (va_up x.abf o v)))) H := hP
  have hD : va_D A (TbW dA ta y5 ++ (VW dA h ad (VS.s_abf (VS.s_ahb x (va_up x.ahb o true)) (va_up x.abf o v)))) := hD
  exact rfV hx hb hr hlk hS (⟨y5, VS.s_abf (VS.s_ahb x (va_up x.ahb o true)) (va_up x.abf o v)⟩) ⟨by rw [mtT_6 rfl, f_e_6], (meX_0 (by decide)).symm⟩ hP hD (Nat.le_of_ble_eq_true rfl) (Nat.le_of_ble_eq_true rfl) d_A_meet_117
set_option maxHeartbeats 4000000 in
set_option maxRecDepth 100000 in
theorem v_meet_n (l : Launch) (D : va_G) (dA : Nat → ClassId) (sz : Nat) (h : Nat) (ad : Nat → Nat) (ta : Nat → Nat) (t : TB) (x : VS) (fn : Int32) (o : Nat) (tm : Int64) (v : Int64) (hwi : x.awi ≤ 64) (hw : woA x.afr x.awd x.awi tm = (-1)) (h3 : o < 256) : Met l ⟨"SeriesVault$Answers", "meet", "(ILSeriesVault$Table;IJJ)V"⟩ [Cond.code ⟨"SeriesVault$Answers", "meet", "(ILSeriesVault$Table;IJJ)V"⟩ prog_2_method_9_code 10 none] { frames := 2, cells := 0, slots := 0, locals := 24 } (pC D dA [.ref (ad 24), .int fn, .ref (ta 0), .int (nI o), .long tm, .long v] (TbW dA ta t ++ (VW dA h ad x)) sz) (va_Qv (fun (u9 : Unit) => True) (fun (u9 : Unit) t9 => bW D (va_A (TbW dA ta t ++ (VW dA h ad x)) sz) (TbW dA ta t ++ (VW dA h ad (VS.s_abf (VS.s_ahb x (va_up x.ahb o true)) (va_up x.abf o v)))) t9) (va_A (TbW dA ta t ++ (VW dA h ad x)) sz)) 0 0 (va_A (TbW dA ta t ++ (VW dA h ad x)) sz) := by
  refine mkC (y := ⟨"SeriesVault$Answers", "meet", "(ILSeriesVault$Table;IJJ)V"⟩) (cc := prog_2_method_9_code) (maxL := 10) (av := [.ref (ad 24), .int fn, .ref (ta 0), .int (nI o), .long tm, .long v]) (ws := TbW dA ta t ++ (VW dA h ad x)) (sz := sz) (Qc := fun A => va_Qv (fun (u9 : Unit) => True) (fun (u9 : Unit) t9 => bW D A (TbW dA ta t ++ (VW dA h ad (VS.s_abf (VS.s_ahb x (va_up x.ahb o true)) (va_up x.abf o v)))) t9) A) (by decide) (Nat.le_of_ble_eq_true rfl) ?_
  intro A p e s m below meth c ls hsz hB
  obtain ⟨hx, hb, hr, hml, hown, hin, hlk, hE, hK, hP, hD, hS, hA, hN, hl⟩ := hB
  have hown : s.vm.findClass "SeriesVault$Answers" = some m.cls := hown
  have hl : lv_has ls 10 [(0, .ref (ad 24)), (1, .int fn), (2, .ref (ta 0)), (3, .int (nI o)), (4, .long tm), (6, .long v)] := hl
  obtain ⟨H, hH⟩ : ∃ z, z = s.heap := ⟨_, rfl⟩
  have hP : va_P D vwCl (TbW dA ta t ++ (VW dA h ad x)) H := by rw [hH]; exact hP
  have hS : va_S A s.heap H [] := by rw [hH]; exact hS
  rw [← hH]
  refine lv_aload_n hx hb d_A_meet_0 rfl (lv_at hl 0 rfl) ?_
  refine lv_lload hx hb d_A_meet_1 (lv_at hl 4 rfl) ?_
  have hPc : va_P D vwCl (VW dA h ad x) H := spP (wr := TbW dA ta t) hP
  have hDc : va_D A (VW dA h ad x) := spD (wr := TbW dA ta t) hD
  refine jkI (wr := TbW dA ta t) (rnV (As := [.long tm]) (rest := []) hx hb hml hown hE hK (hN _ _ hS) hPc hDc (v_windowOf l D dA H.size h ad x tm (show x.awi ≤ 64 from by omega)) (q0 := 37) rfl rfl w1513 w1512 w1514 w1515 w846 rfl rfl ⟨⟨by decide, by decide⟩, rfl⟩ ⟨(Nat.le_of_ble_eq_true rfl), (Nat.le_of_ble_eq_true rfl)⟩ rfl hl.1 rfl (Nat.le_of_ble_eq_true rfl) d_A_meet_3 ⟨(Nat.le_of_ble_eq_true rfl), (Nat.le_of_ble_eq_true rfl)⟩) hP hD hS hA (fun r1 u2 H locs hp9 hP hD hS => ?_)
  have hP : va_P D vwCl (TbW dA ta t ++ (VW dA h ad x)) H := hP
  have hD : va_D A (TbW dA ta t ++ (VW dA h ad x)) := hD
  replace hp9 : woA x.afr x.awd x.awi tm = r1 := Eq.symm hp9
  subst hp9
  refine tpi (y := (-1)) hw ?_
  refine lv_istore hx hb d_A_meet_6 hl (by decide) rfl (fun ls hl => ?_)
  have hl : lv_has ls 10 [(8, .int (-1)), (0, .ref (ad 24)), (1, .int fn), (2, .ref (ta 0)), (3, .int (nI o)), (4, .long tm), (6, .long v)] := hl
  refine lv_aload_n hx hb d_A_meet_8 rfl (lv_at hl 1 rfl) ?_
  refine gF (v := .ref (ad 26)) hx hb hown hE hK hP 42 rfl rfl layA 2 (by decide) w800 rfl d_A_meet_9 ?_
  refine lv_iload_n hx hb d_A_meet_12 rfl (lv_at hl 4 rfl) ?_
  refine nild (f := x.aro) (n := 256) hx hb hK hP (43) 1 rfl rfl (o) (by omega) (by decide) d_A_meet_13 ?_
  refine lv_istore hx hb d_A_meet_14 hl (by decide) rfl (fun ls hl => ?_)
  have hl : lv_has ls 10 [(9, .int (x.aro o)), (8, .int (-1)), (0, .ref (ad 24)), (1, .int fn), (2, .ref (ta 0)), (3, .int (nI o)), (4, .long tm), (6, .long v)] := hl
  refine lv_iload hx hb d_A_meet_16 (lv_at hl 1 rfl) ?_
  refine lv_iconst (v := (-1)) hx hb d_A_meet_18 (by decide) ?_
  refine lv_icmp_eq hx hb d_A_meet_19 (tgt := 43) rfl (fun _ => ?_) (fun h9 => absurd rfl h9)
  refine lv_iload hx hb d_A_meet_43 (lv_at hl 1 rfl) ?_
  refine lv_iconst (v := (-1)) hx hb d_A_meet_45 (by decide) ?_
  refine lv_icmp_eq hx hb d_A_meet_46 (tgt := 77) rfl (fun _ => ?_) (fun h9 => absurd rfl h9)
  refine lv_iload hx hb d_A_meet_77 (lv_at hl 1 rfl) ?_
  refine lv_iconst (v := (-1)) hx hb d_A_meet_79 (by decide) ?_
  refine lv_icmp_eq hx hb d_A_meet_80 (tgt := 102) rfl (fun _ => ?_) (fun h9 => absurd rfl h9)
  refine lv_aload_n hx hb d_A_meet_102 rfl (lv_at hl 2 rfl) ?_
  refine gF (v := .ref (ad 27)) hx hb hown hE hK hP 42 rfl rfl layA 3 (by decide) w801 rfl d_A_meet_103 ?_
  refine lv_iload_n hx hb d_A_meet_106 rfl (lv_at hl 5 rfl) ?_
  refine lv_iconst (v := 1) hx hb d_A_meet_107 (by decide) ?_
  refine nzstB (v := true) (n := 256) hx hb hK hP hD hS (44) 3 rfl rfl (o) (by omega) (by decide) d_A_meet_108 (fun H locs hP hD hS => ?_)
  have hP : va_P D vwCl (TbW dA ta t ++ (VW dA h ad (VS.s_ahb x (va_up x.ahb o true)))) H := hP
  have hD : va_D A (TbW dA ta t ++ (VW dA h ad (VS.s_ahb x (va_up x.ahb o true)))) := hD
  refine lv_aload_n hx hb d_A_meet_109 rfl (lv_at hl 2 rfl) ?_
  refine gF (v := .ref (ad 28)) hx hb hown hE hK hP 42 rfl rfl layA 4 (by decide) w802 rfl d_A_meet_110 ?_
  refine lv_iload_n hx hb d_A_meet_113 rfl (lv_at hl 5 rfl) ?_
  refine lv_lload hx hb d_A_meet_114 (lv_at hl 7 rfl) ?_
  refine nlst (n := 256) hx hb hK hP hD hS (45) 2 rfl rfl (o) (by omega) (by decide) d_A_meet_116 (fun H locs hP hD hS => ?_)
  have hP : va_P D vwCl (TbW dA ta t ++ (VW dA h ad (VS.s_abf (VS.s_ahb x (va_up x.ahb o true)) (va_up x.abf o v)))) H := hP
  have hD : va_D A (TbW dA ta t ++ (VW dA h ad (VS.s_abf (VS.s_ahb x (va_up x.ahb o true)) (va_up x.abf o v)))) := hD
  exact rfV hx hb hr hlk hS () trivial hP hD (Nat.le_of_ble_eq_true rfl) (Nat.le_of_ble_eq_true rfl) d_A_meet_117
theorem v_meet (l : Launch) (D : va_G) (dA : Nat → ClassId) (sz : Nat) (h : Nat) (ad : Nat → Nat) (ta : Nat → Nat) (t : TB) (x : VS) (fn : Int32) (o : Nat) (tm : Int64) (v : Int64) (r : Nat) (w : Nat) (hwi : x.awi ≤ 64) (hw : woA x.afr x.awd x.awi tm = nI w) (hw2 : w < x.awi) (hro : x.aro o = nI r) (hcN : t.cN ≤ 65536) (h1 : r * t.wi + w < t.cN) (h2 : r < 256) (h3 : o < 256) (h4 : r * x.awi + w < x.bN) (h5 : x.bN ≤ 65536) (h6 : x.bO (r * x.awi + w) < 256) (hfn : isFn fn) : Met l ⟨"SeriesVault$Answers", "meet", "(ILSeriesVault$Table;IJJ)V"⟩ [Cond.code ⟨"SeriesVault$Answers", "meet", "(ILSeriesVault$Table;IJJ)V"⟩ prog_2_method_9_code 10 none] { frames := 4, cells := 0, slots := 0, locals := 300 } (pC D dA [.ref (ad 24), .int fn, .ref (ta 0), .int (nI o), .long tm, .long v] (TbW dA ta t ++ (VW dA h ad x)) sz) (va_Qv (fun (u9 : TB × VS) => u9.1 = mtT fn t x r w o tm v ∧ u9.2 = meX fn t x r w o tm v) (fun (u9 : TB × VS) t9 => bW D (va_A (TbW dA ta t ++ (VW dA h ad x)) sz) (TbW dA ta u9.1 ++ (VW dA h ad u9.2)) t9) (va_A (TbW dA ta t ++ (VW dA h ad x)) sz)) 0 0 (va_A (TbW dA ta t ++ (VW dA h ad x)) sz) := by
  rcases hfn with h | h | h | h | h | h | h <;> subst h
  · exact v_meet_0 l D dA sz _ ad ta t x o tm v r w hwi hw hw2 hro hcN h1 h2 h3 h4 h5 h6
  · exact v_meet_1 l D dA sz _ ad ta t x o tm v r w hwi hw hw2 hro hcN h1 h2 h3 h4 h5 h6
  · exact v_meet_2 l D dA sz _ ad ta t x o tm v r w hwi hw hw2 hro hcN h1 h2 h3 h4 h5 h6
  · exact v_meet_3 l D dA sz _ ad ta t x o tm v r w hwi hw hw2 hro hcN h1 h2 h3 h4 h5 h6
  · exact v_meet_4 l D dA sz _ ad ta t x o tm v r w hwi hw hw2 hro hcN h1 h2 h3 h4 h5 h6
  · exact v_meet_5 l D dA sz _ ad ta t x o tm v r w hwi hw hw2 hro hcN h1 h2 h3 h4 h5 h6
  · exact v_meet_6 l D dA sz _ ad ta t x o tm v r w hwi hw hw2 hro hcN h1 h2 h3 h4 h5 h6
end
section
/-! Steps made. -/
def nsmB (NL : Nat → List Int32) (M : List Int32) (i : Nat) : Bool := !sameW (NL i) M
def mtB (NL : Nat → List Int32) (nn : Nat) (M : List Int32) : Bool := allB nn (nsmB NL M) && decide (nn < 6)
theorem d_A_makeBestRoom_9 : decode prog_2_method_7_code 9 = .ok (.iload_n 1, 1) := by decide +kernel
theorem d_A_makeBestRoom_10 : decode prog_2_method_7_code 10 = .ok (.iconst 2, 1) := by decide +kernel
theorem d_A_makeBestRoom_11 : decode prog_2_method_7_code 11 = .ok (.aload_n 0, 1) := by decide +kernel
theorem d_A_makeBestRoom_12 : decode prog_2_method_7_code 12 = .ok (.getfield 30, 3) := by decide +kernel
theorem d_A_makeBestRoom_15 : decode prog_2_method_7_code 15 = .ok (.arraylength, 1) := by decide +kernel
theorem d_A_makeBestRoom_16 : decode prog_2_method_7_code 16 = .ok (.imul, 1) := by decide +kernel
theorem d_A_makeBestRoom_17 : decode prog_2_method_7_code 17 = .ok (.invokestatic 156, 3) := by decide +kernel
theorem d_A_makeBestRoom_20 : decode prog_2_method_7_code 20 = .ok (.istore_n 2, 1) := by decide +kernel
theorem d_A_makeBestRoom_21 : decode prog_2_method_7_code 21 = .ok (.aload_n 0, 1) := by decide +kernel
theorem d_A_makeBestRoom_22 : decode prog_2_method_7_code 22 = .ok (.iload_n 2, 1) := by decide +kernel
theorem d_A_makeBestRoom_23 : decode prog_2_method_7_code 23 = .ok (.newarray .long, 2) := by decide +kernel
theorem d_A_makeBestRoom_25 : decode prog_2_method_7_code 25 = .ok (.putfield 30, 3) := by decide +kernel
theorem d_A_makeBestRoom_28 : decode prog_2_method_7_code 28 = .ok (.aload_n 0, 1) := by decide +kernel
theorem d_A_makeBestRoom_29 : decode prog_2_method_7_code 29 = .ok (.iload_n 2, 1) := by decide +kernel
theorem d_A_makeBestRoom_30 : decode prog_2_method_7_code 30 = .ok (.newarray .int, 2) := by decide +kernel
theorem d_A_makeBestRoom_32 : decode prog_2_method_7_code 32 = .ok (.putfield 33, 3) := by decide +kernel
theorem w1527 : Cond.methodLink "SeriesVault$Answers" 156 ⟨"java/lang/Math", "max", "(II)I"⟩ ∈ aW := aw_of (tb_7 (List.mem_of_getElem? (i := 232) rfl)) rfl
set_option maxHeartbeats 4000000 in
set_option maxRecDepth 100000 in
theorem v_makeBestRoom_1 (l : Launch) (D : va_G) (dA : Nat → ClassId) (sz : Nat) (h : Nat) (ad : Nat → Nat) (x : VS) (n : Nat) (h1 : x.bN < n) (h2 : n ≤ 16384) : Met l ⟨"SeriesVault$Answers", "makeBestRoom", "(I)V"⟩ [Cond.code ⟨"SeriesVault$Answers", "makeBestRoom", "(I)V"⟩ prog_2_method_7_code 3 none] { frames := 1, cells := 2, slots := 2 * max n (2 * x.bN), locals := 13 } (pC D dA [.ref (ad 24), .int (nI n)] (VW dA h ad x) sz) (va_Qv (fun (u9 : Nat × Nat) => True) (fun (u9 : Nat × Nat) t9 => bW D (va_A (VW dA h ad x) sz) (VW dA h ad (VS.s_bO (VS.s_bT (VS.s_bN (VS.s_bA x (va_up (va_up x.bA 0 u9.1) 1 u9.2)) (max n (2 * x.bN))) (fun _ => 0)) (fun _ => 0))) t9) (va_A (VW dA h ad x) sz)) 2 (2 * max n (2 * x.bN)) (va_A (VW dA h ad x) sz) := by
  refine mkC (y := ⟨"SeriesVault$Answers", "makeBestRoom", "(I)V"⟩) (cc := prog_2_method_7_code) (maxL := 3) (av := [.ref (ad 24), .int (nI n)]) (ws := VW dA h ad x) (sz := sz) (Qc := fun A => va_Qv (fun (u9 : Nat × Nat) => True) (fun (u9 : Nat × Nat) t9 => bW D A (VW dA h ad (VS.s_bO (VS.s_bT (VS.s_bN (VS.s_bA x (va_up (va_up x.bA 0 u9.1) 1 u9.2)) (max n (2 * x.bN))) (fun _ => 0)) (fun _ => 0))) t9) A) (by decide) (Nat.le_of_ble_eq_true rfl) ?_
  intro A p e s m below meth c ls hsz hB
  obtain ⟨hx, hb, hr, hml, hown, hin, hlk, hE, hK, hP, hD, hS, hA, hN, hl⟩ := hB
  have hown : s.vm.findClass "SeriesVault$Answers" = some m.cls := hown
  have hl : lv_has ls 3 [(0, .ref (ad 24)), (1, .int (nI n))] := hl
  obtain ⟨H, hH⟩ : ∃ z, z = s.heap := ⟨_, rfl⟩
  have hP : va_P D vwCl (VW dA h ad x) H := by rw [hH]; exact hP
  have hS : va_S A s.heap H [] := by rw [hH]; exact hS
  rw [← hH]
  refine lv_iload_n hx hb d_A_makeBestRoom_0 rfl (lv_at hl 1 rfl) ?_
  refine lv_aload_n hx hb d_A_makeBestRoom_1 rfl (lv_at hl 0 rfl) ?_
  refine gF (v := .ref (x.bA 0)) hx hb hown hE hK hP 37 rfl rfl layA 5 (by decide) w803 rfl d_A_makeBestRoom_2 ?_
  refine va_alen (v := nI x.bN) hx hb hK hP (41) 2 rfl rfl rfl d_A_makeBestRoom_5 ?_
  refine lv_icmp_le hx hb d_A_makeBestRoom_6 (tgt := 35) rfl (fun h9 => absurd h9 (mt (nI_leI (a := n) (b := x.bN) (by omega) (by omega)).mp (Nat.not_le.mpr h1))) (fun _ => ?_)
  refine lv_iload_n hx hb d_A_makeBestRoom_9 rfl (lv_at hl 1 rfl) ?_
  refine lv_iconst (v := 2) hx hb d_A_makeBestRoom_10 (by decide) ?_
  refine lv_aload_n hx hb d_A_makeBestRoom_11 rfl (lv_at hl 0 rfl) ?_
  refine gF (v := .ref (x.bA 0)) hx hb hown hE hK hP 37 rfl rfl layA 5 (by decide) w803 rfl d_A_makeBestRoom_12 ?_
  refine va_alen (v := nI x.bN) hx hb hK hP (41) 2 rfl rfl rfl d_A_makeBestRoom_15 ?_
  refine lv_imul hx hb d_A_makeBestRoom_16 (tpi (y := nI (2 * x.bN)) (pk_mul (2) (x.bN)) ?_)
  refine va_mmax hx hb (hml.trans hl.1.symm) hown (hE.t w1527 rfl) (hE.t w764 rfl) (hE.t w549 rfl) (hE.t w765 rfl) (Nat.le_of_ble_eq_true rfl) (Nat.le_of_ble_eq_true rfl) (show 0 ≤ 2 by omega) (show 0 ≤ 2 * max n (2 * x.bN) by omega) d_A_makeBestRoom_17 (tpi (y := nI (max n (2 * x.bN))) (nI_max (a := n) (b := 2 * x.bN) (by omega) (by omega)) ?_)
  refine lv_istore_n hx hb d_A_makeBestRoom_20 rfl hl (by decide) rfl (fun ls hl => ?_)
  have hl : lv_has ls 3 [(2, .int (nI (max n (2 * x.bN)))), (0, .ref (ad 24)), (1, .int (nI n))] := hl
  refine lv_aload_n hx hb d_A_makeBestRoom_21 rfl (lv_at hl 1 rfl) ?_
  refine lv_iload_n hx hb d_A_makeBestRoom_22 rfl (lv_at hl 0 rfl) ?_
  refine nnA (atype := .long) (ty := .long) (N' := max n (2 * x.bN)) (a0 := (max n (2 * x.bN), .inr (.inl (fun _ => 0)))) hx hb hE rfl w186 hK hP hD hS hA 2 rfl (fun _ => rfl) (by omega) (show (max n (2 * x.bN)) * 8 ≤ 536870912 by omega) (show 0 + 1 ≤ 2 by omega) (show 0 + (max n (2 * x.bN)) ≤ 2 * max n (2 * x.bN) by omega) d_A_makeBestRoom_23 (fun q0 H hP hD hS => ?_)
  have hP : va_P D vwCl ([(q0, .inl (dA 2, max n (2 * x.bN), .inr (.inl (fun _ => 0))))] ++ (VW dA h ad x)) H := hP
  have hD : va_D A ([(q0, .inl (dA 2, max n (2 * x.bN), .inr (.inl (fun _ => 0))))] ++ (VW dA h ad x)) := hD
  refine pF (v := .ref q0) hx hb hown hE hK hP hD hS 38 rfl rfl layA tyA tokA nmA 5 (by decide) w803 rfl rfl rfl (Nat.le_of_ble_eq_true rfl) d_A_makeBestRoom_25 (fun H locs hP hD hS => ?_)
  have hP : va_P D vwCl ([(q0, .inl (dA 2, max n (2 * x.bN), .inr (.inl (fun _ => 0))))] ++ (VWf dA h ad x (VS.s_bA x (va_up x.bA 0 q0)))) H := hP
  have hD : va_D A ([(q0, .inl (dA 2, max n (2 * x.bN), .inr (.inl (fun _ => 0))))] ++ (VWf dA h ad x (VS.s_bA x (va_up x.bA 0 q0)))) := hD
  refine lv_aload_n hx hb d_A_makeBestRoom_28 rfl (lv_at hl 1 rfl) ?_
  refine lv_iload_n hx hb d_A_makeBestRoom_29 rfl (lv_at hl 0 rfl) ?_
  refine nnA (atype := .int) (ty := .int) (N' := max n (2 * x.bN)) (a0 := (max n (2 * x.bN), .inl (fun z9 => nI ((fun _ => 0) z9)))) hx hb hE rfl w184 hK hP hD hS hA 1 rfl (fun _ => rfl) (by omega) (show (max n (2 * x.bN)) * 4 ≤ 536870912 by omega) (show (0 + 1) + 1 ≤ 2 by omega) (show (0 + (max n (2 * x.bN))) + (max n (2 * x.bN)) ≤ 2 * max n (2 * x.bN) by omega) d_A_makeBestRoom_30 (fun q1 H hP hD hS => ?_)
  have hP : va_P D vwCl ([(q1, .inl (dA 1, max n (2 * x.bN), .inl (fun z9 => nI ((fun _ => 0) z9))))] ++ ([(q0, .inl (dA 2, max n (2 * x.bN), .inr (.inl (fun _ => 0))))] ++ (VWf dA h ad x (VS.s_bA x (va_up x.bA 0 q0))))) H := hP
  have hD : va_D A ([(q1, .inl (dA 1, max n (2 * x.bN), .inl (fun z9 => nI ((fun _ => 0) z9))))] ++ ([(q0, .inl (dA 2, max n (2 * x.bN), .inr (.inl (fun _ => 0))))] ++ (VWf dA h ad x (VS.s_bA x (va_up x.bA 0 q0))))) := hD
  refine pF (v := .ref q1) hx hb hown hE hK hP hD hS 39 rfl rfl layA tyA tokA nmA 6 (by decide) w804 rfl rfl rfl (Nat.le_of_ble_eq_true rfl) d_A_makeBestRoom_32 (fun H locs hP hD hS => ?_)
  have hP : va_P D vwCl ([(q1, .inl (dA 1, max n (2 * x.bN), .inl (fun z9 => nI ((fun _ => 0) z9))))] ++ ([(q0, .inl (dA 2, max n (2 * x.bN), .inr (.inl (fun _ => 0))))] ++ (VWf dA h ad x (VS.s_bA x (va_up (va_up x.bA 0 q0) 1 q1))))) H := hP
  have hD : va_D A ([(q1, .inl (dA 1, max n (2 * x.bN), .inl (fun z9 => nI ((fun _ => 0) z9))))] ++ ([(q0, .inl (dA 2, max n (2 * x.bN), .inr (.inl (fun _ => 0))))] ++ (VWf dA h ad x (VS.s_bA x (va_up (va_up x.bA 0 q0) 1 q1))))) := hD
  have hP := pmP (show List.Perm (α := Nat × va_E) ([(q1, .inl (dA 1, max n (2 * x.bN), .inl (fun z9 => nI ((fun _ => 0) z9))))] ++ ([(q0, .inl (dA 2, max n (2 * x.bN), .inr (.inl (fun _ => 0))))] ++ (VWf dA h ad x (VS.s_bA x (va_up (va_up x.bA 0 q0) 1 q1))))) ([(q0, .inl (dA 2, max n (2 * x.bN), .inr (.inl (fun _ => 0))))] ++ ([(q1, .inl (dA 1, max n (2 * x.bN), .inl (fun z9 => nI ((fun _ => 0) z9))))] ++ (VWf dA h ad x (VS.s_bA x (va_up (va_up x.bA 0 q0) 1 q1))))) from List.perm_append_comm_assoc ([(q1, .inl (dA 1, max n (2 * x.bN), .inl (fun z9 => nI ((fun _ => 0) z9))))]) ([(q0, .inl (dA 2, max n (2 * x.bN), .inr (.inl (fun _ => 0))))]) (VWf dA h ad x (VS.s_bA x (va_up (va_up x.bA 0 q0) 1 q1)))) hP
  have hD := pmD (show List.Perm (α := Nat × va_E) ([(q1, .inl (dA 1, max n (2 * x.bN), .inl (fun z9 => nI ((fun _ => 0) z9))))] ++ ([(q0, .inl (dA 2, max n (2 * x.bN), .inr (.inl (fun _ => 0))))] ++ (VWf dA h ad x (VS.s_bA x (va_up (va_up x.bA 0 q0) 1 q1))))) ([(q0, .inl (dA 2, max n (2 * x.bN), .inr (.inl (fun _ => 0))))] ++ ([(q1, .inl (dA 1, max n (2 * x.bN), .inl (fun z9 => nI ((fun _ => 0) z9))))] ++ (VWf dA h ad x (VS.s_bA x (va_up (va_up x.bA 0 q0) 1 q1))))) from List.perm_append_comm_assoc ([(q1, .inl (dA 1, max n (2 * x.bN), .inl (fun z9 => nI ((fun _ => 0) z9))))]) ([(q0, .inl (dA 2, max n (2 * x.bN), .inr (.inl (fun _ => 0))))]) (VWf dA h ad x (VS.s_bA x (va_up (va_up x.bA 0 q0) 1 q1)))) hD
  have hP := swP 42 hP
  have hD := swD 42 hD
  have hP := swP 42 hP
  have hD := swD 42 hD
  have hP : va_P D vwCl (VW dA h ad (VS.s_bO (VS.s_bT (VS.s_bN (VS.s_bA x (va_up (va_up x.bA 0 q0) 1 q1)) (max n (2 * x.bN))) (fun _ => 0)) (fun _ => 0))) H := hP
  have hD : va_D A (VW dA h ad (VS.s_bO (VS.s_bT (VS.s_bN (VS.s_bA x (va_up (va_up x.bA 0 q0) 1 q1)) (max n (2 * x.bN))) (fun _ => 0)) (fun _ => 0))) := hD
  exact rfV hx hb hr hlk hS (⟨q0, q1⟩) trivial hP hD (show 0 + 1 + 1 ≤ 2 by omega) (show 0 + (max n (2 * x.bN)) + (max n (2 * x.bN)) ≤ 2 * max n (2 * x.bN) by omega) d_A_makeBestRoom_35
theorem d_E_init_0 : decode prog_10_method_1_code 0 = .ok (.aload_n 0, 1) := by decide +kernel
theorem d_E_init_1 : decode prog_10_method_1_code 1 = .ok (.invokespecial 3, 3) := by decide +kernel
theorem d_E_init_4 : decode prog_10_method_1_code 4 = .ok (.aload_n 0, 1) := by decide +kernel
theorem d_E_init_5 : decode prog_10_method_1_code 5 = .ok (.iload_n 1, 1) := by decide +kernel
theorem d_E_init_6 : decode prog_10_method_1_code 6 = .ok (.putfield 9, 3) := by decide +kernel
theorem d_E_init_9 : decode prog_10_method_1_code 9 = .ok (.aload_n 0, 1) := by decide +kernel
theorem d_E_init_10 : decode prog_10_method_1_code 10 = .ok (.iload_n 2, 1) := by decide +kernel
theorem d_E_init_11 : decode prog_10_method_1_code 11 = .ok (.putfield 15, 3) := by decide +kernel
theorem d_E_init_14 : decode prog_10_method_1_code 14 = .ok (.aload_n 0, 1) := by decide +kernel
theorem d_E_init_15 : decode prog_10_method_1_code 15 = .ok (.lload_n 3, 1) := by decide +kernel
theorem d_E_init_16 : decode prog_10_method_1_code 16 = .ok (.putfield 18, 3) := by decide +kernel
theorem d_E_init_19 : decode prog_10_method_1_code 19 = .ok (.iload_n 1, 1) := by decide +kernel
theorem d_E_init_20 : decode prog_10_method_1_code 20 = .ok (.sipush 264, 3) := by decide +kernel
theorem d_E_init_23 : decode prog_10_method_1_code 23 = .ok (.if_icmp .ne 7, 3) := by decide +kernel
theorem d_E_init_26 : decode prog_10_method_1_code 26 = .ok (.iconst 1, 1) := by decide +kernel
theorem d_E_init_27 : decode prog_10_method_1_code 27 = .ok (.goto 4, 3) := by decide +kernel
theorem d_E_init_31 : decode prog_10_method_1_code 31 = .ok (.istore 5, 2) := by decide +kernel
theorem d_E_init_33 : decode prog_10_method_1_code 33 = .ok (.aload_n 0, 1) := by decide +kernel
theorem d_E_init_34 : decode prog_10_method_1_code 34 = .ok (.iload 5, 2) := by decide +kernel
theorem d_E_init_36 : decode prog_10_method_1_code 36 = .ok (.ifCond .eq 8, 3) := by decide +kernel
theorem d_E_init_39 : decode prog_10_method_1_code 39 = .ok (.bipush 6, 2) := by decide +kernel
theorem d_E_init_41 : decode prog_10_method_1_code 41 = .ok (.goto 4, 3) := by decide +kernel
theorem d_E_init_45 : decode prog_10_method_1_code 45 = .ok (.anewarray 24, 3) := by decide +kernel
theorem d_E_init_48 : decode prog_10_method_1_code 48 = .ok (.putfield 26, 3) := by decide +kernel
theorem d_E_init_51 : decode prog_10_method_1_code 51 = .ok (.aload_n 0, 1) := by decide +kernel
theorem d_E_init_52 : decode prog_10_method_1_code 52 = .ok (.new 30, 3) := by decide +kernel
theorem d_E_init_55 : decode prog_10_method_1_code 55 = .ok (.dup, 1) := by decide +kernel
theorem d_E_init_56 : decode prog_10_method_1_code 56 = .ok (.invokespecial 32, 3) := by decide +kernel
theorem d_E_init_59 : decode prog_10_method_1_code 59 = .ok (.putfield 33, 3) := by decide +kernel
theorem d_E_init_62 : decode prog_10_method_1_code 62 = .ok (.aload_n 0, 1) := by decide +kernel
theorem d_E_init_63 : decode prog_10_method_1_code 63 = .ok (.new 30, 3) := by decide +kernel
theorem d_E_init_66 : decode prog_10_method_1_code 66 = .ok (.dup, 1) := by decide +kernel
theorem d_E_init_67 : decode prog_10_method_1_code 67 = .ok (.invokespecial 32, 3) := by decide +kernel
theorem d_E_init_70 : decode prog_10_method_1_code 70 = .ok (.putfield 37, 3) := by decide +kernel
theorem d_E_init_73 : decode prog_10_method_1_code 73 = .ok (.aload_n 0, 1) := by decide +kernel
theorem d_E_init_74 : decode prog_10_method_1_code 74 = .ok (.iload 5, 2) := by decide +kernel
theorem d_E_init_76 : decode prog_10_method_1_code 76 = .ok (.ifCond .eq 7, 3) := by decide +kernel
theorem d_E_init_79 : decode prog_10_method_1_code 79 = .ok (.iconst 2, 1) := by decide +kernel
theorem d_E_init_80 : decode prog_10_method_1_code 80 = .ok (.goto 4, 3) := by decide +kernel
theorem d_E_init_84 : decode prog_10_method_1_code 84 = .ok (.newarray .int, 2) := by decide +kernel
theorem d_E_init_86 : decode prog_10_method_1_code 86 = .ok (.putfield 40, 3) := by decide +kernel
theorem d_E_init_89 : decode prog_10_method_1_code 89 = .ok (.return_, 1) := by decide +kernel
theorem w1528 : Cond.methodLink "SeriesVault$Step" 3 ⟨"java/lang/Object", "<init>", "()V"⟩ ∈ aW := aw_of (tb_7 (List.mem_of_getElem? (i := 6) rfl)) rfl
theorem w1529 : Cond.fieldLink "SeriesVault$Step" 9 "SeriesVault$Step" "kind" "I" ∈ aW := aw_of (tb_7 (List.mem_of_getElem? (i := 10) rfl)) rfl
theorem w1530 : Cond.fieldLink "SeriesVault$Step" 15 "SeriesVault$Step" "place" "I" ∈ aW := aw_of (tb_7 (List.mem_of_getElem? (i := 12) rfl)) rfl
theorem w1531 : Cond.fieldLink "SeriesVault$Step" 18 "SeriesVault$Step" "number" "J" ∈ aW := aw_of (tb_7 (List.mem_of_getElem? (i := 14) rfl)) rfl
theorem w1532 : Cond.fieldLink "SeriesVault$Step" 26 "SeriesVault$Step" "names" "[LSeriesVault$Word;" ∈ aW := aw_of (tb_7 (List.mem_of_getElem? (i := 16) rfl)) rfl
theorem w1533 : Cond.classLink "SeriesVault$Step" 30 "java/util/ArrayList" ∈ aW := aw_of (tb_7 (List.mem_of_getElem? (i := 8) rfl)) rfl
theorem w1534 : Cond.methodLink "SeriesVault$Step" 32 ⟨"java/util/ArrayList", "<init>", "()V"⟩ ∈ aW := aw_of (tb_7 (List.mem_of_getElem? (i := 9) rfl)) rfl
set_option maxHeartbeats 4000000 in
set_option maxRecDepth 100000 in
theorem v_Einit_f (l : Launch) (D : va_G) (dA : Nat → ClassId) (sz : Nat) (e0 mi : Nat) (ws : va_W) (a : Nat) (pl : Nat) (nu : Int64) : Met l ⟨"SeriesVault$Step", "<init>", "(IIJ)V"⟩ [Cond.code ⟨"SeriesVault$Step", "<init>", "(IIJ)V"⟩ prog_10_method_1_code 6 none] { frames := 4, cells := 4, slots := 14, locals := 72 } (pCy D dA e0 mi [.ref a, .int 264, .int (nI pl), .long nu] ([(a, .inr (13, [.int 0, .int 0, .long 0, .null, .int 0, .null, .null, .null]))] ++ (ws)) sz) (va_Qv (fun (u9 : Nat × Nat × Nat × Nat) => True) (fun (u9 : Nat × Nat × Nat × Nat) t9 => bW D (va_A ([(a, .inr (13, [.int 0, .int 0, .long 0, .null, .int 0, .null, .null, .null]))] ++ (ws)) sz) ([(u9.1, .inl (dA 6, 6, .inr (.inr (.inr (.inr (fun _ => none))))))] ++ ([(u9.2.1, .inr (6, [.ref e0, .int 0, .int 0]))] ++ ([(u9.2.2.1, .inr (6, [.ref e0, .int 0, .int 0]))] ++ ([(u9.2.2.2, .inl (dA 1, 2, .inl (fun _ => 0)))] ++ ([(a, .inr (13, [.int 264, .int (nI pl), .long nu, .ref u9.1, .int 0, .ref u9.2.1, .ref u9.2.2.1, .ref u9.2.2.2]))] ++ (ws)))))) t9) (va_A ([(a, .inr (13, [.int 0, .int 0, .long 0, .null, .int 0, .null, .null, .null]))] ++ (ws)) sz)) 4 14 (va_A ([(a, .inr (13, [.int 0, .int 0, .long 0, .null, .int 0, .null, .null, .null]))] ++ (ws)) sz) := by
  refine mkY (y := ⟨"SeriesVault$Step", "<init>", "(IIJ)V"⟩) (cc := prog_10_method_1_code) (maxL := 6) (av := [.ref a, .int 264, .int (nI pl), .long nu]) (ws := [(a, .inr (13, [.int 0, .int 0, .long 0, .null, .int 0, .null, .null, .null]))] ++ (ws)) (sz := sz) (Qc := fun A => va_Qv (fun (u9 : Nat × Nat × Nat × Nat) => True) (fun (u9 : Nat × Nat × Nat × Nat) t9 => bW D A ([(u9.1, .inl (dA 6, 6, .inr (.inr (.inr (.inr (fun _ => none))))))] ++ ([(u9.2.1, .inr (6, [.ref e0, .int 0, .int 0]))] ++ ([(u9.2.2.1, .inr (6, [.ref e0, .int 0, .int 0]))] ++ ([(u9.2.2.2, .inl (dA 1, 2, .inl (fun _ => 0)))] ++ ([(a, .inr (13, [.int 264, .int (nI pl), .long nu, .ref u9.1, .int 0, .ref u9.2.1, .ref u9.2.2.1, .ref u9.2.2.2]))] ++ (ws)))))) t9) A) (by decide) (Nat.le_of_ble_eq_true rfl) ?_
  intro A p e s m below meth c ls hsz hZ hT hM hB
  obtain ⟨hx, hb, hr, hml, hown, hin, hlk, hE, hK, hP, hD, hS, hA, hN, hl⟩ := hB
  have hown : s.vm.findClass "SeriesVault$Step" = some m.cls := hown
  have hl : lv_has ls 6 [(0, .ref a), (1, .int 264), (2, .int (nI pl)), (3, .long nu)] := hl
  obtain ⟨H, hH⟩ : ∃ z, z = s.heap := ⟨_, rfl⟩
  have hP : va_P D vwCl ([(a, .inr (13, [.int 0, .int 0, .long 0, .null, .int 0, .null, .null, .null]))] ++ (ws)) H := by rw [hH]; exact hP
  have hS : va_S A s.heap H [] := by rw [hH]; exact hS
  rw [← hH]
  refine lv_aload_n hx hb d_E_init_0 rfl (lv_at hl 0 rfl) ?_
  refine oI hx hb hown hE w1528 w182 w183 (hl.1.trans hml.symm) d_E_init_1 (Nat.le_of_ble_eq_true rfl) (Nat.le_of_ble_eq_true rfl) ?_
  refine lv_aload_n hx hb d_E_init_4 rfl (lv_at hl 0 rfl) ?_
  refine lv_iload_n hx hb d_E_init_5 rfl (lv_at hl 1 rfl) ?_
  refine pFF (v := .int 264) hx hb hown hE hK hP hD hS 0 rfl rfl layE tyE tokE nmE 0 (by decide) w1529 rfl hin rfl rfl rfl (Nat.le_of_ble_eq_true rfl) d_E_init_6 (fun H locs hP hD hS => ?_)
  have hP : va_P D vwCl ([(a, .inr (13, [.int 264, .int 0, .long 0, .null, .int 0, .null, .null, .null]))] ++ (ws)) H := hP
  have hD : va_D A ([(a, .inr (13, [.int 264, .int 0, .long 0, .null, .int 0, .null, .null, .null]))] ++ (ws)) := hD
  refine lv_aload_n hx hb d_E_init_9 rfl (lv_at hl 0 rfl) ?_
  refine lv_iload_n hx hb d_E_init_10 rfl (lv_at hl 2 rfl) ?_
  refine pFF (v := .int (nI pl)) hx hb hown hE hK hP hD hS 0 rfl rfl layE tyE tokE nmE 1 (by decide) w1530 rfl hin rfl rfl rfl (Nat.le_of_ble_eq_true rfl) d_E_init_11 (fun H locs hP hD hS => ?_)
  have hP : va_P D vwCl ([(a, .inr (13, [.int 264, .int (nI pl), .long 0, .null, .int 0, .null, .null, .null]))] ++ (ws)) H := hP
  have hD : va_D A ([(a, .inr (13, [.int 264, .int (nI pl), .long 0, .null, .int 0, .null, .null, .null]))] ++ (ws)) := hD
  refine lv_aload_n hx hb d_E_init_14 rfl (lv_at hl 0 rfl) ?_
  refine lv_lload_n hx hb d_E_init_15 rfl (lv_at hl 3 rfl) ?_
  refine pFF (v := .long nu) hx hb hown hE hK hP hD hS 0 rfl rfl layE tyE tokE nmE 2 (by decide) w1531 rfl hin rfl rfl rfl (Nat.le_of_ble_eq_true rfl) d_E_init_16 (fun H locs hP hD hS => ?_)
  have hP : va_P D vwCl ([(a, .inr (13, [.int 264, .int (nI pl), .long nu, .null, .int 0, .null, .null, .null]))] ++ (ws)) H := hP
  have hD : va_D A ([(a, .inr (13, [.int 264, .int (nI pl), .long nu, .null, .int 0, .null, .null, .null]))] ++ (ws)) := hD
  refine lv_iload_n hx hb d_E_init_19 rfl (lv_at hl 1 rfl) ?_
  refine lv_sipush (v := 264) hx hb d_E_init_20 (by decide) ?_
  refine lv_icmp_ne hx hb d_E_init_23 (tgt := 30) rfl (fun h9 => absurd (by decide) h9) (fun _ => ?_)
  refine lv_iconst (v := 1) hx hb d_E_init_26 (by decide) ?_
  refine lv_goto hx hb d_E_init_27 (tgt := 31) rfl ?_
  refine lv_istore hx hb d_E_init_31 hl (by decide) rfl (fun ls hl => ?_)
  have hl : lv_has ls 6 [(5, .int 1), (0, .ref a), (1, .int 264), (2, .int (nI pl)), (3, .long nu)] := hl
  refine lv_aload_n hx hb d_E_init_33 rfl (lv_at hl 1 rfl) ?_
  refine lv_iload hx hb d_E_init_34 (lv_at hl 0 rfl) ?_
  refine lv_if_eq hx hb d_E_init_36 (tgt := 44) rfl (fun h9 => absurd h9 (by decide)) (fun _ => ?_)
  refine lv_bipush (v := 6) hx hb d_E_init_39 (by decide) ?_
  refine lv_goto hx hb d_E_init_41 (tgt := 45) rfl ?_
  refine nnQ (N' := 6) hx hb hown hE w1492 w783 hK hP hD hS hA 6 rfl (by omega) (show 6 * 4 ≤ 536870912 by omega) (show 0 + 1 ≤ 4 by omega) (show 0 + 6 ≤ 14 by omega) d_E_init_45 (fun na H hP hD hS => ?_)
  have hP : va_P D vwCl ([(na, .inl (dA 6, 6, .inr (.inr (.inr (.inr (fun _ => none))))))] ++ ([(a, .inr (13, [.int 264, .int (nI pl), .long nu, .null, .int 0, .null, .null, .null]))] ++ (ws))) H := hP
  have hD : va_D A ([(na, .inl (dA 6, 6, .inr (.inr (.inr (.inr (fun _ => none))))))] ++ ([(a, .inr (13, [.int 264, .int (nI pl), .long nu, .null, .int 0, .null, .null, .null]))] ++ (ws))) := hD
  refine pFF (v := .ref na) hx hb hown hE hK hP hD hS 1 rfl rfl layE tyE tokE nmE 3 (by decide) w1532 rfl hin rfl rfl rfl (Nat.le_of_ble_eq_true rfl) d_E_init_48 (fun H locs hP hD hS => ?_)
  have hP : va_P D vwCl ([(na, .inl (dA 6, 6, .inr (.inr (.inr (.inr (fun _ => none))))))] ++ ([(a, .inr (13, [.int 264, .int (nI pl), .long nu, .ref na, .int 0, .null, .null, .null]))] ++ (ws))) H := hP
  have hD : va_D A ([(na, .inl (dA 6, 6, .inr (.inr (.inr (.inr (fun _ => none))))))] ++ ([(a, .inr (13, [.int 264, .int (nI pl), .long nu, .ref na, .int 0, .null, .null, .null]))] ++ (ws))) := hD
  refine lv_aload_n hx hb d_E_init_51 rfl (lv_at hl 1 rfl) ?_
  refine nOf hx hb hown hE hK hP hD hS hA (ci := 6) rfl layL tyL tokL w1533 w792 w680 (fs := [.null, .int 0, .int 0]) dfL (show (0 + 1) + 1 ≤ 4 by omega) (show (0 + 6) + 3 ≤ 14 by omega) d_E_init_52 (fun ln H hP hD hS => ?_)
  have hP : va_P D vwCl ([(ln, .inr (6, [.null, .int 0, .int 0]))] ++ ([(na, .inl (dA 6, 6, .inr (.inr (.inr (.inr (fun _ => none))))))] ++ ([(a, .inr (13, [.int 264, .int (nI pl), .long nu, .ref na, .int 0, .null, .null, .null]))] ++ (ws)))) H := hP
  have hD : va_D A ([(ln, .inr (6, [.null, .int 0, .int 0]))] ++ ([(na, .inl (dA 6, 6, .inr (.inr (.inr (.inr (fun _ => none))))))] ++ ([(a, .inr (13, [.int 264, .int (nI pl), .long nu, .ref na, .int 0, .null, .null, .null]))] ++ (ws)))) := hD
  refine lv_dup hx hb d_E_init_55 rfl ?_
  refine jkV (wr := []) (rnIy (As := []) (rest := [.ref ln, .ref a]) hx hb hml hown hE hK hZ hT hM hS (hN _ _ hS) hP hD (v_Linit l D dA H.size e0 mi ([(na, .inl (dA 6, 6, .inr (.inr (.inr (.inr (fun _ => none))))))] ++ ([(a, .inr (13, [.int 264, .int (nI pl), .long nu, .ref na, .int 0, .null, .null, .null]))] ++ (ws))) ln) w794 w1534 w795 w680 rfl rfl rfl ⟨⟨by decide, by decide⟩, rfl⟩ ⟨(Nat.le_of_ble_eq_true rfl), (Nat.le_of_ble_eq_true rfl)⟩ rfl hl.1 rfl (Nat.le_of_ble_eq_true rfl) d_E_init_56 ⟨(show 0 + 1 + 1 + 0 ≤ 4 by omega), (show 0 + 6 + 3 + 0 ≤ 14 by omega)⟩) hP hD hS hA (fun u2 H locs hp9 hP hD hS => ?_)
  have hP : va_P D vwCl ([(ln, .inr (6, [.ref e0, .int 0, .int 0]))] ++ ([(na, .inl (dA 6, 6, .inr (.inr (.inr (.inr (fun _ => none))))))] ++ ([(a, .inr (13, [.int 264, .int (nI pl), .long nu, .ref na, .int 0, .null, .null, .null]))] ++ (ws)))) H := hP
  have hD : va_D A ([(ln, .inr (6, [.ref e0, .int 0, .int 0]))] ++ ([(na, .inl (dA 6, 6, .inr (.inr (.inr (.inr (fun _ => none))))))] ++ ([(a, .inr (13, [.int 264, .int (nI pl), .long nu, .ref na, .int 0, .null, .null, .null]))] ++ (ws)))) := hD
  refine pFF (v := .ref ln) hx hb hown hE hK hP hD hS 2 rfl rfl layE tyE tokE nmE 5 (by decide) w1482 rfl hin rfl rfl rfl (Nat.le_of_ble_eq_true rfl) d_E_init_59 (fun H locs hP hD hS => ?_)
  have hP : va_P D vwCl ([(ln, .inr (6, [.ref e0, .int 0, .int 0]))] ++ ([(na, .inl (dA 6, 6, .inr (.inr (.inr (.inr (fun _ => none))))))] ++ ([(a, .inr (13, [.int 264, .int (nI pl), .long nu, .ref na, .int 0, .ref ln, .null, .null]))] ++ (ws)))) H := hP
  have hD : va_D A ([(ln, .inr (6, [.ref e0, .int 0, .int 0]))] ++ ([(na, .inl (dA 6, 6, .inr (.inr (.inr (.inr (fun _ => none))))))] ++ ([(a, .inr (13, [.int 264, .int (nI pl), .long nu, .ref na, .int 0, .ref ln, .null, .null]))] ++ (ws)))) := hD
  refine lv_aload_n hx hb d_E_init_62 rfl (lv_at hl 1 rfl) ?_
  refine nOf hx hb hown hE hK hP hD hS hA (ci := 6) rfl layL tyL tokL w1533 w792 w680 (fs := [.null, .int 0, .int 0]) dfL (show (0 + 1 + 1 + 0) + 1 ≤ 4 by omega) (show (0 + 6 + 3 + 0) + 3 ≤ 14 by omega) d_E_init_63 (fun lt H hP hD hS => ?_)
  have hP : va_P D vwCl ([(lt, .inr (6, [.null, .int 0, .int 0]))] ++ ([(ln, .inr (6, [.ref e0, .int 0, .int 0]))] ++ ([(na, .inl (dA 6, 6, .inr (.inr (.inr (.inr (fun _ => none))))))] ++ ([(a, .inr (13, [.int 264, .int (nI pl), .long nu, .ref na, .int 0, .ref ln, .null, .null]))] ++ (ws))))) H := hP
  have hD : va_D A ([(lt, .inr (6, [.null, .int 0, .int 0]))] ++ ([(ln, .inr (6, [.ref e0, .int 0, .int 0]))] ++ ([(na, .inl (dA 6, 6, .inr (.inr (.inr (.inr (fun _ => none))))))] ++ ([(a, .inr (13, [.int 264, .int (nI pl), .long nu, .ref na, .int 0, .ref ln, .null, .null]))] ++ (ws))))) := hD
  refine lv_dup hx hb d_E_init_66 rfl ?_
  refine jkV (wr := []) (rnIy (As := []) (rest := [.ref lt, .ref a]) hx hb hml hown hE hK hZ hT hM hS (hN _ _ hS) hP hD (v_Linit l D dA H.size e0 mi ([(ln, .inr (6, [.ref e0, .int 0, .int 0]))] ++ ([(na, .inl (dA 6, 6, .inr (.inr (.inr (.inr (fun _ => none))))))] ++ ([(a, .inr (13, [.int 264, .int (nI pl), .long nu, .ref na, .int 0, .ref ln, .null, .null]))] ++ (ws)))) lt) w794 w1534 w795 w680 rfl rfl rfl ⟨⟨by decide, by decide⟩, rfl⟩ ⟨(Nat.le_of_ble_eq_true rfl), (Nat.le_of_ble_eq_true rfl)⟩ rfl hl.1 rfl (Nat.le_of_ble_eq_true rfl) d_E_init_67 ⟨(show 0 + 1 + 1 + 0 + 1 + 0 ≤ 4 by omega), (show 0 + 6 + 3 + 0 + 3 + 0 ≤ 14 by omega)⟩) hP hD hS hA (fun u4 H locs hp9 hP hD hS => ?_)
  have hP : va_P D vwCl ([(lt, .inr (6, [.ref e0, .int 0, .int 0]))] ++ ([(ln, .inr (6, [.ref e0, .int 0, .int 0]))] ++ ([(na, .inl (dA 6, 6, .inr (.inr (.inr (.inr (fun _ => none))))))] ++ ([(a, .inr (13, [.int 264, .int (nI pl), .long nu, .ref na, .int 0, .ref ln, .null, .null]))] ++ (ws))))) H := hP
  have hD : va_D A ([(lt, .inr (6, [.ref e0, .int 0, .int 0]))] ++ ([(ln, .inr (6, [.ref e0, .int 0, .int 0]))] ++ ([(na, .inl (dA 6, 6, .inr (.inr (.inr (.inr (fun _ => none))))))] ++ ([(a, .inr (13, [.int 264, .int (nI pl), .long nu, .ref na, .int 0, .ref ln, .null, .null]))] ++ (ws))))) := hD
  refine pFF (v := .ref lt) hx hb hown hE hK hP hD hS 3 rfl rfl layE tyE tokE nmE 6 (by decide) w1494 rfl hin rfl rfl rfl (Nat.le_of_ble_eq_true rfl) d_E_init_70 (fun H locs hP hD hS => ?_)
  have hP : va_P D vwCl ([(lt, .inr (6, [.ref e0, .int 0, .int 0]))] ++ ([(ln, .inr (6, [.ref e0, .int 0, .int 0]))] ++ ([(na, .inl (dA 6, 6, .inr (.inr (.inr (.inr (fun _ => none))))))] ++ ([(a, .inr (13, [.int 264, .int (nI pl), .long nu, .ref na, .int 0, .ref ln, .ref lt, .null]))] ++ (ws))))) H := hP
  have hD : va_D A ([(lt, .inr (6, [.ref e0, .int 0, .int 0]))] ++ ([(ln, .inr (6, [.ref e0, .int 0, .int 0]))] ++ ([(na, .inl (dA 6, 6, .inr (.inr (.inr (.inr (fun _ => none))))))] ++ ([(a, .inr (13, [.int 264, .int (nI pl), .long nu, .ref na, .int 0, .ref ln, .ref lt, .null]))] ++ (ws))))) := hD
  refine lv_aload_n hx hb d_E_init_73 rfl (lv_at hl 1 rfl) ?_
  refine lv_iload hx hb d_E_init_74 (lv_at hl 0 rfl) ?_
  refine lv_if_eq hx hb d_E_init_76 (tgt := 83) rfl (fun h9 => absurd h9 (by decide)) (fun _ => ?_)
  refine lv_iconst (v := 2) hx hb d_E_init_79 (by decide) ?_
  refine lv_goto hx hb d_E_init_80 (tgt := 84) rfl ?_
  refine nnA (atype := .int) (ty := .int) (N' := 2) (a0 := (2, .inl (fun _ => 0))) hx hb hE rfl w184 hK hP hD hS hA 1 rfl (fun _ => rfl) (by omega) (show 2 * 4 ≤ 536870912 by omega) (show (0 + 1 + 1 + 0 + 1 + 0) + 1 ≤ 4 by omega) (show (0 + 6 + 3 + 0 + 3 + 0) + 2 ≤ 14 by omega) d_E_init_84 (fun mk H hP hD hS => ?_)
  have hP : va_P D vwCl ([(mk, .inl (dA 1, 2, .inl (fun _ => 0)))] ++ ([(lt, .inr (6, [.ref e0, .int 0, .int 0]))] ++ ([(ln, .inr (6, [.ref e0, .int 0, .int 0]))] ++ ([(na, .inl (dA 6, 6, .inr (.inr (.inr (.inr (fun _ => none))))))] ++ ([(a, .inr (13, [.int 264, .int (nI pl), .long nu, .ref na, .int 0, .ref ln, .ref lt, .null]))] ++ (ws)))))) H := hP
  have hD : va_D A ([(mk, .inl (dA 1, 2, .inl (fun _ => 0)))] ++ ([(lt, .inr (6, [.ref e0, .int 0, .int 0]))] ++ ([(ln, .inr (6, [.ref e0, .int 0, .int 0]))] ++ ([(na, .inl (dA 6, 6, .inr (.inr (.inr (.inr (fun _ => none))))))] ++ ([(a, .inr (13, [.int 264, .int (nI pl), .long nu, .ref na, .int 0, .ref ln, .ref lt, .null]))] ++ (ws)))))) := hD
  refine pF (v := .ref mk) hx hb hown hE hK hP hD hS 4 rfl rfl layE tyE tokE nmE 7 (by decide) w1487 rfl rfl rfl (Nat.le_of_ble_eq_true rfl) d_E_init_86 (fun H locs hP hD hS => ?_)
  have hP : va_P D vwCl ([(mk, .inl (dA 1, 2, .inl (fun _ => 0)))] ++ ([(lt, .inr (6, [.ref e0, .int 0, .int 0]))] ++ ([(ln, .inr (6, [.ref e0, .int 0, .int 0]))] ++ ([(na, .inl (dA 6, 6, .inr (.inr (.inr (.inr (fun _ => none))))))] ++ ([(a, .inr (13, [.int 264, .int (nI pl), .long nu, .ref na, .int 0, .ref ln, .ref lt, .ref mk]))] ++ (ws)))))) H := hP
  have hD : va_D A ([(mk, .inl (dA 1, 2, .inl (fun _ => 0)))] ++ ([(lt, .inr (6, [.ref e0, .int 0, .int 0]))] ++ ([(ln, .inr (6, [.ref e0, .int 0, .int 0]))] ++ ([(na, .inl (dA 6, 6, .inr (.inr (.inr (.inr (fun _ => none))))))] ++ ([(a, .inr (13, [.int 264, .int (nI pl), .long nu, .ref na, .int 0, .ref ln, .ref lt, .ref mk]))] ++ (ws)))))) := hD
  have hP := pmP (show List.Perm (α := Nat × va_E) ([(mk, .inl (dA 1, 2, .inl (fun _ => 0)))] ++ ([(lt, .inr (6, [.ref e0, .int 0, .int 0]))] ++ ([(ln, .inr (6, [.ref e0, .int 0, .int 0]))] ++ ([(na, .inl (dA 6, 6, .inr (.inr (.inr (.inr (fun _ => none))))))] ++ ([(a, .inr (13, [.int 264, .int (nI pl), .long nu, .ref na, .int 0, .ref ln, .ref lt, .ref mk]))] ++ (ws)))))) ([(na, .inl (dA 6, 6, .inr (.inr (.inr (.inr (fun _ => none))))))] ++ ([(mk, .inl (dA 1, 2, .inl (fun _ => 0)))] ++ ([(lt, .inr (6, [.ref e0, .int 0, .int 0]))] ++ ([(ln, .inr (6, [.ref e0, .int 0, .int 0]))] ++ ([(a, .inr (13, [.int 264, .int (nI pl), .long nu, .ref na, .int 0, .ref ln, .ref lt, .ref mk]))] ++ (ws)))))) from (List.Perm.append_left ([(mk, .inl (dA 1, 2, .inl (fun _ => 0)))]) ((List.Perm.append_left ([(lt, .inr (6, [.ref e0, .int 0, .int 0]))]) (List.perm_append_comm_assoc ([(ln, .inr (6, [.ref e0, .int 0, .int 0]))]) ([(na, .inl (dA 6, 6, .inr (.inr (.inr (.inr (fun _ => none))))))]) ([(a, .inr (13, [.int 264, .int (nI pl), .long nu, .ref na, .int 0, .ref ln, .ref lt, .ref mk]))] ++ (ws)))).trans (List.perm_append_comm_assoc ([(lt, .inr (6, [.ref e0, .int 0, .int 0]))]) ([(na, .inl (dA 6, 6, .inr (.inr (.inr (.inr (fun _ => none))))))]) ([(ln, .inr (6, [.ref e0, .int 0, .int 0]))] ++ ([(a, .inr (13, [.int 264, .int (nI pl), .long nu, .ref na, .int 0, .ref ln, .ref lt, .ref mk]))] ++ (ws)))))).trans (List.perm_append_comm_assoc ([(mk, .inl (dA 1, 2, .inl (fun _ => 0)))]) ([(na, .inl (dA 6, 6, .inr (.inr (.inr (.inr (fun _ => none))))))]) ([(lt, .inr (6, [.ref e0, .int 0, .int 0]))] ++ ([(ln, .inr (6, [.ref e0, .int 0, .int 0]))] ++ ([(a, .inr (13, [.int 264, .int (nI pl), .long nu, .ref na, .int 0, .ref ln, .ref lt, .ref mk]))] ++ (ws)))))) hP
  have hD := pmD (show List.Perm (α := Nat × va_E) ([(mk, .inl (dA 1, 2, .inl (fun _ => 0)))] ++ ([(lt, .inr (6, [.ref e0, .int 0, .int 0]))] ++ ([(ln, .inr (6, [.ref e0, .int 0, .int 0]))] ++ ([(na, .inl (dA 6, 6, .inr (.inr (.inr (.inr (fun _ => none))))))] ++ ([(a, .inr (13, [.int 264, .int (nI pl), .long nu, .ref na, .int 0, .ref ln, .ref lt, .ref mk]))] ++ (ws)))))) ([(na, .inl (dA 6, 6, .inr (.inr (.inr (.inr (fun _ => none))))))] ++ ([(mk, .inl (dA 1, 2, .inl (fun _ => 0)))] ++ ([(lt, .inr (6, [.ref e0, .int 0, .int 0]))] ++ ([(ln, .inr (6, [.ref e0, .int 0, .int 0]))] ++ ([(a, .inr (13, [.int 264, .int (nI pl), .long nu, .ref na, .int 0, .ref ln, .ref lt, .ref mk]))] ++ (ws)))))) from (List.Perm.append_left ([(mk, .inl (dA 1, 2, .inl (fun _ => 0)))]) ((List.Perm.append_left ([(lt, .inr (6, [.ref e0, .int 0, .int 0]))]) (List.perm_append_comm_assoc ([(ln, .inr (6, [.ref e0, .int 0, .int 0]))]) ([(na, .inl (dA 6, 6, .inr (.inr (.inr (.inr (fun _ => none))))))]) ([(a, .inr (13, [.int 264, .int (nI pl), .long nu, .ref na, .int 0, .ref ln, .ref lt, .ref mk]))] ++ (ws)))).trans (List.perm_append_comm_assoc ([(lt, .inr (6, [.ref e0, .int 0, .int 0]))]) ([(na, .inl (dA 6, 6, .inr (.inr (.inr (.inr (fun _ => none))))))]) ([(ln, .inr (6, [.ref e0, .int 0, .int 0]))] ++ ([(a, .inr (13, [.int 264, .int (nI pl), .long nu, .ref na, .int 0, .ref ln, .ref lt, .ref mk]))] ++ (ws)))))).trans (List.perm_append_comm_assoc ([(mk, .inl (dA 1, 2, .inl (fun _ => 0)))]) ([(na, .inl (dA 6, 6, .inr (.inr (.inr (.inr (fun _ => none))))))]) ([(lt, .inr (6, [.ref e0, .int 0, .int 0]))] ++ ([(ln, .inr (6, [.ref e0, .int 0, .int 0]))] ++ ([(a, .inr (13, [.int 264, .int (nI pl), .long nu, .ref na, .int 0, .ref ln, .ref lt, .ref mk]))] ++ (ws)))))) hD
  have hP := pmP (show List.Perm (α := Nat × va_E) ([(na, .inl (dA 6, 6, .inr (.inr (.inr (.inr (fun _ => none))))))] ++ ([(mk, .inl (dA 1, 2, .inl (fun _ => 0)))] ++ ([(lt, .inr (6, [.ref e0, .int 0, .int 0]))] ++ ([(ln, .inr (6, [.ref e0, .int 0, .int 0]))] ++ ([(a, .inr (13, [.int 264, .int (nI pl), .long nu, .ref na, .int 0, .ref ln, .ref lt, .ref mk]))] ++ (ws)))))) ([(na, .inl (dA 6, 6, .inr (.inr (.inr (.inr (fun _ => none))))))] ++ ([(ln, .inr (6, [.ref e0, .int 0, .int 0]))] ++ ([(mk, .inl (dA 1, 2, .inl (fun _ => 0)))] ++ ([(lt, .inr (6, [.ref e0, .int 0, .int 0]))] ++ ([(a, .inr (13, [.int 264, .int (nI pl), .long nu, .ref na, .int 0, .ref ln, .ref lt, .ref mk]))] ++ (ws)))))) from List.Perm.append_left ([(na, .inl (dA 6, 6, .inr (.inr (.inr (.inr (fun _ => none))))))]) ((List.Perm.append_left ([(mk, .inl (dA 1, 2, .inl (fun _ => 0)))]) (List.perm_append_comm_assoc ([(lt, .inr (6, [.ref e0, .int 0, .int 0]))]) ([(ln, .inr (6, [.ref e0, .int 0, .int 0]))]) ([(a, .inr (13, [.int 264, .int (nI pl), .long nu, .ref na, .int 0, .ref ln, .ref lt, .ref mk]))] ++ (ws)))).trans (List.perm_append_comm_assoc ([(mk, .inl (dA 1, 2, .inl (fun _ => 0)))]) ([(ln, .inr (6, [.ref e0, .int 0, .int 0]))]) ([(lt, .inr (6, [.ref e0, .int 0, .int 0]))] ++ ([(a, .inr (13, [.int 264, .int (nI pl), .long nu, .ref na, .int 0, .ref ln, .ref lt, .ref mk]))] ++ (ws)))))) hP
  have hD := pmD (show List.Perm (α := Nat × va_E) ([(na, .inl (dA 6, 6, .inr (.inr (.inr (.inr (fun _ => none))))))] ++ ([(mk, .inl (dA 1, 2, .inl (fun _ => 0)))] ++ ([(lt, .inr (6, [.ref e0, .int 0, .int 0]))] ++ ([(ln, .inr (6, [.ref e0, .int 0, .int 0]))] ++ ([(a, .inr (13, [.int 264, .int (nI pl), .long nu, .ref na, .int 0, .ref ln, .ref lt, .ref mk]))] ++ (ws)))))) ([(na, .inl (dA 6, 6, .inr (.inr (.inr (.inr (fun _ => none))))))] ++ ([(ln, .inr (6, [.ref e0, .int 0, .int 0]))] ++ ([(mk, .inl (dA 1, 2, .inl (fun _ => 0)))] ++ ([(lt, .inr (6, [.ref e0, .int 0, .int 0]))] ++ ([(a, .inr (13, [.int 264, .int (nI pl), .long nu, .ref na, .int 0, .ref ln, .ref lt, .ref mk]))] ++ (ws)))))) from List.Perm.append_left ([(na, .inl (dA 6, 6, .inr (.inr (.inr (.inr (fun _ => none))))))]) ((List.Perm.append_left ([(mk, .inl (dA 1, 2, .inl (fun _ => 0)))]) (List.perm_append_comm_assoc ([(lt, .inr (6, [.ref e0, .int 0, .int 0]))]) ([(ln, .inr (6, [.ref e0, .int 0, .int 0]))]) ([(a, .inr (13, [.int 264, .int (nI pl), .long nu, .ref na, .int 0, .ref ln, .ref lt, .ref mk]))] ++ (ws)))).trans (List.perm_append_comm_assoc ([(mk, .inl (dA 1, 2, .inl (fun _ => 0)))]) ([(ln, .inr (6, [.ref e0, .int 0, .int 0]))]) ([(lt, .inr (6, [.ref e0, .int 0, .int 0]))] ++ ([(a, .inr (13, [.int 264, .int (nI pl), .long nu, .ref na, .int 0, .ref ln, .ref lt, .ref mk]))] ++ (ws)))))) hD
  have hP := pmP (show List.Perm (α := Nat × va_E) ([(na, .inl (dA 6, 6, .inr (.inr (.inr (.inr (fun _ => none))))))] ++ ([(ln, .inr (6, [.ref e0, .int 0, .int 0]))] ++ ([(mk, .inl (dA 1, 2, .inl (fun _ => 0)))] ++ ([(lt, .inr (6, [.ref e0, .int 0, .int 0]))] ++ ([(a, .inr (13, [.int 264, .int (nI pl), .long nu, .ref na, .int 0, .ref ln, .ref lt, .ref mk]))] ++ (ws)))))) ([(na, .inl (dA 6, 6, .inr (.inr (.inr (.inr (fun _ => none))))))] ++ ([(ln, .inr (6, [.ref e0, .int 0, .int 0]))] ++ ([(lt, .inr (6, [.ref e0, .int 0, .int 0]))] ++ ([(mk, .inl (dA 1, 2, .inl (fun _ => 0)))] ++ ([(a, .inr (13, [.int 264, .int (nI pl), .long nu, .ref na, .int 0, .ref ln, .ref lt, .ref mk]))] ++ (ws)))))) from List.Perm.append_left ([(na, .inl (dA 6, 6, .inr (.inr (.inr (.inr (fun _ => none))))))]) (List.Perm.append_left ([(ln, .inr (6, [.ref e0, .int 0, .int 0]))]) (List.perm_append_comm_assoc ([(mk, .inl (dA 1, 2, .inl (fun _ => 0)))]) ([(lt, .inr (6, [.ref e0, .int 0, .int 0]))]) ([(a, .inr (13, [.int 264, .int (nI pl), .long nu, .ref na, .int 0, .ref ln, .ref lt, .ref mk]))] ++ (ws))))) hP
  have hD := pmD (show List.Perm (α := Nat × va_E) ([(na, .inl (dA 6, 6, .inr (.inr (.inr (.inr (fun _ => none))))))] ++ ([(ln, .inr (6, [.ref e0, .int 0, .int 0]))] ++ ([(mk, .inl (dA 1, 2, .inl (fun _ => 0)))] ++ ([(lt, .inr (6, [.ref e0, .int 0, .int 0]))] ++ ([(a, .inr (13, [.int 264, .int (nI pl), .long nu, .ref na, .int 0, .ref ln, .ref lt, .ref mk]))] ++ (ws)))))) ([(na, .inl (dA 6, 6, .inr (.inr (.inr (.inr (fun _ => none))))))] ++ ([(ln, .inr (6, [.ref e0, .int 0, .int 0]))] ++ ([(lt, .inr (6, [.ref e0, .int 0, .int 0]))] ++ ([(mk, .inl (dA 1, 2, .inl (fun _ => 0)))] ++ ([(a, .inr (13, [.int 264, .int (nI pl), .long nu, .ref na, .int 0, .ref ln, .ref lt, .ref mk]))] ++ (ws)))))) from List.Perm.append_left ([(na, .inl (dA 6, 6, .inr (.inr (.inr (.inr (fun _ => none))))))]) (List.Perm.append_left ([(ln, .inr (6, [.ref e0, .int 0, .int 0]))]) (List.perm_append_comm_assoc ([(mk, .inl (dA 1, 2, .inl (fun _ => 0)))]) ([(lt, .inr (6, [.ref e0, .int 0, .int 0]))]) ([(a, .inr (13, [.int 264, .int (nI pl), .long nu, .ref na, .int 0, .ref ln, .ref lt, .ref mk]))] ++ (ws))))) hD
  exact rfV hx hb hr hlk hS (⟨na, ln, lt, mk⟩) trivial hP hD (show 0 + 1 + 1 + 0 + 1 + 0 + 1 ≤ 4 by omega) (show 0 + 6 + 3 + 0 + 3 + 0 + 2 ≤ 14 by omega) d_E_init_89
theorem d_E_init_30 : decode prog_10_method_1_code 30 = .ok (.iconst 0, 1) := by decide +kernel
theorem d_E_init_44 : decode prog_10_method_1_code 44 = .ok (.iconst 0, 1) := by decide +kernel
theorem d_E_init_83 : decode prog_10_method_1_code 83 = .ok (.iconst 0, 1) := by decide +kernel
set_option maxHeartbeats 4000000 in
set_option maxRecDepth 100000 in
theorem v_Einit_o (l : Launch) (D : va_G) (dA : Nat → ClassId) (sz : Nat) (e0 mi : Nat) (ws : va_W) (a : Nat) (kd : Int32) (pl : Nat) (nu : Int64) (hk : ¬ kd = 264) : Met l ⟨"SeriesVault$Step", "<init>", "(IIJ)V"⟩ [Cond.code ⟨"SeriesVault$Step", "<init>", "(IIJ)V"⟩ prog_10_method_1_code 6 none] { frames := 4, cells := 4, slots := 6, locals := 72 } (pCy D dA e0 mi [.ref a, .int kd, .int (nI pl), .long nu] ([(a, .inr (13, [.int 0, .int 0, .long 0, .null, .int 0, .null, .null, .null]))] ++ (ws)) sz) (va_Qv (fun (u9 : Nat × Nat × Nat × Nat) => True) (fun (u9 : Nat × Nat × Nat × Nat) t9 => bW D (va_A ([(a, .inr (13, [.int 0, .int 0, .long 0, .null, .int 0, .null, .null, .null]))] ++ (ws)) sz) ([(u9.1, .inl (dA 6, 0, .inr (.inr (.inr (.inr (fun _ => none))))))] ++ ([(u9.2.1, .inr (6, [.ref e0, .int 0, .int 0]))] ++ ([(u9.2.2.1, .inr (6, [.ref e0, .int 0, .int 0]))] ++ ([(u9.2.2.2, .inl (dA 1, 0, .inl (fun _ => 0)))] ++ ([(a, .inr (13, [.int kd, .int (nI pl), .long nu, .ref u9.1, .int 0, .ref u9.2.1, .ref u9.2.2.1, .ref u9.2.2.2]))] ++ (ws)))))) t9) (va_A ([(a, .inr (13, [.int 0, .int 0, .long 0, .null, .int 0, .null, .null, .null]))] ++ (ws)) sz)) 4 6 (va_A ([(a, .inr (13, [.int 0, .int 0, .long 0, .null, .int 0, .null, .null, .null]))] ++ (ws)) sz) := by
  refine mkY (y := ⟨"SeriesVault$Step", "<init>", "(IIJ)V"⟩) (cc := prog_10_method_1_code) (maxL := 6) (av := [.ref a, .int kd, .int (nI pl), .long nu]) (ws := [(a, .inr (13, [.int 0, .int 0, .long 0, .null, .int 0, .null, .null, .null]))] ++ (ws)) (sz := sz) (Qc := fun A => va_Qv (fun (u9 : Nat × Nat × Nat × Nat) => True) (fun (u9 : Nat × Nat × Nat × Nat) t9 => bW D A ([(u9.1, .inl (dA 6, 0, .inr (.inr (.inr (.inr (fun _ => none))))))] ++ ([(u9.2.1, .inr (6, [.ref e0, .int 0, .int 0]))] ++ ([(u9.2.2.1, .inr (6, [.ref e0, .int 0, .int 0]))] ++ ([(u9.2.2.2, .inl (dA 1, 0, .inl (fun _ => 0)))] ++ ([(a, .inr (13, [.int kd, .int (nI pl), .long nu, .ref u9.1, .int 0, .ref u9.2.1, .ref u9.2.2.1, .ref u9.2.2.2]))] ++ (ws)))))) t9) A) (by decide) (Nat.le_of_ble_eq_true rfl) ?_
  intro A p e s m below meth c ls hsz hZ hT hM hB
  obtain ⟨hx, hb, hr, hml, hown, hin, hlk, hE, hK, hP, hD, hS, hA, hN, hl⟩ := hB
  have hown : s.vm.findClass "SeriesVault$Step" = some m.cls := hown
  have hl : lv_has ls 6 [(0, .ref a), (1, .int kd), (2, .int (nI pl)), (3, .long nu)] := hl
  obtain ⟨H, hH⟩ : ∃ z, z = s.heap := ⟨_, rfl⟩
  have hP : va_P D vwCl ([(a, .inr (13, [.int 0, .int 0, .long 0, .null, .int 0, .null, .null, .null]))] ++ (ws)) H := by rw [hH]; exact hP
  have hS : va_S A s.heap H [] := by rw [hH]; exact hS
  rw [← hH]
  refine lv_aload_n hx hb d_E_init_0 rfl (lv_at hl 0 rfl) ?_
  refine oI hx hb hown hE w1528 w182 w183 (hl.1.trans hml.symm) d_E_init_1 (Nat.le_of_ble_eq_true rfl) (Nat.le_of_ble_eq_true rfl) ?_
  refine lv_aload_n hx hb d_E_init_4 rfl (lv_at hl 0 rfl) ?_
  refine lv_iload_n hx hb d_E_init_5 rfl (lv_at hl 1 rfl) ?_
  refine pFF (v := .int kd) hx hb hown hE hK hP hD hS 0 rfl rfl layE tyE tokE nmE 0 (by decide) w1529 rfl hin rfl rfl rfl (Nat.le_of_ble_eq_true rfl) d_E_init_6 (fun H locs hP hD hS => ?_)
  have hP : va_P D vwCl ([(a, .inr (13, [.int kd, .int 0, .long 0, .null, .int 0, .null, .null, .null]))] ++ (ws)) H := hP
  have hD : va_D A ([(a, .inr (13, [.int kd, .int 0, .long 0, .null, .int 0, .null, .null, .null]))] ++ (ws)) := hD
  refine lv_aload_n hx hb d_E_init_9 rfl (lv_at hl 0 rfl) ?_
  refine lv_iload_n hx hb d_E_init_10 rfl (lv_at hl 2 rfl) ?_
  refine pFF (v := .int (nI pl)) hx hb hown hE hK hP hD hS 0 rfl rfl layE tyE tokE nmE 1 (by decide) w1530 rfl hin rfl rfl rfl (Nat.le_of_ble_eq_true rfl) d_E_init_11 (fun H locs hP hD hS => ?_)
  have hP : va_P D vwCl ([(a, .inr (13, [.int kd, .int (nI pl), .long 0, .null, .int 0, .null, .null, .null]))] ++ (ws)) H := hP
  have hD : va_D A ([(a, .inr (13, [.int kd, .int (nI pl), .long 0, .null, .int 0, .null, .null, .null]))] ++ (ws)) := hD
  refine lv_aload_n hx hb d_E_init_14 rfl (lv_at hl 0 rfl) ?_
  refine lv_lload_n hx hb d_E_init_15 rfl (lv_at hl 3 rfl) ?_
  refine pFF (v := .long nu) hx hb hown hE hK hP hD hS 0 rfl rfl layE tyE tokE nmE 2 (by decide) w1531 rfl hin rfl rfl rfl (Nat.le_of_ble_eq_true rfl) d_E_init_16 (fun H locs hP hD hS => ?_)
  have hP : va_P D vwCl ([(a, .inr (13, [.int kd, .int (nI pl), .long nu, .null, .int 0, .null, .null, .null]))] ++ (ws)) H := hP
  have hD : va_D A ([(a, .inr (13, [.int kd, .int (nI pl), .long nu, .null, .int 0, .null, .null, .null]))] ++ (ws)) := hD
  refine lv_iload_n hx hb d_E_init_19 rfl (lv_at hl 1 rfl) ?_
  refine lv_sipush (v := 264) hx hb d_E_init_20 (by decide) ?_
  refine lv_icmp_ne hx hb d_E_init_23 (tgt := 30) rfl (fun _ => ?_) (fun h9 => absurd h9 hk)
  refine lv_iconst (v := 0) hx hb d_E_init_30 (by decide) ?_
  refine lv_istore hx hb d_E_init_31 hl (by decide) rfl (fun ls hl => ?_)
  have hl : lv_has ls 6 [(5, .int 0), (0, .ref a), (1, .int kd), (2, .int (nI pl)), (3, .long nu)] := hl
  refine lv_aload_n hx hb d_E_init_33 rfl (lv_at hl 1 rfl) ?_
  refine lv_iload hx hb d_E_init_34 (lv_at hl 0 rfl) ?_
  refine lv_if_eq hx hb d_E_init_36 (tgt := 44) rfl (fun _ => ?_) (fun h9 => absurd (by decide) h9)
  refine lv_iconst (v := 0) hx hb d_E_init_44 (by decide) ?_
  refine nnQ (N' := 0) hx hb hown hE w1492 w783 hK hP hD hS hA 6 rfl (by omega) (show 0 * 4 ≤ 536870912 by omega) (show 0 + 1 ≤ 4 by omega) (show 0 + 0 ≤ 6 by omega) d_E_init_45 (fun na H hP hD hS => ?_)
  have hP : va_P D vwCl ([(na, .inl (dA 6, 0, .inr (.inr (.inr (.inr (fun _ => none))))))] ++ ([(a, .inr (13, [.int kd, .int (nI pl), .long nu, .null, .int 0, .null, .null, .null]))] ++ (ws))) H := hP
  have hD : va_D A ([(na, .inl (dA 6, 0, .inr (.inr (.inr (.inr (fun _ => none))))))] ++ ([(a, .inr (13, [.int kd, .int (nI pl), .long nu, .null, .int 0, .null, .null, .null]))] ++ (ws))) := hD
  refine pFF (v := .ref na) hx hb hown hE hK hP hD hS 1 rfl rfl layE tyE tokE nmE 3 (by decide) w1532 rfl hin rfl rfl rfl (Nat.le_of_ble_eq_true rfl) d_E_init_48 (fun H locs hP hD hS => ?_)
  have hP : va_P D vwCl ([(na, .inl (dA 6, 0, .inr (.inr (.inr (.inr (fun _ => none))))))] ++ ([(a, .inr (13, [.int kd, .int (nI pl), .long nu, .ref na, .int 0, .null, .null, .null]))] ++ (ws))) H := hP
  have hD : va_D A ([(na, .inl (dA 6, 0, .inr (.inr (.inr (.inr (fun _ => none))))))] ++ ([(a, .inr (13, [.int kd, .int (nI pl), .long nu, .ref na, .int 0, .null, .null, .null]))] ++ (ws))) := hD
  refine lv_aload_n hx hb d_E_init_51 rfl (lv_at hl 1 rfl) ?_
  refine nOf hx hb hown hE hK hP hD hS hA (ci := 6) rfl layL tyL tokL w1533 w792 w680 (fs := [.null, .int 0, .int 0]) dfL (show (0 + 1) + 1 ≤ 4 by omega) (show (0 + 0) + 3 ≤ 6 by omega) d_E_init_52 (fun ln H hP hD hS => ?_)
  have hP : va_P D vwCl ([(ln, .inr (6, [.null, .int 0, .int 0]))] ++ ([(na, .inl (dA 6, 0, .inr (.inr (.inr (.inr (fun _ => none))))))] ++ ([(a, .inr (13, [.int kd, .int (nI pl), .long nu, .ref na, .int 0, .null, .null, .null]))] ++ (ws)))) H := hP
  have hD : va_D A ([(ln, .inr (6, [.null, .int 0, .int 0]))] ++ ([(na, .inl (dA 6, 0, .inr (.inr (.inr (.inr (fun _ => none))))))] ++ ([(a, .inr (13, [.int kd, .int (nI pl), .long nu, .ref na, .int 0, .null, .null, .null]))] ++ (ws)))) := hD
  refine lv_dup hx hb d_E_init_55 rfl ?_
  refine jkV (wr := []) (rnIy (As := []) (rest := [.ref ln, .ref a]) hx hb hml hown hE hK hZ hT hM hS (hN _ _ hS) hP hD (v_Linit l D dA H.size e0 mi ([(na, .inl (dA 6, 0, .inr (.inr (.inr (.inr (fun _ => none))))))] ++ ([(a, .inr (13, [.int kd, .int (nI pl), .long nu, .ref na, .int 0, .null, .null, .null]))] ++ (ws))) ln) w794 w1534 w795 w680 rfl rfl rfl ⟨⟨by decide, by decide⟩, rfl⟩ ⟨(Nat.le_of_ble_eq_true rfl), (Nat.le_of_ble_eq_true rfl)⟩ rfl hl.1 rfl (Nat.le_of_ble_eq_true rfl) d_E_init_56 ⟨(show 0 + 1 + 1 + 0 ≤ 4 by omega), (show 0 + 0 + 3 + 0 ≤ 6 by omega)⟩) hP hD hS hA (fun u2 H locs hp9 hP hD hS => ?_)
  have hP : va_P D vwCl ([(ln, .inr (6, [.ref e0, .int 0, .int 0]))] ++ ([(na, .inl (dA 6, 0, .inr (.inr (.inr (.inr (fun _ => none))))))] ++ ([(a, .inr (13, [.int kd, .int (nI pl), .long nu, .ref na, .int 0, .null, .null, .null]))] ++ (ws)))) H := hP
  have hD : va_D A ([(ln, .inr (6, [.ref e0, .int 0, .int 0]))] ++ ([(na, .inl (dA 6, 0, .inr (.inr (.inr (.inr (fun _ => none))))))] ++ ([(a, .inr (13, [.int kd, .int (nI pl), .long nu, .ref na, .int 0, .null, .null, .null]))] ++ (ws)))) := hD
  refine pFF (v := .ref ln) hx hb hown hE hK hP hD hS 2 rfl rfl layE tyE tokE nmE 5 (by decide) w1482 rfl hin rfl rfl rfl (Nat.le_of_ble_eq_true rfl) d_E_init_59 (fun H locs hP hD hS => ?_)
  have hP : va_P D vwCl ([(ln, .inr (6, [.ref e0, .int 0, .int 0]))] ++ ([(na, .inl (dA 6, 0, .inr (.inr (.inr (.inr (fun _ => none))))))] ++ ([(a, .inr (13, [.int kd, .int (nI pl), .long nu, .ref na, .int 0, .ref ln, .null, .null]))] ++ (ws)))) H := hP
  have hD : va_D A ([(ln, .inr (6, [.ref e0, .int 0, .int 0]))] ++ ([(na, .inl (dA 6, 0, .inr (.inr (.inr (.inr (fun _ => none))))))] ++ ([(a, .inr (13, [.int kd, .int (nI pl), .long nu, .ref na, .int 0, .ref ln, .null, .null]))] ++ (ws)))) := hD
  refine lv_aload_n hx hb d_E_init_62 rfl (lv_at hl 1 rfl) ?_
  refine nOf hx hb hown hE hK hP hD hS hA (ci := 6) rfl layL tyL tokL w1533 w792 w680 (fs := [.null, .int 0, .int 0]) dfL (show (0 + 1 + 1 + 0) + 1 ≤ 4 by omega) (show (0 + 0 + 3 + 0) + 3 ≤ 6 by omega) d_E_init_63 (fun lt H hP hD hS => ?_)
  have hP : va_P D vwCl ([(lt, .inr (6, [.null, .int 0, .int 0]))] ++ ([(ln, .inr (6, [.ref e0, .int 0, .int 0]))] ++ ([(na, .inl (dA 6, 0, .inr (.inr (.inr (.inr (fun _ => none))))))] ++ ([(a, .inr (13, [.int kd, .int (nI pl), .long nu, .ref na, .int 0, .ref ln, .null, .null]))] ++ (ws))))) H := hP
  have hD : va_D A ([(lt, .inr (6, [.null, .int 0, .int 0]))] ++ ([(ln, .inr (6, [.ref e0, .int 0, .int 0]))] ++ ([(na, .inl (dA 6, 0, .inr (.inr (.inr (.inr (fun _ => none))))))] ++ ([(a, .inr (13, [.int kd, .int (nI pl), .long nu, .ref na, .int 0, .ref ln, .null, .null]))] ++ (ws))))) := hD
  refine lv_dup hx hb d_E_init_66 rfl ?_
  refine jkV (wr := []) (rnIy (As := []) (rest := [.ref lt, .ref a]) hx hb hml hown hE hK hZ hT hM hS (hN _ _ hS) hP hD (v_Linit l D dA H.size e0 mi ([(ln, .inr (6, [.ref e0, .int 0, .int 0]))] ++ ([(na, .inl (dA 6, 0, .inr (.inr (.inr (.inr (fun _ => none))))))] ++ ([(a, .inr (13, [.int kd, .int (nI pl), .long nu, .ref na, .int 0, .ref ln, .null, .null]))] ++ (ws)))) lt) w794 w1534 w795 w680 rfl rfl rfl ⟨⟨by decide, by decide⟩, rfl⟩ ⟨(Nat.le_of_ble_eq_true rfl), (Nat.le_of_ble_eq_true rfl)⟩ rfl hl.1 rfl (Nat.le_of_ble_eq_true rfl) d_E_init_67 ⟨(show 0 + 1 + 1 + 0 + 1 + 0 ≤ 4 by omega), (show 0 + 0 + 3 + 0 + 3 + 0 ≤ 6 by omega)⟩) hP hD hS hA (fun u4 H locs hp9 hP hD hS => ?_)
  have hP : va_P D vwCl ([(lt, .inr (6, [.ref e0, .int 0, .int 0]))] ++ ([(ln, .inr (6, [.ref e0, .int 0, .int 0]))] ++ ([(na, .inl (dA 6, 0, .inr (.inr (.inr (.inr (fun _ => none))))))] ++ ([(a, .inr (13, [.int kd, .int (nI pl), .long nu, .ref na, .int 0, .ref ln, .null, .null]))] ++ (ws))))) H := hP
  have hD : va_D A ([(lt, .inr (6, [.ref e0, .int 0, .int 0]))] ++ ([(ln, .inr (6, [.ref e0, .int 0, .int 0]))] ++ ([(na, .inl (dA 6, 0, .inr (.inr (.inr (.inr (fun _ => none))))))] ++ ([(a, .inr (13, [.int kd, .int (nI pl), .long nu, .ref na, .int 0, .ref ln, .null, .null]))] ++ (ws))))) := hD
  refine pFF (v := .ref lt) hx hb hown hE hK hP hD hS 3 rfl rfl layE tyE tokE nmE 6 (by decide) w1494 rfl hin rfl rfl rfl (Nat.le_of_ble_eq_true rfl) d_E_init_70 (fun H locs hP hD hS => ?_)
  have hP : va_P D vwCl ([(lt, .inr (6, [.ref e0, .int 0, .int 0]))] ++ ([(ln, .inr (6, [.ref e0, .int 0, .int 0]))] ++ ([(na, .inl (dA 6, 0, .inr (.inr (.inr (.inr (fun _ => none))))))] ++ ([(a, .inr (13, [.int kd, .int (nI pl), .long nu, .ref na, .int 0, .ref ln, .ref lt, .null]))] ++ (ws))))) H := hP
  have hD : va_D A ([(lt, .inr (6, [.ref e0, .int 0, .int 0]))] ++ ([(ln, .inr (6, [.ref e0, .int 0, .int 0]))] ++ ([(na, .inl (dA 6, 0, .inr (.inr (.inr (.inr (fun _ => none))))))] ++ ([(a, .inr (13, [.int kd, .int (nI pl), .long nu, .ref na, .int 0, .ref ln, .ref lt, .null]))] ++ (ws))))) := hD
  refine lv_aload_n hx hb d_E_init_73 rfl (lv_at hl 1 rfl) ?_
  refine lv_iload hx hb d_E_init_74 (lv_at hl 0 rfl) ?_
  refine lv_if_eq hx hb d_E_init_76 (tgt := 83) rfl (fun _ => ?_) (fun h9 => absurd (by decide) h9)
  refine lv_iconst (v := 0) hx hb d_E_init_83 (by decide) ?_
  refine nnA (atype := .int) (ty := .int) (N' := 0) (a0 := (0, .inl (fun _ => 0))) hx hb hE rfl w184 hK hP hD hS hA 1 rfl (fun _ => rfl) (by omega) (show 0 * 4 ≤ 536870912 by omega) (show (0 + 1 + 1 + 0 + 1 + 0) + 1 ≤ 4 by omega) (show (0 + 0 + 3 + 0 + 3 + 0) + 0 ≤ 6 by omega) d_E_init_84 (fun mk H hP hD hS => ?_)
  have hP : va_P D vwCl ([(mk, .inl (dA 1, 0, .inl (fun _ => 0)))] ++ ([(lt, .inr (6, [.ref e0, .int 0, .int 0]))] ++ ([(ln, .inr (6, [.ref e0, .int 0, .int 0]))] ++ ([(na, .inl (dA 6, 0, .inr (.inr (.inr (.inr (fun _ => none))))))] ++ ([(a, .inr (13, [.int kd, .int (nI pl), .long nu, .ref na, .int 0, .ref ln, .ref lt, .null]))] ++ (ws)))))) H := hP
  have hD : va_D A ([(mk, .inl (dA 1, 0, .inl (fun _ => 0)))] ++ ([(lt, .inr (6, [.ref e0, .int 0, .int 0]))] ++ ([(ln, .inr (6, [.ref e0, .int 0, .int 0]))] ++ ([(na, .inl (dA 6, 0, .inr (.inr (.inr (.inr (fun _ => none))))))] ++ ([(a, .inr (13, [.int kd, .int (nI pl), .long nu, .ref na, .int 0, .ref ln, .ref lt, .null]))] ++ (ws)))))) := hD
  refine pF (v := .ref mk) hx hb hown hE hK hP hD hS 4 rfl rfl layE tyE tokE nmE 7 (by decide) w1487 rfl rfl rfl (Nat.le_of_ble_eq_true rfl) d_E_init_86 (fun H locs hP hD hS => ?_)
  have hP : va_P D vwCl ([(mk, .inl (dA 1, 0, .inl (fun _ => 0)))] ++ ([(lt, .inr (6, [.ref e0, .int 0, .int 0]))] ++ ([(ln, .inr (6, [.ref e0, .int 0, .int 0]))] ++ ([(na, .inl (dA 6, 0, .inr (.inr (.inr (.inr (fun _ => none))))))] ++ ([(a, .inr (13, [.int kd, .int (nI pl), .long nu, .ref na, .int 0, .ref ln, .ref lt, .ref mk]))] ++ (ws)))))) H := hP
  have hD : va_D A ([(mk, .inl (dA 1, 0, .inl (fun _ => 0)))] ++ ([(lt, .inr (6, [.ref e0, .int 0, .int 0]))] ++ ([(ln, .inr (6, [.ref e0, .int 0, .int 0]))] ++ ([(na, .inl (dA 6, 0, .inr (.inr (.inr (.inr (fun _ => none))))))] ++ ([(a, .inr (13, [.int kd, .int (nI pl), .long nu, .ref na, .int 0, .ref ln, .ref lt, .ref mk]))] ++ (ws)))))) := hD
  have hP := pmP (show List.Perm (α := Nat × va_E) ([(mk, .inl (dA 1, 0, .inl (fun _ => 0)))] ++ ([(lt, .inr (6, [.ref e0, .int 0, .int 0]))] ++ ([(ln, .inr (6, [.ref e0, .int 0, .int 0]))] ++ ([(na, .inl (dA 6, 0, .inr (.inr (.inr (.inr (fun _ => none))))))] ++ ([(a, .inr (13, [.int kd, .int (nI pl), .long nu, .ref na, .int 0, .ref ln, .ref lt, .ref mk]))] ++ (ws)))))) ([(na, .inl (dA 6, 0, .inr (.inr (.inr (.inr (fun _ => none))))))] ++ ([(mk, .inl (dA 1, 0, .inl (fun _ => 0)))] ++ ([(lt, .inr (6, [.ref e0, .int 0, .int 0]))] ++ ([(ln, .inr (6, [.ref e0, .int 0, .int 0]))] ++ ([(a, .inr (13, [.int kd, .int (nI pl), .long nu, .ref na, .int 0, .ref ln, .ref lt, .ref mk]))] ++ (ws)))))) from (List.Perm.append_left ([(mk, .inl (dA 1, 0, .inl (fun _ => 0)))]) ((List.Perm.append_left ([(lt, .inr (6, [.ref e0, .int 0, .int 0]))]) (List.perm_append_comm_assoc ([(ln, .inr (6, [.ref e0, .int 0, .int 0]))]) ([(na, .inl (dA 6, 0, .inr (.inr (.inr (.inr (fun _ => none))))))]) ([(a, .inr (13, [.int kd, .int (nI pl), .long nu, .ref na, .int 0, .ref ln, .ref lt, .ref mk]))] ++ (ws)))).trans (List.perm_append_comm_assoc ([(lt, .inr (6, [.ref e0, .int 0, .int 0]))]) ([(na, .inl (dA 6, 0, .inr (.inr (.inr (.inr (fun _ => none))))))]) ([(ln, .inr (6, [.ref e0, .int 0, .int 0]))] ++ ([(a, .inr (13, [.int kd, .int (nI pl), .long nu, .ref na, .int 0, .ref ln, .ref lt, .ref mk]))] ++ (ws)))))).trans (List.perm_append_comm_assoc ([(mk, .inl (dA 1, 0, .inl (fun _ => 0)))]) ([(na, .inl (dA 6, 0, .inr (.inr (.inr (.inr (fun _ => none))))))]) ([(lt, .inr (6, [.ref e0, .int 0, .int 0]))] ++ ([(ln, .inr (6, [.ref e0, .int 0, .int 0]))] ++ ([(a, .inr (13, [.int kd, .int (nI pl), .long nu, .ref na, .int 0, .ref ln, .ref lt, .ref mk]))] ++ (ws)))))) hP
  have hD := pmD (show List.Perm (α := Nat × va_E) ([(mk, .inl (dA 1, 0, .inl (fun _ => 0)))] ++ ([(lt, .inr (6, [.ref e0, .int 0, .int 0]))] ++ ([(ln, .inr (6, [.ref e0, .int 0, .int 0]))] ++ ([(na, .inl (dA 6, 0, .inr (.inr (.inr (.inr (fun _ => none))))))] ++ ([(a, .inr (13, [.int kd, .int (nI pl), .long nu, .ref na, .int 0, .ref ln, .ref lt, .ref mk]))] ++ (ws)))))) ([(na, .inl (dA 6, 0, .inr (.inr (.inr (.inr (fun _ => none))))))] ++ ([(mk, .inl (dA 1, 0, .inl (fun _ => 0)))] ++ ([(lt, .inr (6, [.ref e0, .int 0, .int 0]))] ++ ([(ln, .inr (6, [.ref e0, .int 0, .int 0]))] ++ ([(a, .inr (13, [.int kd, .int (nI pl), .long nu, .ref na, .int 0, .ref ln, .ref lt, .ref mk]))] ++ (ws)))))) from (List.Perm.append_left ([(mk, .inl (dA 1, 0, .inl (fun _ => 0)))]) ((List.Perm.append_left ([(lt, .inr (6, [.ref e0, .int 0, .int 0]))]) (List.perm_append_comm_assoc ([(ln, .inr (6, [.ref e0, .int 0, .int 0]))]) ([(na, .inl (dA 6, 0, .inr (.inr (.inr (.inr (fun _ => none))))))]) ([(a, .inr (13, [.int kd, .int (nI pl), .long nu, .ref na, .int 0, .ref ln, .ref lt, .ref mk]))] ++ (ws)))).trans (List.perm_append_comm_assoc ([(lt, .inr (6, [.ref e0, .int 0, .int 0]))]) ([(na, .inl (dA 6, 0, .inr (.inr (.inr (.inr (fun _ => none))))))]) ([(ln, .inr (6, [.ref e0, .int 0, .int 0]))] ++ ([(a, .inr (13, [.int kd, .int (nI pl), .long nu, .ref na, .int 0, .ref ln, .ref lt, .ref mk]))] ++ (ws)))))).trans (List.perm_append_comm_assoc ([(mk, .inl (dA 1, 0, .inl (fun _ => 0)))]) ([(na, .inl (dA 6, 0, .inr (.inr (.inr (.inr (fun _ => none))))))]) ([(lt, .inr (6, [.ref e0, .int 0, .int 0]))] ++ ([(ln, .inr (6, [.ref e0, .int 0, .int 0]))] ++ ([(a, .inr (13, [.int kd, .int (nI pl), .long nu, .ref na, .int 0, .ref ln, .ref lt, .ref mk]))] ++ (ws)))))) hD
  have hP := pmP (show List.Perm (α := Nat × va_E) ([(na, .inl (dA 6, 0, .inr (.inr (.inr (.inr (fun _ => none))))))] ++ ([(mk, .inl (dA 1, 0, .inl (fun _ => 0)))] ++ ([(lt, .inr (6, [.ref e0, .int 0, .int 0]))] ++ ([(ln, .inr (6, [.ref e0, .int 0, .int 0]))] ++ ([(a, .inr (13, [.int kd, .int (nI pl), .long nu, .ref na, .int 0, .ref ln, .ref lt, .ref mk]))] ++ (ws)))))) ([(na, .inl (dA 6, 0, .inr (.inr (.inr (.inr (fun _ => none))))))] ++ ([(ln, .inr (6, [.ref e0, .int 0, .int 0]))] ++ ([(mk, .inl (dA 1, 0, .inl (fun _ => 0)))] ++ ([(lt, .inr (6, [.ref e0, .int 0, .int 0]))] ++ ([(a, .inr (13, [.int kd, .int (nI pl), .long nu, .ref na, .int 0, .ref ln, .ref lt, .ref mk]))] ++ (ws)))))) from List.Perm.append_left ([(na, .inl (dA 6, 0, .inr (.inr (.inr (.inr (fun _ => none))))))]) ((List.Perm.append_left ([(mk, .inl (dA 1, 0, .inl (fun _ => 0)))]) (List.perm_append_comm_assoc ([(lt, .inr (6, [.ref e0, .int 0, .int 0]))]) ([(ln, .inr (6, [.ref e0, .int 0, .int 0]))]) ([(a, .inr (13, [.int kd, .int (nI pl), .long nu, .ref na, .int 0, .ref ln, .ref lt, .ref mk]))] ++ (ws)))).trans (List.perm_append_comm_assoc ([(mk, .inl (dA 1, 0, .inl (fun _ => 0)))]) ([(ln, .inr (6, [.ref e0, .int 0, .int 0]))]) ([(lt, .inr (6, [.ref e0, .int 0, .int 0]))] ++ ([(a, .inr (13, [.int kd, .int (nI pl), .long nu, .ref na, .int 0, .ref ln, .ref lt, .ref mk]))] ++ (ws)))))) hP
  have hD := pmD (show List.Perm (α := Nat × va_E) ([(na, .inl (dA 6, 0, .inr (.inr (.inr (.inr (fun _ => none))))))] ++ ([(mk, .inl (dA 1, 0, .inl (fun _ => 0)))] ++ ([(lt, .inr (6, [.ref e0, .int 0, .int 0]))] ++ ([(ln, .inr (6, [.ref e0, .int 0, .int 0]))] ++ ([(a, .inr (13, [.int kd, .int (nI pl), .long nu, .ref na, .int 0, .ref ln, .ref lt, .ref mk]))] ++ (ws)))))) ([(na, .inl (dA 6, 0, .inr (.inr (.inr (.inr (fun _ => none))))))] ++ ([(ln, .inr (6, [.ref e0, .int 0, .int 0]))] ++ ([(mk, .inl (dA 1, 0, .inl (fun _ => 0)))] ++ ([(lt, .inr (6, [.ref e0, .int 0, .int 0]))] ++ ([(a, .inr (13, [.int kd, .int (nI pl), .long nu, .ref na, .int 0, .ref ln, .ref lt, .ref mk]))] ++ (ws)))))) from List.Perm.append_left ([(na, .inl (dA 6, 0, .inr (.inr (.inr (.inr (fun _ => none))))))]) ((List.Perm.append_left ([(mk, .inl (dA 1, 0, .inl (fun _ => 0)))]) (List.perm_append_comm_assoc ([(lt, .inr (6, [.ref e0, .int 0, .int 0]))]) ([(ln, .inr (6, [.ref e0, .int 0, .int 0]))]) ([(a, .inr (13, [.int kd, .int (nI pl), .long nu, .ref na, .int 0, .ref ln, .ref lt, .ref mk]))] ++ (ws)))).trans (List.perm_append_comm_assoc ([(mk, .inl (dA 1, 0, .inl (fun _ => 0)))]) ([(ln, .inr (6, [.ref e0, .int 0, .int 0]))]) ([(lt, .inr (6, [.ref e0, .int 0, .int 0]))] ++ ([(a, .inr (13, [.int kd, .int (nI pl), .long nu, .ref na, .int 0, .ref ln, .ref lt, .ref mk]))] ++ (ws)))))) hD
  have hP := pmP (show List.Perm (α := Nat × va_E) ([(na, .inl (dA 6, 0, .inr (.inr (.inr (.inr (fun _ => none))))))] ++ ([(ln, .inr (6, [.ref e0, .int 0, .int 0]))] ++ ([(mk, .inl (dA 1, 0, .inl (fun _ => 0)))] ++ ([(lt, .inr (6, [.ref e0, .int 0, .int 0]))] ++ ([(a, .inr (13, [.int kd, .int (nI pl), .long nu, .ref na, .int 0, .ref ln, .ref lt, .ref mk]))] ++ (ws)))))) ([(na, .inl (dA 6, 0, .inr (.inr (.inr (.inr (fun _ => none))))))] ++ ([(ln, .inr (6, [.ref e0, .int 0, .int 0]))] ++ ([(lt, .inr (6, [.ref e0, .int 0, .int 0]))] ++ ([(mk, .inl (dA 1, 0, .inl (fun _ => 0)))] ++ ([(a, .inr (13, [.int kd, .int (nI pl), .long nu, .ref na, .int 0, .ref ln, .ref lt, .ref mk]))] ++ (ws)))))) from List.Perm.append_left ([(na, .inl (dA 6, 0, .inr (.inr (.inr (.inr (fun _ => none))))))]) (List.Perm.append_left ([(ln, .inr (6, [.ref e0, .int 0, .int 0]))]) (List.perm_append_comm_assoc ([(mk, .inl (dA 1, 0, .inl (fun _ => 0)))]) ([(lt, .inr (6, [.ref e0, .int 0, .int 0]))]) ([(a, .inr (13, [.int kd, .int (nI pl), .long nu, .ref na, .int 0, .ref ln, .ref lt, .ref mk]))] ++ (ws))))) hP
  have hD := pmD (show List.Perm (α := Nat × va_E) ([(na, .inl (dA 6, 0, .inr (.inr (.inr (.inr (fun _ => none))))))] ++ ([(ln, .inr (6, [.ref e0, .int 0, .int 0]))] ++ ([(mk, .inl (dA 1, 0, .inl (fun _ => 0)))] ++ ([(lt, .inr (6, [.ref e0, .int 0, .int 0]))] ++ ([(a, .inr (13, [.int kd, .int (nI pl), .long nu, .ref na, .int 0, .ref ln, .ref lt, .ref mk]))] ++ (ws)))))) ([(na, .inl (dA 6, 0, .inr (.inr (.inr (.inr (fun _ => none))))))] ++ ([(ln, .inr (6, [.ref e0, .int 0, .int 0]))] ++ ([(lt, .inr (6, [.ref e0, .int 0, .int 0]))] ++ ([(mk, .inl (dA 1, 0, .inl (fun _ => 0)))] ++ ([(a, .inr (13, [.int kd, .int (nI pl), .long nu, .ref na, .int 0, .ref ln, .ref lt, .ref mk]))] ++ (ws)))))) from List.Perm.append_left ([(na, .inl (dA 6, 0, .inr (.inr (.inr (.inr (fun _ => none))))))]) (List.Perm.append_left ([(ln, .inr (6, [.ref e0, .int 0, .int 0]))]) (List.perm_append_comm_assoc ([(mk, .inl (dA 1, 0, .inl (fun _ => 0)))]) ([(lt, .inr (6, [.ref e0, .int 0, .int 0]))]) ([(a, .inr (13, [.int kd, .int (nI pl), .long nu, .ref na, .int 0, .ref ln, .ref lt, .ref mk]))] ++ (ws))))) hD
  exact rfV hx hb hr hlk hS (⟨na, ln, lt, mk⟩) trivial hP hD (show 0 + 1 + 1 + 0 + 1 + 0 + 1 ≤ 4 by omega) (show 0 + 0 + 3 + 0 + 3 + 0 + 0 ≤ 6 by omega) d_E_init_89
theorem d_E_mayTakeName_0 : decode prog_10_method_2_code 0 = .ok (.iconst 0, 1) := by decide +kernel
theorem d_E_mayTakeName_1 : decode prog_10_method_2_code 1 = .ok (.istore_n 2, 1) := by decide +kernel
theorem d_E_mayTakeName_2 : decode prog_10_method_2_code 2 = .ok (.iload_n 2, 1) := by decide +kernel
theorem d_E_mayTakeName_3 : decode prog_10_method_2_code 3 = .ok (.aload_n 0, 1) := by decide +kernel
theorem d_E_mayTakeName_4 : decode prog_10_method_2_code 4 = .ok (.getfield 44, 3) := by decide +kernel
theorem d_E_mayTakeName_7 : decode prog_10_method_2_code 7 = .ok (.if_icmp .ge 24, 3) := by decide +kernel
theorem d_E_mayTakeName_31 : decode prog_10_method_2_code 31 = .ok (.aload_n 0, 1) := by decide +kernel
theorem d_E_mayTakeName_32 : decode prog_10_method_2_code 32 = .ok (.getfield 44, 3) := by decide +kernel
theorem d_E_mayTakeName_35 : decode prog_10_method_2_code 35 = .ok (.aload_n 0, 1) := by decide +kernel
theorem d_E_mayTakeName_36 : decode prog_10_method_2_code 36 = .ok (.getfield 26, 3) := by decide +kernel
theorem d_E_mayTakeName_39 : decode prog_10_method_2_code 39 = .ok (.arraylength, 1) := by decide +kernel
theorem d_E_mayTakeName_40 : decode prog_10_method_2_code 40 = .ok (.if_icmp .ge 7, 3) := by decide +kernel
theorem d_E_mayTakeName_47 : decode prog_10_method_2_code 47 = .ok (.iconst 0, 1) := by decide +kernel
theorem d_E_mayTakeName_48 : decode prog_10_method_2_code 48 = .ok (.ireturn, 1) := by decide +kernel
theorem d_E_mayTakeName_43 : decode prog_10_method_2_code 43 = .ok (.iconst 1, 1) := by decide +kernel
theorem d_E_mayTakeName_44 : decode prog_10_method_2_code 44 = .ok (.goto 4, 3) := by decide +kernel
theorem d_E_mayTakeName_10 : decode prog_10_method_2_code 10 = .ok (.aload_n 0, 1) := by decide +kernel
theorem d_E_mayTakeName_11 : decode prog_10_method_2_code 11 = .ok (.getfield 26, 3) := by decide +kernel
theorem d_E_mayTakeName_14 : decode prog_10_method_2_code 14 = .ok (.iload_n 2, 1) := by decide +kernel
theorem d_E_mayTakeName_15 : decode prog_10_method_2_code 15 = .ok (.aaload, 1) := by decide +kernel
theorem d_E_mayTakeName_16 : decode prog_10_method_2_code 16 = .ok (.aload_n 1, 1) := by decide +kernel
theorem d_E_mayTakeName_17 : decode prog_10_method_2_code 17 = .ok (.invokevirtual 47, 3) := by decide +kernel
theorem d_E_mayTakeName_20 : decode prog_10_method_2_code 20 = .ok (.ifCond .eq 5, 3) := by decide +kernel
theorem d_E_mayTakeName_25 : decode prog_10_method_2_code 25 = .ok (.iinc 2 1, 3) := by decide +kernel
theorem d_E_mayTakeName_28 : decode prog_10_method_2_code 28 = .ok (.goto (-26), 3) := by decide +kernel
theorem d_E_mayTakeName_23 : decode prog_10_method_2_code 23 = .ok (.iconst 0, 1) := by decide +kernel
theorem d_E_mayTakeName_24 : decode prog_10_method_2_code 24 = .ok (.ireturn, 1) := by decide +kernel
theorem w1535 : Cond.fieldLink "SeriesVault$Step" 44 "SeriesVault$Step" "nameCount" "I" ∈ aW := aw_of (tb_7 (List.mem_of_getElem? (i := 18) rfl)) rfl
set_option maxHeartbeats 4000000 in
set_option maxRecDepth 100000 in
theorem v_EmayTake (l : Launch) (D : va_G) (dA : Nat → ClassId) (sz : Nat) (ws : va_W) (sp : Nat) (kd : Int32) (pl : Nat) (nu : Int64) (na : Nat) (nn : Nat) (ln : Nat) (lt : Nat) (mk : Nat) (fn : Nat → Option Nat) (wb : Nat) (NL : Nat → List Int32) (M : List Int32) (hnm : nmOk dA ws fn nn NL) (hnn : nn ≤ 6) (hwwb : isWo dA ws wb M) (hlwb : M.length ≤ 65536) : Met l ⟨"SeriesVault$Step", "mayTakeName", "(LSeriesVault$Word;)Z"⟩ [Cond.code ⟨"SeriesVault$Step", "mayTakeName", "(LSeriesVault$Word;)Z"⟩ prog_10_method_2_code 3 (some FieldType.boolean)] { frames := 2, cells := 0, slots := 0, locals := 22 } (pC D dA [.ref sp, .ref wb] ([(sp, .inr (13, [.int kd, .int (nI pl), .long nu, .ref na, .int (nI nn), .ref ln, .ref lt, .ref mk]))] ++ ([(na, .inl (dA 6, 6, .inr (.inr (.inr (.inr fn)))))] ++ (ws))) sz) (va_Qi (fun (r9 : Int32) (u9 : Unit) => r9 = bI (mtB NL nn M)) (fun (u9 : Unit) t9 => bW D (va_A ([(sp, .inr (13, [.int kd, .int (nI pl), .long nu, .ref na, .int (nI nn), .ref ln, .ref lt, .ref mk]))] ++ ([(na, .inl (dA 6, 6, .inr (.inr (.inr (.inr fn)))))] ++ (ws))) sz) ([(sp, .inr (13, [.int kd, .int (nI pl), .long nu, .ref na, .int (nI nn), .ref ln, .ref lt, .ref mk]))] ++ ([(na, .inl (dA 6, 6, .inr (.inr (.inr (.inr fn)))))] ++ (ws))) t9) (va_A ([(sp, .inr (13, [.int kd, .int (nI pl), .long nu, .ref na, .int (nI nn), .ref ln, .ref lt, .ref mk]))] ++ ([(na, .inl (dA 6, 6, .inr (.inr (.inr (.inr fn)))))] ++ (ws))) sz)) 0 0 (va_A ([(sp, .inr (13, [.int kd, .int (nI pl), .long nu, .ref na, .int (nI nn), .ref ln, .ref lt, .ref mk]))] ++ ([(na, .inl (dA 6, 6, .inr (.inr (.inr (.inr fn)))))] ++ (ws))) sz) := by
  refine mkC (y := ⟨"SeriesVault$Step", "mayTakeName", "(LSeriesVault$Word;)Z"⟩) (cc := prog_10_method_2_code) (maxL := 3) (av := [.ref sp, .ref wb]) (ws := [(sp, .inr (13, [.int kd, .int (nI pl), .long nu, .ref na, .int (nI nn), .ref ln, .ref lt, .ref mk]))] ++ ([(na, .inl (dA 6, 6, .inr (.inr (.inr (.inr fn)))))] ++ (ws))) (sz := sz) (Qc := fun A => va_Qi (fun (r9 : Int32) (u9 : Unit) => r9 = bI (mtB NL nn M)) (fun (u9 : Unit) t9 => bW D A ([(sp, .inr (13, [.int kd, .int (nI pl), .long nu, .ref na, .int (nI nn), .ref ln, .ref lt, .ref mk]))] ++ ([(na, .inl (dA 6, 6, .inr (.inr (.inr (.inr fn)))))] ++ (ws))) t9) A) (by decide) (Nat.le_of_ble_eq_true rfl) ?_
  intro A p e s m below meth c ls hsz hB
  obtain ⟨hx, hb, hr, hml, hown, hin, hlk, hE, hK, hP, hD, hS, hA, hN, hl⟩ := hB
  have hown : s.vm.findClass "SeriesVault$Step" = some m.cls := hown
  have hl : lv_has ls 3 [(0, .ref sp), (1, .ref wb)] := hl
  obtain ⟨H, hH⟩ : ∃ z, z = s.heap := ⟨_, rfl⟩
  have hP : va_P D vwCl ([(sp, .inr (13, [.int kd, .int (nI pl), .long nu, .ref na, .int (nI nn), .ref ln, .ref lt, .ref mk]))] ++ ([(na, .inl (dA 6, 6, .inr (.inr (.inr (.inr fn)))))] ++ (ws))) H := by rw [hH]; exact hP
  have hS : va_S A s.heap H [] := by rw [hH]; exact hS
  rw [← hH]
  refine lv_iconst (v := 0) hx hb d_E_mayTakeName_0 (by decide) ?_
  refine lv_istore_n hx hb d_E_mayTakeName_1 rfl hl (by decide) rfl (fun ls hl => ?_)
  have hl : lv_has ls 3 [(2, .int 0), (0, .ref sp), (1, .ref wb)] := hl
  have L2 : ∀ (k9 : Nat) (i : Nat) (i1 : i ≤ nn) (i2 : allB i (nsmB NL M) = true) (hk9 : nn - i = k9), ∀ (H : Heap) (locs : List Loc) (ls : Array Slot) (hP : va_P D vwCl ([(sp, .inr (13, [.int kd, .int (nI pl), .long nu, .ref na, .int (nI nn), .ref ln, .ref lt, .ref mk]))] ++ ([(na, .inl (dA 6, 6, .inr (.inr (.inr (.inr fn)))))] ++ (ws))) H) (hD : va_D A ([(sp, .inr (13, [.int kd, .int (nI pl), .long nu, .ref na, .int (nI nn), .ref ln, .ref lt, .ref mk]))] ++ ([(na, .inl (dA 6, 6, .inr (.inr (.inr (.inr fn)))))] ++ (ws)))) (hS : va_S A s.heap H locs) (hl : lv_has ls 3 [(2, .int (nI i)), (0, .ref sp), (1, .ref wb)]), W p l e ({ frames := 2, cells := 0, slots := 0, locals := 22 } : Room) s m ([.ref sp, .ref wb] : List Value).toArray below meth c H locs 0 0 (MQ below (va_Qi (fun (r9 : Int32) (u9 : Unit) => r9 = bI (mtB NL nn M)) (fun (u9 : Unit) t9 => bW D A ([(sp, .inr (13, [.int kd, .int (nI pl), .long nu, .ref na, .int (nI nn), .ref ln, .ref lt, .ref mk]))] ++ ([(na, .inl (dA 6, 6, .inr (.inr (.inr (.inr fn)))))] ++ (ws))) t9) A) ([.ref sp, .ref wb] : List Value).toArray s 0 0 A) (F0 m 2 ls []) := by
    intro k9
    induction k9 using Nat.strongRecOn with
    | ind k9 ih2 =>
      intro i i1 i2 hk9 H locs ls hP hD hS hl
      refine lv_iload_n hx hb d_E_mayTakeName_2 rfl (lv_at hl 0 rfl) ?_
      refine lv_aload_n hx hb d_E_mayTakeName_3 rfl (lv_at hl 1 rfl) ?_
      refine gF (v := .int (nI nn)) hx hb hown hE hK hP 0 rfl rfl layE 4 (by decide) w1535 rfl d_E_mayTakeName_4 ?_
      refine lv_icmp_ge hx hb d_E_mayTakeName_7 (tgt := 31) rfl (fun g1 => ?_) (fun g1 => ?_)
      · have g1 := (nI_leI (a := nn) (b := i) (by omega) (by omega)).mp g1
        refine lv_aload_n hx hb d_E_mayTakeName_31 rfl (lv_at hl 1 rfl) ?_
        refine gF (v := .int (nI nn)) hx hb hown hE hK hP 0 rfl rfl layE 4 (by decide) w1535 rfl d_E_mayTakeName_32 ?_
        refine lv_aload_n hx hb d_E_mayTakeName_35 rfl (lv_at hl 1 rfl) ?_
        refine gF (v := .ref na) hx hb hown hE hK hP 0 rfl rfl layE 3 (by decide) w1532 rfl d_E_mayTakeName_36 ?_
        refine va_alen (v := 6) hx hb hK hP (1) 6 rfl rfl rfl d_E_mayTakeName_39 ?_
        refine lv_icmp_ge hx hb d_E_mayTakeName_40 (tgt := 47) rfl (fun g2 => ?_) (fun g2 => ?_)
        · have g2 := (nI_leI (a := 6) (b := nn) (by omega) (by omega)).mp g2
          refine lv_iconst (v := 0) hx hb d_E_mayTakeName_47 (by decide) ?_
          exact rfZ hx hb hr (bI_nar false) hlk hS () (by unfold mtB; rw [← show i = nn by omega, i2, Bool.true_and, decide_eq_false (show ¬ i < 6 by omega)]; rfl) hP hD (Nat.le_of_ble_eq_true rfl) (Nat.le_of_ble_eq_true rfl) d_E_mayTakeName_48
        · have g2 := mt (nI_leI (a := 6) (b := nn) (by omega) (by omega)).mpr g2
          refine lv_iconst (v := 1) hx hb d_E_mayTakeName_43 (by decide) ?_
          refine lv_goto hx hb d_E_mayTakeName_44 (tgt := 48) rfl ?_
          exact rfZ hx hb hr (bI_nar true) hlk hS () (by unfold mtB; rw [← show i = nn by omega, i2, Bool.true_and, decide_eq_true (show i < 6 by omega)]; rfl) hP hD (Nat.le_of_ble_eq_true rfl) (Nat.le_of_ble_eq_true rfl) d_E_mayTakeName_48
      · have g1 := mt (nI_leI (a := nn) (b := i) (by omega) (by omega)).mpr g1
        refine lv_aload_n hx hb d_E_mayTakeName_10 rfl (lv_at hl 1 rfl) ?_
        obtain ⟨p1, ep1, wp1, lp1⟩ := hnm i (by omega)
        have wpc := wp1
        obtain ⟨bp1, fp1, kp1, -⟩ := wpc
        refine gF (v := .ref na) hx hb hown hE hK hP 0 rfl rfl layE 3 (by decide) w1532 rfl d_E_mayTakeName_11 ?_
        refine lv_iload_n hx hb d_E_mayTakeName_14 rfl (lv_at hl 0 rfl) ?_
        refine nqld (f := fn) (n := 6) hx hb hK hP (1) 6 rfl rfl (i) (by omega) (by decide) ep1 d_E_mayTakeName_15 ?_
        refine lv_aload_n hx hb d_E_mayTakeName_16 rfl (lv_at hl 2 rfl) ?_
        obtain ⟨qp3, ep4⟩ := List.getElem?_of_mem (show ((p1, .inr (10, [.ref bp1])) : Nat × va_E) ∈ [(sp, .inr (13, [.int kd, .int (nI pl), .long nu, .ref na, .int (nI nn), .ref ln, .ref lt, .ref mk]))] ++ ([(na, .inl (dA 6, 6, .inr (.inr (.inr (.inr fn)))))] ++ (ws)) from (List.mem_append_right _ (List.mem_append_right _ kp1)))
        refine jkI (wr := []) (rnV (As := [.ref wb]) (rest := []) hx hb hml hown hE hK (hN _ _ hS) hP hD (v_Wsame l D dA H.size ([(sp, .inr (13, [.int kd, .int (nI pl), .long nu, .ref na, .int (nI nn), .ref ln, .ref lt, .ref mk]))] ++ ([(na, .inl (dA 6, 6, .inr (.inr (.inr (.inr fn)))))] ++ (ws))) p1 (NL i) wb M (isWo_m (fun _ hm => (List.mem_append_right _ (List.mem_append_right _ hm))) wp1) lp1 (isWo_m (fun _ hm => (List.mem_append_right _ (List.mem_append_right _ hm))) hwwb) hlwb) (q0 := qp3) ep4 rfl w1282 w1477 w1283 w1284 w1281 rfl rfl ⟨⟨by decide, by decide⟩, rfl⟩ ⟨(Nat.le_of_ble_eq_true rfl), (Nat.le_of_ble_eq_true rfl)⟩ rfl hl.1 rfl (Nat.le_of_ble_eq_true rfl) d_E_mayTakeName_17 ⟨(Nat.le_of_ble_eq_true rfl), (Nat.le_of_ble_eq_true rfl)⟩) hP hD hS hA (fun r5 u6 H locs hp9 hP hD hS => ?_)
        have hP : va_P D vwCl ([(sp, .inr (13, [.int kd, .int (nI pl), .long nu, .ref na, .int (nI nn), .ref ln, .ref lt, .ref mk]))] ++ ([(na, .inl (dA 6, 6, .inr (.inr (.inr (.inr fn)))))] ++ (ws))) H := hP
        have hD : va_D A ([(sp, .inr (13, [.int kd, .int (nI pl), .long nu, .ref na, .int (nI nn), .ref ln, .ref lt, .ref mk]))] ++ ([(na, .inl (dA 6, 6, .inr (.inr (.inr (.inr fn)))))] ++ (ws))) := hD
        replace hp9 : bI (sameW (NL i) M) = r5 := Eq.symm hp9
        subst hp9
        refine lv_if_eq hx hb d_E_mayTakeName_20 (tgt := 25) rfl (fun g7 => ?_) (fun g7 => ?_)
        · have g7 := bI_0 g7
          refine lv_iinc (k := 0) (v := nI (i + 1)) hx hb d_E_mayTakeName_25 hl rfl (iincN (i) 1 1 (by decide)) (by decide) rfl (fun ls hl => ?_)
          have hl : lv_has ls 3 [(2, .int (nI (i + 1))), (0, .ref sp), (1, .ref wb)] := hl
          refine lv_goto hx hb d_E_mayTakeName_28 (tgt := 2) rfl ?_
          exact ih2 _ (by omega) (i + 1) (by omega) (by rw [allB_s, i2, Bool.true_and]; show (!sameW (NL i) M) = true; rw [g7]; rfl) rfl H _ ls hP hD hS (lv_sub hl [0, 1, 2] rfl)
        · have g7 := bI_n0 g7
          refine lv_iconst (v := 0) hx hb d_E_mayTakeName_23 (by decide) ?_
          exact rfZ hx hb hr (bI_nar false) hlk hS () (by unfold mtB; rw [allB_1 (f := nsmB NL M) (k := i) (n := nn) (by omega) (show (!sameW (NL i) M) = false by rw [g7]; rfl), Bool.false_and]; rfl) hP hD (Nat.le_of_ble_eq_true rfl) (Nat.le_of_ble_eq_true rfl) d_E_mayTakeName_24
  exact L2 _ 0 (Nat.zero_le _) rfl rfl H _ ls hP hD hS (lv_sub hl [0, 1, 2] rfl)
theorem d_E_addName_0 : decode prog_10_method_3_code 0 = .ok (.aload_n 0, 1) := by decide +kernel
theorem d_E_addName_1 : decode prog_10_method_3_code 1 = .ok (.getfield 26, 3) := by decide +kernel
theorem d_E_addName_4 : decode prog_10_method_3_code 4 = .ok (.aload_n 0, 1) := by decide +kernel
theorem d_E_addName_5 : decode prog_10_method_3_code 5 = .ok (.getfield 44, 3) := by decide +kernel
theorem d_E_addName_8 : decode prog_10_method_3_code 8 = .ok (.aload_n 1, 1) := by decide +kernel
theorem d_E_addName_9 : decode prog_10_method_3_code 9 = .ok (.aastore, 1) := by decide +kernel
theorem d_E_addName_10 : decode prog_10_method_3_code 10 = .ok (.aload_n 0, 1) := by decide +kernel
theorem d_E_addName_11 : decode prog_10_method_3_code 11 = .ok (.dup, 1) := by decide +kernel
theorem d_E_addName_12 : decode prog_10_method_3_code 12 = .ok (.getfield 44, 3) := by decide +kernel
theorem d_E_addName_15 : decode prog_10_method_3_code 15 = .ok (.iconst 1, 1) := by decide +kernel
theorem d_E_addName_16 : decode prog_10_method_3_code 16 = .ok (.iadd, 1) := by decide +kernel
theorem d_E_addName_17 : decode prog_10_method_3_code 17 = .ok (.putfield 44, 3) := by decide +kernel
theorem d_E_addName_20 : decode prog_10_method_3_code 20 = .ok (.return_, 1) := by decide +kernel
set_option maxHeartbeats 4000000 in
set_option maxRecDepth 100000 in
theorem v_EaddName (l : Launch) (D : va_G) (dA : Nat → ClassId) (sz : Nat) (ws : va_W) (sp : Nat) (kd : Int32) (pl : Nat) (nu : Int64) (na : Nat) (nn : Nat) (ln : Nat) (lt : Nat) (mk : Nat) (fn : Nat → Option Nat) (wb : Nat) (M : List Int32) (hnn : nn < 6) (hwwb : isWo dA ws wb M) : Met l ⟨"SeriesVault$Step", "addName", "(LSeriesVault$Word;)V"⟩ [Cond.code ⟨"SeriesVault$Step", "addName", "(LSeriesVault$Word;)V"⟩ prog_10_method_3_code 2 none] { frames := 1, cells := 0, slots := 0, locals := 0 } (pC D dA [.ref sp, .ref wb] ([(sp, .inr (13, [.int kd, .int (nI pl), .long nu, .ref na, .int (nI nn), .ref ln, .ref lt, .ref mk]))] ++ ([(na, .inl (dA 6, 6, .inr (.inr (.inr (.inr fn)))))] ++ (ws))) sz) (va_Qv (fun (u9 : Unit) => True) (fun (u9 : Unit) t9 => bW D (va_A ([(sp, .inr (13, [.int kd, .int (nI pl), .long nu, .ref na, .int (nI nn), .ref ln, .ref lt, .ref mk]))] ++ ([(na, .inl (dA 6, 6, .inr (.inr (.inr (.inr fn)))))] ++ (ws))) sz) ([(sp, .inr (13, [.int kd, .int (nI pl), .long nu, .ref na, .int (nI (nn + 1)), .ref ln, .ref lt, .ref mk]))] ++ ([(na, .inl (dA 6, 6, .inr (.inr (.inr (.inr (va_up fn nn (some wb)))))))] ++ (ws))) t9) (va_A ([(sp, .inr (13, [.int kd, .int (nI pl), .long nu, .ref na, .int (nI nn), .ref ln, .ref lt, .ref mk]))] ++ ([(na, .inl (dA 6, 6, .inr (.inr (.inr (.inr fn)))))] ++ (ws))) sz)) 0 0 (va_A ([(sp, .inr (13, [.int kd, .int (nI pl), .long nu, .ref na, .int (nI nn), .ref ln, .ref lt, .ref mk]))] ++ ([(na, .inl (dA 6, 6, .inr (.inr (.inr (.inr fn)))))] ++ (ws))) sz) := by
  refine mkC (y := ⟨"SeriesVault$Step", "addName", "(LSeriesVault$Word;)V"⟩) (cc := prog_10_method_3_code) (maxL := 2) (av := [.ref sp, .ref wb]) (ws := [(sp, .inr (13, [.int kd, .int (nI pl), .long nu, .ref na, .int (nI nn), .ref ln, .ref lt, .ref mk]))] ++ ([(na, .inl (dA 6, 6, .inr (.inr (.inr (.inr fn)))))] ++ (ws))) (sz := sz) (Qc := fun A => va_Qv (fun (u9 : Unit) => True) (fun (u9 : Unit) t9 => bW D A ([(sp, .inr (13, [.int kd, .int (nI pl), .long nu, .ref na, .int (nI (nn + 1)), .ref ln, .ref lt, .ref mk]))] ++ ([(na, .inl (dA 6, 6, .inr (.inr (.inr (.inr (va_up fn nn (some wb)))))))] ++ (ws))) t9) A) (by decide) (Nat.le_of_ble_eq_true rfl) ?_
  intro A p e s m below meth c ls hsz hB
  obtain ⟨hx, hb, hr, hml, hown, hin, hlk, hE, hK, hP, hD, hS, hA, hN, hl⟩ := hB
  have hown : s.vm.findClass "SeriesVault$Step" = some m.cls := hown
  have hl : lv_has ls 2 [(0, .ref sp), (1, .ref wb)] := hl
  obtain ⟨H, hH⟩ : ∃ z, z = s.heap := ⟨_, rfl⟩
  have hP : va_P D vwCl ([(sp, .inr (13, [.int kd, .int (nI pl), .long nu, .ref na, .int (nI nn), .ref ln, .ref lt, .ref mk]))] ++ ([(na, .inl (dA 6, 6, .inr (.inr (.inr (.inr fn)))))] ++ (ws))) H := by rw [hH]; exact hP
  have hS : va_S A s.heap H [] := by rw [hH]; exact hS
  rw [← hH]
  have wbc := hwwb
  obtain ⟨bwb, fwb, kwb, -⟩ := wbc
  refine lv_aload_n hx hb d_E_addName_0 rfl (lv_at hl 0 rfl) ?_
  refine gF (v := .ref na) hx hb hown hE hK hP 0 rfl rfl layE 3 (by decide) w1532 rfl d_E_addName_1 ?_
  refine lv_aload_n hx hb d_E_addName_4 rfl (lv_at hl 0 rfl) ?_
  refine gF (v := .int (nI nn)) hx hb hown hE hK hP 0 rfl rfl layE 4 (by decide) w1535 rfl d_E_addName_5 ?_
  refine lv_aload_n hx hb d_E_addName_8 rfl (lv_at hl 1 rfl) ?_
  obtain ⟨qp1, ep2⟩ := List.getElem?_of_mem (show ((wb, .inr (10, [.ref bwb])) : Nat × va_E) ∈ [(sp, .inr (13, [.int kd, .int (nI pl), .long nu, .ref na, .int (nI nn), .ref ln, .ref lt, .ref mk]))] ++ ([(na, .inl (dA 6, 6, .inr (.inr (.inr (.inr fn)))))] ++ (ws)) from (List.mem_append_right _ (List.mem_append_right _ kwb)))
  refine nqst (r := ("SeriesVault$Word", TW, 1)) (f := fn) (n := 6) hx hb hK hP hD hS (1) 6 (qp1) 10 rfl rfl ep2 rfl (nn) (by omega) (by decide) d_E_addName_9 (fun H locs hP hD hS => ?_)
  have hP : va_P D vwCl ([(sp, .inr (13, [.int kd, .int (nI pl), .long nu, .ref na, .int (nI nn), .ref ln, .ref lt, .ref mk]))] ++ ([(na, .inl (dA 6, 6, .inr (.inr (.inr (.inr (va_up fn nn (some wb)))))))] ++ (ws))) H := hP
  have hD : va_D A ([(sp, .inr (13, [.int kd, .int (nI pl), .long nu, .ref na, .int (nI nn), .ref ln, .ref lt, .ref mk]))] ++ ([(na, .inl (dA 6, 6, .inr (.inr (.inr (.inr (va_up fn nn (some wb)))))))] ++ (ws))) := hD
  refine lv_aload_n hx hb d_E_addName_10 rfl (lv_at hl 0 rfl) ?_
  refine lv_dup hx hb d_E_addName_11 rfl ?_
  refine gF (v := .int (nI nn)) hx hb hown hE hK hP 0 rfl rfl layE 4 (by decide) w1535 rfl d_E_addName_12 ?_
  refine lv_iconst (v := 1) hx hb d_E_addName_15 (by decide) ?_
  refine lv_iadd hx hb d_E_addName_16 (tpi (y := nI (nn + 1)) (nI_add (nn) (1)) ?_)
  refine pF (v := .int (nI (nn + 1))) hx hb hown hE hK hP hD hS 0 rfl rfl layE tyE tokE nmE 4 (by decide) w1535 rfl rfl rfl (Nat.le_of_ble_eq_true rfl) d_E_addName_17 (fun H locs hP hD hS => ?_)
  have hP : va_P D vwCl ([(sp, .inr (13, [.int kd, .int (nI pl), .long nu, .ref na, .int (nI (nn + 1)), .ref ln, .ref lt, .ref mk]))] ++ ([(na, .inl (dA 6, 6, .inr (.inr (.inr (.inr (va_up fn nn (some wb)))))))] ++ (ws))) H := hP
  have hD : va_D A ([(sp, .inr (13, [.int kd, .int (nI pl), .long nu, .ref na, .int (nI (nn + 1)), .ref ln, .ref lt, .ref mk]))] ++ ([(na, .inl (dA 6, 6, .inr (.inr (.inr (.inr (va_up fn nn (some wb)))))))] ++ (ws))) := hD
  exact rfV hx hb hr hlk hS () trivial hP hD (Nat.le_of_ble_eq_true rfl) (Nat.le_of_ble_eq_true rfl) d_E_addName_20
end
