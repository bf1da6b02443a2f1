def MS.recS (x : MS) (kd : Int32) (w : Nat) (a b : Int64) (n : Nat) : MS := MS.s_fresh (MS.s_used (MS.s_block (MS.s_kept (MS.s_records (MS.s_recordBlocks (MS.s_units (MS.s_seconds (MS.s_firsts (MS.s_recordSeries (MS.s_kinds (MS.s_written (MS.s_cutLeft x (x.rCut n)) (x.rWr n)) (va_up x.kinds x.records kd)) (va_up x.recordSeries x.records w)) (va_up x.firsts x.records a)) (va_up x.seconds x.records b)) (va_up x.units x.records n)) (va_up x.recordBlocks x.records (x.rBlock n))) (x.records + 1)) (x.rKept n)) (x.rBlock n)) (x.rUsed n)) true
def MS.comS (x : MS) (w : Nat) (a b : Int64) : MS := MS.s_points (MS.s_baseHidden (MS.s_hidden (MS.s_places (MS.s_pointValues (MS.s_pointTimes (MS.s_pointSeries (MS.s_lasts x (va_up x.lasts w a)) (va_up x.pointSeries x.points w)) (va_up x.pointTimes x.points a)) (va_up x.pointValues x.points b)) (va_up x.places x.points (-1))) (va_up x.hidden x.points (-1))) (va_up x.baseHidden x.points (-1))) (x.points + 1)
def MS.goS (x : MS) (w : Nat) (a b : Int64) : MS := MS.s_deletes (MS.s_hidden (MS.s_places x (mapT x.points (x.hit w a b) x.gP x.places)) (mapT x.points (x.hit w a b) x.gH x.hidden)) (x.deletes + 1)
def MS.canR (x : MS) (n : Nat) : Prop := x.used + n ≤ 126 ∨ x.fresh = false ∨ ¬ x.cutLeft = 0
set_option maxHeartbeats 4000000 in
set_option maxRecDepth 100000 in
theorem k_append_1 (l : Launch) (D : va_G) (dA : Nat → ClassId) (sz : Nat) (h : Nat) (ad : Nat → Nat) (x : MS) (z : Int32) (a : Int64) (b : Int64) (ho : x.on = false) : Met l ⟨"SeriesVaultModel", "append", "(IJJ)I"⟩ [Cond.code ⟨"SeriesVaultModel", "append", "(IJJ)I"⟩ prog_14_method_34_code 6 (some FieldType.int)] { frames := 2, cells := 0, slots := 0, locals := 21 } (pC D dA [.ref h, .int z, .long a, .long b] (MW dA h ad x) sz) (va_Qi (fun (r9 : Int32) (u9 : Unit) => r9 = 0) (fun (u9 : Unit) t9 => bW D (va_A (MW dA h ad x) sz) (MW dA h ad (MS.s_cod x 1)) t9) (va_A (MW dA h ad x) sz)) 0 0 (va_A (MW dA h ad x) sz) := by
  refine mkC (y := ⟨"SeriesVaultModel", "append", "(IJJ)I"⟩) (cc := prog_14_method_34_code) (maxL := 6) (av := [.ref h, .int z, .long a, .long b]) (ws := MW dA h ad x) (sz := sz) (Qc := fun A => va_Qi (fun (r9 : Int32) (u9 : Unit) => r9 = 0) (fun (u9 : Unit) t9 => bW D A (MW dA h ad (MS.s_cod x 1)) t9) A) (by decide) (Nat.le_of_ble_eq_true rfl) ?_
  intro A p e s m below meth c ls hsz hB
  obtain ⟨hx, hb, hr, hml, hown, hin, hlk, hE, hK, hP, hD, hS, hA, hN, hl⟩ := hB
  have hown : s.vm.findClass "SeriesVaultModel" = some m.cls := hown
  have hl : lv_has ls 6 [(0, .ref h), (1, .int z), (2, .long a), (4, .long b)] := hl
  obtain ⟨H, hH⟩ : ∃ z, z = s.heap := ⟨_, rfl⟩
  have hP : va_P D vwCl (MW dA h ad x) H := by rw [hH]; exact hP
  have hS : va_S A s.heap H [] := by rw [hH]; exact hS
  rw [← hH]
  refine lv_aload_n hx hb d_M_append_0 rfl (lv_at hl 0 rfl) ?_
  refine lv_aload_n hx hb d_M_append_1 rfl (lv_at hl 0 rfl) ?_
  refine lv_iload_n hx hb d_M_append_2 rfl (lv_at hl 1 rfl) ?_
  refine jfI (rnV (As := [.int z]) (rest := [.ref h]) hx hb hml hown hE hK (hN _ _ hS) hP hD (k_seriesFault_1 l D dA H.size h ad x z ho) (q0 := 0) rfl rfl w334 w333 w335 w336 w328 rfl rfl ⟨⟨by decide, by decide⟩, rfl⟩ ⟨(Nat.le_of_ble_eq_true rfl), (Nat.le_of_ble_eq_true rfl)⟩ rfl hl.1 rfl (Nat.le_of_ble_eq_true rfl) d_M_append_3 ⟨(Nat.le_of_ble_eq_true rfl), (Nat.le_of_ble_eq_true rfl)⟩) hP hD hS hA (fun r1 u2 H locs hp9 hP hD hS => ?_)
  have hP : va_P D vwCl (MW dA h ad x) H := hP
  have hD : va_D A (MW dA h ad x) := hD
  replace hp9 : 1 = r1 := Eq.symm hp9
  subst hp9
  refine pF (v := .int 1) hx hb hown hE hK hP hD hS 0 rfl rfl layM tyM tokM nmM 0 (by decide) w319 rfl rfl rfl (Nat.le_of_ble_eq_true rfl) d_M_append_6 (fun H locs hP hD hS => ?_)
  have hP : va_P D vwCl (MW dA h ad (MS.s_cod x 1)) H := hP
  have hD : va_D A (MW dA h ad (MS.s_cod x 1)) := hD
  refine lv_aload_n hx hb d_M_append_9 rfl (lv_at hl 0 rfl) ?_
  refine lv_aload_n hx hb d_M_append_10 rfl (lv_at hl 0 rfl) ?_
  refine gF (v := .int 1) hx hb hown hE hK hP 0 rfl rfl layM 0 (by decide) w319 rfl d_M_append_11 ?_
  refine lv_if_ne hx hb d_M_append_14 (tgt := 26) rfl (fun _ => ?_) (fun h9 => absurd h9 (by decide))
  refine lv_aload_n hx hb d_M_append_26 rfl (lv_at hl 0 rfl) ?_
  refine gF (v := .int 1) hx hb hown hE hK hP 0 rfl rfl layM 0 (by decide) w319 rfl d_M_append_27 ?_
  refine pF (v := .int 1) hx hb hown hE hK hP hD hS 0 rfl rfl layM tyM tokM nmM 0 (by decide) w319 rfl rfl rfl (Nat.le_of_ble_eq_true rfl) d_M_append_30 (fun H locs hP hD hS => ?_)
  have hP : va_P D vwCl (MW dA h ad (MS.s_cod x 1)) H := hP
  have hD : va_D A (MW dA h ad (MS.s_cod x 1)) := hD
  refine lv_aload_n hx hb d_M_append_33 rfl (lv_at hl 0 rfl) ?_
  refine gF (v := .int 1) hx hb hown hE hK hP 0 rfl rfl layM 0 (by decide) w319 rfl d_M_append_34 ?_
  refine lv_if_le hx hb d_M_append_37 (tgt := 42) rfl (fun h9 => absurd h9 (by decide)) (fun _ => ?_)
  refine lv_iconst (v := 0) hx hb d_M_append_40 (by decide) ?_
  exact rfI hx hb hr hlk hS () rfl hP hD (Nat.le_of_ble_eq_true rfl) (Nat.le_of_ble_eq_true rfl) d_M_append_41
set_option maxHeartbeats 4000000 in
set_option maxRecDepth 100000 in
theorem k_append_2 (l : Launch) (D : va_G) (dA : Nat → ClassId) (sz : Nat) (h : Nat) (ad : Nat → Nat) (x : MS) (z : Int32) (a : Int64) (b : Int64) (ho : x.on = true) (h0 : z < 0 ∨ nI x.seriesCount ≤ z) : Met l ⟨"SeriesVaultModel", "append", "(IJJ)I"⟩ [Cond.code ⟨"SeriesVaultModel", "append", "(IJJ)I"⟩ prog_14_method_34_code 6 (some FieldType.int)] { frames := 2, cells := 0, slots := 0, locals := 21 } (pC D dA [.ref h, .int z, .long a, .long b] (MW dA h ad x) sz) (va_Qi (fun (r9 : Int32) (u9 : Unit) => r9 = 0) (fun (u9 : Unit) t9 => bW D (va_A (MW dA h ad x) sz) (MW dA h ad (MS.s_cod x 2)) t9) (va_A (MW dA h ad x) sz)) 0 0 (va_A (MW dA h ad x) sz) := by
  refine mkC (y := ⟨"SeriesVaultModel", "append", "(IJJ)I"⟩) (cc := prog_14_method_34_code) (maxL := 6) (av := [.ref h, .int z, .long a, .long b]) (ws := MW dA h ad x) (sz := sz) (Qc := fun A => va_Qi (fun (r9 : Int32) (u9 : Unit) => r9 = 0) (fun (u9 : Unit) t9 => bW D A (MW dA h ad (MS.s_cod x 2)) t9) A) (by decide) (Nat.le_of_ble_eq_true rfl) ?_
  intro A p e s m below meth c ls hsz hB
  obtain ⟨hx, hb, hr, hml, hown, hin, hlk, hE, hK, hP, hD, hS, hA, hN, hl⟩ := hB
  have hown : s.vm.findClass "SeriesVaultModel" = some m.cls := hown
  have hl : lv_has ls 6 [(0, .ref h), (1, .int z), (2, .long a), (4, .long b)] := hl
  obtain ⟨H, hH⟩ : ∃ z, z = s.heap := ⟨_, rfl⟩
  have hP : va_P D vwCl (MW dA h ad x) H := by rw [hH]; exact hP
  have hS : va_S A s.heap H [] := by rw [hH]; exact hS
  rw [← hH]
  refine lv_aload_n hx hb d_M_append_0 rfl (lv_at hl 0 rfl) ?_
  refine lv_aload_n hx hb d_M_append_1 rfl (lv_at hl 0 rfl) ?_
  refine lv_iload_n hx hb d_M_append_2 rfl (lv_at hl 1 rfl) ?_
  refine jfI (rnV (As := [.int z]) (rest := [.ref h]) hx hb hml hown hE hK (hN _ _ hS) hP hD (k_seriesFault_2 l D dA H.size h ad x z ho h0) (q0 := 0) rfl rfl w334 w333 w335 w336 w328 rfl rfl ⟨⟨by decide, by decide⟩, rfl⟩ ⟨(Nat.le_of_ble_eq_true rfl), (Nat.le_of_ble_eq_true rfl)⟩ rfl hl.1 rfl (Nat.le_of_ble_eq_true rfl) d_M_append_3 ⟨(Nat.le_of_ble_eq_true rfl), (Nat.le_of_ble_eq_true rfl)⟩) hP hD hS hA (fun r1 u2 H locs hp9 hP hD hS => ?_)
  have hP : va_P D vwCl (MW dA h ad x) H := hP
  have hD : va_D A (MW dA h ad x) := hD
  replace hp9 : 2 = r1 := Eq.symm hp9
  subst hp9
  refine pF (v := .int 2) hx hb hown hE hK hP hD hS 0 rfl rfl layM tyM tokM nmM 0 (by decide) w319 rfl rfl rfl (Nat.le_of_ble_eq_true rfl) d_M_append_6 (fun H locs hP hD hS => ?_)
  have hP : va_P D vwCl (MW dA h ad (MS.s_cod x 2)) H := hP
  have hD : va_D A (MW dA h ad (MS.s_cod x 2)) := hD
  refine lv_aload_n hx hb d_M_append_9 rfl (lv_at hl 0 rfl) ?_
  refine lv_aload_n hx hb d_M_append_10 rfl (lv_at hl 0 rfl) ?_
  refine gF (v := .int 2) hx hb hown hE hK hP 0 rfl rfl layM 0 (by decide) w319 rfl d_M_append_11 ?_
  refine lv_if_ne hx hb d_M_append_14 (tgt := 26) rfl (fun _ => ?_) (fun h9 => absurd h9 (by decide))
  refine lv_aload_n hx hb d_M_append_26 rfl (lv_at hl 0 rfl) ?_
  refine gF (v := .int 2) hx hb hown hE hK hP 0 rfl rfl layM 0 (by decide) w319 rfl d_M_append_27 ?_
  refine pF (v := .int 2) hx hb hown hE hK hP hD hS 0 rfl rfl layM tyM tokM nmM 0 (by decide) w319 rfl rfl rfl (Nat.le_of_ble_eq_true rfl) d_M_append_30 (fun H locs hP hD hS => ?_)
  have hP : va_P D vwCl (MW dA h ad (MS.s_cod x 2)) H := hP
  have hD : va_D A (MW dA h ad (MS.s_cod x 2)) := hD
  refine lv_aload_n hx hb d_M_append_33 rfl (lv_at hl 0 rfl) ?_
  refine gF (v := .int 2) hx hb hown hE hK hP 0 rfl rfl layM 0 (by decide) w319 rfl d_M_append_34 ?_
  refine lv_if_le hx hb d_M_append_37 (tgt := 42) rfl (fun h9 => absurd h9 (by decide)) (fun _ => ?_)
  refine lv_iconst (v := 0) hx hb d_M_append_40 (by decide) ?_
  exact rfI hx hb hr hlk hS () rfl hP hD (Nat.le_of_ble_eq_true rfl) (Nat.le_of_ble_eq_true rfl) d_M_append_41
theorem d_M_append_17 : decode prog_14_method_34_code 17 = .ok (.aload_n 0, 1) := by decide +kernel
theorem d_M_append_18 : decode prog_14_method_34_code 18 = .ok (.iload_n 1, 1) := by decide +kernel
theorem d_M_append_19 : decode prog_14_method_34_code 19 = .ok (.lload_n 2, 1) := by decide +kernel
theorem d_M_append_20 : decode prog_14_method_34_code 20 = .ok (.invokevirtual 263, 3) := by decide +kernel
theorem d_M_append_23 : decode prog_14_method_34_code 23 = .ok (.goto 7, 3) := by decide +kernel
theorem w884 : Cond.methodLink "SeriesVaultModel" 263 ⟨"SeriesVaultModel", "why", "(IJ)I"⟩ ∈ aW := aw_of (tb_10 (List.mem_of_getElem? (i := 23) rfl)) rfl
theorem w885 : Cond.code ⟨"SeriesVaultModel", "why", "(IJ)I"⟩ prog_14_method_33_code 4 (some FieldType.int) ∈ aW := aw_of (tb_10 (List.mem_of_getElem? (i := 26) rfl)) rfl
theorem w886 : Cond.instanceMethod ⟨"SeriesVaultModel", "why", "(IJ)I"⟩ ∈ aW := aw_of (tb_10 (List.mem_of_getElem? (i := 25) rfl)) rfl
theorem w887 : Cond.selects "SeriesVaultModel" ⟨"SeriesVaultModel", "why", "(IJ)I"⟩ ⟨"SeriesVaultModel", "why", "(IJ)I"⟩ ∈ aW := aw_pr (List.mem_map.mpr ⟨_, pv_5 (List.mem_of_getElem? (i := 15) rfl), rfl⟩) rfl
set_option maxHeartbeats 4000000 in
set_option maxRecDepth 100000 in
theorem k_append_3 (l : Launch) (D : va_G) (dA : Nat → ClassId) (sz : Nat) (h : Nat) (ad : Nat → Nat) (x : MS) (w : Nat) (a : Int64) (b : Int64) (ho : x.on = true) (hw : w < x.seriesCount) (hc : x.seriesCount ≤ 256) (h0 : a < 0 ∨ 1099511627775 < a ∨ a ≤ x.lasts w ∨ a < x.horizon) : Met l ⟨"SeriesVaultModel", "append", "(IJJ)I"⟩ [Cond.code ⟨"SeriesVaultModel", "append", "(IJJ)I"⟩ prog_14_method_34_code 6 (some FieldType.int)] { frames := 2, cells := 0, slots := 0, locals := 23 } (pC D dA [.ref h, .int (nI w), .long a, .long b] (MW dA h ad x) sz) (va_Qi (fun (r9 : Int32) (u9 : Unit) => r9 = 0) (fun (u9 : Unit) t9 => bW D (va_A (MW dA h ad x) sz) (MW dA h ad (MS.s_cod x 3)) t9) (va_A (MW dA h ad x) sz)) 0 0 (va_A (MW dA h ad x) sz) := by
  refine mkC (y := ⟨"SeriesVaultModel", "append", "(IJJ)I"⟩) (cc := prog_14_method_34_code) (maxL := 6) (av := [.ref h, .int (nI w), .long a, .long b]) (ws := MW dA h ad x) (sz := sz) (Qc := fun A => va_Qi (fun (r9 : Int32) (u9 : Unit) => r9 = 0) (fun (u9 : Unit) t9 => bW D A (MW dA h ad (MS.s_cod x 3)) t9) A) (by decide) (Nat.le_of_ble_eq_true rfl) ?_
  intro A p e s m below meth c ls hsz hB
  obtain ⟨hx, hb, hr, hml, hown, hin, hlk, hE, hK, hP, hD, hS, hA, hN, hl⟩ := hB
  have hown : s.vm.findClass "SeriesVaultModel" = some m.cls := hown
  have hl : lv_has ls 6 [(0, .ref h), (1, .int (nI w)), (2, .long a), (4, .long b)] := hl
  obtain ⟨H, hH⟩ : ∃ z, z = s.heap := ⟨_, rfl⟩
  have hP : va_P D vwCl (MW dA h ad x) H := by rw [hH]; exact hP
  have hS : va_S A s.heap H [] := by rw [hH]; exact hS
  rw [← hH]
  refine lv_aload_n hx hb d_M_append_0 rfl (lv_at hl 0 rfl) ?_
  refine lv_aload_n hx hb d_M_append_1 rfl (lv_at hl 0 rfl) ?_
  refine lv_iload_n hx hb d_M_append_2 rfl (lv_at hl 1 rfl) ?_
  refine jfI (rnV (As := [.int (nI w)]) (rest := [.ref h]) hx hb hml hown hE hK (hN _ _ hS) hP hD (k_seriesFault_0 l D dA H.size h ad x w ho hw hc) (q0 := 0) rfl rfl w334 w333 w335 w336 w328 rfl rfl ⟨⟨by decide, by decide⟩, rfl⟩ ⟨(Nat.le_of_ble_eq_true rfl), (Nat.le_of_ble_eq_true rfl)⟩ rfl hl.1 rfl (Nat.le_of_ble_eq_true rfl) d_M_append_3 ⟨(Nat.le_of_ble_eq_true rfl), (Nat.le_of_ble_eq_true rfl)⟩) hP hD hS hA (fun r1 u2 H locs hp9 hP hD hS => ?_)
  have hP : va_P D vwCl (MW dA h ad x) H := hP
  have hD : va_D A (MW dA h ad x) := hD
  replace hp9 : 0 = r1 := Eq.symm hp9
  subst hp9
  refine pF (v := .int 0) hx hb hown hE hK hP hD hS 0 rfl rfl layM tyM tokM nmM 0 (by decide) w319 rfl rfl rfl (Nat.le_of_ble_eq_true rfl) d_M_append_6 (fun H locs hP hD hS => ?_)
  have hP : va_P D vwCl (MW dA h ad (MS.s_cod x 0)) H := hP
  have hD : va_D A (MW dA h ad (MS.s_cod x 0)) := hD
  refine lv_aload_n hx hb d_M_append_9 rfl (lv_at hl 0 rfl) ?_
  refine lv_aload_n hx hb d_M_append_10 rfl (lv_at hl 0 rfl) ?_
  refine gF (v := .int 0) hx hb hown hE hK hP 0 rfl rfl layM 0 (by decide) w319 rfl d_M_append_11 ?_
  refine lv_if_ne hx hb d_M_append_14 (tgt := 26) rfl (fun h9 => absurd (by decide) h9) (fun _ => ?_)
  refine lv_aload_n hx hb d_M_append_17 rfl (lv_at hl 0 rfl) ?_
  refine lv_iload_n hx hb d_M_append_18 rfl (lv_at hl 1 rfl) ?_
  refine lv_lload_n hx hb d_M_append_19 rfl (lv_at hl 2 rfl) ?_
  refine jfI (rnV (As := [.int (nI w), .long a]) (rest := [.ref h]) hx hb hml hown hE hK (hN _ _ hS) hP hD (k_why_3 l D dA H.size h ad (MS.s_cod x 0) w a (show w < 256 from by omega) h0) (q0 := 0) rfl rfl w885 w884 w886 w887 w328 rfl rfl ⟨⟨by decide, by decide⟩, rfl⟩ ⟨(Nat.le_of_ble_eq_true rfl), (Nat.le_of_ble_eq_true rfl)⟩ rfl hl.1 rfl (Nat.le_of_ble_eq_true rfl) d_M_append_20 ⟨(Nat.le_of_ble_eq_true rfl), (Nat.le_of_ble_eq_true rfl)⟩) hP hD hS hA (fun r3 u4 H locs hp9 hP hD hS => ?_)
  have hP : va_P D vwCl (MW dA h ad (MS.s_cod x 0)) H := hP
  have hD : va_D A (MW dA h ad (MS.s_cod x 0)) := hD
  replace hp9 : 3 = r3 := Eq.symm hp9
  subst hp9
  refine lv_goto hx hb d_M_append_23 (tgt := 30) rfl ?_
  refine pF (v := .int 3) hx hb hown hE hK hP hD hS 0 rfl rfl layM tyM tokM nmM 0 (by decide) w319 rfl rfl rfl (Nat.le_of_ble_eq_true rfl) d_M_append_30 (fun H locs hP hD hS => ?_)
  have hP : va_P D vwCl (MW dA h ad (MS.s_cod x 3)) H := hP
  have hD : va_D A (MW dA h ad (MS.s_cod x 3)) := hD
  refine lv_aload_n hx hb d_M_append_33 rfl (lv_at hl 0 rfl) ?_
  refine gF (v := .int 3) hx hb hown hE hK hP 0 rfl rfl layM 0 (by decide) w319 rfl d_M_append_34 ?_
  refine lv_if_le hx hb d_M_append_37 (tgt := 42) rfl (fun h9 => absurd h9 (by decide)) (fun _ => ?_)
  refine lv_iconst (v := 0) hx hb d_M_append_40 (by decide) ?_
  exact rfI hx hb hr hlk hS () rfl hP hD (Nat.le_of_ble_eq_true rfl) (Nat.le_of_ble_eq_true rfl) d_M_append_41
set_option maxHeartbeats 4000000 in
set_option maxRecDepth 100000 in
theorem k_append_4 (l : Launch) (D : va_G) (dA : Nat → ClassId) (sz : Nat) (h : Nat) (ad : Nat → Nat) (x : MS) (w : Nat) (a : Int64) (b : Int64) (ho : x.on = true) (hw : w < x.seriesCount) (hc : x.seriesCount ≤ 256) (t1 : ¬ a < 0) (t2 : ¬ 1099511627775 < a) (t3 : ¬ a ≤ x.lasts w) (t4 : x.horizon ≤ a) (u1 : x.used ≤ 126) (u2 : x.block < 2 ^ 20) (u3 : x.journal ≤ 256) (hro : x.room 1 = false) : Met l ⟨"SeriesVaultModel", "append", "(IJJ)I"⟩ [Cond.code ⟨"SeriesVaultModel", "append", "(IJJ)I"⟩ prog_14_method_34_code 6 (some FieldType.int)] { frames := 3, cells := 0, slots := 0, locals := 44 } (pC D dA [.ref h, .int (nI w), .long a, .long b] (MW dA h ad x) sz) (va_Qi (fun (r9 : Int32) (u9 : Unit) => r9 = 0) (fun (u9 : Unit) t9 => bW D (va_A (MW dA h ad x) sz) (MW dA h ad (MS.s_cod x 4)) t9) (va_A (MW dA h ad x) sz)) 0 0 (va_A (MW dA h ad x) sz) := by
  refine mkC (y := ⟨"SeriesVaultModel", "append", "(IJJ)I"⟩) (cc := prog_14_method_34_code) (maxL := 6) (av := [.ref h, .int (nI w), .long a, .long b]) (ws := MW dA h ad x) (sz := sz) (Qc := fun A => va_Qi (fun (r9 : Int32) (u9 : Unit) => r9 = 0) (fun (u9 : Unit) t9 => bW D A (MW dA h ad (MS.s_cod x 4)) t9) A) (by decide) (Nat.le_of_ble_eq_true rfl) ?_
  intro A p e s m below meth c ls hsz hB
  obtain ⟨hx, hb, hr, hml, hown, hin, hlk, hE, hK, hP, hD, hS, hA, hN, hl⟩ := hB
  have hown : s.vm.findClass "SeriesVaultModel" = some m.cls := hown
  have hl : lv_has ls 6 [(0, .ref h), (1, .int (nI w)), (2, .long a), (4, .long b)] := hl
  obtain ⟨H, hH⟩ : ∃ z, z = s.heap := ⟨_, rfl⟩
  have hP : va_P D vwCl (MW dA h ad x) H := by rw [hH]; exact hP
  have hS : va_S A s.heap H [] := by rw [hH]; exact hS
  rw [← hH]
  refine lv_aload_n hx hb d_M_append_0 rfl (lv_at hl 0 rfl) ?_
  refine lv_aload_n hx hb d_M_append_1 rfl (lv_at hl 0 rfl) ?_
  refine lv_iload_n hx hb d_M_append_2 rfl (lv_at hl 1 rfl) ?_
  refine jfI (rnV (As := [.int (nI w)]) (rest := [.ref h]) hx hb hml hown hE hK (hN _ _ hS) hP hD (k_seriesFault_0 l D dA H.size h ad x w ho hw hc) (q0 := 0) rfl rfl w334 w333 w335 w336 w328 rfl rfl ⟨⟨by decide, by decide⟩, rfl⟩ ⟨(Nat.le_of_ble_eq_true rfl), (Nat.le_of_ble_eq_true rfl)⟩ rfl hl.1 rfl (Nat.le_of_ble_eq_true rfl) d_M_append_3 ⟨(Nat.le_of_ble_eq_true rfl), (Nat.le_of_ble_eq_true rfl)⟩) hP hD hS hA (fun r1 u2 H locs hp9 hP hD hS => ?_)
  have hP : va_P D vwCl (MW dA h ad x) H := hP
  have hD : va_D A (MW dA h ad x) := hD
  replace hp9 : 0 = r1 := Eq.symm hp9
  subst hp9
  refine pF (v := .int 0) hx hb hown hE hK hP hD hS 0 rfl rfl layM tyM tokM nmM 0 (by decide) w319 rfl rfl rfl (Nat.le_of_ble_eq_true rfl) d_M_append_6 (fun H locs hP hD hS => ?_)
  have hP : va_P D vwCl (MW dA h ad (MS.s_cod x 0)) H := hP
  have hD : va_D A (MW dA h ad (MS.s_cod x 0)) := hD
  refine lv_aload_n hx hb d_M_append_9 rfl (lv_at hl 0 rfl) ?_
  refine lv_aload_n hx hb d_M_append_10 rfl (lv_at hl 0 rfl) ?_
  refine gF (v := .int 0) hx hb hown hE hK hP 0 rfl rfl layM 0 (by decide) w319 rfl d_M_append_11 ?_
  refine lv_if_ne hx hb d_M_append_14 (tgt := 26) rfl (fun h9 => absurd (by decide) h9) (fun _ => ?_)
  refine lv_aload_n hx hb d_M_append_17 rfl (lv_at hl 0 rfl) ?_
  refine lv_iload_n hx hb d_M_append_18 rfl (lv_at hl 1 rfl) ?_
  refine lv_lload_n hx hb d_M_append_19 rfl (lv_at hl 2 rfl) ?_
  refine jfI (rnV (As := [.int (nI w), .long a]) (rest := [.ref h]) hx hb hml hown hE hK (hN _ _ hS) hP hD (k_why_4 l D dA H.size h ad (MS.s_cod x 0) w a (show w < 256 from by omega) t1 t2 t3 t4 (show x.used ≤ 126 from by omega) (show x.block < 2 ^ 20 from by omega) (show x.journal ≤ 256 from by omega) hro) (q0 := 0) rfl rfl w885 w884 w886 w887 w328 rfl rfl ⟨⟨by decide, by decide⟩, rfl⟩ ⟨(Nat.le_of_ble_eq_true rfl), (Nat.le_of_ble_eq_true rfl)⟩ rfl hl.1 rfl (Nat.le_of_ble_eq_true rfl) d_M_append_20 ⟨(Nat.le_of_ble_eq_true rfl), (Nat.le_of_ble_eq_true rfl)⟩) hP hD hS hA (fun r3 u4 H locs hp9 hP hD hS => ?_)
  have hP : va_P D vwCl (MW dA h ad (MS.s_cod x 0)) H := hP
  have hD : va_D A (MW dA h ad (MS.s_cod x 0)) := hD
  replace hp9 : 4 = r3 := Eq.symm hp9
  subst hp9
  refine lv_goto hx hb d_M_append_23 (tgt := 30) rfl ?_
  refine pF (v := .int 4) hx hb hown hE hK hP hD hS 0 rfl rfl layM tyM tokM nmM 0 (by decide) w319 rfl rfl rfl (Nat.le_of_ble_eq_true rfl) d_M_append_30 (fun H locs hP hD hS => ?_)
  have hP : va_P D vwCl (MW dA h ad (MS.s_cod x 4)) H := hP
  have hD : va_D A (MW dA h ad (MS.s_cod x 4)) := hD
  refine lv_aload_n hx hb d_M_append_33 rfl (lv_at hl 0 rfl) ?_
  refine gF (v := .int 4) hx hb hown hE hK hP 0 rfl rfl layM 0 (by decide) w319 rfl d_M_append_34 ?_
  refine lv_if_le hx hb d_M_append_37 (tgt := 42) rfl (fun h9 => absurd h9 (by decide)) (fun _ => ?_)
  refine lv_iconst (v := 0) hx hb d_M_append_40 (by decide) ?_
  exact rfI hx hb hr hlk hS () rfl hP hD (Nat.le_of_ble_eq_true rfl) (Nat.le_of_ble_eq_true rfl) d_M_append_41
theorem d_M_append_42 : decode prog_14_method_34_code 42 = .ok (.aload_n 0, 1) := by decide +kernel
theorem d_M_append_43 : decode prog_14_method_34_code 43 = .ok (.iconst 1, 1) := by decide +kernel
theorem d_M_append_44 : decode prog_14_method_34_code 44 = .ok (.iload_n 1, 1) := by decide +kernel
theorem d_M_append_45 : decode prog_14_method_34_code 45 = .ok (.lload_n 2, 1) := by decide +kernel
theorem d_M_append_46 : decode prog_14_method_34_code 46 = .ok (.lload 4, 2) := by decide +kernel
theorem d_M_append_48 : decode prog_14_method_34_code 48 = .ok (.iconst 1, 1) := by decide +kernel
theorem d_M_append_49 : decode prog_14_method_34_code 49 = .ok (.invokevirtual 250, 3) := by decide +kernel
theorem d_M_append_52 : decode prog_14_method_34_code 52 = .ok (.ifCond .ne 10, 3) := by decide +kernel
theorem d_M_append_55 : decode prog_14_method_34_code 55 = .ok (.aload_n 0, 1) := by decide +kernel
theorem d_M_append_56 : decode prog_14_method_34_code 56 = .ok (.iconst 1, 1) := by decide +kernel
theorem d_M_append_57 : decode prog_14_method_34_code 57 = .ok (.putfield 145, 3) := by decide +kernel
theorem d_M_append_60 : decode prog_14_method_34_code 60 = .ok (.iconst 0, 1) := by decide +kernel
theorem d_M_append_61 : decode prog_14_method_34_code 61 = .ok (.ireturn, 1) := by decide +kernel
theorem w888 : Cond.methodLink "SeriesVaultModel" 250 ⟨"SeriesVaultModel", "record", "(IIJJI)Z"⟩ ∈ aW := aw_of (tb_9 (List.mem_of_getElem? (i := 230) rfl)) rfl
theorem w889 : Cond.code ⟨"SeriesVaultModel", "record", "(IIJJI)Z"⟩ prog_14_method_11_code 8 (some FieldType.boolean) ∈ aW := aw_of (tb_9 (List.mem_of_getElem? (i := 233) rfl)) rfl
theorem w890 : Cond.instanceMethod ⟨"SeriesVaultModel", "record", "(IIJJI)Z"⟩ ∈ aW := aw_of (tb_9 (List.mem_of_getElem? (i := 232) rfl)) rfl
theorem w891 : Cond.selects "SeriesVaultModel" ⟨"SeriesVaultModel", "record", "(IIJJI)Z"⟩ ⟨"SeriesVaultModel", "record", "(IIJJI)Z"⟩ ∈ aW := aw_pr (List.mem_map.mpr ⟨_, pv_5 (List.mem_of_getElem? (i := 10) rfl), rfl⟩) rfl
set_option maxHeartbeats 4000000 in
set_option maxRecDepth 100000 in
theorem k_append_5 (l : Launch) (D : va_G) (dA : Nat → ClassId) (sz : Nat) (h : Nat) (ad : Nat → Nat) (x : MS) (w : Nat) (a : Int64) (b : Int64) (ho : x.on = true) (hw : w < x.seriesCount) (hc : x.seriesCount ≤ 256) (t1 : ¬ a < 0) (t2 : ¬ 1099511627775 < a) (t3 : ¬ a ≤ x.lasts w) (t4 : x.horizon ≤ a) (u1 : x.used ≤ 126) (u2 : x.block < 2 ^ 20) (u3 : x.journal ≤ 256) (hro : x.room 1 = true) (c1 : 126 < x.used + 1) (hf : x.fresh = true) (hcu : x.cutLeft = 0) : Met l ⟨"SeriesVaultModel", "append", "(IJJ)I"⟩ [Cond.code ⟨"SeriesVaultModel", "append", "(IJJ)I"⟩ prog_14_method_34_code 6 (some FieldType.int)] { frames := 4, cells := 0, slots := 0, locals := 67 } (pC D dA [.ref h, .int (nI w), .long a, .long b] (MW dA h ad x) sz) (va_Qi (fun (r9 : Int32) (u9 : Unit) => r9 = 0) (fun (u9 : Unit) t9 => bW D (va_A (MW dA h ad x) sz) (MW dA h ad (MS.s_cutLeft (MS.s_on (MS.s_cod x 1) false) (-1))) t9) (va_A (MW dA h ad x) sz)) 0 0 (va_A (MW dA h ad x) sz) := by
  refine mkC (y := ⟨"SeriesVaultModel", "append", "(IJJ)I"⟩) (cc := prog_14_method_34_code) (maxL := 6) (av := [.ref h, .int (nI w), .long a, .long b]) (ws := MW dA h ad x) (sz := sz) (Qc := fun A => va_Qi (fun (r9 : Int32) (u9 : Unit) => r9 = 0) (fun (u9 : Unit) t9 => bW D A (MW dA h ad (MS.s_cutLeft (MS.s_on (MS.s_cod x 1) false) (-1))) t9) A) (by decide) (Nat.le_of_ble_eq_true rfl) ?_
  intro A p e s m below meth c ls hsz hB
  obtain ⟨hx, hb, hr, hml, hown, hin, hlk, hE, hK, hP, hD, hS, hA, hN, hl⟩ := hB
  have hown : s.vm.findClass "SeriesVaultModel" = some m.cls := hown
  have hl : lv_has ls 6 [(0, .ref h), (1, .int (nI w)), (2, .long a), (4, .long b)] := hl
  obtain ⟨H, hH⟩ : ∃ z, z = s.heap := ⟨_, rfl⟩
  have hP : va_P D vwCl (MW dA h ad x) H := by rw [hH]; exact hP
  have hS : va_S A s.heap H [] := by rw [hH]; exact hS
  rw [← hH]
  refine lv_aload_n hx hb d_M_append_0 rfl (lv_at hl 0 rfl) ?_
  refine lv_aload_n hx hb d_M_append_1 rfl (lv_at hl 0 rfl) ?_
  refine lv_iload_n hx hb d_M_append_2 rfl (lv_at hl 1 rfl) ?_
  refine jfI (rnV (As := [.int (nI w)]) (rest := [.ref h]) hx hb hml hown hE hK (hN _ _ hS) hP hD (k_seriesFault_0 l D dA H.size h ad x w ho hw hc) (q0 := 0) rfl rfl w334 w333 w335 w336 w328 rfl rfl ⟨⟨by decide, by decide⟩, rfl⟩ ⟨(Nat.le_of_ble_eq_true rfl), (Nat.le_of_ble_eq_true rfl)⟩ rfl hl.1 rfl (Nat.le_of_ble_eq_true rfl) d_M_append_3 ⟨(Nat.le_of_ble_eq_true rfl), (Nat.le_of_ble_eq_true rfl)⟩) hP hD hS hA (fun r1 u2 H locs hp9 hP hD hS => ?_)
  have hP : va_P D vwCl (MW dA h ad x) H := hP
  have hD : va_D A (MW dA h ad x) := hD
  replace hp9 : 0 = r1 := Eq.symm hp9
  subst hp9
  refine pF (v := .int 0) hx hb hown hE hK hP hD hS 0 rfl rfl layM tyM tokM nmM 0 (by decide) w319 rfl rfl rfl (Nat.le_of_ble_eq_true rfl) d_M_append_6 (fun H locs hP hD hS => ?_)
  have hP : va_P D vwCl (MW dA h ad (MS.s_cod x 0)) H := hP
  have hD : va_D A (MW dA h ad (MS.s_cod x 0)) := hD
  refine lv_aload_n hx hb d_M_append_9 rfl (lv_at hl 0 rfl) ?_
  refine lv_aload_n hx hb d_M_append_10 rfl (lv_at hl 0 rfl) ?_
  refine gF (v := .int 0) hx hb hown hE hK hP 0 rfl rfl layM 0 (by decide) w319 rfl d_M_append_11 ?_
  refine lv_if_ne hx hb d_M_append_14 (tgt := 26) rfl (fun h9 => absurd (by decide) h9) (fun _ => ?_)
  refine lv_aload_n hx hb d_M_append_17 rfl (lv_at hl 0 rfl) ?_
  refine lv_iload_n hx hb d_M_append_18 rfl (lv_at hl 1 rfl) ?_
  refine lv_lload_n hx hb d_M_append_19 rfl (lv_at hl 2 rfl) ?_
  refine jfI (rnV (As := [.int (nI w), .long a]) (rest := [.ref h]) hx hb hml hown hE hK (hN _ _ hS) hP hD (k_why_0 l D dA H.size h ad (MS.s_cod x 0) w a (show w < 256 from by omega) t1 t2 t3 t4 (show x.used ≤ 126 from by omega) (show x.block < 2 ^ 20 from by omega) (show x.journal ≤ 256 from by omega) hro) (q0 := 0) rfl rfl w885 w884 w886 w887 w328 rfl rfl ⟨⟨by decide, by decide⟩, rfl⟩ ⟨(Nat.le_of_ble_eq_true rfl), (Nat.le_of_ble_eq_true rfl)⟩ rfl hl.1 rfl (Nat.le_of_ble_eq_true rfl) d_M_append_20 ⟨(Nat.le_of_ble_eq_true rfl), (Nat.le_of_ble_eq_true rfl)⟩) hP hD hS hA (fun r3 u4 H locs hp9 hP hD hS => ?_)
  have hP : va_P D vwCl (MW dA h ad (MS.s_cod x 0)) H := hP
  have hD : va_D A (MW dA h ad (MS.s_cod x 0)) := hD
  replace hp9 : 0 = r3 := Eq.symm hp9
  subst hp9
  refine lv_goto hx hb d_M_append_23 (tgt := 30) rfl ?_
  refine pF (v := .int 0) hx hb hown hE hK hP hD hS 0 rfl rfl layM tyM tokM nmM 0 (by decide) w319 rfl rfl rfl (Nat.le_of_ble_eq_true rfl) d_M_append_30 (fun H locs hP hD hS => ?_)
  have hP : va_P D vwCl (MW dA h ad (MS.s_cod x 0)) H := hP
  have hD : va_D A (MW dA h ad (MS.s_cod x 0)) := hD
  refine lv_aload_n hx hb d_M_append_33 rfl (lv_at hl 0 rfl) ?_
  refine gF (v := .int 0) hx hb hown hE hK hP 0 rfl rfl layM 0 (by decide) w319 rfl d_M_append_34 ?_
  refine lv_if_le hx hb d_M_append_37 (tgt := 42) rfl (fun _ => ?_) (fun h9 => absurd (by decide) h9)
  refine lv_aload_n hx hb d_M_append_42 rfl (lv_at hl 0 rfl) ?_
  refine lv_iconst (v := 1) hx hb d_M_append_43 (by decide) ?_
  refine lv_iload_n hx hb d_M_append_44 rfl (lv_at hl 1 rfl) ?_
  refine lv_lload_n hx hb d_M_append_45 rfl (lv_at hl 2 rfl) ?_
  refine lv_lload hx hb d_M_append_46 (lv_at hl 3 rfl) ?_
  refine lv_iconst (v := 1) hx hb d_M_append_48 (by decide) ?_
  refine jfI (rnV (As := [.int 1, .int (nI w), .long a, .long b, .int 1]) (rest := []) hx hb hml hown hE hK (hN _ _ hS) hP hD (k_record_x l D dA H.size h ad (MS.s_cod x 0) 1 w a b 1 (show x.used + 1 < 2 ^ 31 from by omega) (show 126 < x.used + 1 from by omega) hf hcu) (q0 := 0) rfl rfl w889 w888 w890 w891 w328 rfl rfl ⟨⟨by decide, by decide⟩, rfl⟩ ⟨(Nat.le_of_ble_eq_true rfl), (Nat.le_of_ble_eq_true rfl)⟩ rfl hl.1 rfl (Nat.le_of_ble_eq_true rfl) d_M_append_49 ⟨(Nat.le_of_ble_eq_true rfl), (Nat.le_of_ble_eq_true rfl)⟩) hP hD hS hA (fun r5 u6 H locs hp9 hP hD hS => ?_)
  have hP : va_P D vwCl (MW dA h ad (MS.s_cutLeft (MS.s_on (MS.s_cod x 0) false) (-1))) H := hP
  have hD : va_D A (MW dA h ad (MS.s_cutLeft (MS.s_on (MS.s_cod x 0) false) (-1))) := hD
  replace hp9 : bI false = r5 := Eq.symm hp9
  subst hp9
  refine lv_if_ne hx hb d_M_append_52 (tgt := 62) rfl (fun h9 => absurd (by decide) h9) (fun _ => ?_)
  refine lv_aload_n hx hb d_M_append_55 rfl (lv_at hl 0 rfl) ?_
  refine lv_iconst (v := 1) hx hb d_M_append_56 (by decide) ?_
  refine pF (v := .int 1) hx hb hown hE hK hP hD hS 0 rfl rfl layM tyM tokM nmM 0 (by decide) w319 rfl rfl rfl (Nat.le_of_ble_eq_true rfl) d_M_append_57 (fun H locs hP hD hS => ?_)
  have hP : va_P D vwCl (MW dA h ad (MS.s_cutLeft (MS.s_on (MS.s_cod x 1) false) (-1))) H := hP
  have hD : va_D A (MW dA h ad (MS.s_cutLeft (MS.s_on (MS.s_cod x 1) false) (-1))) := hD
  refine lv_iconst (v := 0) hx hb d_M_append_60 (by decide) ?_
  exact rfI hx hb hr hlk hS () rfl hP hD (Nat.le_of_ble_eq_true rfl) (Nat.le_of_ble_eq_true rfl) d_M_append_61
theorem d_M_append_62 : decode prog_14_method_34_code 62 = .ok (.aload_n 0, 1) := by decide +kernel
theorem d_M_append_63 : decode prog_14_method_34_code 63 = .ok (.iload_n 1, 1) := by decide +kernel
theorem d_M_append_64 : decode prog_14_method_34_code 64 = .ok (.lload_n 2, 1) := by decide +kernel
theorem d_M_append_65 : decode prog_14_method_34_code 65 = .ok (.lload 4, 2) := by decide +kernel
theorem d_M_append_67 : decode prog_14_method_34_code 67 = .ok (.invokevirtual 267, 3) := by decide +kernel
theorem d_M_append_70 : decode prog_14_method_34_code 70 = .ok (.aload_n 0, 1) := by decide +kernel
theorem d_M_append_71 : decode prog_14_method_34_code 71 = .ok (.invokevirtual 271, 3) := by decide +kernel
theorem d_M_append_74 : decode prog_14_method_34_code 74 = .ok (.ireturn, 1) := by decide +kernel
theorem w892 : Cond.methodLink "SeriesVaultModel" 267 ⟨"SeriesVaultModel", "come", "(IJJ)V"⟩ ∈ aW := aw_of (tb_10 (List.mem_of_getElem? (i := 28) rfl)) rfl
theorem w893 : Cond.code ⟨"SeriesVaultModel", "come", "(IJJ)V"⟩ prog_14_method_16_code 6 none ∈ aW := aw_of (tb_10 (List.mem_of_getElem? (i := 31) rfl)) rfl
theorem w894 : Cond.instanceMethod ⟨"SeriesVaultModel", "come", "(IJJ)V"⟩ ∈ aW := aw_of (tb_10 (List.mem_of_getElem? (i := 30) rfl)) rfl
theorem w895 : Cond.selects "SeriesVaultModel" ⟨"SeriesVaultModel", "come", "(IJJ)V"⟩ ⟨"SeriesVaultModel", "come", "(IJJ)V"⟩ ∈ aW := aw_pr (List.mem_map.mpr ⟨_, pv_6 (List.mem_of_getElem? (i := 0) rfl), rfl⟩) rfl
set_option maxHeartbeats 4000000 in
set_option maxRecDepth 100000 in
theorem k_append_0 (l : Launch) (D : va_G) (dA : Nat → ClassId) (sz : Nat) (h : Nat) (ad : Nat → Nat) (x : MS) (w : Nat) (a : Int64) (b : Int64) (ho : x.on = true) (hw : w < x.seriesCount) (hc : x.seriesCount ≤ 256) (t1 : ¬ a < 0) (t2 : ¬ 1099511627775 < a) (t3 : ¬ a ≤ x.lasts w) (t4 : x.horizon ≤ a) (u1 : x.used ≤ 126) (u2 : x.block < 2 ^ 20) (u3 : x.journal ≤ 256) (hro : x.room 1 = true) (r1 : x.records < 32000) (r2 : x.points < 12000) (hcr : x.canR 1) : Met l ⟨"SeriesVaultModel", "append", "(IJJ)I"⟩ [Cond.code ⟨"SeriesVaultModel", "append", "(IJJ)I"⟩ prog_14_method_34_code 6 (some FieldType.int)] { frames := 4, cells := 0, slots := 0, locals := 67 } (pC D dA [.ref h, .int (nI w), .long a, .long b] (MW dA h ad x) sz) (va_Qi (fun (r9 : Int32) (u9 : MS) => r9 = nI u9.heads ∧ u9 = ((x.s_cod 0).recS 1 w a b 1).comS w a b) (fun (u9 : MS) t9 => bW D (va_A (MW dA h ad x) sz) (MW dA h ad u9) t9) (va_A (MW dA h ad x) sz)) 0 0 (va_A (MW dA h ad x) sz) := by
  refine mkC (y := ⟨"SeriesVaultModel", "append", "(IJJ)I"⟩) (cc := prog_14_method_34_code) (maxL := 6) (av := [.ref h, .int (nI w), .long a, .long b]) (ws := MW dA h ad x) (sz := sz) (Qc := fun A => va_Qi (fun (r9 : Int32) (u9 : MS) => r9 = nI u9.heads ∧ u9 = ((x.s_cod 0).recS 1 w a b 1).comS w a b) (fun (u9 : MS) t9 => bW D A (MW dA h ad u9) t9) A) (by decide) (Nat.le_of_ble_eq_true rfl) ?_
  intro A p e s m below meth c ls hsz hB
  obtain ⟨hx, hb, hr, hml, hown, hin, hlk, hE, hK, hP, hD, hS, hA, hN, hl⟩ := hB
  have hown : s.vm.findClass "SeriesVaultModel" = some m.cls := hown
  have hl : lv_has ls 6 [(0, .ref h), (1, .int (nI w)), (2, .long a), (4, .long b)] := hl
  obtain ⟨H, hH⟩ : ∃ z, z = s.heap := ⟨_, rfl⟩
  have hP : va_P D vwCl (MW dA h ad x) H := by rw [hH]; exact hP
  have hS : va_S A s.heap H [] := by rw [hH]; exact hS
  rw [← hH]
  refine lv_aload_n hx hb d_M_append_0 rfl (lv_at hl 0 rfl) ?_
  refine lv_aload_n hx hb d_M_append_1 rfl (lv_at hl 0 rfl) ?_
  refine lv_iload_n hx hb d_M_append_2 rfl (lv_at hl 1 rfl) ?_
  refine jfI (rnV (As := [.int (nI w)]) (rest := [.ref h]) hx hb hml hown hE hK (hN _ _ hS) hP hD (k_seriesFault_0 l D dA H.size h ad x w ho hw hc) (q0 := 0) rfl rfl w334 w333 w335 w336 w328 rfl rfl ⟨⟨by decide, by decide⟩, rfl⟩ ⟨(Nat.le_of_ble_eq_true rfl), (Nat.le_of_ble_eq_true rfl)⟩ rfl hl.1 rfl (Nat.le_of_ble_eq_true rfl) d_M_append_3 ⟨(Nat.le_of_ble_eq_true rfl), (Nat.le_of_ble_eq_true rfl)⟩) hP hD hS hA (fun r1 u2 H locs hp9 hP hD hS => ?_)
  have hP : va_P D vwCl (MW dA h ad x) H := hP
  have hD : va_D A (MW dA h ad x) := hD
  replace hp9 : 0 = r1 := Eq.symm hp9
  subst hp9
  refine pF (v := .int 0) hx hb hown hE hK hP hD hS 0 rfl rfl layM tyM tokM nmM 0 (by decide) w319 rfl rfl rfl (Nat.le_of_ble_eq_true rfl) d_M_append_6 (fun H locs hP hD hS => ?_)
  have hP : va_P D vwCl (MW dA h ad (MS.s_cod x 0)) H := hP
  have hD : va_D A (MW dA h ad (MS.s_cod x 0)) := hD
  refine lv_aload_n hx hb d_M_append_9 rfl (lv_at hl 0 rfl) ?_
  refine lv_aload_n hx hb d_M_append_10 rfl (lv_at hl 0 rfl) ?_
  refine gF (v := .int 0) hx hb hown hE hK hP 0 rfl rfl layM 0 (by decide) w319 rfl d_M_append_11 ?_
  refine lv_if_ne hx hb d_M_append_14 (tgt := 26) rfl (fun h9 => absurd (by decide) h9) (fun _ => ?_)
  refine lv_aload_n hx hb d_M_append_17 rfl (lv_at hl 0 rfl) ?_
  refine lv_iload_n hx hb d_M_append_18 rfl (lv_at hl 1 rfl) ?_
  refine lv_lload_n hx hb d_M_append_19 rfl (lv_at hl 2 rfl) ?_
  refine jfI (rnV (As := [.int (nI w), .long a]) (rest := [.ref h]) hx hb hml hown hE hK (hN _ _ hS) hP hD (k_why_0 l D dA H.size h ad (MS.s_cod x 0) w a (show w < 256 from by omega) t1 t2 t3 t4 (show x.used ≤ 126 from by omega) (show x.block < 2 ^ 20 from by omega) (show x.journal ≤ 256 from by omega) hro) (q0 := 0) rfl rfl w885 w884 w886 w887 w328 rfl rfl ⟨⟨by decide, by decide⟩, rfl⟩ ⟨(Nat.le_of_ble_eq_true rfl), (Nat.le_of_ble_eq_true rfl)⟩ rfl hl.1 rfl (Nat.le_of_ble_eq_true rfl) d_M_append_20 ⟨(Nat.le_of_ble_eq_true rfl), (Nat.le_of_ble_eq_true rfl)⟩) hP hD hS hA (fun r3 u4 H locs hp9 hP hD hS => ?_)
  have hP : va_P D vwCl (MW dA h ad (MS.s_cod x 0)) H := hP
  have hD : va_D A (MW dA h ad (MS.s_cod x 0)) := hD
  replace hp9 : 0 = r3 := Eq.symm hp9
  subst hp9
  refine lv_goto hx hb d_M_append_23 (tgt := 30) rfl ?_
  refine pF (v := .int 0) hx hb hown hE hK hP hD hS 0 rfl rfl layM tyM tokM nmM 0 (by decide) w319 rfl rfl rfl (Nat.le_of_ble_eq_true rfl) d_M_append_30 (fun H locs hP hD hS => ?_)
  have hP : va_P D vwCl (MW dA h ad (MS.s_cod x 0)) H := hP
  have hD : va_D A (MW dA h ad (MS.s_cod x 0)) := hD
  refine lv_aload_n hx hb d_M_append_33 rfl (lv_at hl 0 rfl) ?_
  refine gF (v := .int 0) hx hb hown hE hK hP 0 rfl rfl layM 0 (by decide) w319 rfl d_M_append_34 ?_
  refine lv_if_le hx hb d_M_append_37 (tgt := 42) rfl (fun _ => ?_) (fun h9 => absurd (by decide) h9)
  refine lv_aload_n hx hb d_M_append_42 rfl (lv_at hl 0 rfl) ?_
  refine lv_iconst (v := 1) hx hb d_M_append_43 (by decide) ?_
  refine lv_iload_n hx hb d_M_append_44 rfl (lv_at hl 1 rfl) ?_
  refine lv_lload_n hx hb d_M_append_45 rfl (lv_at hl 2 rfl) ?_
  refine lv_lload hx hb d_M_append_46 (lv_at hl 3 rfl) ?_
  refine lv_iconst (v := 1) hx hb d_M_append_48 (by decide) ?_
  refine jfI (rnV (As := [.int 1, .int (nI w), .long a, .long b, .int 1]) (rest := []) hx hb hml hown hE hK (hN _ _ hS) hP hD (k_record l D dA H.size h ad (MS.s_cod x 0) 1 w a b 1 (by decide) (show x.records < 32000 from by omega) (show x.used + 1 < 2 ^ 31 from by omega) (show x.block < 2 ^ 30 from by omega) hcr) (q0 := 0) rfl rfl w889 w888 w890 w891 w328 rfl rfl ⟨⟨by decide, by decide⟩, rfl⟩ ⟨(Nat.le_of_ble_eq_true rfl), (Nat.le_of_ble_eq_true rfl)⟩ rfl hl.1 rfl (Nat.le_of_ble_eq_true rfl) d_M_append_49 ⟨(Nat.le_of_ble_eq_true rfl), (Nat.le_of_ble_eq_true rfl)⟩) hP hD hS hA (fun r5 u6 H locs hp9 hP hD hS => ?_)
  have hP : va_P D vwCl (MW dA h ad (MS.s_fresh (MS.s_used (MS.s_block (MS.s_kept (MS.s_records (MS.s_recordBlocks (MS.s_units (MS.s_seconds (MS.s_firsts (MS.s_recordSeries (MS.s_kinds (MS.s_written (MS.s_cutLeft (MS.s_cod x 0) (x.rCut 1)) (x.rWr 1)) (va_up x.kinds x.records 1)) (va_up x.recordSeries x.records w)) (va_up x.firsts x.records a)) (va_up x.seconds x.records b)) (va_up x.units x.records 1)) (va_up x.recordBlocks x.records (x.rBlock 1))) (x.records + 1)) (x.rKept 1)) (x.rBlock 1)) (x.rUsed 1)) true)) H := hP
  have hD : va_D A (MW dA h ad (MS.s_fresh (MS.s_used (MS.s_block (MS.s_kept (MS.s_records (MS.s_recordBlocks (MS.s_units (MS.s_seconds (MS.s_firsts (MS.s_recordSeries (MS.s_kinds (MS.s_written (MS.s_cutLeft (MS.s_cod x 0) (x.rCut 1)) (x.rWr 1)) (va_up x.kinds x.records 1)) (va_up x.recordSeries x.records w)) (va_up x.firsts x.records a)) (va_up x.seconds x.records b)) (va_up x.units x.records 1)) (va_up x.recordBlocks x.records (x.rBlock 1))) (x.records + 1)) (x.rKept 1)) (x.rBlock 1)) (x.rUsed 1)) true)) := hD
  replace hp9 : bI true = r5 := Eq.symm hp9
  subst hp9
  refine lv_if_ne hx hb d_M_append_52 (tgt := 62) rfl (fun _ => ?_) (fun h9 => absurd h9 (by decide))
  refine lv_aload_n hx hb d_M_append_62 rfl (lv_at hl 0 rfl) ?_
  refine lv_iload_n hx hb d_M_append_63 rfl (lv_at hl 1 rfl) ?_
  refine lv_lload_n hx hb d_M_append_64 rfl (lv_at hl 2 rfl) ?_
  refine lv_lload hx hb d_M_append_65 (lv_at hl 3 rfl) ?_
  refine jfV (rnV (As := [.int (nI w), .long a, .long b]) (rest := []) hx hb hml hown hE hK (hN _ _ hS) hP hD (k_come l D dA H.size h ad (MS.s_fresh (MS.s_used (MS.s_block (MS.s_kept (MS.s_records (MS.s_recordBlocks (MS.s_units (MS.s_seconds (MS.s_firsts (MS.s_recordSeries (MS.s_kinds (MS.s_written (MS.s_cutLeft (MS.s_cod x 0) (x.rCut 1)) (x.rWr 1)) (va_up x.kinds x.records 1)) (va_up x.recordSeries x.records w)) (va_up x.firsts x.records a)) (va_up x.seconds x.records b)) (va_up x.units x.records 1)) (va_up x.recordBlocks x.records (x.rBlock 1))) (x.records + 1)) (x.rKept 1)) (x.rBlock 1)) (x.rUsed 1)) true) w a b (show w < 256 from by omega) (Int64.not_lt.mpr t4) (show x.points < 12000 from by omega)) (q0 := 0) rfl rfl w893 w892 w894 w895 w328 rfl rfl ⟨⟨by decide, by decide⟩, rfl⟩ ⟨(Nat.le_of_ble_eq_true rfl), (Nat.le_of_ble_eq_true rfl)⟩ rfl hl.1 rfl (Nat.le_of_ble_eq_true rfl) d_M_append_67 ⟨(Nat.le_of_ble_eq_true rfl), (Nat.le_of_ble_eq_true rfl)⟩) hP hD hS hA (fun u8 H locs hp9 hP hD hS => ?_)
  have hP : va_P D vwCl (MW dA h ad (MS.s_fresh (MS.s_used (MS.s_block (MS.s_kept (MS.s_records (MS.s_recordBlocks (MS.s_units (MS.s_seconds (MS.s_firsts (MS.s_recordSeries (MS.s_kinds (MS.s_points (MS.s_baseHidden (MS.s_hidden (MS.s_places (MS.s_pointValues (MS.s_pointTimes (MS.s_pointSeries (MS.s_lasts (MS.s_written (MS.s_cutLeft (MS.s_cod x 0) (x.rCut 1)) (x.rWr 1)) (va_up x.lasts w a)) (va_up x.pointSeries x.points w)) (va_up x.pointTimes x.points a)) (va_up x.pointValues x.points b)) (va_up x.places x.points (-1))) (va_up x.hidden x.points (-1))) (va_up x.baseHidden x.points (-1))) (x.points + 1)) (va_up x.kinds x.records 1)) (va_up x.recordSeries x.records w)) (va_up x.firsts x.records a)) (va_up x.seconds x.records b)) (va_up x.units x.records 1)) (va_up x.recordBlocks x.records (x.rBlock 1))) (x.records + 1)) (x.rKept 1)) (x.rBlock 1)) (x.rUsed 1)) true)) H := hP
  have hD : va_D A (MW dA h ad (MS.s_fresh (MS.s_used (MS.s_block (MS.s_kept (MS.s_records (MS.s_recordBlocks (MS.s_units (MS.s_seconds (MS.s_firsts (MS.s_recordSeries (MS.s_kinds (MS.s_points (MS.s_baseHidden (MS.s_hidden (MS.s_places (MS.s_pointValues (MS.s_pointTimes (MS.s_pointSeries (MS.s_lasts (MS.s_written (MS.s_cutLeft (MS.s_cod x 0) (x.rCut 1)) (x.rWr 1)) (va_up x.lasts w a)) (va_up x.pointSeries x.points w)) (va_up x.pointTimes x.points a)) (va_up x.pointValues x.points b)) (va_up x.places x.points (-1))) (va_up x.hidden x.points (-1))) (va_up x.baseHidden x.points (-1))) (x.points + 1)) (va_up x.kinds x.records 1)) (va_up x.recordSeries x.records w)) (va_up x.firsts x.records a)) (va_up x.seconds x.records b)) (va_up x.units x.records 1)) (va_up x.recordBlocks x.records (x.rBlock 1))) (x.records + 1)) (x.rKept 1)) (x.rBlock 1)) (x.rUsed 1)) true)) := hD
  refine lv_aload_n hx hb d_M_append_70 rfl (lv_at hl 0 rfl) ?_
  refine jfI (rnV (As := []) (rest := []) hx hb hml hown hE hK (hN _ _ hS) hP hD (k_headCount l D dA H.size h ad (MS.s_fresh (MS.s_used (MS.s_block (MS.s_kept (MS.s_records (MS.s_recordBlocks (MS.s_units (MS.s_seconds (MS.s_firsts (MS.s_recordSeries (MS.s_kinds (MS.s_points (MS.s_baseHidden (MS.s_hidden (MS.s_places (MS.s_pointValues (MS.s_pointTimes (MS.s_pointSeries (MS.s_lasts (MS.s_written (MS.s_cutLeft (MS.s_cod x 0) (x.rCut 1)) (x.rWr 1)) (va_up x.lasts w a)) (va_up x.pointSeries x.points w)) (va_up x.pointTimes x.points a)) (va_up x.pointValues x.points b)) (va_up x.places x.points (-1))) (va_up x.hidden x.points (-1))) (va_up x.baseHidden x.points (-1))) (x.points + 1)) (va_up x.kinds x.records 1)) (va_up x.recordSeries x.records w)) (va_up x.firsts x.records a)) (va_up x.seconds x.records b)) (va_up x.units x.records 1)) (va_up x.recordBlocks x.records (x.rBlock 1))) (x.records + 1)) (x.rKept 1)) (x.rBlock 1)) (x.rUsed 1)) true) (show (x.points + 1) ≤ 12000 from by omega)) (q0 := 0) rfl rfl w439 w438 w440 w441 w328 rfl rfl ⟨⟨by decide, by decide⟩, rfl⟩ ⟨(Nat.le_of_ble_eq_true rfl), (Nat.le_of_ble_eq_true rfl)⟩ rfl hl.1 rfl (Nat.le_of_ble_eq_true rfl) d_M_append_71 ⟨(Nat.le_of_ble_eq_true rfl), (Nat.le_of_ble_eq_true rfl)⟩) hP hD hS hA (fun r9 u10 H locs hp9 hP hD hS => ?_)
  have hP : va_P D vwCl (MW dA h ad (MS.s_fresh (MS.s_used (MS.s_block (MS.s_kept (MS.s_records (MS.s_recordBlocks (MS.s_units (MS.s_seconds (MS.s_firsts (MS.s_recordSeries (MS.s_kinds (MS.s_points (MS.s_baseHidden (MS.s_hidden (MS.s_places (MS.s_pointValues (MS.s_pointTimes (MS.s_pointSeries (MS.s_lasts (MS.s_written (MS.s_cutLeft (MS.s_cod x 0) (x.rCut 1)) (x.rWr 1)) (va_up x.lasts w a)) (va_up x.pointSeries x.points w)) (va_up x.pointTimes x.points a)) (va_up x.pointValues x.points b)) (va_up x.places x.points (-1))) (va_up x.hidden x.points (-1))) (va_up x.baseHidden x.points (-1))) (x.points + 1)) (va_up x.kinds x.records 1)) (va_up x.recordSeries x.records w)) (va_up x.firsts x.records a)) (va_up x.seconds x.records b)) (va_up x.units x.records 1)) (va_up x.recordBlocks x.records (x.rBlock 1))) (x.records + 1)) (x.rKept 1)) (x.rBlock 1)) (x.rUsed 1)) true)) H := hP
  have hD : va_D A (MW dA h ad (MS.s_fresh (MS.s_used (MS.s_block (MS.s_kept (MS.s_records (MS.s_recordBlocks (MS.s_units (MS.s_seconds (MS.s_firsts (MS.s_recordSeries (MS.s_kinds (MS.s_points (MS.s_baseHidden (MS.s_hidden (MS.s_places (MS.s_pointValues (MS.s_pointTimes (MS.s_pointSeries (MS.s_lasts (MS.s_written (MS.s_cutLeft (MS.s_cod x 0) (x.rCut 1)) (x.rWr 1)) (va_up x.lasts w a)) (va_up x.pointSeries x.points w)) (va_up x.pointTimes x.points a)) (va_up x.pointValues x.points b)) (va_up x.places x.points (-1))) (va_up x.hidden x.points (-1))) (va_up x.baseHidden x.points (-1))) (x.points + 1)) (va_up x.kinds x.records 1)) (va_up x.recordSeries x.records w)) (va_up x.firsts x.records a)) (va_up x.seconds x.records b)) (va_up x.units x.records 1)) (va_up x.recordBlocks x.records (x.rBlock 1))) (x.records + 1)) (x.rKept 1)) (x.rBlock 1)) (x.rUsed 1)) true)) := hD
  replace hp9 : nI (MS.s_points (MS.s_hidden (MS.s_places (MS.s_pointTimes x (va_up x.pointTimes x.points a)) (va_up x.places x.points (-1))) (va_up x.hidden x.points (-1))) (x.points + 1)).heads = r9 := Eq.symm hp9
  subst hp9
  exact rfI hx hb hr hlk hS (MS.s_fresh (MS.s_used (MS.s_block (MS.s_kept (MS.s_records (MS.s_recordBlocks (MS.s_units (MS.s_seconds (MS.s_firsts (MS.s_recordSeries (MS.s_kinds (MS.s_points (MS.s_baseHidden (MS.s_hidden (MS.s_places (MS.s_pointValues (MS.s_pointTimes (MS.s_pointSeries (MS.s_lasts (MS.s_written (MS.s_cutLeft (MS.s_cod x 0) (x.rCut 1)) (x.rWr 1)) (va_up x.lasts w a)) (va_up x.pointSeries x.points w)) (va_up x.pointTimes x.points a)) (va_up x.pointValues x.points b)) (va_up x.places x.points (-1))) (va_up x.hidden x.points (-1))) (va_up x.baseHidden x.points (-1))) (x.points + 1)) (va_up x.kinds x.records 1)) (va_up x.recordSeries x.records w)) (va_up x.firsts x.records a)) (va_up x.seconds x.records b)) (va_up x.units x.records 1)) (va_up x.recordBlocks x.records (x.rBlock 1))) (x.records + 1)) (x.rKept 1)) (x.rBlock 1)) (x.rUsed 1)) true) ⟨rfl, rfl⟩ hP hD (Nat.le_of_ble_eq_true rfl) (Nat.le_of_ble_eq_true rfl) d_M_append_74
set_option maxHeartbeats 4000000 in
set_option maxRecDepth 100000 in
theorem k_delete_1 (l : Launch) (D : va_G) (dA : Nat → ClassId) (sz : Nat) (h : Nat) (ad : Nat → Nat) (x : MS) (z : Int32) (a : Int64) (b : Int64) (ho : x.on = false) : Met l ⟨"SeriesVaultModel", "delete", "(IJJ)I"⟩ [Cond.code ⟨"SeriesVaultModel", "delete", "(IJJ)I"⟩ prog_14_method_37_code 7 (some FieldType.int)] { frames := 2, cells := 0, slots := 0, locals := 21 } (pC D dA [.ref h, .int z, .long a, .long b] (MW dA h ad x) sz) (va_Qi (fun (r9 : Int32) (u9 : Unit) => r9 = 0) (fun (u9 : Unit) t9 => bW D (va_A (MW dA h ad x) sz) (MW dA h ad (MS.s_cod x 1)) t9) (va_A (MW dA h ad x) sz)) 0 0 (va_A (MW dA h ad x) sz) := by
  refine mkC (y := ⟨"SeriesVaultModel", "delete", "(IJJ)I"⟩) (cc := prog_14_method_37_code) (maxL := 7) (av := [.ref h, .int z, .long a, .long b]) (ws := MW dA h ad x) (sz := sz) (Qc := fun A => va_Qi (fun (r9 : Int32) (u9 : Unit) => r9 = 0) (fun (u9 : Unit) t9 => bW D A (MW dA h ad (MS.s_cod x 1)) t9) A) (by decide) (Nat.le_of_ble_eq_true rfl) ?_
  intro A p e s m below meth c ls hsz hB
  obtain ⟨hx, hb, hr, hml, hown, hin, hlk, hE, hK, hP, hD, hS, hA, hN, hl⟩ := hB
  have hown : s.vm.findClass "SeriesVaultModel" = some m.cls := hown
  have hl : lv_has ls 7 [(0, .ref h), (1, .int z), (2, .long a), (4, .long b)] := hl
  obtain ⟨H, hH⟩ : ∃ z, z = s.heap := ⟨_, rfl⟩
  have hP : va_P D vwCl (MW dA h ad x) H := by rw [hH]; exact hP
  have hS : va_S A s.heap H [] := by rw [hH]; exact hS
  rw [← hH]
  refine lv_aload_n hx hb d_M_delete_0 rfl (lv_at hl 0 rfl) ?_
  refine lv_aload_n hx hb d_M_delete_1 rfl (lv_at hl 0 rfl) ?_
  refine lv_iload_n hx hb d_M_delete_2 rfl (lv_at hl 1 rfl) ?_
  refine jfI (rnV (As := [.int z]) (rest := [.ref h]) hx hb hml hown hE hK (hN _ _ hS) hP hD (k_seriesFault_1 l D dA H.size h ad x z ho) (q0 := 0) rfl rfl w334 w333 w335 w336 w328 rfl rfl ⟨⟨by decide, by decide⟩, rfl⟩ ⟨(Nat.le_of_ble_eq_true rfl), (Nat.le_of_ble_eq_true rfl)⟩ rfl hl.1 rfl (Nat.le_of_ble_eq_true rfl) d_M_delete_3 ⟨(Nat.le_of_ble_eq_true rfl), (Nat.le_of_ble_eq_true rfl)⟩) hP hD hS hA (fun r1 u2 H locs hp9 hP hD hS => ?_)
  have hP : va_P D vwCl (MW dA h ad x) H := hP
  have hD : va_D A (MW dA h ad x) := hD
  replace hp9 : 1 = r1 := Eq.symm hp9
  subst hp9
  refine pF (v := .int 1) hx hb hown hE hK hP hD hS 0 rfl rfl layM tyM tokM nmM 0 (by decide) w319 rfl rfl rfl (Nat.le_of_ble_eq_true rfl) d_M_delete_6 (fun H locs hP hD hS => ?_)
  have hP : va_P D vwCl (MW dA h ad (MS.s_cod x 1)) H := hP
  have hD : va_D A (MW dA h ad (MS.s_cod x 1)) := hD
  refine lv_aload_n hx hb d_M_delete_9 rfl (lv_at hl 0 rfl) ?_
  refine lv_aload_n hx hb d_M_delete_10 rfl (lv_at hl 0 rfl) ?_
  refine gF (v := .int 1) hx hb hown hE hK hP 0 rfl rfl layM 0 (by decide) w319 rfl d_M_delete_11 ?_
  refine lv_if_ne hx hb d_M_delete_14 (tgt := 28) rfl (fun _ => ?_) (fun h9 => absurd h9 (by decide))
  refine lv_aload_n hx hb d_M_delete_28 rfl (lv_at hl 0 rfl) ?_
  refine gF (v := .int 1) hx hb hown hE hK hP 0 rfl rfl layM 0 (by decide) w319 rfl d_M_delete_29 ?_
  refine pF (v := .int 1) hx hb hown hE hK hP hD hS 0 rfl rfl layM tyM tokM nmM 0 (by decide) w319 rfl rfl rfl (Nat.le_of_ble_eq_true rfl) d_M_delete_32 (fun H locs hP hD hS => ?_)
  have hP : va_P D vwCl (MW dA h ad (MS.s_cod x 1)) H := hP
  have hD : va_D A (MW dA h ad (MS.s_cod x 1)) := hD
  refine lv_aload_n hx hb d_M_delete_35 rfl (lv_at hl 0 rfl) ?_
  refine gF (v := .int 1) hx hb hown hE hK hP 0 rfl rfl layM 0 (by decide) w319 rfl d_M_delete_36 ?_
  refine lv_if_le hx hb d_M_delete_39 (tgt := 44) rfl (fun h9 => absurd h9 (by decide)) (fun _ => ?_)
  refine lv_iconst (v := 0) hx hb d_M_delete_42 (by decide) ?_
  exact rfI hx hb hr hlk hS () rfl hP hD (Nat.le_of_ble_eq_true rfl) (Nat.le_of_ble_eq_true rfl) d_M_delete_43
set_option maxHeartbeats 4000000 in
set_option maxRecDepth 100000 in
theorem k_delete_2 (l : Launch) (D : va_G) (dA : Nat → ClassId) (sz : Nat) (h : Nat) (ad : Nat → Nat) (x : MS) (z : Int32) (a : Int64) (b : Int64) (ho : x.on = true) (h0 : z < 0 ∨ nI x.seriesCount ≤ z) : Met l ⟨"SeriesVaultModel", "delete", "(IJJ)I"⟩ [Cond.code ⟨"SeriesVaultModel", "delete", "(IJJ)I"⟩ prog_14_method_37_code 7 (some FieldType.int)] { frames := 2, cells := 0, slots := 0, locals := 21 } (pC D dA [.ref h, .int z, .long a, .long b] (MW dA h ad x) sz) (va_Qi (fun (r9 : Int32) (u9 : Unit) => r9 = 0) (fun (u9 : Unit) t9 => bW D (va_A (MW dA h ad x) sz) (MW dA h ad (MS.s_cod x 2)) t9) (va_A (MW dA h ad x) sz)) 0 0 (va_A (MW dA h ad x) sz) := by
  refine mkC (y := ⟨"SeriesVaultModel", "delete", "(IJJ)I"⟩) (cc := prog_14_method_37_code) (maxL := 7) (av := [.ref h, .int z, .long a, .long b]) (ws := MW dA h ad x) (sz := sz) (Qc := fun A => va_Qi (fun (r9 : Int32) (u9 : Unit) => r9 = 0) (fun (u9 : Unit) t9 => bW D A (MW dA h ad (MS.s_cod x 2)) t9) A) (by decide) (Nat.le_of_ble_eq_true rfl) ?_
  intro A p e s m below meth c ls hsz hB
  obtain ⟨hx, hb, hr, hml, hown, hin, hlk, hE, hK, hP, hD, hS, hA, hN, hl⟩ := hB
  have hown : s.vm.findClass "SeriesVaultModel" = some m.cls := hown
  have hl : lv_has ls 7 [(0, .ref h), (1, .int z), (2, .long a), (4, .long b)] := hl
  obtain ⟨H, hH⟩ : ∃ z, z = s.heap := ⟨_, rfl⟩
  have hP : va_P D vwCl (MW dA h ad x) H := by rw [hH]; exact hP
  have hS : va_S A s.heap H [] := by rw [hH]; exact hS
  rw [← hH]
  refine lv_aload_n hx hb d_M_delete_0 rfl (lv_at hl 0 rfl) ?_
  refine lv_aload_n hx hb d_M_delete_1 rfl (lv_at hl 0 rfl) ?_
  refine lv_iload_n hx hb d_M_delete_2 rfl (lv_at hl 1 rfl) ?_
  refine jfI (rnV (As := [.int z]) (rest := [.ref h]) hx hb hml hown hE hK (hN _ _ hS) hP hD (k_seriesFault_2 l D dA H.size h ad x z ho h0) (q0 := 0) rfl rfl w334 w333 w335 w336 w328 rfl rfl ⟨⟨by decide, by decide⟩, rfl⟩ ⟨(Nat.le_of_ble_eq_true rfl), (Nat.le_of_ble_eq_true rfl)⟩ rfl hl.1 rfl (Nat.le_of_ble_eq_true rfl) d_M_delete_3 ⟨(Nat.le_of_ble_eq_true rfl), (Nat.le_of_ble_eq_true rfl)⟩) hP hD hS hA (fun r1 u2 H locs hp9 hP hD hS => ?_)
  have hP : va_P D vwCl (MW dA h ad x) H := hP
  have hD : va_D A (MW dA h ad x) := hD
  replace hp9 : 2 = r1 := Eq.symm hp9
  subst hp9
  refine pF (v := .int 2) hx hb hown hE hK hP hD hS 0 rfl rfl layM tyM tokM nmM 0 (by decide) w319 rfl rfl rfl (Nat.le_of_ble_eq_true rfl) d_M_delete_6 (fun H locs hP hD hS => ?_)
  have hP : va_P D vwCl (MW dA h ad (MS.s_cod x 2)) H := hP
  have hD : va_D A (MW dA h ad (MS.s_cod x 2)) := hD
  refine lv_aload_n hx hb d_M_delete_9 rfl (lv_at hl 0 rfl) ?_
  refine lv_aload_n hx hb d_M_delete_10 rfl (lv_at hl 0 rfl) ?_
  refine gF (v := .int 2) hx hb hown hE hK hP 0 rfl rfl layM 0 (by decide) w319 rfl d_M_delete_11 ?_
  refine lv_if_ne hx hb d_M_delete_14 (tgt := 28) rfl (fun _ => ?_) (fun h9 => absurd h9 (by decide))
  refine lv_aload_n hx hb d_M_delete_28 rfl (lv_at hl 0 rfl) ?_
  refine gF (v := .int 2) hx hb hown hE hK hP 0 rfl rfl layM 0 (by decide) w319 rfl d_M_delete_29 ?_
  refine pF (v := .int 2) hx hb hown hE hK hP hD hS 0 rfl rfl layM tyM tokM nmM 0 (by decide) w319 rfl rfl rfl (Nat.le_of_ble_eq_true rfl) d_M_delete_32 (fun H locs hP hD hS => ?_)
  have hP : va_P D vwCl (MW dA h ad (MS.s_cod x 2)) H := hP
  have hD : va_D A (MW dA h ad (MS.s_cod x 2)) := hD
  refine lv_aload_n hx hb d_M_delete_35 rfl (lv_at hl 0 rfl) ?_
  refine gF (v := .int 2) hx hb hown hE hK hP 0 rfl rfl layM 0 (by decide) w319 rfl d_M_delete_36 ?_
  refine lv_if_le hx hb d_M_delete_39 (tgt := 44) rfl (fun h9 => absurd h9 (by decide)) (fun _ => ?_)
  refine lv_iconst (v := 0) hx hb d_M_delete_42 (by decide) ?_
  exact rfI hx hb hr hlk hS () rfl hP hD (Nat.le_of_ble_eq_true rfl) (Nat.le_of_ble_eq_true rfl) d_M_delete_43
theorem d_M_delete_17 : decode prog_14_method_37_code 17 = .ok (.lload_n 2, 1) := by decide +kernel
theorem d_M_delete_18 : decode prog_14_method_37_code 18 = .ok (.lload 4, 2) := by decide +kernel
theorem d_M_delete_20 : decode prog_14_method_37_code 20 = .ok (.lcmp, 1) := by decide +kernel
theorem d_M_delete_21 : decode prog_14_method_37_code 21 = .ok (.ifCond .le 7, 3) := by decide +kernel
theorem d_M_delete_24 : decode prog_14_method_37_code 24 = .ok (.iconst 3, 1) := by decide +kernel
theorem d_M_delete_25 : decode prog_14_method_37_code 25 = .ok (.goto 7, 3) := by decide +kernel
set_option maxHeartbeats 4000000 in
set_option maxRecDepth 100000 in
theorem k_delete_3 (l : Launch) (D : va_G) (dA : Nat → ClassId) (sz : Nat) (h : Nat) (ad : Nat → Nat) (x : MS) (w : Nat) (a : Int64) (b : Int64) (ho : x.on = true) (hw : w < x.seriesCount) (hc : x.seriesCount ≤ 256) (t1 : b < a) : Met l ⟨"SeriesVaultModel", "delete", "(IJJ)I"⟩ [Cond.code ⟨"SeriesVaultModel", "delete", "(IJJ)I"⟩ prog_14_method_37_code 7 (some FieldType.int)] { frames := 2, cells := 0, slots := 0, locals := 21 } (pC D dA [.ref h, .int (nI w), .long a, .long b] (MW dA h ad x) sz) (va_Qi (fun (r9 : Int32) (u9 : Unit) => r9 = 0) (fun (u9 : Unit) t9 => bW D (va_A (MW dA h ad x) sz) (MW dA h ad (MS.s_cod x 3)) t9) (va_A (MW dA h ad x) sz)) 0 0 (va_A (MW dA h ad x) sz) := by
  refine mkC (y := ⟨"SeriesVaultModel", "delete", "(IJJ)I"⟩) (cc := prog_14_method_37_code) (maxL := 7) (av := [.ref h, .int (nI w), .long a, .long b]) (ws := MW dA h ad x) (sz := sz) (Qc := fun A => va_Qi (fun (r9 : Int32) (u9 : Unit) => r9 = 0) (fun (u9 : Unit) t9 => bW D A (MW dA h ad (MS.s_cod x 3)) t9) A) (by decide) (Nat.le_of_ble_eq_true rfl) ?_
  intro A p e s m below meth c ls hsz hB
  obtain ⟨hx, hb, hr, hml, hown, hin, hlk, hE, hK, hP, hD, hS, hA, hN, hl⟩ := hB
  have hown : s.vm.findClass "SeriesVaultModel" = some m.cls := hown
  have hl : lv_has ls 7 [(0, .ref h), (1, .int (nI w)), (2, .long a), (4, .long b)] := hl
  obtain ⟨H, hH⟩ : ∃ z, z = s.heap := ⟨_, rfl⟩
  have hP : va_P D vwCl (MW dA h ad x) H := by rw [hH]; exact hP
  have hS : va_S A s.heap H [] := by rw [hH]; exact hS
  rw [← hH]
  refine lv_aload_n hx hb d_M_delete_0 rfl (lv_at hl 0 rfl) ?_
  refine lv_aload_n hx hb d_M_delete_1 rfl (lv_at hl 0 rfl) ?_
  refine lv_iload_n hx hb d_M_delete_2 rfl (lv_at hl 1 rfl) ?_
  refine jfI (rnV (As := [.int (nI w)]) (rest := [.ref h]) hx hb hml hown hE hK (hN _ _ hS) hP hD (k_seriesFault_0 l D dA H.size h ad x w ho hw hc) (q0 := 0) rfl rfl w334 w333 w335 w336 w328 rfl rfl ⟨⟨by decide, by decide⟩, rfl⟩ ⟨(Nat.le_of_ble_eq_true rfl), (Nat.le_of_ble_eq_true rfl)⟩ rfl hl.1 rfl (Nat.le_of_ble_eq_true rfl) d_M_delete_3 ⟨(Nat.le_of_ble_eq_true rfl), (Nat.le_of_ble_eq_true rfl)⟩) hP hD hS hA (fun r1 u2 H locs hp9 hP hD hS => ?_)
  have hP : va_P D vwCl (MW dA h ad x) H := hP
  have hD : va_D A (MW dA h ad x) := hD
  replace hp9 : 0 = r1 := Eq.symm hp9
  subst hp9
  refine pF (v := .int 0) hx hb hown hE hK hP hD hS 0 rfl rfl layM tyM tokM nmM 0 (by decide) w319 rfl rfl rfl (Nat.le_of_ble_eq_true rfl) d_M_delete_6 (fun H locs hP hD hS => ?_)
  have hP : va_P D vwCl (MW dA h ad (MS.s_cod x 0)) H := hP
  have hD : va_D A (MW dA h ad (MS.s_cod x 0)) := hD
  refine lv_aload_n hx hb d_M_delete_9 rfl (lv_at hl 0 rfl) ?_
  refine lv_aload_n hx hb d_M_delete_10 rfl (lv_at hl 0 rfl) ?_
  refine gF (v := .int 0) hx hb hown hE hK hP 0 rfl rfl layM 0 (by decide) w319 rfl d_M_delete_11 ?_
  refine lv_if_ne hx hb d_M_delete_14 (tgt := 28) rfl (fun h9 => absurd (by decide) h9) (fun _ => ?_)
  refine lv_lload_n hx hb d_M_delete_17 rfl (lv_at hl 2 rfl) ?_
  refine lv_lload hx hb d_M_delete_18 (lv_at hl 3 rfl) ?_
  refine W.lcmp hx hb d_M_delete_20 ?_
  refine lv_if_le hx hb d_M_delete_21 (tgt := 28) rfl (fun h9 => absurd h9 (mt (lg_cmp_le _ _).mp (Int64.not_le.mpr t1))) (fun _ => ?_)
  refine lv_iconst (v := 3) hx hb d_M_delete_24 (by decide) ?_
  refine lv_goto hx hb d_M_delete_25 (tgt := 32) rfl ?_
  refine pF (v := .int 3) hx hb hown hE hK hP hD hS 0 rfl rfl layM tyM tokM nmM 0 (by decide) w319 rfl rfl rfl (Nat.le_of_ble_eq_true rfl) d_M_delete_32 (fun H locs hP hD hS => ?_)
  have hP : va_P D vwCl (MW dA h ad (MS.s_cod x 3)) H := hP
  have hD : va_D A (MW dA h ad (MS.s_cod x 3)) := hD
  refine lv_aload_n hx hb d_M_delete_35 rfl (lv_at hl 0 rfl) ?_
  refine gF (v := .int 3) hx hb hown hE hK hP 0 rfl rfl layM 0 (by decide) w319 rfl d_M_delete_36 ?_
  refine lv_if_le hx hb d_M_delete_39 (tgt := 44) rfl (fun h9 => absurd h9 (by decide)) (fun _ => ?_)
  refine lv_iconst (v := 0) hx hb d_M_delete_42 (by decide) ?_
  exact rfI hx hb hr hlk hS () rfl hP hD (Nat.le_of_ble_eq_true rfl) (Nat.le_of_ble_eq_true rfl) d_M_delete_43
theorem d_M_delete_44 : decode prog_14_method_37_code 44 = .ok (.aload_n 0, 1) := by decide +kernel
theorem d_M_delete_45 : decode prog_14_method_37_code 45 = .ok (.iload_n 1, 1) := by decide +kernel
theorem d_M_delete_46 : decode prog_14_method_37_code 46 = .ok (.lload_n 2, 1) := by decide +kernel
theorem d_M_delete_47 : decode prog_14_method_37_code 47 = .ok (.lload 4, 2) := by decide +kernel
theorem d_M_delete_49 : decode prog_14_method_37_code 49 = .ok (.iconst 0, 1) := by decide +kernel
theorem d_M_delete_50 : decode prog_14_method_37_code 50 = .ok (.invokevirtual 278, 3) := by decide +kernel
theorem d_M_delete_53 : decode prog_14_method_37_code 53 = .ok (.istore 6, 2) := by decide +kernel
theorem d_M_delete_55 : decode prog_14_method_37_code 55 = .ok (.iload 6, 2) := by decide +kernel
theorem d_M_delete_57 : decode prog_14_method_37_code 57 = .ok (.ifCond .ne 5, 3) := by decide +kernel
theorem d_M_delete_60 : decode prog_14_method_37_code 60 = .ok (.iconst 0, 1) := by decide +kernel
theorem d_M_delete_61 : decode prog_14_method_37_code 61 = .ok (.ireturn, 1) := by decide +kernel
theorem w896 : Cond.methodLink "SeriesVaultModel" 278 ⟨"SeriesVaultModel", "between", "(IJJZ)I"⟩ ∈ aW := aw_of (tb_10 (List.mem_of_getElem? (i := 52) rfl)) rfl
theorem w897 : Cond.code ⟨"SeriesVaultModel", "between", "(IJJZ)I"⟩ prog_14_method_18_code 10 (some FieldType.int) ∈ aW := aw_of (tb_10 (List.mem_of_getElem? (i := 55) rfl)) rfl
theorem w898 : Cond.instanceMethod ⟨"SeriesVaultModel", "between", "(IJJZ)I"⟩ ∈ aW := aw_of (tb_10 (List.mem_of_getElem? (i := 54) rfl)) rfl
theorem w899 : Cond.selects "SeriesVaultModel" ⟨"SeriesVaultModel", "between", "(IJJZ)I"⟩ ⟨"SeriesVaultModel", "between", "(IJJZ)I"⟩ ∈ aW := aw_pr (List.mem_map.mpr ⟨_, pv_6 (List.mem_of_getElem? (i := 4) rfl), rfl⟩) rfl
set_option maxHeartbeats 4000000 in
set_option maxRecDepth 100000 in
theorem k_delete_n (l : Launch) (D : va_G) (dA : Nat → ClassId) (sz : Nat) (h : Nat) (ad : Nat → Nat) (x : MS) (w : Nat) (a : Int64) (b : Int64) (ho : x.on = true) (hw : w < x.seriesCount) (hc : x.seriesCount ≤ 256) (t1 : a ≤ b) (hs : ∀ q : Nat, q < x.points → x.pointSeries q < 256) (hp1 : x.points ≤ 12000) (n0 : cnt x.points (x.btw w a b false) = 0) : Met l ⟨"SeriesVaultModel", "delete", "(IJJ)I"⟩ [Cond.code ⟨"SeriesVaultModel", "delete", "(IJJ)I"⟩ prog_14_method_37_code 7 (some FieldType.int)] { frames := 3, cells := 0, slots := 0, locals := 50 } (pC D dA [.ref h, .int (nI w), .long a, .long b] (MW dA h ad x) sz) (va_Qi (fun (r9 : Int32) (u9 : Unit) => r9 = 0) (fun (u9 : Unit) t9 => bW D (va_A (MW dA h ad x) sz) (MW dA h ad (MS.s_cod x 0)) t9) (va_A (MW dA h ad x) sz)) 0 0 (va_A (MW dA h ad x) sz) := by
  refine mkC (y := ⟨"SeriesVaultModel", "delete", "(IJJ)I"⟩) (cc := prog_14_method_37_code) (maxL := 7) (av := [.ref h, .int (nI w), .long a, .long b]) (ws := MW dA h ad x) (sz := sz) (Qc := fun A => va_Qi (fun (r9 : Int32) (u9 : Unit) => r9 = 0) (fun (u9 : Unit) t9 => bW D A (MW dA h ad (MS.s_cod x 0)) t9) A) (by decide) (Nat.le_of_ble_eq_true rfl) ?_
  intro A p e s m below meth c ls hsz hB
  obtain ⟨hx, hb, hr, hml, hown, hin, hlk, hE, hK, hP, hD, hS, hA, hN, hl⟩ := hB
  have hown : s.vm.findClass "SeriesVaultModel" = some m.cls := hown
  have hl : lv_has ls 7 [(0, .ref h), (1, .int (nI w)), (2, .long a), (4, .long b)] := hl
  obtain ⟨H, hH⟩ : ∃ z, z = s.heap := ⟨_, rfl⟩
  have hP : va_P D vwCl (MW dA h ad x) H := by rw [hH]; exact hP
  have hS : va_S A s.heap H [] := by rw [hH]; exact hS
  rw [← hH]
  refine lv_aload_n hx hb d_M_delete_0 rfl (lv_at hl 0 rfl) ?_
  refine lv_aload_n hx hb d_M_delete_1 rfl (lv_at hl 0 rfl) ?_
  refine lv_iload_n hx hb d_M_delete_2 rfl (lv_at hl 1 rfl) ?_
  refine jfI (rnV (As := [.int (nI w)]) (rest := [.ref h]) hx hb hml hown hE hK (hN _ _ hS) hP hD (k_seriesFault_0 l D dA H.size h ad x w ho hw hc) (q0 := 0) rfl rfl w334 w333 w335 w336 w328 rfl rfl ⟨⟨by decide, by decide⟩, rfl⟩ ⟨(Nat.le_of_ble_eq_true rfl), (Nat.le_of_ble_eq_true rfl)⟩ rfl hl.1 rfl (Nat.le_of_ble_eq_true rfl) d_M_delete_3 ⟨(Nat.le_of_ble_eq_true rfl), (Nat.le_of_ble_eq_true rfl)⟩) hP hD hS hA (fun r1 u2 H locs hp9 hP hD hS => ?_)
  have hP : va_P D vwCl (MW dA h ad x) H := hP
  have hD : va_D A (MW dA h ad x) := hD
  replace hp9 : 0 = r1 := Eq.symm hp9
  subst hp9
  refine pF (v := .int 0) hx hb hown hE hK hP hD hS 0 rfl rfl layM tyM tokM nmM 0 (by decide) w319 rfl rfl rfl (Nat.le_of_ble_eq_true rfl) d_M_delete_6 (fun H locs hP hD hS => ?_)
  have hP : va_P D vwCl (MW dA h ad (MS.s_cod x 0)) H := hP
  have hD : va_D A (MW dA h ad (MS.s_cod x 0)) := hD
  refine lv_aload_n hx hb d_M_delete_9 rfl (lv_at hl 0 rfl) ?_
  refine lv_aload_n hx hb d_M_delete_10 rfl (lv_at hl 0 rfl) ?_
  refine gF (v := .int 0) hx hb hown hE hK hP 0 rfl rfl layM 0 (by decide) w319 rfl d_M_delete_11 ?_
  refine lv_if_ne hx hb d_M_delete_14 (tgt := 28) rfl (fun h9 => absurd (by decide) h9) (fun _ => ?_)
  refine lv_lload_n hx hb d_M_delete_17 rfl (lv_at hl 2 rfl) ?_
  refine lv_lload hx hb d_M_delete_18 (lv_at hl 3 rfl) ?_
  refine W.lcmp hx hb d_M_delete_20 ?_
  refine lv_if_le hx hb d_M_delete_21 (tgt := 28) rfl (fun _ => ?_) (fun h9 => absurd ((lg_cmp_le _ _).mpr t1) h9)
  refine lv_aload_n hx hb d_M_delete_28 rfl (lv_at hl 0 rfl) ?_
  refine gF (v := .int 0) hx hb hown hE hK hP 0 rfl rfl layM 0 (by decide) w319 rfl d_M_delete_29 ?_
  refine pF (v := .int 0) hx hb hown hE hK hP hD hS 0 rfl rfl layM tyM tokM nmM 0 (by decide) w319 rfl rfl rfl (Nat.le_of_ble_eq_true rfl) d_M_delete_32 (fun H locs hP hD hS => ?_)
  have hP : va_P D vwCl (MW dA h ad (MS.s_cod x 0)) H := hP
  have hD : va_D A (MW dA h ad (MS.s_cod x 0)) := hD
  refine lv_aload_n hx hb d_M_delete_35 rfl (lv_at hl 0 rfl) ?_
  refine gF (v := .int 0) hx hb hown hE hK hP 0 rfl rfl layM 0 (by decide) w319 rfl d_M_delete_36 ?_
  refine lv_if_le hx hb d_M_delete_39 (tgt := 44) rfl (fun _ => ?_) (fun h9 => absurd (by decide) h9)
  refine lv_aload_n hx hb d_M_delete_44 rfl (lv_at hl 0 rfl) ?_
  refine lv_iload_n hx hb d_M_delete_45 rfl (lv_at hl 1 rfl) ?_
  refine lv_lload_n hx hb d_M_delete_46 rfl (lv_at hl 2 rfl) ?_
  refine lv_lload hx hb d_M_delete_47 (lv_at hl 3 rfl) ?_
  refine lv_iconst (v := 0) hx hb d_M_delete_49 (by decide) ?_
  refine jfI (rnV (As := [.int (nI w), .long a, .long b, .int 0]) (rest := []) hx hb hml hown hE hK (hN _ _ hS) hP hD (k_between l D dA H.size h ad (MS.s_cod x 0) w a b false (show x.points ≤ 12000 from by omega) (show w < 256 from by omega) hs) (q0 := 0) rfl rfl w897 w896 w898 w899 w328 rfl rfl ⟨⟨by decide, by decide⟩, rfl⟩ ⟨(Nat.le_of_ble_eq_true rfl), (Nat.le_of_ble_eq_true rfl)⟩ rfl hl.1 rfl (Nat.le_of_ble_eq_true rfl) d_M_delete_50 ⟨(Nat.le_of_ble_eq_true rfl), (Nat.le_of_ble_eq_true rfl)⟩) hP hD hS hA (fun r3 u4 H locs hp9 hP hD hS => ?_)
  have hP : va_P D vwCl (MW dA h ad (MS.s_cod x 0)) H := hP
  have hD : va_D A (MW dA h ad (MS.s_cod x 0)) := hD
  replace hp9 : nI (cnt x.points (x.btw w a b false)) = r3 := Eq.symm hp9
  subst hp9
  refine lv_istore hx hb d_M_delete_53 hl (by decide) rfl (fun ls hl => ?_)
  have hl : lv_has ls 7 [(6, .int (nI (cnt x.points (x.btw w a b false)))), (0, .ref h), (1, .int (nI w)), (2, .long a), (4, .long b)] := hl
  refine lv_iload hx hb d_M_delete_55 (lv_at hl 0 rfl) ?_
  have bz := cnt_le x.points (x.btw w a b false)
  refine lv_if_ne hx hb d_M_delete_57 (tgt := 62) rfl (fun h9 => absurd ((nI_eq (a := cnt x.points (x.btw w a b false)) (b := 0) (by omega) (by omega)).mpr n0) h9) (fun _ => ?_)
  refine lv_iconst (v := 0) hx hb d_M_delete_60 (by decide) ?_
  exact rfI hx hb hr hlk hS () rfl hP hD (Nat.le_of_ble_eq_true rfl) (Nat.le_of_ble_eq_true rfl) d_M_delete_61
theorem d_M_delete_62 : decode prog_14_method_37_code 62 = .ok (.aload_n 0, 1) := by decide +kernel
theorem d_M_delete_63 : decode prog_14_method_37_code 63 = .ok (.iload_n 1, 1) := by decide +kernel
theorem d_M_delete_64 : decode prog_14_method_37_code 64 = .ok (.lload_n 2, 1) := by decide +kernel
theorem d_M_delete_65 : decode prog_14_method_37_code 65 = .ok (.lload 4, 2) := by decide +kernel
theorem d_M_delete_67 : decode prog_14_method_37_code 67 = .ok (.iconst 1, 1) := by decide +kernel
theorem d_M_delete_68 : decode prog_14_method_37_code 68 = .ok (.invokevirtual 278, 3) := by decide +kernel
theorem d_M_delete_71 : decode prog_14_method_37_code 71 = .ok (.ifCond .le 12, 3) := by decide +kernel
theorem d_M_delete_83 : decode prog_14_method_37_code 83 = .ok (.aload_n 0, 1) := by decide +kernel
theorem d_M_delete_84 : decode prog_14_method_37_code 84 = .ok (.iconst 1, 1) := by decide +kernel
theorem d_M_delete_85 : decode prog_14_method_37_code 85 = .ok (.invokevirtual 247, 3) := by decide +kernel
theorem d_M_delete_88 : decode prog_14_method_37_code 88 = .ok (.ifCond .ne 10, 3) := by decide +kernel
theorem d_M_delete_91 : decode prog_14_method_37_code 91 = .ok (.aload_n 0, 1) := by decide +kernel
theorem d_M_delete_92 : decode prog_14_method_37_code 92 = .ok (.iconst 4, 1) := by decide +kernel
theorem d_M_delete_93 : decode prog_14_method_37_code 93 = .ok (.putfield 145, 3) := by decide +kernel
theorem d_M_delete_96 : decode prog_14_method_37_code 96 = .ok (.iconst 0, 1) := by decide +kernel
theorem d_M_delete_97 : decode prog_14_method_37_code 97 = .ok (.ireturn, 1) := by decide +kernel
theorem d_M_delete_74 : decode prog_14_method_37_code 74 = .ok (.aload_n 0, 1) := by decide +kernel
theorem d_M_delete_75 : decode prog_14_method_37_code 75 = .ok (.invokevirtual 282, 3) := by decide +kernel
theorem d_M_delete_78 : decode prog_14_method_37_code 78 = .ok (.bipush 64, 2) := by decide +kernel
theorem d_M_delete_80 : decode prog_14_method_37_code 80 = .ok (.if_icmp .eq 11, 3) := by decide +kernel
set_option maxHeartbeats 4000000 in
set_option maxRecDepth 100000 in
theorem k_delete_4 (l : Launch) (D : va_G) (dA : Nat → ClassId) (sz : Nat) (h : Nat) (ad : Nat → Nat) (x : MS) (w : Nat) (a : Int64) (b : Int64) (ho : x.on = true) (hw : w < x.seriesCount) (hc : x.seriesCount ≤ 256) (t1 : a ≤ b) (hs : ∀ q : Nat, q < x.points → x.pointSeries q < 256) (hp1 : x.points ≤ 12000) (n0 : ¬ cnt x.points (x.btw w a b false) = 0) (u1 : x.used ≤ 126) (u2 : x.block < 2 ^ 20) (u3 : x.journal ≤ 256) (n4 : 0 < cnt x.points (x.btw w a b true) ∧ cnt x.points x.firstOf = 64 ∨ x.room 1 = false) : Met l ⟨"SeriesVaultModel", "delete", "(IJJ)I"⟩ [Cond.code ⟨"SeriesVaultModel", "delete", "(IJJ)I"⟩ prog_14_method_37_code 7 (some FieldType.int)] { frames := 3, cells := 0, slots := 0, locals := 50 } (pC D dA [.ref h, .int (nI w), .long a, .long b] (MW dA h ad x) sz) (va_Qi (fun (r9 : Int32) (u9 : Unit) => r9 = 0) (fun (u9 : Unit) t9 => bW D (va_A (MW dA h ad x) sz) (MW dA h ad (MS.s_cod x 4)) t9) (va_A (MW dA h ad x) sz)) 0 0 (va_A (MW dA h ad x) sz) := by
  refine mkC (y := ⟨"SeriesVaultModel", "delete", "(IJJ)I"⟩) (cc := prog_14_method_37_code) (maxL := 7) (av := [.ref h, .int (nI w), .long a, .long b]) (ws := MW dA h ad x) (sz := sz) (Qc := fun A => va_Qi (fun (r9 : Int32) (u9 : Unit) => r9 = 0) (fun (u9 : Unit) t9 => bW D A (MW dA h ad (MS.s_cod x 4)) t9) A) (by decide) (Nat.le_of_ble_eq_true rfl) ?_
  intro A p e s m below meth c ls hsz hB
  obtain ⟨hx, hb, hr, hml, hown, hin, hlk, hE, hK, hP, hD, hS, hA, hN, hl⟩ := hB
  have hown : s.vm.findClass "SeriesVaultModel" = some m.cls := hown
  have hl : lv_has ls 7 [(0, .ref h), (1, .int (nI w)), (2, .long a), (4, .long b)] := hl
  obtain ⟨H, hH⟩ : ∃ z, z = s.heap := ⟨_, rfl⟩
  have hP : va_P D vwCl (MW dA h ad x) H := by rw [hH]; exact hP
  have hS : va_S A s.heap H [] := by rw [hH]; exact hS
  rw [← hH]
  refine lv_aload_n hx hb d_M_delete_0 rfl (lv_at hl 0 rfl) ?_
  refine lv_aload_n hx hb d_M_delete_1 rfl (lv_at hl 0 rfl) ?_
  refine lv_iload_n hx hb d_M_delete_2 rfl (lv_at hl 1 rfl) ?_
  refine jfI (rnV (As := [.int (nI w)]) (rest := [.ref h]) hx hb hml hown hE hK (hN _ _ hS) hP hD (k_seriesFault_0 l D dA H.size h ad x w ho hw hc) (q0 := 0) rfl rfl w334 w333 w335 w336 w328 rfl rfl ⟨⟨by decide, by decide⟩, rfl⟩ ⟨(Nat.le_of_ble_eq_true rfl), (Nat.le_of_ble_eq_true rfl)⟩ rfl hl.1 rfl (Nat.le_of_ble_eq_true rfl) d_M_delete_3 ⟨(Nat.le_of_ble_eq_true rfl), (Nat.le_of_ble_eq_true rfl)⟩) hP hD hS hA (fun r1 u2 H locs hp9 hP hD hS => ?_)
  have hP : va_P D vwCl (MW dA h ad x) H := hP
  have hD : va_D A (MW dA h ad x) := hD
  replace hp9 : 0 = r1 := Eq.symm hp9
  subst hp9
  refine pF (v := .int 0) hx hb hown hE hK hP hD hS 0 rfl rfl layM tyM tokM nmM 0 (by decide) w319 rfl rfl rfl (Nat.le_of_ble_eq_true rfl) d_M_delete_6 (fun H locs hP hD hS => ?_)
  have hP : va_P D vwCl (MW dA h ad (MS.s_cod x 0)) H := hP
  have hD : va_D A (MW dA h ad (MS.s_cod x 0)) := hD
  refine lv_aload_n hx hb d_M_delete_9 rfl (lv_at hl 0 rfl) ?_
  refine lv_aload_n hx hb d_M_delete_10 rfl (lv_at hl 0 rfl) ?_
  refine gF (v := .int 0) hx hb hown hE hK hP 0 rfl rfl layM 0 (by decide) w319 rfl d_M_delete_11 ?_
  refine lv_if_ne hx hb d_M_delete_14 (tgt := 28) rfl (fun h9 => absurd (by decide) h9) (fun _ => ?_)
  refine lv_lload_n hx hb d_M_delete_17 rfl (lv_at hl 2 rfl) ?_
  refine lv_lload hx hb d_M_delete_18 (lv_at hl 3 rfl) ?_
  refine W.lcmp hx hb d_M_delete_20 ?_
  refine lv_if_le hx hb d_M_delete_21 (tgt := 28) rfl (fun _ => ?_) (fun h9 => absurd ((lg_cmp_le _ _).mpr t1) h9)
  refine lv_aload_n hx hb d_M_delete_28 rfl (lv_at hl 0 rfl) ?_
  refine gF (v := .int 0) hx hb hown hE hK hP 0 rfl rfl layM 0 (by decide) w319 rfl d_M_delete_29 ?_
  refine pF (v := .int 0) hx hb hown hE hK hP hD hS 0 rfl rfl layM tyM tokM nmM 0 (by decide) w319 rfl rfl rfl (Nat.le_of_ble_eq_true rfl) d_M_delete_32 (fun H locs hP hD hS => ?_)
  have hP : va_P D vwCl (MW dA h ad (MS.s_cod x 0)) H := hP
  have hD : va_D A (MW dA h ad (MS.s_cod x 0)) := hD
  refine lv_aload_n hx hb d_M_delete_35 rfl (lv_at hl 0 rfl) ?_
  refine gF (v := .int 0) hx hb hown hE hK hP 0 rfl rfl layM 0 (by decide) w319 rfl d_M_delete_36 ?_
  refine lv_if_le hx hb d_M_delete_39 (tgt := 44) rfl (fun _ => ?_) (fun h9 => absurd (by decide) h9)
  refine lv_aload_n hx hb d_M_delete_44 rfl (lv_at hl 0 rfl) ?_
  refine lv_iload_n hx hb d_M_delete_45 rfl (lv_at hl 1 rfl) ?_
  refine lv_lload_n hx hb d_M_delete_46 rfl (lv_at hl 2 rfl) ?_
  refine lv_lload hx hb d_M_delete_47 (lv_at hl 3 rfl) ?_
  refine lv_iconst (v := 0) hx hb d_M_delete_49 (by decide) ?_
  refine jfI (rnV (As := [.int (nI w), .long a, .long b, .int 0]) (rest := []) hx hb hml hown hE hK (hN _ _ hS) hP hD (k_between l D dA H.size h ad (MS.s_cod x 0) w a b false (show x.points ≤ 12000 from by omega) (show w < 256 from by omega) hs) (q0 := 0) rfl rfl w897 w896 w898 w899 w328 rfl rfl ⟨⟨by decide, by decide⟩, rfl⟩ ⟨(Nat.le_of_ble_eq_true rfl), (Nat.le_of_ble_eq_true rfl)⟩ rfl hl.1 rfl (Nat.le_of_ble_eq_true rfl) d_M_delete_50 ⟨(Nat.le_of_ble_eq_true rfl), (Nat.le_of_ble_eq_true rfl)⟩) hP hD hS hA (fun r3 u4 H locs hp9 hP hD hS => ?_)
  have hP : va_P D vwCl (MW dA h ad (MS.s_cod x 0)) H := hP
  have hD : va_D A (MW dA h ad (MS.s_cod x 0)) := hD
  replace hp9 : nI (cnt x.points (x.btw w a b false)) = r3 := Eq.symm hp9
  subst hp9
  refine lv_istore hx hb d_M_delete_53 hl (by decide) rfl (fun ls hl => ?_)
  have hl : lv_has ls 7 [(6, .int (nI (cnt x.points (x.btw w a b false)))), (0, .ref h), (1, .int (nI w)), (2, .long a), (4, .long b)] := hl
  refine lv_iload hx hb d_M_delete_55 (lv_at hl 0 rfl) ?_
  have bz := cnt_le x.points (x.btw w a b false)
  refine lv_if_ne hx hb d_M_delete_57 (tgt := 62) rfl (fun _ => ?_) (fun h9 => absurd h9 (mt (nI_eq (a := cnt x.points (x.btw w a b false)) (b := 0) (by omega) (by omega)).mp n0))
  refine lv_aload_n hx hb d_M_delete_62 rfl (lv_at hl 1 rfl) ?_
  refine lv_iload_n hx hb d_M_delete_63 rfl (lv_at hl 2 rfl) ?_
  refine lv_lload_n hx hb d_M_delete_64 rfl (lv_at hl 3 rfl) ?_
  refine lv_lload hx hb d_M_delete_65 (lv_at hl 4 rfl) ?_
  refine lv_iconst (v := 1) hx hb d_M_delete_67 (by decide) ?_
  refine jfI (rnV (As := [.int (nI w), .long a, .long b, .int 1]) (rest := []) hx hb hml hown hE hK (hN _ _ hS) hP hD (k_between l D dA H.size h ad (MS.s_cod x 0) w a b true (show x.points ≤ 12000 from by omega) (show w < 256 from by omega) hs) (q0 := 0) rfl rfl w897 w896 w898 w899 w328 rfl rfl ⟨⟨by decide, by decide⟩, rfl⟩ ⟨(Nat.le_of_ble_eq_true rfl), (Nat.le_of_ble_eq_true rfl)⟩ rfl hl.1 rfl (Nat.le_of_ble_eq_true rfl) d_M_delete_68 ⟨(Nat.le_of_ble_eq_true rfl), (Nat.le_of_ble_eq_true rfl)⟩) hP hD hS hA (fun r5 u6 H locs hp9 hP hD hS => ?_)
  have hP : va_P D vwCl (MW dA h ad (MS.s_cod x 0)) H := hP
  have hD : va_D A (MW dA h ad (MS.s_cod x 0)) := hD
  replace hp9 : nI (cnt x.points (x.btw w a b true)) = r5 := Eq.symm hp9
  subst hp9
  have bz2 := cnt_le x.points (x.btw w a b true)
  refine lv_if_le hx hb d_M_delete_71 (tgt := 83) rfl (fun g7 => ?_) (fun g7 => ?_)
  · have g7 := (nI_leI (a := cnt x.points (x.btw w a b true)) (b := 0) (by omega) (by decide)).mp g7
    refine lv_aload_n hx hb d_M_delete_83 rfl (lv_at hl 1 rfl) ?_
    refine lv_iconst (v := 1) hx hb d_M_delete_84 (by decide) ?_
    refine jfI (rnV (As := [.int 1]) (rest := []) hx hb hml hown hE hK (hN _ _ hS) hP hD (k_hasRoom l D dA H.size h ad (MS.s_cod x 0) 1 (show x.used + 1 < 2 ^ 31 from by omega) (show x.block + 1 < 2 ^ 31 from by omega) (show x.journal < 2 ^ 31 from by omega)) (q0 := 0) rfl rfl w867 w866 w868 w869 w328 rfl rfl ⟨⟨by decide, by decide⟩, rfl⟩ ⟨(Nat.le_of_ble_eq_true rfl), (Nat.le_of_ble_eq_true rfl)⟩ rfl hl.1 rfl (Nat.le_of_ble_eq_true rfl) d_M_delete_85 ⟨(Nat.le_of_ble_eq_true rfl), (Nat.le_of_ble_eq_true rfl)⟩) hP hD hS hA (fun r8 u9 H locs hp9 hP hD hS => ?_)
    have hP : va_P D vwCl (MW dA h ad (MS.s_cod x 0)) H := hP
    have hD : va_D A (MW dA h ad (MS.s_cod x 0)) := hD
    replace hp9 : bI (x.room 1) = r8 := Eq.symm hp9
    subst hp9
    refine lv_if_ne hx hb d_M_delete_88 (tgt := 98) rfl (fun h9 => absurd (by rw [show x.room 1 = false from n4.resolve_left (by omega)]; decide) h9) (fun _ => ?_)
    refine lv_aload_n hx hb d_M_delete_91 rfl (lv_at hl 1 rfl) ?_
    refine lv_iconst (v := 4) hx hb d_M_delete_92 (by decide) ?_
    refine pF (v := .int 4) hx hb hown hE hK hP hD hS 0 rfl rfl layM tyM tokM nmM 0 (by decide) w319 rfl rfl rfl (Nat.le_of_ble_eq_true rfl) d_M_delete_93 (fun H locs hP hD hS => ?_)
    have hP : va_P D vwCl (MW dA h ad (MS.s_cod x 4)) H := hP
    have hD : va_D A (MW dA h ad (MS.s_cod x 4)) := hD
    refine lv_iconst (v := 0) hx hb d_M_delete_96 (by decide) ?_
    exact rfI hx hb hr hlk hS () rfl hP hD (Nat.le_of_ble_eq_true rfl) (Nat.le_of_ble_eq_true rfl) d_M_delete_97
  · have g7 := mt (nI_leI (a := cnt x.points (x.btw w a b true)) (b := 0) (by omega) (by decide)).mpr g7
    refine lv_aload_n hx hb d_M_delete_74 rfl (lv_at hl 1 rfl) ?_
    refine jfI (rnV (As := []) (rest := []) hx hb hml hown hE hK (hN _ _ hS) hP hD (k_scars l D dA H.size h ad (MS.s_cod x 0) (show x.points ≤ 12000 from by omega)) (q0 := 0) rfl rfl w443 w442 w444 w445 w328 rfl rfl ⟨⟨by decide, by decide⟩, rfl⟩ ⟨(Nat.le_of_ble_eq_true rfl), (Nat.le_of_ble_eq_true rfl)⟩ rfl hl.1 rfl (Nat.le_of_ble_eq_true rfl) d_M_delete_75 ⟨(Nat.le_of_ble_eq_true rfl), (Nat.le_of_ble_eq_true rfl)⟩) hP hD hS hA (fun r10 u11 H locs hp9 hP hD hS => ?_)
    have hP : va_P D vwCl (MW dA h ad (MS.s_cod x 0)) H := hP
    have hD : va_D A (MW dA h ad (MS.s_cod x 0)) := hD
    replace hp9 : nI (cnt x.points x.firstOf) = r10 := Eq.symm hp9
    subst hp9
    refine lv_bipush (v := 64) hx hb d_M_delete_78 (by decide) ?_
    have bz3 := cnt_le x.points x.firstOf
    refine lv_icmp_eq hx hb d_M_delete_80 (tgt := 91) rfl (fun g12 => ?_) (fun g12 => ?_)
    · have g12 := (nI_eq (a := cnt x.points x.firstOf) (b := 64) (by omega) (by omega)).mp g12
      refine lv_aload_n hx hb d_M_delete_91 rfl (lv_at hl 1 rfl) ?_
      refine lv_iconst (v := 4) hx hb d_M_delete_92 (by decide) ?_
      refine pF (v := .int 4) hx hb hown hE hK hP hD hS 0 rfl rfl layM tyM tokM nmM 0 (by decide) w319 rfl rfl rfl (Nat.le_of_ble_eq_true rfl) d_M_delete_93 (fun H locs hP hD hS => ?_)
      have hP : va_P D vwCl (MW dA h ad (MS.s_cod x 4)) H := hP
      have hD : va_D A (MW dA h ad (MS.s_cod x 4)) := hD
      refine lv_iconst (v := 0) hx hb d_M_delete_96 (by decide) ?_
      exact rfI hx hb hr hlk hS () rfl hP hD (Nat.le_of_ble_eq_true rfl) (Nat.le_of_ble_eq_true rfl) d_M_delete_97
    · have g12 := mt (nI_eq (a := cnt x.points x.firstOf) (b := 64) (by omega) (by omega)).mpr g12
      refine lv_aload_n hx hb d_M_delete_83 rfl (lv_at hl 1 rfl) ?_
      refine lv_iconst (v := 1) hx hb d_M_delete_84 (by decide) ?_
      refine jfI (rnV (As := [.int 1]) (rest := []) hx hb hml hown hE hK (hN _ _ hS) hP hD (k_hasRoom l D dA H.size h ad (MS.s_cod x 0) 1 (show x.used + 1 < 2 ^ 31 from by omega) (show x.block + 1 < 2 ^ 31 from by omega) (show x.journal < 2 ^ 31 from by omega)) (q0 := 0) rfl rfl w867 w866 w868 w869 w328 rfl rfl ⟨⟨by decide, by decide⟩, rfl⟩ ⟨(Nat.le_of_ble_eq_true rfl), (Nat.le_of_ble_eq_true rfl)⟩ rfl hl.1 rfl (Nat.le_of_ble_eq_true rfl) d_M_delete_85 ⟨(Nat.le_of_ble_eq_true rfl), (Nat.le_of_ble_eq_true rfl)⟩) hP hD hS hA (fun r13 u14 H locs hp9 hP hD hS => ?_)
      have hP : va_P D vwCl (MW dA h ad (MS.s_cod x 0)) H := hP
      have hD : va_D A (MW dA h ad (MS.s_cod x 0)) := hD
      replace hp9 : bI (x.room 1) = r13 := Eq.symm hp9
      subst hp9
      refine lv_if_ne hx hb d_M_delete_88 (tgt := 98) rfl (fun h9 => absurd (by rw [show x.room 1 = false from n4.resolve_left (by omega)]; decide) h9) (fun _ => ?_)
      refine lv_aload_n hx hb d_M_delete_91 rfl (lv_at hl 1 rfl) ?_
      refine lv_iconst (v := 4) hx hb d_M_delete_92 (by decide) ?_
      refine pF (v := .int 4) hx hb hown hE hK hP hD hS 0 rfl rfl layM tyM tokM nmM 0 (by decide) w319 rfl rfl rfl (Nat.le_of_ble_eq_true rfl) d_M_delete_93 (fun H locs hP hD hS => ?_)
      have hP : va_P D vwCl (MW dA h ad (MS.s_cod x 4)) H := hP
      have hD : va_D A (MW dA h ad (MS.s_cod x 4)) := hD
      refine lv_iconst (v := 0) hx hb d_M_delete_96 (by decide) ?_
      exact rfI hx hb hr hlk hS () rfl hP hD (Nat.le_of_ble_eq_true rfl) (Nat.le_of_ble_eq_true rfl) d_M_delete_97
theorem d_M_delete_98 : decode prog_14_method_37_code 98 = .ok (.aload_n 0, 1) := by decide +kernel
theorem d_M_delete_99 : decode prog_14_method_37_code 99 = .ok (.iconst 2, 1) := by decide +kernel
theorem d_M_delete_100 : decode prog_14_method_37_code 100 = .ok (.iload_n 1, 1) := by decide +kernel
theorem d_M_delete_101 : decode prog_14_method_37_code 101 = .ok (.lload_n 2, 1) := by decide +kernel
theorem d_M_delete_102 : decode prog_14_method_37_code 102 = .ok (.lload 4, 2) := by decide +kernel
theorem d_M_delete_104 : decode prog_14_method_37_code 104 = .ok (.iconst 1, 1) := by decide +kernel
theorem d_M_delete_105 : decode prog_14_method_37_code 105 = .ok (.invokevirtual 250, 3) := by decide +kernel
theorem d_M_delete_108 : decode prog_14_method_37_code 108 = .ok (.ifCond .ne 10, 3) := by decide +kernel
theorem d_M_delete_111 : decode prog_14_method_37_code 111 = .ok (.aload_n 0, 1) := by decide +kernel
theorem d_M_delete_112 : decode prog_14_method_37_code 112 = .ok (.iconst 1, 1) := by decide +kernel
theorem d_M_delete_113 : decode prog_14_method_37_code 113 = .ok (.putfield 145, 3) := by decide +kernel
theorem d_M_delete_116 : decode prog_14_method_37_code 116 = .ok (.iconst 0, 1) := by decide +kernel
theorem d_M_delete_117 : decode prog_14_method_37_code 117 = .ok (.ireturn, 1) := by decide +kernel
set_option maxHeartbeats 4000000 in
set_option maxRecDepth 100000 in
theorem k_delete_5 (l : Launch) (D : va_G) (dA : Nat → ClassId) (sz : Nat) (h : Nat) (ad : Nat → Nat) (x : MS) (w : Nat) (a : Int64) (b : Int64) (ho : x.on = true) (hw : w < x.seriesCount) (hc : x.seriesCount ≤ 256) (t1 : a ≤ b) (hs : ∀ q : Nat, q < x.points → x.pointSeries q < 256) (hp1 : x.points ≤ 12000) (n0 : ¬ cnt x.points (x.btw w a b false) = 0) (u1 : x.used ≤ 126) (u2 : x.block < 2 ^ 20) (u3 : x.journal ≤ 256) (n4 : ¬ (0 < cnt x.points (x.btw w a b true) ∧ cnt x.points x.firstOf = 64)) (hro : x.room 1 = true) (c1 : 126 < x.used + 1) (hf : x.fresh = true) (hcu : x.cutLeft = 0) : Met l ⟨"SeriesVaultModel", "delete", "(IJJ)I"⟩ [Cond.code ⟨"SeriesVaultModel", "delete", "(IJJ)I"⟩ prog_14_method_37_code 7 (some FieldType.int)] { frames := 4, cells := 0, slots := 0, locals := 67 } (pC D dA [.ref h, .int (nI w), .long a, .long b] (MW dA h ad x) sz) (va_Qi (fun (r9 : Int32) (u9 : Unit) => r9 = 0) (fun (u9 : Unit) t9 => bW D (va_A (MW dA h ad x) sz) (MW dA h ad (MS.s_cutLeft (MS.s_on (MS.s_cod x 1) false) (-1))) t9) (va_A (MW dA h ad x) sz)) 0 0 (va_A (MW dA h ad x) sz) := by
  refine mkC (y := ⟨"SeriesVaultModel", "delete", "(IJJ)I"⟩) (cc := prog_14_method_37_code) (maxL := 7) (av := [.ref h, .int (nI w), .long a, .long b]) (ws := MW dA h ad x) (sz := sz) (Qc := fun A => va_Qi (fun (r9 : Int32) (u9 : Unit) => r9 = 0) (fun (u9 : Unit) t9 => bW D A (MW dA h ad (MS.s_cutLeft (MS.s_on (MS.s_cod x 1) false) (-1))) t9) A) (by decide) (Nat.le_of_ble_eq_true rfl) ?_
  intro A p e s m below meth c ls hsz hB
  obtain ⟨hx, hb, hr, hml, hown, hin, hlk, hE, hK, hP, hD, hS, hA, hN, hl⟩ := hB
  have hown : s.vm.findClass "SeriesVaultModel" = some m.cls := hown
  have hl : lv_has ls 7 [(0, .ref h), (1, .int (nI w)), (2, .long a), (4, .long b)] := hl
  obtain ⟨H, hH⟩ : ∃ z, z = s.heap := ⟨_, rfl⟩
  have hP : va_P D vwCl (MW dA h ad x) H := by rw [hH]; exact hP
  have hS : va_S A s.heap H [] := by rw [hH]; exact hS
  rw [← hH]
  refine lv_aload_n hx hb d_M_delete_0 rfl (lv_at hl 0 rfl) ?_
  refine lv_aload_n hx hb d_M_delete_1 rfl (lv_at hl 0 rfl) ?_
  refine lv_iload_n hx hb d_M_delete_2 rfl (lv_at hl 1 rfl) ?_
  refine jfI (rnV (As := [.int (nI w)]) (rest := [.ref h]) hx hb hml hown hE hK (hN _ _ hS) hP hD (k_seriesFault_0 l D dA H.size h ad x w ho hw hc) (q0 := 0) rfl rfl w334 w333 w335 w336 w328 rfl rfl ⟨⟨by decide, by decide⟩, rfl⟩ ⟨(Nat.le_of_ble_eq_true rfl), (Nat.le_of_ble_eq_true rfl)⟩ rfl hl.1 rfl (Nat.le_of_ble_eq_true rfl) d_M_delete_3 ⟨(Nat.le_of_ble_eq_true rfl), (Nat.le_of_ble_eq_true rfl)⟩) hP hD hS hA (fun r1 u2 H locs hp9 hP hD hS => ?_)
  have hP : va_P D vwCl (MW dA h ad x) H := hP
  have hD : va_D A (MW dA h ad x) := hD
  replace hp9 : 0 = r1 := Eq.symm hp9
  subst hp9
  refine pF (v := .int 0) hx hb hown hE hK hP hD hS 0 rfl rfl layM tyM tokM nmM 0 (by decide) w319 rfl rfl rfl (Nat.le_of_ble_eq_true rfl) d_M_delete_6 (fun H locs hP hD hS => ?_)
  have hP : va_P D vwCl (MW dA h ad (MS.s_cod x 0)) H := hP
  have hD : va_D A (MW dA h ad (MS.s_cod x 0)) := hD
  refine lv_aload_n hx hb d_M_delete_9 rfl (lv_at hl 0 rfl) ?_
  refine lv_aload_n hx hb d_M_delete_10 rfl (lv_at hl 0 rfl) ?_
  refine gF (v := .int 0) hx hb hown hE hK hP 0 rfl rfl layM 0 (by decide) w319 rfl d_M_delete_11 ?_
  refine lv_if_ne hx hb d_M_delete_14 (tgt := 28) rfl (fun h9 => absurd (by decide) h9) (fun _ => ?_)
  refine lv_lload_n hx hb d_M_delete_17 rfl (lv_at hl 2 rfl) ?_
  refine lv_lload hx hb d_M_delete_18 (lv_at hl 3 rfl) ?_
  refine W.lcmp hx hb d_M_delete_20 ?_
  refine lv_if_le hx hb d_M_delete_21 (tgt := 28) rfl (fun _ => ?_) (fun h9 => absurd ((lg_cmp_le _ _).mpr t1) h9)
  refine lv_aload_n hx hb d_M_delete_28 rfl (lv_at hl 0 rfl) ?_
  refine gF (v := .int 0) hx hb hown hE hK hP 0 rfl rfl layM 0 (by decide) w319 rfl d_M_delete_29 ?_
  refine pF (v := .int 0) hx hb hown hE hK hP hD hS 0 rfl rfl layM tyM tokM nmM 0 (by decide) w319 rfl rfl rfl (Nat.le_of_ble_eq_true rfl) d_M_delete_32 (fun H locs hP hD hS => ?_)
  have hP : va_P D vwCl (MW dA h ad (MS.s_cod x 0)) H := hP
  have hD : va_D A (MW dA h ad (MS.s_cod x 0)) := hD
  refine lv_aload_n hx hb d_M_delete_35 rfl (lv_at hl 0 rfl) ?_
  refine gF (v := .int 0) hx hb hown hE hK hP 0 rfl rfl layM 0 (by decide) w319 rfl d_M_delete_36 ?_
  refine lv_if_le hx hb d_M_delete_39 (tgt := 44) rfl (fun _ => ?_) (fun h9 => absurd (by decide) h9)
  refine lv_aload_n hx hb d_M_delete_44 rfl (lv_at hl 0 rfl) ?_
  refine lv_iload_n hx hb d_M_delete_45 rfl (lv_at hl 1 rfl) ?_
  refine lv_lload_n hx hb d_M_delete_46 rfl (lv_at hl 2 rfl) ?_
  refine lv_lload hx hb d_M_delete_47 (lv_at hl 3 rfl) ?_
  refine lv_iconst (v := 0) hx hb d_M_delete_49 (by decide) ?_
  refine jfI (rnV (As := [.int (nI w), .long a, .long b, .int 0]) (rest := []) hx hb hml hown hE hK (hN _ _ hS) hP hD (k_between l D dA H.size h ad (MS.s_cod x 0) w a b false (show x.points ≤ 12000 from by omega) (show w < 256 from by omega) hs) (q0 := 0) rfl rfl w897 w896 w898 w899 w328 rfl rfl ⟨⟨by decide, by decide⟩, rfl⟩ ⟨(Nat.le_of_ble_eq_true rfl), (Nat.le_of_ble_eq_true rfl)⟩ rfl hl.1 rfl (Nat.le_of_ble_eq_true rfl) d_M_delete_50 ⟨(Nat.le_of_ble_eq_true rfl), (Nat.le_of_ble_eq_true rfl)⟩) hP hD hS hA (fun r3 u4 H locs hp9 hP hD hS => ?_)
  have hP : va_P D vwCl (MW dA h ad (MS.s_cod x 0)) H := hP
  have hD : va_D A (MW dA h ad (MS.s_cod x 0)) := hD
  replace hp9 : nI (cnt x.points (x.btw w a b false)) = r3 := Eq.symm hp9
  subst hp9
  refine lv_istore hx hb d_M_delete_53 hl (by decide) rfl (fun ls hl => ?_)
  have hl : lv_has ls 7 [(6, .int (nI (cnt x.points (x.btw w a b false)))), (0, .ref h), (1, .int (nI w)), (2, .long a), (4, .long b)] := hl
  refine lv_iload hx hb d_M_delete_55 (lv_at hl 0 rfl) ?_
  have bz := cnt_le x.points (x.btw w a b false)
  refine lv_if_ne hx hb d_M_delete_57 (tgt := 62) rfl (fun _ => ?_) (fun h9 => absurd h9 (mt (nI_eq (a := cnt x.points (x.btw w a b false)) (b := 0) (by omega) (by omega)).mp n0))
  refine lv_aload_n hx hb d_M_delete_62 rfl (lv_at hl 1 rfl) ?_
  refine lv_iload_n hx hb d_M_delete_63 rfl (lv_at hl 2 rfl) ?_
  refine lv_lload_n hx hb d_M_delete_64 rfl (lv_at hl 3 rfl) ?_
  refine lv_lload hx hb d_M_delete_65 (lv_at hl 4 rfl) ?_
  refine lv_iconst (v := 1) hx hb d_M_delete_67 (by decide) ?_
  refine jfI (rnV (As := [.int (nI w), .long a, .long b, .int 1]) (rest := []) hx hb hml hown hE hK (hN _ _ hS) hP hD (k_between l D dA H.size h ad (MS.s_cod x 0) w a b true (show x.points ≤ 12000 from by omega) (show w < 256 from by omega) hs) (q0 := 0) rfl rfl w897 w896 w898 w899 w328 rfl rfl ⟨⟨by decide, by decide⟩, rfl⟩ ⟨(Nat.le_of_ble_eq_true rfl), (Nat.le_of_ble_eq_true rfl)⟩ rfl hl.1 rfl (Nat.le_of_ble_eq_true rfl) d_M_delete_68 ⟨(Nat.le_of_ble_eq_true rfl), (Nat.le_of_ble_eq_true rfl)⟩) hP hD hS hA (fun r5 u6 H locs hp9 hP hD hS => ?_)
  have hP : va_P D vwCl (MW dA h ad (MS.s_cod x 0)) H := hP
  have hD : va_D A (MW dA h ad (MS.s_cod x 0)) := hD
  replace hp9 : nI (cnt x.points (x.btw w a b true)) = r5 := Eq.symm hp9
  subst hp9
  have bz2 := cnt_le x.points (x.btw w a b true)
  refine lv_if_le hx hb d_M_delete_71 (tgt := 83) rfl (fun g7 => ?_) (fun g7 => ?_)
  · have g7 := (nI_leI (a := cnt x.points (x.btw w a b true)) (b := 0) (by omega) (by decide)).mp g7
    refine lv_aload_n hx hb d_M_delete_83 rfl (lv_at hl 1 rfl) ?_
    refine lv_iconst (v := 1) hx hb d_M_delete_84 (by decide) ?_
    refine jfI (rnV (As := [.int 1]) (rest := []) hx hb hml hown hE hK (hN _ _ hS) hP hD (k_hasRoom l D dA H.size h ad (MS.s_cod x 0) 1 (show x.used + 1 < 2 ^ 31 from by omega) (show x.block + 1 < 2 ^ 31 from by omega) (show x.journal < 2 ^ 31 from by omega)) (q0 := 0) rfl rfl w867 w866 w868 w869 w328 rfl rfl ⟨⟨by decide, by decide⟩, rfl⟩ ⟨(Nat.le_of_ble_eq_true rfl), (Nat.le_of_ble_eq_true rfl)⟩ rfl hl.1 rfl (Nat.le_of_ble_eq_true rfl) d_M_delete_85 ⟨(Nat.le_of_ble_eq_true rfl), (Nat.le_of_ble_eq_true rfl)⟩) hP hD hS hA (fun r8 u9 H locs hp9 hP hD hS => ?_)
    have hP : va_P D vwCl (MW dA h ad (MS.s_cod x 0)) H := hP
    have hD : va_D A (MW dA h ad (MS.s_cod x 0)) := hD
    replace hp9 : bI (x.room 1) = r8 := Eq.symm hp9
    subst hp9
    refine lv_if_ne hx hb d_M_delete_88 (tgt := 98) rfl (fun _ => ?_) (fun h9 => absurd h9 (by rw [hro]; decide))
    refine lv_aload_n hx hb d_M_delete_98 rfl (lv_at hl 1 rfl) ?_
    refine lv_iconst (v := 2) hx hb d_M_delete_99 (by decide) ?_
    refine lv_iload_n hx hb d_M_delete_100 rfl (lv_at hl 2 rfl) ?_
    refine lv_lload_n hx hb d_M_delete_101 rfl (lv_at hl 3 rfl) ?_
    refine lv_lload hx hb d_M_delete_102 (lv_at hl 4 rfl) ?_
    refine lv_iconst (v := 1) hx hb d_M_delete_104 (by decide) ?_
    refine jfI (rnV (As := [.int 2, .int (nI w), .long a, .long b, .int 1]) (rest := []) hx hb hml hown hE hK (hN _ _ hS) hP hD (k_record_x l D dA H.size h ad (MS.s_cod x 0) 2 w a b 1 (show x.used + 1 < 2 ^ 31 from by omega) (show 126 < x.used + 1 from by omega) hf hcu) (q0 := 0) rfl rfl w889 w888 w890 w891 w328 rfl rfl ⟨⟨by decide, by decide⟩, rfl⟩ ⟨(Nat.le_of_ble_eq_true rfl), (Nat.le_of_ble_eq_true rfl)⟩ rfl hl.1 rfl (Nat.le_of_ble_eq_true rfl) d_M_delete_105 ⟨(Nat.le_of_ble_eq_true rfl), (Nat.le_of_ble_eq_true rfl)⟩) hP hD hS hA (fun r10 u11 H locs hp9 hP hD hS => ?_)
    have hP : va_P D vwCl (MW dA h ad (MS.s_cutLeft (MS.s_on (MS.s_cod x 0) false) (-1))) H := hP
    have hD : va_D A (MW dA h ad (MS.s_cutLeft (MS.s_on (MS.s_cod x 0) false) (-1))) := hD
    replace hp9 : bI false = r10 := Eq.symm hp9
    subst hp9
    refine lv_if_ne hx hb d_M_delete_108 (tgt := 118) rfl (fun h9 => absurd (by decide) h9) (fun _ => ?_)
    refine lv_aload_n hx hb d_M_delete_111 rfl (lv_at hl 1 rfl) ?_
    refine lv_iconst (v := 1) hx hb d_M_delete_112 (by decide) ?_
    refine pF (v := .int 1) hx hb hown hE hK hP hD hS 0 rfl rfl layM tyM tokM nmM 0 (by decide) w319 rfl rfl rfl (Nat.le_of_ble_eq_true rfl) d_M_delete_113 (fun H locs hP hD hS => ?_)
    have hP : va_P D vwCl (MW dA h ad (MS.s_cutLeft (MS.s_on (MS.s_cod x 1) false) (-1))) H := hP
    have hD : va_D A (MW dA h ad (MS.s_cutLeft (MS.s_on (MS.s_cod x 1) false) (-1))) := hD
    refine lv_iconst (v := 0) hx hb d_M_delete_116 (by decide) ?_
    exact rfI hx hb hr hlk hS () rfl hP hD (Nat.le_of_ble_eq_true rfl) (Nat.le_of_ble_eq_true rfl) d_M_delete_117
  · have g7 := mt (nI_leI (a := cnt x.points (x.btw w a b true)) (b := 0) (by omega) (by decide)).mpr g7
    refine lv_aload_n hx hb d_M_delete_74 rfl (lv_at hl 1 rfl) ?_
    refine jfI (rnV (As := []) (rest := []) hx hb hml hown hE hK (hN _ _ hS) hP hD (k_scars l D dA H.size h ad (MS.s_cod x 0) (show x.points ≤ 12000 from by omega)) (q0 := 0) rfl rfl w443 w442 w444 w445 w328 rfl rfl ⟨⟨by decide, by decide⟩, rfl⟩ ⟨(Nat.le_of_ble_eq_true rfl), (Nat.le_of_ble_eq_true rfl)⟩ rfl hl.1 rfl (Nat.le_of_ble_eq_true rfl) d_M_delete_75 ⟨(Nat.le_of_ble_eq_true rfl), (Nat.le_of_ble_eq_true rfl)⟩) hP hD hS hA (fun r12 u13 H locs hp9 hP hD hS => ?_)
    have hP : va_P D vwCl (MW dA h ad (MS.s_cod x 0)) H := hP
    have hD : va_D A (MW dA h ad (MS.s_cod x 0)) := hD
    replace hp9 : nI (cnt x.points x.firstOf) = r12 := Eq.symm hp9
    subst hp9
    refine lv_bipush (v := 64) hx hb d_M_delete_78 (by decide) ?_
    have bz3 := cnt_le x.points x.firstOf
    refine lv_icmp_eq hx hb d_M_delete_80 (tgt := 91) rfl (fun g14 => ?_) (fun g14 => ?_)
    · have g14 := (nI_eq (a := cnt x.points x.firstOf) (b := 64) (by omega) (by omega)).mp g14; exfalso; omega
    have g14 := mt (nI_eq (a := cnt x.points x.firstOf) (b := 64) (by omega) (by omega)).mpr g14
    refine lv_aload_n hx hb d_M_delete_83 rfl (lv_at hl 1 rfl) ?_
    refine lv_iconst (v := 1) hx hb d_M_delete_84 (by decide) ?_
    refine jfI (rnV (As := [.int 1]) (rest := []) hx hb hml hown hE hK (hN _ _ hS) hP hD (k_hasRoom l D dA H.size h ad (MS.s_cod x 0) 1 (show x.used + 1 < 2 ^ 31 from by omega) (show x.block + 1 < 2 ^ 31 from by omega) (show x.journal < 2 ^ 31 from by omega)) (q0 := 0) rfl rfl w867 w866 w868 w869 w328 rfl rfl ⟨⟨by decide, by decide⟩, rfl⟩ ⟨(Nat.le_of_ble_eq_true rfl), (Nat.le_of_ble_eq_true rfl)⟩ rfl hl.1 rfl (Nat.le_of_ble_eq_true rfl) d_M_delete_85 ⟨(Nat.le_of_ble_eq_true rfl), (Nat.le_of_ble_eq_true rfl)⟩) hP hD hS hA (fun r15 u16 H locs hp9 hP hD hS => ?_)
    have hP : va_P D vwCl (MW dA h ad (MS.s_cod x 0)) H := hP
    have hD : va_D A (MW dA h ad (MS.s_cod x 0)) := hD
    replace hp9 : bI (x.room 1) = r15 := Eq.symm hp9
    subst hp9
    refine lv_if_ne hx hb d_M_delete_88 (tgt := 98) rfl (fun _ => ?_) (fun h9 => absurd h9 (by rw [hro]; decide))
    refine lv_aload_n hx hb d_M_delete_98 rfl (lv_at hl 1 rfl) ?_
    refine lv_iconst (v := 2) hx hb d_M_delete_99 (by decide) ?_
    refine lv_iload_n hx hb d_M_delete_100 rfl (lv_at hl 2 rfl) ?_
    refine lv_lload_n hx hb d_M_delete_101 rfl (lv_at hl 3 rfl) ?_
    refine lv_lload hx hb d_M_delete_102 (lv_at hl 4 rfl) ?_
    refine lv_iconst (v := 1) hx hb d_M_delete_104 (by decide) ?_
    refine jfI (rnV (As := [.int 2, .int (nI w), .long a, .long b, .int 1]) (rest := []) hx hb hml hown hE hK (hN _ _ hS) hP hD (k_record_x l D dA H.size h ad (MS.s_cod x 0) 2 w a b 1 (show x.used + 1 < 2 ^ 31 from by omega) (show 126 < x.used + 1 from by omega) hf hcu) (q0 := 0) rfl rfl w889 w888 w890 w891 w328 rfl rfl ⟨⟨by decide, by decide⟩, rfl⟩ ⟨(Nat.le_of_ble_eq_true rfl), (Nat.le_of_ble_eq_true rfl)⟩ rfl hl.1 rfl (Nat.le_of_ble_eq_true rfl) d_M_delete_105 ⟨(Nat.le_of_ble_eq_true rfl), (Nat.le_of_ble_eq_true rfl)⟩) hP hD hS hA (fun r17 u18 H locs hp9 hP hD hS => ?_)
    have hP : va_P D vwCl (MW dA h ad (MS.s_cutLeft (MS.s_on (MS.s_cod x 0) false) (-1))) H := hP
    have hD : va_D A (MW dA h ad (MS.s_cutLeft (MS.s_on (MS.s_cod x 0) false) (-1))) := hD
    replace hp9 : bI false = r17 := Eq.symm hp9
    subst hp9
    refine lv_if_ne hx hb d_M_delete_108 (tgt := 118) rfl (fun h9 => absurd (by decide) h9) (fun _ => ?_)
    refine lv_aload_n hx hb d_M_delete_111 rfl (lv_at hl 1 rfl) ?_
    refine lv_iconst (v := 1) hx hb d_M_delete_112 (by decide) ?_
    refine pF (v := .int 1) hx hb hown hE hK hP hD hS 0 rfl rfl layM tyM tokM nmM 0 (by decide) w319 rfl rfl rfl (Nat.le_of_ble_eq_true rfl) d_M_delete_113 (fun H locs hP hD hS => ?_)
    have hP : va_P D vwCl (MW dA h ad (MS.s_cutLeft (MS.s_on (MS.s_cod x 1) false) (-1))) H := hP
    have hD : va_D A (MW dA h ad (MS.s_cutLeft (MS.s_on (MS.s_cod x 1) false) (-1))) := hD
    refine lv_iconst (v := 0) hx hb d_M_delete_116 (by decide) ?_
    exact rfI hx hb hr hlk hS () rfl hP hD (Nat.le_of_ble_eq_true rfl) (Nat.le_of_ble_eq_true rfl) d_M_delete_117
theorem d_M_delete_118 : decode prog_14_method_37_code 118 = .ok (.aload_n 0, 1) := by decide +kernel
theorem d_M_delete_119 : decode prog_14_method_37_code 119 = .ok (.iload_n 1, 1) := by decide +kernel
theorem d_M_delete_120 : decode prog_14_method_37_code 120 = .ok (.lload_n 2, 1) := by decide +kernel
theorem d_M_delete_121 : decode prog_14_method_37_code 121 = .ok (.lload 4, 2) := by decide +kernel
theorem d_M_delete_123 : decode prog_14_method_37_code 123 = .ok (.invokevirtual 285, 3) := by decide +kernel
theorem d_M_delete_126 : decode prog_14_method_37_code 126 = .ok (.ireturn, 1) := by decide +kernel
theorem w900 : Cond.methodLink "SeriesVaultModel" 285 ⟨"SeriesVaultModel", "go", "(IJJ)I"⟩ ∈ aW := aw_of (tb_10 (List.mem_of_getElem? (i := 60) rfl)) rfl
theorem w901 : Cond.code ⟨"SeriesVaultModel", "go", "(IJJ)I"⟩ prog_14_method_17_code 8 (some FieldType.int) ∈ aW := aw_of (tb_10 (List.mem_of_getElem? (i := 63) rfl)) rfl
theorem w902 : Cond.instanceMethod ⟨"SeriesVaultModel", "go", "(IJJ)I"⟩ ∈ aW := aw_of (tb_10 (List.mem_of_getElem? (i := 62) rfl)) rfl
theorem w903 : Cond.selects "SeriesVaultModel" ⟨"SeriesVaultModel", "go", "(IJJ)I"⟩ ⟨"SeriesVaultModel", "go", "(IJJ)I"⟩ ∈ aW := aw_pr (List.mem_map.mpr ⟨_, pv_6 (List.mem_of_getElem? (i := 6) rfl), rfl⟩) rfl
set_option maxHeartbeats 4000000 in
set_option maxRecDepth 100000 in
theorem k_delete_0 (l : Launch) (D : va_G) (dA : Nat → ClassId) (sz : Nat) (h : Nat) (ad : Nat → Nat) (x : MS) (w : Nat) (a : Int64) (b : Int64) (ho : x.on = true) (hw : w < x.seriesCount) (hc : x.seriesCount ≤ 256) (t1 : a ≤ b) (hs : ∀ q : Nat, q < x.points → x.pointSeries q < 256) (hp1 : x.points ≤ 12000) (n0 : ¬ cnt x.points (x.btw w a b false) = 0) (u1 : x.used ≤ 126) (u2 : x.block < 2 ^ 20) (u3 : x.journal ≤ 256) (n4 : ¬ (0 < cnt x.points (x.btw w a b true) ∧ cnt x.points x.firstOf = 64)) (hro : x.room 1 = true) (r1 : x.records < 32000) (hcr : x.canR 1) (r3 : x.deletes < 2 ^ 30) : Met l ⟨"SeriesVaultModel", "delete", "(IJJ)I"⟩ [Cond.code ⟨"SeriesVaultModel", "delete", "(IJJ)I"⟩ prog_14_method_37_code 7 (some FieldType.int)] { frames := 4, cells := 0, slots := 0, locals := 67 } (pC D dA [.ref h, .int (nI w), .long a, .long b] (MW dA h ad x) sz) (va_Qi (fun (r9 : Int32) (u9 : MS) => r9 = nI (cnt x.points (x.hit w a b)) ∧ u9 = ((x.s_cod 0).recS 2 w a b 1).goS w a b) (fun (u9 : MS) t9 => bW D (va_A (MW dA h ad x) sz) (MW dA h ad u9) t9) (va_A (MW dA h ad x) sz)) 0 0 (va_A (MW dA h ad x) sz) := by
  refine mkC (y := ⟨"SeriesVaultModel", "delete", "(IJJ)I"⟩) (cc := prog_14_method_37_code) (maxL := 7) (av := [.ref h, .int (nI w), .long a, .long b]) (ws := MW dA h ad x) (sz := sz) (Qc := fun A => va_Qi (fun (r9 : Int32) (u9 : MS) => r9 = nI (cnt x.points (x.hit w a b)) ∧ u9 = ((x.s_cod 0).recS 2 w a b 1).goS w a b) (fun (u9 : MS) t9 => bW D A (MW dA h ad u9) t9) A) (by decide) (Nat.le_of_ble_eq_true rfl) ?_
  intro A p e s m below meth c ls hsz hB
  obtain ⟨hx, hb, hr, hml, hown, hin, hlk, hE, hK, hP, hD, hS, hA, hN, hl⟩ := hB
  have hown : s.vm.findClass "SeriesVaultModel" = some m.cls := hown
  have hl : lv_has ls 7 [(0, .ref h), (1, .int (nI w)), (2, .long a), (4, .long b)] := hl
  obtain ⟨H, hH⟩ : ∃ z, z = s.heap := ⟨_, rfl⟩
  have hP : va_P D vwCl (MW dA h ad x) H := by rw [hH]; exact hP
  have hS : va_S A s.heap H [] := by rw [hH]; exact hS
  rw [← hH]
  refine lv_aload_n hx hb d_M_delete_0 rfl (lv_at hl 0 rfl) ?_
  refine lv_aload_n hx hb d_M_delete_1 rfl (lv_at hl 0 rfl) ?_
  refine lv_iload_n hx hb d_M_delete_2 rfl (lv_at hl 1 rfl) ?_
  refine jfI (rnV (As := [.int (nI w)]) (rest := [.ref h]) hx hb hml hown hE hK (hN _ _ hS) hP hD (k_seriesFault_0 l D dA H.size h ad x w ho hw hc) (q0 := 0) rfl rfl w334 w333 w335 w336 w328 rfl rfl ⟨⟨by decide, by decide⟩, rfl⟩ ⟨(Nat.le_of_ble_eq_true rfl), (Nat.le_of_ble_eq_true rfl)⟩ rfl hl.1 rfl (Nat.le_of_ble_eq_true rfl) d_M_delete_3 ⟨(Nat.le_of_ble_eq_true rfl), (Nat.le_of_ble_eq_true rfl)⟩) hP hD hS hA (fun r1 u2 H locs hp9 hP hD hS => ?_)
  have hP : va_P D vwCl (MW dA h ad x) H := hP
  have hD : va_D A (MW dA h ad x) := hD
  replace hp9 : 0 = r1 := Eq.symm hp9
  subst hp9
  refine pF (v := .int 0) hx hb hown hE hK hP hD hS 0 rfl rfl layM tyM tokM nmM 0 (by decide) w319 rfl rfl rfl (Nat.le_of_ble_eq_true rfl) d_M_delete_6 (fun H locs hP hD hS => ?_)
  have hP : va_P D vwCl (MW dA h ad (MS.s_cod x 0)) H := hP
  have hD : va_D A (MW dA h ad (MS.s_cod x 0)) := hD
  refine lv_aload_n hx hb d_M_delete_9 rfl (lv_at hl 0 rfl) ?_
  refine lv_aload_n hx hb d_M_delete_10 rfl (lv_at hl 0 rfl) ?_
  refine gF (v := .int 0) hx hb hown hE hK hP 0 rfl rfl layM 0 (by decide) w319 rfl d_M_delete_11 ?_
  refine lv_if_ne hx hb d_M_delete_14 (tgt := 28) rfl (fun h9 => absurd (by decide) h9) (fun _ => ?_)
  refine lv_lload_n hx hb d_M_delete_17 rfl (lv_at hl 2 rfl) ?_
  refine lv_lload hx hb d_M_delete_18 (lv_at hl 3 rfl) ?_
  refine W.lcmp hx hb d_M_delete_20 ?_
  refine lv_if_le hx hb d_M_delete_21 (tgt := 28) rfl (fun _ => ?_) (fun h9 => absurd ((lg_cmp_le _ _).mpr t1) h9)
  refine lv_aload_n hx hb d_M_delete_28 rfl (lv_at hl 0 rfl) ?_
  refine gF (v := .int 0) hx hb hown hE hK hP 0 rfl rfl layM 0 (by decide) w319 rfl d_M_delete_29 ?_
  refine pF (v := .int 0) hx hb hown hE hK hP hD hS 0 rfl rfl layM tyM tokM nmM 0 (by decide) w319 rfl rfl rfl (Nat.le_of_ble_eq_true rfl) d_M_delete_32 (fun H locs hP hD hS => ?_)
  have hP : va_P D vwCl (MW dA h ad (MS.s_cod x 0)) H := hP
  have hD : va_D A (MW dA h ad (MS.s_cod x 0)) := hD
  refine lv_aload_n hx hb d_M_delete_35 rfl (lv_at hl 0 rfl) ?_
  refine gF (v := .int 0) hx hb hown hE hK hP 0 rfl rfl layM 0 (by decide) w319 rfl d_M_delete_36 ?_
  refine lv_if_le hx hb d_M_delete_39 (tgt := 44) rfl (fun _ => ?_) (fun h9 => absurd (by decide) h9)
  refine lv_aload_n hx hb d_M_delete_44 rfl (lv_at hl 0 rfl) ?_
  refine lv_iload_n hx hb d_M_delete_45 rfl (lv_at hl 1 rfl) ?_
  refine lv_lload_n hx hb d_M_delete_46 rfl (lv_at hl 2 rfl) ?_
  refine lv_lload hx hb d_M_delete_47 (lv_at hl 3 rfl) ?_
  refine lv_iconst (v := 0) hx hb d_M_delete_49 (by decide) ?_
  refine jfI (rnV (As := [.int (nI w), .long a, .long b, .int 0]) (rest := []) hx hb hml hown hE hK (hN _ _ hS) hP hD (k_between l D dA H.size h ad (MS.s_cod x 0) w a b false (show x.points ≤ 12000 from by omega) (show w < 256 from by omega) hs) (q0 := 0) rfl rfl w897 w896 w898 w899 w328 rfl rfl ⟨⟨by decide, by decide⟩, rfl⟩ ⟨(Nat.le_of_ble_eq_true rfl), (Nat.le_of_ble_eq_true rfl)⟩ rfl hl.1 rfl (Nat.le_of_ble_eq_true rfl) d_M_delete_50 ⟨(Nat.le_of_ble_eq_true rfl), (Nat.le_of_ble_eq_true rfl)⟩) hP hD hS hA (fun r3 u4 H locs hp9 hP hD hS => ?_)
  have hP : va_P D vwCl (MW dA h ad (MS.s_cod x 0)) H := hP
  have hD : va_D A (MW dA h ad (MS.s_cod x 0)) := hD
  replace hp9 : nI (cnt x.points (x.btw w a b false)) = r3 := Eq.symm hp9
  subst hp9
  refine lv_istore hx hb d_M_delete_53 hl (by decide) rfl (fun ls hl => ?_)
  have hl : lv_has ls 7 [(6, .int (nI (cnt x.points (x.btw w a b false)))), (0, .ref h), (1, .int (nI w)), (2, .long a), (4, .long b)] := hl
  refine lv_iload hx hb d_M_delete_55 (lv_at hl 0 rfl) ?_
  have bz := cnt_le x.points (x.btw w a b false)
  refine lv_if_ne hx hb d_M_delete_57 (tgt := 62) rfl (fun _ => ?_) (fun h9 => absurd h9 (mt (nI_eq (a := cnt x.points (x.btw w a b false)) (b := 0) (by omega) (by omega)).mp n0))
  refine lv_aload_n hx hb d_M_delete_62 rfl (lv_at hl 1 rfl) ?_
  refine lv_iload_n hx hb d_M_delete_63 rfl (lv_at hl 2 rfl) ?_
  refine lv_lload_n hx hb d_M_delete_64 rfl (lv_at hl 3 rfl) ?_
  refine lv_lload hx hb d_M_delete_65 (lv_at hl 4 rfl) ?_
  refine lv_iconst (v := 1) hx hb d_M_delete_67 (by decide) ?_
  refine jfI (rnV (As := [.int (nI w), .long a, .long b, .int 1]) (rest := []) hx hb hml hown hE hK (hN _ _ hS) hP hD (k_between l D dA H.size h ad (MS.s_cod x 0) w a b true (show x.points ≤ 12000 from by omega) (show w < 256 from by omega) hs) (q0 := 0) rfl rfl w897 w896 w898 w899 w328 rfl rfl ⟨⟨by decide, by decide⟩, rfl⟩ ⟨(Nat.le_of_ble_eq_true rfl), (Nat.le_of_ble_eq_true rfl)⟩ rfl hl.1 rfl (Nat.le_of_ble_eq_true rfl) d_M_delete_68 ⟨(Nat.le_of_ble_eq_true rfl), (Nat.le_of_ble_eq_true rfl)⟩) hP hD hS hA (fun r5 u6 H locs hp9 hP hD hS => ?_)
  have hP : va_P D vwCl (MW dA h ad (MS.s_cod x 0)) H := hP
  have hD : va_D A (MW dA h ad (MS.s_cod x 0)) := hD
  replace hp9 : nI (cnt x.points (x.btw w a b true)) = r5 := Eq.symm hp9
  subst hp9
  have bz2 := cnt_le x.points (x.btw w a b true)
  refine lv_if_le hx hb d_M_delete_71 (tgt := 83) rfl (fun g7 => ?_) (fun g7 => ?_)
  · have g7 := (nI_leI (a := cnt x.points (x.btw w a b true)) (b := 0) (by omega) (by decide)).mp g7
    refine lv_aload_n hx hb d_M_delete_83 rfl (lv_at hl 1 rfl) ?_
    refine lv_iconst (v := 1) hx hb d_M_delete_84 (by decide) ?_
    refine jfI (rnV (As := [.int 1]) (rest := []) hx hb hml hown hE hK (hN _ _ hS) hP hD (k_hasRoom l D dA H.size h ad (MS.s_cod x 0) 1 (show x.used + 1 < 2 ^ 31 from by omega) (show x.block + 1 < 2 ^ 31 from by omega) (show x.journal < 2 ^ 31 from by omega)) (q0 := 0) rfl rfl w867 w866 w868 w869 w328 rfl rfl ⟨⟨by decide, by decide⟩, rfl⟩ ⟨(Nat.le_of_ble_eq_true rfl), (Nat.le_of_ble_eq_true rfl)⟩ rfl hl.1 rfl (Nat.le_of_ble_eq_true rfl) d_M_delete_85 ⟨(Nat.le_of_ble_eq_true rfl), (Nat.le_of_ble_eq_true rfl)⟩) hP hD hS hA (fun r8 u9 H locs hp9 hP hD hS => ?_)
    have hP : va_P D vwCl (MW dA h ad (MS.s_cod x 0)) H := hP
    have hD : va_D A (MW dA h ad (MS.s_cod x 0)) := hD
    replace hp9 : bI (x.room 1) = r8 := Eq.symm hp9
    subst hp9
    refine lv_if_ne hx hb d_M_delete_88 (tgt := 98) rfl (fun _ => ?_) (fun h9 => absurd h9 (by rw [hro]; decide))
    refine lv_aload_n hx hb d_M_delete_98 rfl (lv_at hl 1 rfl) ?_
    refine lv_iconst (v := 2) hx hb d_M_delete_99 (by decide) ?_
    refine lv_iload_n hx hb d_M_delete_100 rfl (lv_at hl 2 rfl) ?_
    refine lv_lload_n hx hb d_M_delete_101 rfl (lv_at hl 3 rfl) ?_
    refine lv_lload hx hb d_M_delete_102 (lv_at hl 4 rfl) ?_
    refine lv_iconst (v := 1) hx hb d_M_delete_104 (by decide) ?_
    refine jfI (rnV (As := [.int 2, .int (nI w), .long a, .long b, .int 1]) (rest := []) hx hb hml hown hE hK (hN _ _ hS) hP hD (k_record l D dA H.size h ad (MS.s_cod x 0) 2 w a b 1 (by decide) (show x.records < 32000 from by omega) (show x.used + 1 < 2 ^ 31 from by omega) (show x.block < 2 ^ 30 from by omega) hcr) (q0 := 0) rfl rfl w889 w888 w890 w891 w328 rfl rfl ⟨⟨by decide, by decide⟩, rfl⟩ ⟨(Nat.le_of_ble_eq_true rfl), (Nat.le_of_ble_eq_true rfl)⟩ rfl hl.1 rfl (Nat.le_of_ble_eq_true rfl) d_M_delete_105 ⟨(Nat.le_of_ble_eq_true rfl), (Nat.le_of_ble_eq_true rfl)⟩) hP hD hS hA (fun r10 u11 H locs hp9 hP hD hS => ?_)
    have hP : va_P D vwCl (MW dA h ad (MS.s_fresh (MS.s_used (MS.s_block (MS.s_kept (MS.s_records (MS.s_recordBlocks (MS.s_units (MS.s_seconds (MS.s_firsts (MS.s_recordSeries (MS.s_kinds (MS.s_written (MS.s_cutLeft (MS.s_cod x 0) (x.rCut 1)) (x.rWr 1)) (va_up x.kinds x.records 2)) (va_up x.recordSeries x.records w)) (va_up x.firsts x.records a)) (va_up x.seconds x.records b)) (va_up x.units x.records 1)) (va_up x.recordBlocks x.records (x.rBlock 1))) (x.records + 1)) (x.rKept 1)) (x.rBlock 1)) (x.rUsed 1)) true)) H := hP
    have hD : va_D A (MW dA h ad (MS.s_fresh (MS.s_used (MS.s_block (MS.s_kept (MS.s_records (MS.s_recordBlocks (MS.s_units (MS.s_seconds (MS.s_firsts (MS.s_recordSeries (MS.s_kinds (MS.s_written (MS.s_cutLeft (MS.s_cod x 0) (x.rCut 1)) (x.rWr 1)) (va_up x.kinds x.records 2)) (va_up x.recordSeries x.records w)) (va_up x.firsts x.records a)) (va_up x.seconds x.records b)) (va_up x.units x.records 1)) (va_up x.recordBlocks x.records (x.rBlock 1))) (x.records + 1)) (x.rKept 1)) (x.rBlock 1)) (x.rUsed 1)) true)) := hD
    replace hp9 : bI true = r10 := Eq.symm hp9
    subst hp9
    refine lv_if_ne hx hb d_M_delete_108 (tgt := 118) rfl (fun _ => ?_) (fun h9 => absurd h9 (by decide))
    refine lv_aload_n hx hb d_M_delete_118 rfl (lv_at hl 1 rfl) ?_
    refine lv_iload_n hx hb d_M_delete_119 rfl (lv_at hl 2 rfl) ?_
    refine lv_lload_n hx hb d_M_delete_120 rfl (lv_at hl 3 rfl) ?_
    refine lv_lload hx hb d_M_delete_121 (lv_at hl 4 rfl) ?_
    refine jfI (rnV (As := [.int (nI w), .long a, .long b]) (rest := []) hx hb hml hown hE hK (hN _ _ hS) hP hD (k_go l D dA H.size h ad (MS.s_fresh (MS.s_used (MS.s_block (MS.s_kept (MS.s_records (MS.s_recordBlocks (MS.s_units (MS.s_seconds (MS.s_firsts (MS.s_recordSeries (MS.s_kinds (MS.s_written (MS.s_cutLeft (MS.s_cod x 0) (x.rCut 1)) (x.rWr 1)) (va_up x.kinds x.records 2)) (va_up x.recordSeries x.records w)) (va_up x.firsts x.records a)) (va_up x.seconds x.records b)) (va_up x.units x.records 1)) (va_up x.recordBlocks x.records (x.rBlock 1))) (x.records + 1)) (x.rKept 1)) (x.rBlock 1)) (x.rUsed 1)) true) w a b (show x.points ≤ 12000 from by omega) (show x.deletes < 2 ^ 30 from by omega) (show w < 256 from by omega) hs) (q0 := 0) rfl rfl w901 w900 w902 w903 w328 rfl rfl ⟨⟨by decide, by decide⟩, rfl⟩ ⟨(Nat.le_of_ble_eq_true rfl), (Nat.le_of_ble_eq_true rfl)⟩ rfl hl.1 rfl (Nat.le_of_ble_eq_true rfl) d_M_delete_123 ⟨(Nat.le_of_ble_eq_true rfl), (Nat.le_of_ble_eq_true rfl)⟩) hP hD hS hA (fun r12 u13 H locs hp9 hP hD hS => ?_)
    have hP : va_P D vwCl (MW dA h ad (MS.s_fresh (MS.s_used (MS.s_block (MS.s_kept (MS.s_records (MS.s_recordBlocks (MS.s_units (MS.s_seconds (MS.s_firsts (MS.s_recordSeries (MS.s_kinds (MS.s_deletes (MS.s_hidden (MS.s_places (MS.s_written (MS.s_cutLeft (MS.s_cod x 0) (x.rCut 1)) (x.rWr 1)) (mapT x.points (x.hit w a b) x.gP x.places)) (mapT x.points (x.hit w a b) x.gH x.hidden)) (x.deletes + 1)) (va_up x.kinds x.records 2)) (va_up x.recordSeries x.records w)) (va_up x.firsts x.records a)) (va_up x.seconds x.records b)) (va_up x.units x.records 1)) (va_up x.recordBlocks x.records (x.rBlock 1))) (x.records + 1)) (x.rKept 1)) (x.rBlock 1)) (x.rUsed 1)) true)) H := hP
    have hD : va_D A (MW dA h ad (MS.s_fresh (MS.s_used (MS.s_block (MS.s_kept (MS.s_records (MS.s_recordBlocks (MS.s_units (MS.s_seconds (MS.s_firsts (MS.s_recordSeries (MS.s_kinds (MS.s_deletes (MS.s_hidden (MS.s_places (MS.s_written (MS.s_cutLeft (MS.s_cod x 0) (x.rCut 1)) (x.rWr 1)) (mapT x.points (x.hit w a b) x.gP x.places)) (mapT x.points (x.hit w a b) x.gH x.hidden)) (x.deletes + 1)) (va_up x.kinds x.records 2)) (va_up x.recordSeries x.records w)) (va_up x.firsts x.records a)) (va_up x.seconds x.records b)) (va_up x.units x.records 1)) (va_up x.recordBlocks x.records (x.rBlock 1))) (x.records + 1)) (x.rKept 1)) (x.rBlock 1)) (x.rUsed 1)) true)) := hD
    replace hp9 : nI (cnt x.points (x.hit w a b)) = r12 := Eq.symm hp9
    subst hp9
    exact rfI hx hb hr hlk hS (MS.s_fresh (MS.s_used (MS.s_block (MS.s_kept (MS.s_records (MS.s_recordBlocks (MS.s_units (MS.s_seconds (MS.s_firsts (MS.s_recordSeries (MS.s_kinds (MS.s_deletes (MS.s_hidden (MS.s_places (MS.s_written (MS.s_cutLeft (MS.s_cod x 0) (x.rCut 1)) (x.rWr 1)) (mapT x.points (x.hit w a b) x.gP x.places)) (mapT x.points (x.hit w a b) x.gH x.hidden)) (x.deletes + 1)) (va_up x.kinds x.records 2)) (va_up x.recordSeries x.records w)) (va_up x.firsts x.records a)) (va_up x.seconds x.records b)) (va_up x.units x.records 1)) (va_up x.recordBlocks x.records (x.rBlock 1))) (x.records + 1)) (x.rKept 1)) (x.rBlock 1)) (x.rUsed 1)) true) ⟨rfl, rfl⟩ hP hD (Nat.le_of_ble_eq_true rfl) (Nat.le_of_ble_eq_true rfl) d_M_delete_126
  · have g7 := mt (nI_leI (a := cnt x.points (x.btw w a b true)) (b := 0) (by omega) (by decide)).mpr g7
    refine lv_aload_n hx hb d_M_delete_74 rfl (lv_at hl 1 rfl) ?_
    refine jfI (rnV (As := []) (rest := []) hx hb hml hown hE hK (hN _ _ hS) hP hD (k_scars l D dA H.size h ad (MS.s_cod x 0) (show x.points ≤ 12000 from by omega)) (q0 := 0) rfl rfl w443 w442 w444 w445 w328 rfl rfl ⟨⟨by decide, by decide⟩, rfl⟩ ⟨(Nat.le_of_ble_eq_true rfl), (Nat.le_of_ble_eq_true rfl)⟩ rfl hl.1 rfl (Nat.le_of_ble_eq_true rfl) d_M_delete_75 ⟨(Nat.le_of_ble_eq_true rfl), (Nat.le_of_ble_eq_true rfl)⟩) hP hD hS hA (fun r14 u15 H locs hp9 hP hD hS => ?_)
    have hP : va_P D vwCl (MW dA h ad (MS.s_cod x 0)) H := hP
    have hD : va_D A (MW dA h ad (MS.s_cod x 0)) := hD
    replace hp9 : nI (cnt x.points x.firstOf) = r14 := Eq.symm hp9
    subst hp9
    refine lv_bipush (v := 64) hx hb d_M_delete_78 (by decide) ?_
    have bz3 := cnt_le x.points x.firstOf
    refine lv_icmp_eq hx hb d_M_delete_80 (tgt := 91) rfl (fun g16 => ?_) (fun g16 => ?_)
    · have g16 := (nI_eq (a := cnt x.points x.firstOf) (b := 64) (by omega) (by omega)).mp g16; exfalso; omega
    have g16 := mt (nI_eq (a := cnt x.points x.firstOf) (b := 64) (by omega) (by omega)).mpr g16
    refine lv_aload_n hx hb d_M_delete_83 rfl (lv_at hl 1 rfl) ?_
    refine lv_iconst (v := 1) hx hb d_M_delete_84 (by decide) ?_
    refine jfI (rnV (As := [.int 1]) (rest := []) hx hb hml hown hE hK (hN _ _ hS) hP hD (k_hasRoom l D dA H.size h ad (MS.s_cod x 0) 1 (show x.used + 1 < 2 ^ 31 from by omega) (show x.block + 1 < 2 ^ 31 from by omega) (show x.journal < 2 ^ 31 from by omega)) (q0 := 0) rfl rfl w867 w866 w868 w869 w328 rfl rfl ⟨⟨by decide, by decide⟩, rfl⟩ ⟨(Nat.le_of_ble_eq_true rfl), (Nat.le_of_ble_eq_true rfl)⟩ rfl hl.1 rfl (Nat.le_of_ble_eq_true rfl) d_M_delete_85 ⟨(Nat.le_of_ble_eq_true rfl), (Nat.le_of_ble_eq_true rfl)⟩) hP hD hS hA (fun r17 u18 H locs hp9 hP hD hS => ?_)
    have hP : va_P D vwCl (MW dA h ad (MS.s_cod x 0)) H := hP
    have hD : va_D A (MW dA h ad (MS.s_cod x 0)) := hD
    replace hp9 : bI (x.room 1) = r17 := Eq.symm hp9
    subst hp9
    refine lv_if_ne hx hb d_M_delete_88 (tgt := 98) rfl (fun _ => ?_) (fun h9 => absurd h9 (by rw [hro]; decide))
    refine lv_aload_n hx hb d_M_delete_98 rfl (lv_at hl 1 rfl) ?_
    refine lv_iconst (v := 2) hx hb d_M_delete_99 (by decide) ?_
    refine lv_iload_n hx hb d_M_delete_100 rfl (lv_at hl 2 rfl) ?_
    refine lv_lload_n hx hb d_M_delete_101 rfl (lv_at hl 3 rfl) ?_
    refine lv_lload hx hb d_M_delete_102 (lv_at hl 4 rfl) ?_
    refine lv_iconst (v := 1) hx hb d_M_delete_104 (by decide) ?_
    refine jfI (rnV (As := [.int 2, .int (nI w), .long a, .long b, .int 1]) (rest := []) hx hb hml hown hE hK (hN _ _ hS) hP hD (k_record l D dA H.size h ad (MS.s_cod x 0) 2 w a b 1 (by decide) (show x.records < 32000 from by omega) (show x.used + 1 < 2 ^ 31 from by omega) (show x.block < 2 ^ 30 from by omega) hcr) (q0 := 0) rfl rfl w889 w888 w890 w891 w328 rfl rfl ⟨⟨by decide, by decide⟩, rfl⟩ ⟨(Nat.le_of_ble_eq_true rfl), (Nat.le_of_ble_eq_true rfl)⟩ rfl hl.1 rfl (Nat.le_of_ble_eq_true rfl) d_M_delete_105 ⟨(Nat.le_of_ble_eq_true rfl), (Nat.le_of_ble_eq_true rfl)⟩) hP hD hS hA (fun r19 u20 H locs hp9 hP hD hS => ?_)
    have hP : va_P D vwCl (MW dA h ad (MS.s_fresh (MS.s_used (MS.s_block (MS.s_kept (MS.s_records (MS.s_recordBlocks (MS.s_units (MS.s_seconds (MS.s_firsts (MS.s_recordSeries (MS.s_kinds (MS.s_written (MS.s_cutLeft (MS.s_cod x 0) (x.rCut 1)) (x.rWr 1)) (va_up x.kinds x.records 2)) (va_up x.recordSeries x.records w)) (va_up x.firsts x.records a)) (va_up x.seconds x.records b)) (va_up x.units x.records 1)) (va_up x.recordBlocks x.records (x.rBlock 1))) (x.records + 1)) (x.rKept 1)) (x.rBlock 1)) (x.rUsed 1)) true)) H := hP
    have hD : va_D A (MW dA h ad (MS.s_fresh (MS.s_used (MS.s_block (MS.s_kept (MS.s_records (MS.s_recordBlocks (MS.s_units (MS.s_seconds (MS.s_firsts (MS.s_recordSeries (MS.s_kinds (MS.s_written (MS.s_cutLeft (MS.s_cod x 0) (x.rCut 1)) (x.rWr 1)) (va_up x.kinds x.records 2)) (va_up x.recordSeries x.records w)) (va_up x.firsts x.records a)) (va_up x.seconds x.records b)) (va_up x.units x.records 1)) (va_up x.recordBlocks x.records (x.rBlock 1))) (x.records + 1)) (x.rKept 1)) (x.rBlock 1)) (x.rUsed 1)) true)) := hD
    replace hp9 : bI true = r19 := Eq.symm hp9
    subst hp9
    refine lv_if_ne hx hb d_M_delete_108 (tgt := 118) rfl (fun _ => ?_) (fun h9 => absurd h9 (by decide))
    refine lv_aload_n hx hb d_M_delete_118 rfl (lv_at hl 1 rfl) ?_
    refine lv_iload_n hx hb d_M_delete_119 rfl (lv_at hl 2 rfl) ?_
    refine lv_lload_n hx hb d_M_delete_120 rfl (lv_at hl 3 rfl) ?_
    refine lv_lload hx hb d_M_delete_121 (lv_at hl 4 rfl) ?_
    refine jfI (rnV (As := [.int (nI w), .long a, .long b]) (rest := []) hx hb hml hown hE hK (hN _ _ hS) hP hD (k_go l D dA H.size h ad (MS.s_fresh (MS.s_used (MS.s_block (MS.s_kept (MS.s_records (MS.s_recordBlocks (MS.s_units (MS.s_seconds (MS.s_firsts (MS.s_recordSeries (MS.s_kinds (MS.s_written (MS.s_cutLeft (MS.s_cod x 0) (x.rCut 1)) (x.rWr 1)) (va_up x.kinds x.records 2)) (va_up x.recordSeries x.records w)) (va_up x.firsts x.records a)) (va_up x.seconds x.records b)) (va_up x.units x.records 1)) (va_up x.recordBlocks x.records (x.rBlock 1))) (x.records + 1)) (x.rKept 1)) (x.rBlock 1)) (x.rUsed 1)) true) w a b (show x.points ≤ 12000 from by omega) (show x.deletes < 2 ^ 30 from by omega) (show w < 256 from by omega) hs) (q0 := 0) rfl rfl w901 w900 w902 w903 w328 rfl rfl ⟨⟨by decide, by decide⟩, rfl⟩ ⟨(Nat.le_of_ble_eq_true rfl), (Nat.le_of_ble_eq_true rfl)⟩ rfl hl.1 rfl (Nat.le_of_ble_eq_true rfl) d_M_delete_123 ⟨(Nat.le_of_ble_eq_true rfl), (Nat.le_of_ble_eq_true rfl)⟩) hP hD hS hA (fun r21 u22 H locs hp9 hP hD hS => ?_)
    have hP : va_P D vwCl (MW dA h ad (MS.s_fresh (MS.s_used (MS.s_block (MS.s_kept (MS.s_records (MS.s_recordBlocks (MS.s_units (MS.s_seconds (MS.s_firsts (MS.s_recordSeries (MS.s_kinds (MS.s_deletes (MS.s_hidden (MS.s_places (MS.s_written (MS.s_cutLeft (MS.s_cod x 0) (x.rCut 1)) (x.rWr 1)) (mapT x.points (x.hit w a b) x.gP x.places)) (mapT x.points (x.hit w a b) x.gH x.hidden)) (x.deletes + 1)) (va_up x.kinds x.records 2)) (va_up x.recordSeries x.records w)) (va_up x.firsts x.records a)) (va_up x.seconds x.records b)) (va_up x.units x.records 1)) (va_up x.recordBlocks x.records (x.rBlock 1))) (x.records + 1)) (x.rKept 1)) (x.rBlock 1)) (x.rUsed 1)) true)) H := hP
    have hD : va_D A (MW dA h ad (MS.s_fresh (MS.s_used (MS.s_block (MS.s_kept (MS.s_records (MS.s_recordBlocks (MS.s_units (MS.s_seconds (MS.s_firsts (MS.s_recordSeries (MS.s_kinds (MS.s_deletes (MS.s_hidden (MS.s_places (MS.s_written (MS.s_cutLeft (MS.s_cod x 0) (x.rCut 1)) (x.rWr 1)) (mapT x.points (x.hit w a b) x.gP x.places)) (mapT x.points (x.hit w a b) x.gH x.hidden)) (x.deletes + 1)) (va_up x.kinds x.records 2)) (va_up x.recordSeries x.records w)) (va_up x.firsts x.records a)) (va_up x.seconds x.records b)) (va_up x.units x.records 1)) (va_up x.recordBlocks x.records (x.rBlock 1))) (x.records + 1)) (x.rKept 1)) (x.rBlock 1)) (x.rUsed 1)) true)) := hD
    replace hp9 : nI (cnt x.points (x.hit w a b)) = r21 := Eq.symm hp9
    subst hp9
    exact rfI hx hb hr hlk hS (MS.s_fresh (MS.s_used (MS.s_block (MS.s_kept (MS.s_records (MS.s_recordBlocks (MS.s_units (MS.s_seconds (MS.s_firsts (MS.s_recordSeries (MS.s_kinds (MS.s_deletes (MS.s_hidden (MS.s_places (MS.s_written (MS.s_cutLeft (MS.s_cod x 0) (x.rCut 1)) (x.rWr 1)) (mapT x.points (x.hit w a b) x.gP x.places)) (mapT x.points (x.hit w a b) x.gH x.hidden)) (x.deletes + 1)) (va_up x.kinds x.records 2)) (va_up x.recordSeries x.records w)) (va_up x.firsts x.records a)) (va_up x.seconds x.records b)) (va_up x.units x.records 1)) (va_up x.recordBlocks x.records (x.rBlock 1))) (x.records + 1)) (x.rKept 1)) (x.rBlock 1)) (x.rUsed 1)) true) ⟨rfl, rfl⟩ hP hD (Nat.le_of_ble_eq_true rfl) (Nat.le_of_ble_eq_true rfl) d_M_delete_126
