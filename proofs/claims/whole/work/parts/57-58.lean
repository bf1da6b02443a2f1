section
def MS.recS (x : MS) (kd : Int32) (w : Nat) (a b : Int64) (n : Nat) : MS := MS.s_fresh (MS.s_used (MS.s_block (MS.s_kept (MS.s_records (MS.s_recordBlocks (MS.s_units (MS.s_seconds (MS.s_firsts (MS.s_recordSeries (MS.s_kinds (MS.s_written (MS.s_cutLeft x (x.rCut n)) (x.rWr n)) (va_up x.kinds x.records kd)) (va_up x.recordSeries x.records w)) (va_up x.firsts x.records a)) (va_up x.seconds x.records b)) (va_up x.units x.records n)) (va_up x.recordBlocks x.records (x.rBlock n))) (x.records + 1)) (x.rKept n)) (x.rBlock n)) (x.rUsed n)) true
def MS.comS (x : MS) (w : Nat) (a b : Int64) : MS := MS.s_points (MS.s_baseHidden (MS.s_hidden (MS.s_places (MS.s_pointValues (MS.s_pointTimes (MS.s_pointSeries (MS.s_lasts x (va_up x.lasts w a)) (va_up x.pointSeries x.points w)) (va_up x.pointTimes x.points a)) (va_up x.pointValues x.points b)) (va_up x.places x.points (-1))) (va_up x.hidden x.points (-1))) (va_up x.baseHidden x.points (-1))) (x.points + 1)
def MS.goS (x : MS) (w : Nat) (a b : Int64) : MS := MS.s_deletes (MS.s_hidden (MS.s_places x (mapT x.points (x.hit w a b) x.gP x.places)) (mapT x.points (x.hit w a b) x.gH x.hidden)) (x.deletes + 1)
def MS.canR (x : MS) (n : Nat) : Prop := x.used + n ≤ 126 ∨ x.fresh = false ∨ ¬ x.cutLeft = 0
set_option maxHeartbeats 4000000 in
set_option maxRecDepth 100000 in
theorem k_append_1 (l : Launch) (D : va_G) (dA : Nat → ClassId) (sz : Nat) (h : Nat) (ad : Nat → Nat) (x : MS) (z : Int32) (a : Int64) (b : Int64) (ho : x.on = false) : Met l ⟨"SeriesVaultModel", "append", "(IJJ)I"⟩ [Cond.code ⟨"SeriesVaultModel", "append", "(IJJ)I"⟩ prog_14_method_34_code 6 (some FieldType.int)] { frames := 2, cells := 0, slots := 0, locals := 21 } (pC D dA [.ref h, .int z, .long a, .long b] (MW dA h ad x) sz) (va_Qi (fun (r9 : Int32) (u9 : Unit) => r9 = 0) (fun (u9 : Unit) t9 => bW D (va_A (MW dA h ad x) sz) (MW dA h ad (MS.s_cod x 1)) t9) (va_A (MW dA h ad x) sz)) 0 0 (va_A (MW dA h ad x) sz) := by
  refine mkC (y := ⟨"SeriesVaultModel", "append", "(IJJ)I"⟩) (cc := prog_14_method_34_code) (maxL := 6) (av := [.ref h, .int z, .long a, .long b]) (ws := MW dA h ad x) (sz := sz) (Qc := fun A => va_Qi (fun (r9 : Int32) (u9 : Unit) => r9 = 0) (fun (u9 : Unit) t9 => bW D A (MW dA h ad (MS.s_cod x 1)) t9) A) (by decide) (Nat.le_of_ble_eq_true rfl) ?_
  intro A p e s m below meth c ls hsz hB
  obtain ⟨hx, hb, hr, hml, hown, hin, hlk, hE, hK, hP, hD, hS, hA, hN, hl⟩ := hB
  have hown : s.vm.findClass "SeriesVaultModel" = some m.cls := hown
  have hl : lv_has ls 6 [(0, .ref h), (1, .int z), (2, .long a), (4, .long b)] := hl
  obtain ⟨H, hH⟩ : ∃ z, z = s.heap := ⟨_, rfl⟩
  have hP : va_P D vwCl (MW dA h ad x) H := by rw [hH]; exact hP
  have hS : va_S A s.heap H [] := by rw [hH]; exact hS
  rw [← hH]
  refine lv_aload_n hx hb d_M_append_0 rfl (lv_at hl 0 rfl) ?_
  refine lv_aload_n hx hb d_M_append_1 rfl (lv_at hl 0 rfl) ?_
  refine lv_iload_n hx hb d_M_append_2 rfl (lv_at hl 1 rfl) ?_
  refine jfI (rnV (As := [.int z]) (rest := [.ref h]) hx hb hml hown hE hK (hN _ _ hS) hP hD (k_seriesFault_1 l D dA H.size h ad x z ho) (q0 := 0) rfl rfl w334 w333 w335 w336 w328 rfl rfl ⟨⟨by decide, by decide⟩, rfl⟩ ⟨(Nat.le_of_ble_eq_true rfl), (Nat.le_of_ble_eq_true rfl)⟩ rfl hl.1 rfl (Nat.le_of_ble_eq_true rfl) d_M_append_3 ⟨(Nat.le_of_ble_eq_true rfl), (Nat.le_of_ble_eq_true rfl)⟩) hP hD hS hA (fun r1 u2 H locs hp9 hP hD hS => ?_)
  have hP : va_P D vwCl (MW dA h ad x) H := hP
  have hD : va_D A (MW dA h ad x) := hD
  replace hp9 : 1 = r1 := Eq.symm hp9
  subst hp9
  refine pF (v := .int 1) hx hb hown hE hK hP hD hS 0 rfl rfl layM tyM tokM nmM 0 (by decide) w319 rfl rfl rfl (Nat.le_of_ble_eq_true rfl) d_M_append_6 (fun H locs hP hD hS => ?_)
  have hP : va_P D vwCl (MW dA h ad (MS.s_cod x 1)) H := hP
  have hD : va_D A (MW dA h ad (MS.s_cod x 1)) := hD
  refine lv_aload_n hx hb d_M_append_9 rfl (lv_at hl 0 rfl) ?_
  refine lv_aload_n hx hb d_M_append_10 rfl (lv_at hl 0 rfl) ?_
  refine gF (v := .int 1) hx hb hown hE hK hP 0 rfl rfl layM 0 (by decide) w319 rfl d_M_append_11 ?_
  refine lv_if_ne hx hb d_M_append_14 (tgt := 26) rfl (fun _ => ?_) (fun h9 => absurd h9 (by decide))
  refine lv_aload_n hx hb d_M_append_26 rfl (lv_at hl 0 rfl) ?_
  refine gF (v := .int 1) hx hb hown hE hK hP 0 rfl rfl layM 0 (by decide) w319 rfl d_M_append_27 ?_
  refine pF (v := .int 1) hx hb hown hE hK hP hD hS 0 rfl rfl layM tyM tokM nmM 0 (by decide) w319 rfl rfl rfl (Nat.le_of_ble_eq_true rfl) d_M_append_30 (fun H locs hP hD hS => ?_)
  have hP : va_P D vwCl (MW dA h ad (MS.s_cod x 1)) H := hP
  have hD : va_D A (MW dA h ad (MS.s_cod x 1)) := hD
  refine lv_aload_n hx hb d_M_append_33 rfl (lv_at hl 0 rfl) ?_
  refine gF (v := .int 1) hx hb hown hE hK hP 0 rfl rfl layM 0 (by decide) w319 rfl d_M_append_34 ?_
  refine lv_if_le hx hb d_M_append_37 (tgt := 42) rfl (fun h9 => absurd h9 (by decide)) (fun _ => ?_)
  refine lv_iconst (v := 0) hx hb d_M_append_40 (by decide) ?_
  exact rfI hx hb hr hlk hS () rfl hP hD (Nat.le_of_ble_eq_true rfl) (Nat.le_of_ble_eq_true rfl) d_M_append_41
set_option maxHeartbeats 4000000 in
set_option maxRecDepth 100000 in
theorem k_append_2 (l : Launch) (D : va_G) (dA : Nat → ClassId) (sz : Nat) (h : Nat) (ad : Nat → Nat) (x : MS) (z : Int32) (a : Int64) (b : Int64) (ho : x.on = true) (h0 : z < 0 ∨ nI x.seriesCount ≤ z) : Met l ⟨"SeriesVaultModel", "append", "(IJJ)I"⟩ [Cond.code ⟨"SeriesVaultModel", "append", "(IJJ)I"⟩ prog_14_method_34_code 6 (some FieldType.int)] { frames := 2, cells := 0, slots := 0, locals := 21 } (pC D dA [.ref h, .int z, .long a, .long b] (MW dA h ad x) sz) (va_Qi (fun (r9 : Int32) (u9 : Unit) => r9 = 0) (fun (u9 : Unit) t9 => bW D (va_A (MW dA h ad x) sz) (MW dA h ad (MS.s_cod x 2)) t9) (va_A (MW dA h ad x) sz)) 0 0 (va_A (MW dA h ad x) sz) := by
  refine mkC (y := ⟨"SeriesVaultModel", "append", "(IJJ)I"⟩) (cc := prog_14_method_34_code) (maxL := 6) (av := [.ref h, .int z, .long a, .long b]) (ws := MW dA h ad x) (sz := sz) (Qc := fun A => va_Qi (fun (r9 : Int32) (u9 : Unit) => r9 = 0) (fun (u9 : Unit) t9 => bW D A (MW dA h ad (MS.s_cod x 2)) t9) A) (by decide) (Nat.le_of_ble_eq_true rfl) ?_
  intro A p e s m below meth c ls hsz hB
  obtain ⟨hx, hb, hr, hml, hown, hin, hlk, hE, hK, hP, hD, hS, hA, hN, hl⟩ := hB
  have hown : s.vm.findClass "SeriesVaultModel" = some m.cls := hown
  have hl : lv_has ls 6 [(0, .ref h), (1, .int z), (2, .long a), (4, .long b)] := hl
  obtain ⟨H, hH⟩ : ∃ z, z = s.heap := ⟨_, rfl⟩
  have hP : va_P D vwCl (MW dA h ad x) H := by rw [hH]; exact hP
  have hS : va_S A s.heap H [] := by rw [hH]; exact hS
  rw [← hH]
  refine lv_aload_n hx hb d_M_append_0 rfl (lv_at hl 0 rfl) ?_
  refine lv_aload_n hx hb d_M_append_1 rfl (lv_at hl 0 rfl) ?_
  refine lv_iload_n hx hb d_M_append_2 rfl (lv_at hl 1 rfl) ?_
  refine jfI (rnV (As := [.int z]) (rest := [.ref h]) hx hb hml hown hE hK (hN _ _ hS) hP hD (k_seriesFault_2 l D dA H.size h ad x z ho h0) (q0 := 0) rfl rfl w334 w333 w335 w336 w328 rfl rfl ⟨⟨by decide, by decide⟩, rfl⟩ ⟨(Nat.le_of_ble_eq_true rfl), (Nat.le_of_ble_eq_true rfl)⟩ rfl hl.1 rfl (Nat.le_of_ble_eq_true rfl) d_M_append_3 ⟨(Nat.le_of_ble_eq_true rfl), (Nat.le_of_ble_eq_true rfl)⟩) hP hD hS hA (fun r1 u2 H locs hp9 hP hD hS => ?_)
  have hP : va_P D vwCl (MW dA h ad x) H := hP
  have hD : va_D A (MW dA h ad x) := hD
  replace hp9 : 2 = r1 := Eq.symm hp9
  subst hp9
  refine pF (v := .int 2) hx hb hown hE hK hP hD hS 0 rfl rfl layM tyM tokM nmM 0 (by decide) w319 rfl rfl rfl (Nat.le_of_ble_eq_true rfl) d_M_append_6 (fun H locs hP hD hS => ?_)
  have hP : va_P D vwCl (MW dA h ad (MS.s_cod x 2)) H := hP
  have hD : va_D A (MW dA h ad (MS.s_cod x 2)) := hD
  refine lv_aload_n hx hb d_M_append_9 rfl (lv_at hl 0 rfl) ?_
  refine lv_aload_n hx hb d_M_append_10 rfl (lv_at hl 0 rfl) ?_
  refine gF (v := .int 2) hx hb hown hE hK hP 0 rfl rfl layM 0 (by decide) w319 rfl d_M_append_11 ?_
  refine lv_if_ne hx hb d_M_append_14 (tgt := 26) rfl (fun _ => ?_) (fun h9 => absurd h9 (by decide))
  refine lv_aload_n hx hb d_M_append_26 rfl (lv_at hl 0 rfl) ?_
  refine gF (v := .int 2) hx hb hown hE hK hP 0 rfl rfl layM 0 (by decide) w319 rfl d_M_append_27 ?_
  refine pF (v := .int 2) hx hb hown hE hK hP hD hS 0 rfl rfl layM tyM tokM nmM 0 (by decide) w319 rfl rfl rfl (Nat.le_of_ble_eq_true rfl) d_M_append_30 (fun H locs hP hD hS => ?_)
  have hP : va_P D vwCl (MW dA h ad (MS.s_cod x 2)) H := hP
  have hD : va_D A (MW dA h ad (MS.s_cod x 2)) := hD
  refine lv_aload_n hx hb d_M_append_33 rfl (lv_at hl 0 rfl) ?_
  refine gF (v := .int 2) hx hb hown hE hK hP 0 rfl rfl layM 0 (by decide) w319 rfl d_M_append_34 ?_
  refine lv_if_le hx hb d_M_append_37 (tgt := 42) rfl (fun h9 => absurd h9 (by decide)) (fun _ => ?_)
  refine lv_iconst (v := 0) hx hb d_M_append_40 (by decide) ?_
  exact rfI hx hb hr hlk hS () rfl hP hD (Nat.le_of_ble_eq_true rfl) (Nat.le_of_ble_eq_true rfl) d_M_append_41
theorem d_M_append_17 : decode prog_14_method_34_code 17 = .ok (.aload_n 0, 1) := by decide +kernel
theorem d_M_append_18 : decode prog_14_method_34_code 18 = .ok (.iload_n 1, 1) := by decide +kernel
theorem d_M_append_19 : decode prog_14_method_34_code 19 = .ok (.lload_n 2, 1) := by decide +kernel
theorem d_M_append_20 : decode prog_14_method_34_code 20 = .ok (.invokevirtual 263, 3) := by decide +kernel
theorem d_M_append_23 : decode prog_14_method_34_code 23 = .ok (.goto 7, 3) := by decide +kernel
theorem w884 : Cond.methodLink "SeriesVaultModel" 263 ⟨"SeriesVaultModel", "why", "(IJ)I"⟩ ∈ aW := aw_of (tb_10 (List.mem_of_getElem? (i := 23) rfl)) rfl
theorem w885 : Cond.code ⟨"SeriesVaultModel", "why", "(IJ)I"⟩ prog_14_method_33_code 4 (some FieldType.int) ∈ aW := aw_of (tb_10 (List.mem_of_getElem? (i := 26) rfl)) rfl
theorem w886 : Cond.instanceMethod ⟨"SeriesVaultModel", "why", "(IJ)I"⟩ ∈ aW := aw_of (tb_10 (List.mem_of_getElem? (i := 25) rfl)) rfl
theorem w887 : Cond.selects "SeriesVaultModel" ⟨"SeriesVaultModel", "why", "(IJ)I"⟩ ⟨"SeriesVaultModel", "why", "(IJ)I"⟩ ∈ aW := aw_pr (List.mem_map.mpr ⟨_, pv_5 (List.mem_of_getElem? (i := 15) rfl), rfl⟩) rfl
set_option maxHeartbeats 4000000 in
set_option maxRecDepth 100000 in
theorem k_append_3 (l : Launch) (D : va_G) (dA : Nat → ClassId) (sz : Nat) (h : Nat) (ad : Nat → Nat) (x : MS) (w : Nat) (a : Int64) (b : Int64) (ho : x.on = true) (hw : w < x.seriesCount) (hc : x.seriesCount ≤ 256) (h0 : a < 0 ∨ 1099511627775 < a ∨ a ≤ x.lasts w ∨ a < x.horizon) : Met l ⟨"SeriesVaultModel", "append", "(IJJ)I"⟩ [Cond.code ⟨"SeriesVaultModel", "append", "(IJJ)I"⟩ prog_14_method_34_code 6 (some FieldType.int)] { frames := 2, cells := 0, slots := 0, locals := 23 } (pC D dA [.ref h, .int (nI w), .long a, .long b] (MW dA h ad x) sz) (va_Qi (fun (r9 : Int32) (u9 : Unit) => r9 = 0) (fun (u9 : Unit) t9 => bW D (va_A (MW dA h ad x) sz) (MW dA h ad (MS.s_cod x 3)) t9) (va_A (MW dA h ad x) sz)) 0 0 (va_A (MW dA h ad x) sz) := by
  refine mkC (y := ⟨"SeriesVaultModel", "append", "(IJJ)I"⟩) (cc := prog_14_method_34_code) (maxL := 6) (av := [.ref h, .int (nI w), .long a, .long b]) (ws := MW dA h ad x) (sz := sz) (Qc := fun A => va_Qi (fun (r9 : Int32) (u9 : Unit) => r9 = 0) (fun (u9 : Unit) t9 => bW D A (MW dA h ad (MS.s_cod x 3)) t9) A) (by decide) (Nat.le_of_ble_eq_true rfl) ?_
  intro A p e s m below meth c ls hsz hB
  obtain ⟨hx, hb, hr, hml, hown, hin, hlk, hE, hK, hP, hD, hS, hA, hN, hl⟩ := hB
  have hown : s.vm.findClass "SeriesVaultModel" = some m.cls := hown
  have hl : lv_has ls 6 [(0, .ref h), (1, .int (nI w)), (2, .long a), (4, .long b)] := hl
  obtain ⟨H, hH⟩ : ∃ z, z = s.heap := ⟨_, rfl⟩
  have hP : va_P D vwCl (MW dA h ad x) H := by rw [hH]; exact hP
  have hS : va_S A s.heap H [] := by rw [hH]; exact hS
  rw [← hH]
  refine lv_aload_n hx hb d_M_append_0 rfl (lv_at hl 0 rfl) ?_
  refine lv_aload_n hx hb d_M_append_1 rfl (lv_at hl 0 rfl) ?_
  refine lv_iload_n hx hb d_M_append_2 rfl (lv_at hl 1 rfl) ?_
  refine jfI (rnV (As := [.int (nI w)]) (rest := [.ref h]) hx hb hml hown hE hK (hN _ _ hS) hP hD (k_seriesFault_0 l D dA H.size h ad x w ho hw hc) (q0 := 0) rfl rfl w334 w333 w335 w336 w328 rfl rfl ⟨⟨by decide, by decide⟩, rfl⟩ ⟨(Nat.le_of_ble_eq_true rfl), (Nat.le_of_ble_eq_true rfl)⟩ rfl hl.1 rfl (Nat.le_of_ble_eq_true rfl) d_M_append_3 ⟨(Nat.le_of_ble_eq_true rfl), (Nat.le_of_ble_eq_true rfl)⟩) hP hD hS hA (fun r1 u2 H locs hp9 hP hD hS => ?_)
  have hP : va_P D vwCl (MW dA h ad x) H := hP
  have hD : va_D A (MW dA h ad x) := hD
  replace hp9 : 0 = r1 := Eq.symm hp9
  subst hp9
  refine pF (v := .int 0) hx hb hown hE hK hP hD hS 0 rfl rfl layM tyM tokM nmM 0 (by decide) w319 rfl rfl rfl (Nat.le_of_ble_eq_true rfl) d_M_append_6 (fun H locs hP hD hS => ?_)
  have hP : va_P D vwCl (MW dA h ad (MS.s_cod x 0)) H := hP
  have hD : va_D A (MW dA h ad (MS.s_cod x 0)) := hD
  refine lv_aload_n hx hb d_M_append_9 rfl (lv_at hl 0 rfl) ?_
  refine lv_aload_n hx hb d_M_append_10 rfl (lv_at hl 0 rfl) ?_
  refine gF (v := .int 0) hx hb hown hE hK hP 0 rfl rfl layM 0 (by decide) w319 rfl d_M_append_11 ?_
  refine lv_if_ne hx hb d_M_append_14 (tgt := 26) rfl (fun h9 => absurd (by decide) h9) (fun _ => ?_)
  refine lv_aload_n hx hb d_M_append_17 rfl (lv_at hl 0 rfl) ?_
  refine lv_iload_n hx hb d_M_append_18 rfl (lv_at hl 1 rfl) ?_
  refine lv_lload_n hx hb d_M_append_19 rfl (lv_at hl 2 rfl) ?_
  refine jfI (rnV (As := [.int (nI w), .long a]) (rest := [.ref h]) hx hb hml hown hE hK (hN _ _ hS) hP hD (k_why_3 l D dA H.size h ad (MS.s_cod x 0) w a (show w < 256 from by omega) h0) (q0 := 0) rfl rfl w885 w884 w886 w887 w328 rfl rfl ⟨⟨by decide, by decide⟩, rfl⟩ ⟨(Nat.le_of_ble_eq_true rfl), (Nat.le_of_ble_eq_true rfl)⟩ rfl hl.1 rfl (Nat.le_of_ble_eq_true rfl) d_M_append_20 ⟨(Nat.le_of_ble_eq_true rfl), (Nat.le_of_ble_eq_true rfl)⟩) hP hD hS hA (fun r3 u4 H locs hp9 hP hD hS => ?_)
  have hP : va_P D vwCl (MW dA h ad (MS.s_cod x 0)) H := hP
  have hD : va_D A (MW dA h ad (MS.s_cod x 0)) := hD
  replace hp9 : 3 = r3 := Eq.symm hp9
  subst hp9
  refine lv_goto hx hb d_M_append_23 (tgt := 30) rfl ?_
  refine pF (v := .int 3) hx hb hown hE hK hP hD hS 0 rfl rfl layM tyM tokM nmM 0 (by decide) w319 rfl rfl rfl (Nat.le_of_ble_eq_true rfl) d_M_append_30 (fun H locs hP hD hS => ?_)
  have hP : va_P D vwCl (MW dA h ad (MS.s_cod x 3)) H := hP
  have hD : va_D A (MW dA h ad (MS.s_cod x 3)) := hD
  refine lv_aload_n hx hb d_M_append_33 rfl (lv_at hl 0 rfl) ?_
  refine gF (v := .int 3) hx hb hown hE hK hP 0 rfl rfl layM 0 (by decide) w319 rfl d_M_append_34 ?_
  refine lv_if_le hx hb d_M_append_37 (tgt := 42) rfl (fun h9 => absurd h9 (by decide)) (fun _ => ?_)
  refine lv_iconst (v := 0) hx hb d_M_append_40 (by decide) ?_
  exact rfI hx hb hr hlk hS () rfl hP hD (Nat.le_of_ble_eq_true rfl) (Nat.le_of_ble_eq_true rfl) d_M_append_41
set_option maxHeartbeats 4000000 in
set_option maxRecDepth 100000 in
theorem k_append_4 (l : Launch) (D : va_G) (dA : Nat → ClassId) (sz : Nat) (h : Nat) (ad : Nat → Nat) (x : MS) (w : Nat) (a : Int64) (b : Int64) (ho : x.on = true) (hw : w < x.seriesCount) (hc : x.seriesCount ≤ 256) (t1 : ¬ a < 0) (t2 : ¬ 1099511627775 < a) (t3 : ¬ a ≤ x.lasts w) (t4 : x.horizon ≤ a) (u1 : x.used ≤ 126) (u2 : x.block < 2 ^ 20) (u3 : x.journal ≤ 256) (hro : x.room 1 = false) : Met l ⟨"SeriesVaultModel", "append", "(IJJ)I"⟩ [Cond.code ⟨"SeriesVaultModel", "append", "(IJJ)I"⟩ prog_14_method_34_code 6 (some FieldType.int)] { frames := 3, cells := 0, slots := 0, locals := 44 } (pC D dA [.ref h, .int (nI w), .long a, .long b] (MW dA h ad x) sz) (va_Qi (fun (r9 : Int32) (u9 : Unit) => r9 = 0) (fun (u9 : Unit) t9 => bW D (va_A (MW dA h ad x) sz) (MW dA h ad (MS.s_cod x 4)) t9) (va_A (MW dA h ad x) sz)) 0 0 (va_A (MW dA h ad x) sz) := by
  refine mkC (y := ⟨"SeriesVaultModel", "append", "(IJJ)I"⟩) (cc := prog_14_method_34_code) (maxL := 6) (av := [.ref h, .int (nI w), .long a, .long b]) (ws := MW dA h ad x) (sz := sz) (Qc := fun A => va_Qi (fun (r9 : Int32) (u9 : Unit) => r9 = 0) (fun (u9 : Unit) t9 => bW D A (MW dA h ad (MS.s_cod x 4)) t9) A) (by decide) (Nat.le_of_ble_eq_true rfl) ?_
  intro A p e s m below meth c ls hsz hB
  obtain ⟨hx, hb, hr, hml, hown, hin, hlk, hE, hK, hP, hD, hS, hA, hN, hl⟩ := hB
  have hown : s.vm.findClass "SeriesVaultModel" = some m.cls := hown
  have hl : lv_has ls 6 [(0, .ref h), (1, .int (nI w)), (2, .long a), (4, .long b)] := hl
  obtain ⟨H, hH⟩ : ∃ z, z = s.heap := ⟨_, rfl⟩
  have hP : va_P D vwCl (MW dA h ad x) H := by rw [hH]; exact hP
  have hS : va_S A s.heap H [] := by rw [hH]; exact hS
  rw [← hH]
  refine lv_aload_n hx hb d_M_append_0 rfl (lv_at hl 0 rfl) ?_
  refine lv_aload_n hx hb d_M_append_1 rfl (lv_at hl 0 rfl) ?_
  refine lv_iload_n hx hb d_M_append_2 rfl (lv_at hl 1 rfl) ?_
  refine jfI (rnV (As := [.int (nI w)]) (rest := [.ref h]) hx hb hml hown hE hK (hN _ _ hS) hP hD (k_seriesFault_0 l D dA H.size h ad x w ho hw hc) (q0 := 0) rfl rfl w334 w333 w335 w336 w328 rfl rfl ⟨⟨by decide, by decide⟩, rfl⟩ ⟨(Nat.le_of_ble_eq_true rfl), (Nat.le_of_ble_eq_true rfl)⟩ rfl hl.1 rfl (Nat.le_of_ble_eq_true rfl) d_M_append_3 ⟨(Nat.le_of_ble_eq_true rfl), (Nat.le_of_ble_eq_true rfl)⟩) hP hD hS hA (fun r1 u2 H locs hp9 hP hD hS => ?_)
  have hP : va_P D vwCl (MW dA h ad x) H := hP
  have hD : va_D A (MW dA h ad x) := hD
  replace hp9 : 0 = r1 := Eq.symm hp9
  subst hp9
  refine pF (v := .int 0) hx hb hown hE hK hP hD hS 0 rfl rfl layM tyM tokM nmM 0 (by decide) w319 rfl rfl rfl (Nat.le_of_ble_eq_true rfl) d_M_append_6 (fun H locs hP hD hS => ?_)
  have hP : va_P D vwCl (MW dA h ad (MS.s_cod x 0)) H := hP
  have hD : va_D A (MW dA h ad (MS.s_cod x 0)) := hD
  refine lv_aload_n hx hb d_M_append_9 rfl (lv_at hl 0 rfl) ?_
  refine lv_aload_n hx hb d_M_append_10 rfl (lv_at hl 0 rfl) ?_
  refine gF (v := .int 0) hx hb hown hE hK hP 0 rfl rfl layM 0 (by decide) w319 rfl d_M_append_11 ?_
  refine lv_if_ne hx hb d_M_append_14 (tgt := 26) rfl (fun h9 => absurd (by decide) h9) (fun _ => ?_)
  refine lv_aload_n hx hb d_M_append_17 rfl (lv_at hl 0 rfl) ?_
  refine lv_iload_n hx hb d_M_append_18 rfl (lv_at hl 1 rfl) ?_
  refine lv_lload_n hx hb d_M_append_19 rfl (lv_at hl 2 rfl) ?_
  refine jfI (rnV (As := [.int (nI w), .long a]) (rest := [.ref h]) hx hb hml hown hE hK (hN _ _ hS) hP hD (k_why_4 l D dA H.size h ad (MS.s_cod x 0) w a (show w < 256 from by omega) t1 t2 t3 t4 (show x.used ≤ 126 from by omega) (show x.block < 2 ^ 20 from by omega) (show x.journal ≤ 256 from by omega) hro) (q0 := 0) rfl rfl w885 w884 w886 w887 w328 rfl rfl ⟨⟨by decide, by decide⟩, rfl⟩ ⟨(Nat.le_of_ble_eq_true rfl), (Nat.le_of_ble_eq_true rfl)⟩ rfl hl.1 rfl (Nat.le_of_ble_eq_true rfl) d_M_append_20 ⟨(Nat.le_of_ble_eq_true rfl), (Nat.le_of_ble_eq_true rfl)⟩) hP hD hS hA (fun r3 u4 H locs hp9 hP hD hS => ?_)
  have hP : va_P D vwCl (MW dA h ad (MS.s_cod x 0)) H := hP
  have hD : va_D A (MW dA h ad (MS.s_cod x 0)) := hD
  replace hp9 : 4 = r3 := Eq.symm hp9
  subst hp9
  refine lv_goto hx hb d_M_append_23 (tgt := 30) rfl ?_
  refine pF (v := .int 4) hx hb hown hE hK hP hD hS 0 rfl rfl layM tyM tokM nmM 0 (by decide) w319 rfl rfl rfl (Nat.le_of_ble_eq_true rfl) d_M_append_30 (fun H locs hP hD hS => ?_)
  have hP : va_P D vwCl (MW dA h ad (MS.s_cod x 4)) H := hP
  have hD : va_D A (MW dA h ad (MS.s_cod x 4)) := hD
  refine lv_aload_n hx hb d_M_append_33 rfl (lv_at hl 0 rfl) ?_
  refine gF (v := .int 4) hx hb hown hE hK hP 0 rfl rfl layM 0 (by decide) w319 rfl d_M_append_34 ?_
  refine lv_if_le hx hb d_M_append_37 (tgt := 42) rfl (fun h9 => absurd h9 (by decide)) (fun _ => ?_)
  refine lv_iconst (v := 0) hx hb d_M_append_40 (by decide) ?_
  exact rfI hx hb hr hlk hS () rfl hP hD (Nat.le_of_ble_eq_true rfl) (Nat.le_of_ble_eq_true rfl) d_M_append_41
theorem d_M_append_42 : decode prog_14_method_34_code 42 = .ok (.aload_n 0, 1) := by decide +kernel
theorem d_M_append_43 : decode prog_14_method_34_code 43 = .ok (.iconst 1, 1) := by decide +kernel
theorem d_M_append_44 : decode prog_14_method_34_code 44 = .ok (.iload_n 1, 1) := by decide +kernel
theorem d_M_append_45 : decode prog_14_method_34_code 45 = .ok (.lload_n 2, 1) := by decide +kernel
theorem d_M_append_46 : decode prog_14_method_34_code 46 = .ok (.lload 4, 2) := by decide +kernel
theorem d_M_append_48 : decode prog_14_method_34_code 48 = .ok (.iconst 1, 1) := by decide +kernel
theorem d_M_append_49 : decode prog_14_method_34_code 49 = .ok (.invokevirtual 250, 3) := by decide +kernel
theorem d_M_append_52 : decode prog_14_method_34_code 52 = .ok (.ifCond .ne 10, 3) := by decide +kernel
theorem d_M_append_55 : decode prog_14_method_34_code 55 = .ok (.aload_n 0, 1) := by decide +kernel
theorem d_M_append_56 : decode prog_14_method_34_code 56 = .ok (.iconst 1, 1) := by decide +kernel
theorem d_M_append_57 : decode prog_14_method_34_code 57 = .ok (.putfield 145, 3) := by decide +kernel
theorem d_M_append_60 : decode prog_14_method_34_code 60 = .ok (.iconst 0, 1) := by decide +kernel
theorem d_M_append_61 : decode prog_14_method_34_code 61 = .ok (.ireturn, 1) := by decide +kernel
theorem w888 : Cond.methodLink "SeriesVaultModel" 250 ⟨"SeriesVaultModel", "record", "(IIJJI)Z"⟩ ∈ aW := aw_of (tb_9 (List.mem_of_getElem? (i := 230) rfl)) rfl
theorem w889 : Cond.code ⟨"SeriesVaultModel", "record", "(IIJJI)Z"⟩ prog_14_method_11_code 8 (some FieldType.boolean) ∈ aW := aw_of (tb_9 (List.mem_of_getElem? (i := 233) rfl)) rfl
theorem w890 : Cond.instanceMethod ⟨"SeriesVaultModel", "record", "(IIJJI)Z"⟩ ∈ aW := aw_of (tb_9 (List.mem_of_getElem? (i := 232) rfl)) rfl
theorem w891 : Cond.selects "SeriesVaultModel" ⟨"SeriesVaultModel", "record", "(IIJJI)Z"⟩ ⟨"SeriesVaultModel", "record", "(IIJJI)Z"⟩ ∈ aW := aw_pr (List.mem_map.mpr ⟨_, pv_5 (List.mem_of_getElem? (i := 10) rfl), rfl⟩) rfl
set_option maxHeartbeats 4000000 in
set_option maxRecDepth 100000 in
theorem k_append_5 (l : Launch) (D : va_G) (dA : Nat → ClassId) (sz : Nat) (h : Nat) (ad : Nat → Nat) (x : MS) (w : Nat) (a : Int64) (b : Int64) (ho : x.on = true) (hw : w < x.seriesCount) (hc : x.seriesCount ≤ 256) (t1 : ¬ a < 0) (t2 : ¬ 1099511627775 < a) (t3 : ¬ a ≤ x.lasts w) (t4 : x.horizon ≤ a) (u1 : x.used ≤ 126) (u2 : x.block < 2 ^ 20) (u3 : x.journal ≤ 256) (hro : x.room 1 = true) (c1 : 126 < x.used + 1) (hf : x.fresh = true) (hcu : x.cutLeft = 0) : Met l ⟨"SeriesVaultModel", "append", "(IJJ)I"⟩ [Cond.code ⟨"SeriesVaultModel", "append", "(IJJ)I"⟩ prog_14_method_34_code 6 (some FieldType.int)] { frames := 4, cells := 0, slots := 0, locals := 67 } (pC D dA [.ref h, .int (nI w), .long a, .long b] (MW dA h ad x) sz) (va_Qi (fun (r9 : Int32) (u9 : Unit) => r9 = 0) (fun (u9 : Unit) t9 => bW D (va_A (MW dA h ad x) sz) (MW dA h ad (MS.s_cutLeft (MS.s_on (MS.s_cod x 1) false) (-1))) t9) (va_A (MW dA h ad x) sz)) 0 0 (va_A (MW dA h ad x) sz) := by
  refine mkC (y := ⟨"SeriesVaultModel", "append", "(IJJ)I"⟩) (cc := prog_14_method_34_code) (maxL := 6) (av := [.ref h, .int (nI w), .long a, .long b]) (ws := MW dA h ad x) (sz := sz) (Qc := fun A => va_Qi (fun (r9 : Int32) (u9 : Unit) => r9 = 0) (fun (u9 : Unit) t9 => bW D A (MW dA h ad (MS.s_cutLeft (MS.s_on (MS.s_cod x 1) false) (-1))) t9) A) (by decide) (Nat.le_of_ble_eq_true rfl) ?_
  intro A p e s m below meth c ls hsz hB
  obtain ⟨hx, hb, hr, hml, hown, hin, hlk, hE, hK, hP, hD, hS, hA, hN, hl⟩ := hB
  have hown : s.vm.findClass "SeriesVaultModel" = some m.cls := hown
  have hl : lv_has ls 6 [(0, .ref h), (1, .int (nI w)), (2, .long a), (4, .long b)] := hl
  obtain ⟨H, hH⟩ : ∃ z, z = s.heap := ⟨_, rfl⟩
  have hP : va_P D vwCl (MW dA h ad x) H := by rw [hH]; exact hP
  have hS : va_S A s.heap H [] := by rw [hH]; exact hS
  rw [← hH]
  refine lv_aload_n hx hb d_M_append_0 rfl (lv_at hl 0 rfl) ?_
  refine lv_aload_n hx hb d_M_append_1 rfl (lv_at hl 0 rfl) ?_
  refine lv_iload_n hx hb d_M_append_2 rfl (lv_at hl 1 rfl) ?_
  refine jfI (rnV (As := [.int (nI w)]) (rest := [.ref h]) hx hb hml hown hE hK (hN _ _ hS) hP hD (k_seriesFault_0 l D dA H.size h ad x w ho hw hc) (q0 := 0) rfl rfl w334 w333 w335 w336 w328 rfl rfl ⟨⟨by decide, by decide⟩, rfl⟩ ⟨(Nat.le_of_ble_eq_true rfl), (Nat.le_of_ble_eq_true rfl)⟩ rfl hl.1 rfl (Nat.le_of_ble_eq_true rfl) d_M_append_3 ⟨(Nat.le_of_ble_eq_true rfl), (Nat.le_of_ble_eq_true rfl)⟩) hP hD hS hA (fun r1 u2 H locs hp9 hP hD hS => ?_)
  have hP : va_P D vwCl (MW dA h ad x) H := hP
  have hD : va_D A (MW dA h ad x) := hD
  replace hp9 : 0 = r1 := Eq.symm hp9
  subst hp9
  refine pF (v := .int 0) hx hb hown hE hK hP hD hS 0 rfl rfl layM tyM tokM nmM 0 (by decide) w319 rfl rfl rfl (Nat.le_of_ble_eq_true rfl) d_M_append_6 (fun H locs hP hD hS => ?_)
  have hP : va_P D vwCl (MW dA h ad (MS.s_cod x 0)) H := hP
  have hD : va_D A (MW dA h ad (MS.s_cod x 0)) := hD
  refine lv_aload_n hx hb d_M_append_9 rfl (lv_at hl 0 rfl) ?_
  refine lv_aload_n hx hb d_M_append_10 rfl (lv_at hl 0 rfl) ?_
  refine gF (v := .int 0) hx hb hown hE hK hP 0 rfl rfl layM 0 (by decide) w319 rfl d_M_append_11 ?_
  refine lv_if_ne hx hb d_M_append_14 (tgt := 26) rfl (fun h9 => absurd (by decide) h9) (fun _ => ?_)
  refine lv_aload_n hx hb d_M_append_17 rfl (lv_at hl 0 rfl) ?_
  refine lv_iload_n hx hb d_M_append_18 rfl (lv_at hl 1 rfl) ?_
  refine lv_lload_n hx hb d_M_append_19 rfl (lv_at hl 2 rfl) ?_
  refine jfI (rnV (As := [.int (nI w), .long a]) (rest := [.ref h]) hx hb hml hown hE hK (hN _ _ hS) hP hD (k_why_0 l D dA H.size h ad (MS.s_cod x 0) w a (show w < 256 from by omega) t1 t2 t3 t4 (show x.used ≤ 126 from by omega) (show x.block < 2 ^ 20 from by omega) (show x.journal ≤ 256 from by omega) hro) (q0 := 0) rfl rfl w885 w884 w886 w887 w328 rfl rfl ⟨⟨by decide, by decide⟩, rfl⟩ ⟨(Nat.le_of_ble_eq_true rfl), (Nat.le_of_ble_eq_true rfl)⟩ rfl hl.1 rfl (Nat.le_of_ble_eq_true rfl) d_M_append_20 ⟨(Nat.le_of_ble_eq_true rfl), (Nat.le_of_ble_eq_true rfl)⟩) hP hD hS hA (fun r3 u4 H locs hp9 hP hD hS => ?_)
  have hP : va_P D vwCl (MW dA h ad (MS.s_cod x 0)) H := hP
  have hD : va_D A (MW dA h ad (MS.s_cod x 0)) := hD
  replace hp9 : 0 = r3 := Eq.symm hp9
  subst hp9
  refine lv_goto hx hb d_M_append_23 (tgt := 30) rfl ?_
  refine pF (v := .int 0) hx hb hown hE hK hP hD hS 0 rfl rfl layM tyM tokM nmM 0 (by decide) w319 rfl rfl rfl (Nat.le_of_ble_eq_true rfl) d_M_append_30 (fun H locs hP hD hS => ?_)
  have hP : va_P D vwCl (MW dA h ad (MS.s_cod x 0)) H := hP
  have hD : va_D A (MW dA h ad (MS.s_cod x 0)) := hD
  refine lv_aload_n hx hb d_M_append_33 rfl (lv_at hl 0 rfl) ?_
  refine gF (v := .int 0) hx hb hown hE hK hP 0 rfl rfl layM 0 (by decide) w319 rfl d_M_append_34 ?_
  refine lv_if_le hx hb d_M_append_37 (tgt := 42) rfl (fun _ => ?_) (fun h9 => absurd (by decide) h9)
  refine lv_aload_n hx hb d_M_append_42 rfl (lv_at hl 0 rfl) ?_
  refine lv_iconst (v := 1) hx hb d_M_append_43 (by decide) ?_
  refine lv_iload_n hx hb d_M_append_44 rfl (lv_at hl 1 rfl) ?_
  refine lv_lload_n hx hb d_M_append_45 rfl (lv_at hl 2 rfl) ?_
  refine lv_lload hx hb d_M_append_46 (lv_at hl 3 rfl) ?_
  refine lv_iconst (v := 1) hx hb d_M_append_48 (by decide) ?_
  refine jfI (rnV (As := [.int 1, .int (nI w), .long a, .long b, .int 1]) (rest := []) hx hb hml hown hE hK (hN _ _ hS) hP hD (k_record_x l D dA H.size h ad (MS.s_cod x 0) 1 w a b 1 (show x.used + 1 < 2 ^ 31 from by omega) (show 126 < x.used + 1 from by omega) hf hcu) (q0 := 0) rfl rfl w889 w888 w890 w891 w328 rfl rfl ⟨⟨by decide, by decide⟩, rfl⟩ ⟨(Nat.le_of_ble_eq_true rfl), (Nat.le_of_ble_eq_true rfl)⟩ rfl hl.1 rfl (Nat.le_of_ble_eq_true rfl) d_M_append_49 ⟨(Nat.le_of_ble_eq_true rfl), (Nat.le_of_ble_eq_true rfl)⟩) hP hD hS hA (fun r5 u6 H locs hp9 hP hD hS => ?_)
  have hP : va_P D vwCl (MW dA h ad (MS.s_cutLeft (MS.s_on (MS.s_cod x 0) false) (-1))) H := hP
  have hD : va_D A (MW dA h ad (MS.s_cutLeft (MS.s_on (MS.s_cod x 0) false) (-1))) := hD
  replace hp9 : bI false = r5 := Eq.symm hp9
  subst hp9
  refine lv_if_ne hx hb d_M_append_52 (tgt := 62) rfl (fun h9 => absurd (by decide) h9) (fun _ => ?_)
  refine lv_aload_n hx hb d_M_append_55 rfl (lv_at hl 0 rfl) ?_
  refine lv_iconst (v := 1) hx hb d_M_append_56 (by decide) ?_
  refine pF (v := .int 1) hx hb hown hE hK hP hD hS 0 rfl rfl layM tyM tokM nmM 0 (by decide) w319 rfl rfl rfl (Nat.le_of_ble_eq_true rfl) d_M_append_57 (fun H locs hP hD hS => ?_)
  have hP : va_P D vwCl (MW dA h ad (MS.s_cutLeft (MS.s_on (MS.s_cod x 1) false) (-1))) H := hP
  have hD : va_D A (MW dA h ad (MS.s_cutLeft (MS.s_on (MS.s_cod x 1) false) (-1))) := hD
  refine lv_iconst (v := 0) hx hb d_M_append_60 (by decide) ?_
  exact rfI hx hb hr hlk hS () rfl hP hD (Nat.le_of_ble_eq_true rfl) (Nat.le_of_ble_eq_true rfl) d_M_append_61
theorem d_M_append_62 : decode prog_14_method_34_code 62 = .ok (.aload_n 0, 1) := by decide +kernel
theorem d_M_append_63 : decode prog_14_method_34_code 63 = .ok (.iload_n 1, 1) := by decide +kernel
theorem d_M_append_64 : decode prog_14_method_34_code 64 = .ok (.lload_n 2, 1) := by decide +kernel
theorem d_M_append_65 : decode prog_14_method_34_code 65 = .ok (.lload 4, 2) := by decide +kernel
theorem d_M_append_67 : decode prog_14_method_34_code 67 = .ok (.invokevirtual 267, 3) := by decide +kernel
theorem d_M_append_70 : decode prog_14_method_34_code 70 = .ok (.aload_n 0, 1) := by decide +kernel
theorem d_M_append_71 : decode prog_14_method_34_code 71 = .ok (.invokevirtual 271, 3) := by decide +kernel
theorem d_M_append_74 : decode prog_14_method_34_code 74 = .ok (.ireturn, 1) := by decide +kernel
theorem w892 : Cond.methodLink "SeriesVaultModel" 267 ⟨"SeriesVaultModel", "come", "(IJJ)V"⟩ ∈ aW := aw_of (tb_10 (List.mem_of_getElem? (i := 28) rfl)) rfl
theorem w893 : Cond.code ⟨"SeriesVaultModel", "come", "(IJJ)V"⟩ prog_14_method_16_code 6 none ∈ aW := aw_of (tb_10 (List.mem_of_getElem? (i := 31) rfl)) rfl
theorem w894 : Cond.instanceMethod ⟨"SeriesVaultModel", "come", "(IJJ)V"⟩ ∈ aW := aw_of (tb_10 (List.mem_of_getElem? (i := 30) rfl)) rfl
theorem w895 : Cond.selects "SeriesVaultModel" ⟨"SeriesVaultModel", "come", "(IJJ)V"⟩ ⟨"SeriesVaultModel", "come", "(IJJ)V"⟩ ∈ aW := aw_pr (List.mem_map.mpr ⟨_, pv_6 (List.mem_of_getElem? (i := 0) rfl), rfl⟩) rfl
set_option maxHeartbeats 4000000 in
set_option maxRecDepth 100000 in
theorem k_append_0 (l : Launch) (D : va_G) (dA : Nat → ClassId) (sz : Nat) (h : Nat) (ad : Nat → Nat) (x : MS) (w : Nat) (a : Int64) (b : Int64) (ho : x.on = true) (hw : w < x.seriesCount) (hc : x.seriesCount ≤ 256) (t1 : ¬ a < 0) (t2 : ¬ 1099511627775 < a) (t3 : ¬ a ≤ x.lasts w) (t4 : x.horizon ≤ a) (u1 : x.used ≤ 126) (u2 : x.block < 2 ^ 20) (u3 : x.journal ≤ 256) (hro : x.room 1 = true) (r1 : x.records < 32000) (r2 : x.points < 12000) (hcr : x.canR 1) : Met l ⟨"SeriesVaultModel", "append", "(IJJ)I"⟩ [Cond.code ⟨"SeriesVaultModel", "append", "(IJJ)I"⟩ prog_14_method_34_code 6 (some FieldType.int)] { frames := 4, cells := 0, slots := 0, locals := 67 } (pC D dA [.ref h, .int (nI w), .long a, .long b] (MW dA h ad x) sz) (va_Qi (fun (r9 : Int32) (u9 : MS) => r9 = nI u9.heads ∧ u9 = ((x.s_cod 0).recS 1 w a b 1).comS w a b) (fun (u9 : MS) t9 => bW D (va_A (MW dA h ad x) sz) (MW dA h ad u9) t9) (va_A (MW dA h ad x) sz)) 0 0 (va_A (MW dA h ad x) sz) := by
  refine mkC (y := ⟨"SeriesVaultModel", "append", "(IJJ)I"⟩) (cc := prog_14_method_34_code) (maxL := 6) (av := [.ref h, .int (nI w), .long a, .long b]) (ws := MW dA h ad x) (sz := sz) (Qc := fun A => va_Qi (fun (r9 : Int32) (u9 : MS) => r9 = nI u9.heads ∧ u9 = ((x.s_cod 0).recS 1 w a b 1).comS w a b) (fun (u9 : MS) t9 => bW D A (MW dA h ad u9) t9) A) (by decide) (Nat.le_of_ble_eq_true rfl) ?_
  intro A p e s m below meth c ls hsz hB
  obtain ⟨hx, hb, hr, hml, hown, hin, hlk, hE, hK, hP, hD, hS, hA, hN, hl⟩ := hB
  have hown : s.vm.findClass "SeriesVaultModel" = some m.cls := hown
  have hl : lv_has ls 6 [(0, .ref h), (1, .int (nI w)), (2, .long a), (4, .long b)] := hl
  obtain ⟨H, hH⟩ : ∃ z, z = s.heap := ⟨_, rfl⟩
  have hP : va_P D vwCl (MW dA h ad x) H := by rw [hH]; exact hP
  have hS : va_S A s.heap H [] := by rw [hH]; exact hS
  rw [← hH]
  refine lv_aload_n hx hb d_M_append_0 rfl (lv_at hl 0 rfl) ?_
  refine lv_aload_n hx hb d_M_append_1 rfl (lv_at hl 0 rfl) ?_
  refine lv_iload_n hx hb d_M_append_2 rfl (lv_at hl 1 rfl) ?_
  refine jfI (rnV (As := [.int (nI w)]) (rest := [.ref h]) hx hb hml hown hE hK (hN _ _ hS) hP hD (k_seriesFault_0 l D dA H.size h ad x w ho hw hc) (q0 := 0) rfl rfl w334 w333 w335 w336 w328 rfl rfl ⟨⟨by decide, by decide⟩, rfl⟩ ⟨(Nat.le_of_ble_eq_true rfl), (Nat.le_of_ble_eq_true rfl)⟩ rfl hl.1 rfl (Nat.le_of_ble_eq_true rfl) d_M_append_3 ⟨(Nat.le_of_ble_eq_true rfl), (Nat.le_of_ble_eq_true rfl)⟩) hP hD hS hA (fun r1 u2 H locs hp9 hP hD hS => ?_)
  have hP : va_P D vwCl (MW dA h ad x) H := hP
  have hD : va_D A (MW dA h ad x) := hD
  replace hp9 : 0 = r1 := Eq.symm hp9
  subst hp9
  refine pF (v := .int 0) hx hb hown hE hK hP hD hS 0 rfl rfl layM tyM tokM nmM 0 (by decide) w319 rfl rfl rfl (Nat.le_of_ble_eq_true rfl) d_M_append_6 (fun H locs hP hD hS => ?_)
  have hP : va_P D vwCl (MW dA h ad (MS.s_cod x 0)) H := hP
  have hD : va_D A (MW dA h ad (MS.s_cod x 0)) := hD
  refine lv_aload_n hx hb d_M_append_9 rfl (lv_at hl 0 rfl) ?_
  refine lv_aload_n hx hb d_M_append_10 rfl (lv_at hl 0 rfl) ?_
  refine gF (v := .int 0) hx hb hown hE hK hP 0 rfl rfl layM 0 (by decide) w319 rfl d_M_append_11 ?_
  refine lv_if_ne hx hb d_M_append_14 (tgt := 26) rfl (fun h9 => absurd (by decide) h9) (fun _ => ?_)
  refine lv_aload_n hx hb d_M_append_17 rfl (lv_at hl 0 rfl) ?_
  refine lv_iload_n hx hb d_M_append_18 rfl (lv_at hl 1 rfl) ?_
  refine lv_lload_n hx hb d_M_append_19 rfl (lv_at hl 2 rfl) ?_
  refine jfI (rnV (As := [.int (nI w), .long a]) (rest := [.ref h]) hx hb hml hown hE hK (hN _ _ hS) hP hD (k_why_0 l D dA H.size h ad (MS.s_cod x 0) w a (show w < 256 from by omega) t1 t2 t3 t4 (show x.used ≤ 126 from by omega) (show x.block < 2 ^ 20 from by omega) (show x.journal ≤ 256 from by omega) hro) (q0 := 0) rfl rfl w885 w884 w886 w887 w328 rfl rfl ⟨⟨by decide, by decide⟩, rfl⟩ ⟨(Nat.le_of_ble_eq_true rfl), (Nat.le_of_ble_eq_true rfl)⟩ rfl hl.1 rfl (Nat.le_of_ble_eq_true rfl) d_M_append_20 ⟨(Nat.le_of_ble_eq_true rfl), (Nat.le_of_ble_eq_true rfl)⟩) hP hD hS hA (fun r3 u4 H locs hp9 hP hD hS => ?_)
  have hP : va_P D vwCl (MW dA h ad (MS.s_cod x 0)) H := hP
  have hD : va_D A (MW dA h ad (MS.s_cod x 0)) := hD
  replace hp9 : 0 = r3 := Eq.symm hp9
  subst hp9
  refine lv_goto hx hb d_M_append_23 (tgt := 30) rfl ?_
  refine pF (v := .int 0) hx hb hown hE hK hP hD hS 0 rfl rfl layM tyM tokM nmM 0 (by decide) w319 rfl rfl rfl (Nat.le_of_ble_eq_true rfl) d_M_append_30 (fun H locs hP hD hS => ?_)
  have hP : va_P D vwCl (MW dA h ad (MS.s_cod x 0)) H := hP
  have hD : va_D A (MW dA h ad (MS.s_cod x 0)) := hD
  refine lv_aload_n hx hb d_M_append_33 rfl (lv_at hl 0 rfl) ?_
  refine gF (v := .int 0) hx hb hown hE hK hP 0 rfl rfl layM 0 (by decide) w319 rfl d_M_append_34 ?_
  refine lv_if_le hx hb d_M_append_37 (tgt := 42) rfl (fun _ => ?_) (fun h9 => absurd (by decide) h9)
  refine lv_aload_n hx hb d_M_append_42 rfl (lv_at hl 0 rfl) ?_
  refine lv_iconst (v := 1) hx hb d_M_append_43 (by decide) ?_
  refine lv_iload_n hx hb d_M_append_44 rfl (lv_at hl 1 rfl) ?_
  refine lv_lload_n hx hb d_M_append_45 rfl (lv_at hl 2 rfl) ?_
  refine lv_lload hx hb d_M_append_46 (lv_at hl 3 rfl) ?_
  refine lv_iconst (v := 1) hx hb d_M_append_48 (by decide) ?_
  refine jfI (rnV (As := [.int 1, .int (nI w), .long a, .long b, .int 1]) (rest := []) hx hb hml hown hE hK (hN _ _ hS) hP hD (k_record l D dA H.size h ad (MS.s_cod x 0) 1 w a b 1 (by decide) (show x.records < 32000 from by omega) (show x.used + 1 < 2 ^ 31 from by omega) (show x.block < 2 ^ 30 from by omega) hcr) (q0 := 0) rfl rfl w889 w888 w890 w891 w328 rfl rfl ⟨⟨by decide, by decide⟩, rfl⟩ ⟨(Nat.le_of_ble_eq_true rfl), (Nat.le_of_ble_eq_true rfl)⟩ rfl hl.1 rfl (Nat.le_of_ble_eq_true rfl) d_M_append_49 ⟨(Nat.le_of_ble_eq_true rfl), (Nat.le_of_ble_eq_true rfl)⟩) hP hD hS hA (fun r5 u6 H locs hp9 hP hD hS => ?_)
  have hP : va_P D vwCl (MW dA h ad (MS.s_fresh (MS.s_used (MS.s_block (MS.s_kept (MS.s_records (MS.s_recordBlocks (MS.s_units (MS.s_seconds (MS.s_firsts (MS.s_recordSeries (MS.s_kinds (MS.s_written (MS.s_cutLeft (MS.s_cod x 0) (x.rCut 1)) (x.rWr 1)) (va_up x.kinds x.records 1)) (va_up x.recordSeries x.records w)) (va_up x.firsts x.records a)) (va_up x.seconds x.records b)) (va_up x.units x.records 1)) (va_up x.recordBlocks x.records (x.rBlock 1))) (x.records + 1)) (x.rKept 1)) (x.rBlock 1)) (x.rUsed 1)) true)) H := hP
  have hD : va_D A (MW dA h ad (MS.s_fresh (MS.s_used (MS.s_block (MS.s_kept (MS.s_records (MS.s_recordBlocks (MS.s_units (MS.s_seconds (MS.s_firsts (MS.s_recordSeries (MS.s_kinds (MS.s_written (MS.s_cutLeft (MS.s_cod x 0) (x.rCut 1)) (x.rWr 1)) (va_up x.kinds x.records 1)) (va_up x.recordSeries x.records w)) (va_up x.firsts x.records a)) (va_up x.seconds x.records b)) (va_up x.units x.records 1)) (va_up x.recordBlocks x.records (x.rBlock 1))) (x.records + 1)) (x.rKept 1)) (x.rBlock 1)) (x.rUsed 1)) true)) := hD
  replace hp9 : bI true = r5 := Eq.symm hp9
  subst hp9
  refine lv_if_ne hx hb d_M_append_52 (tgt := 62) rfl (fun _ => ?_) (fun h9 => absurd h9 (by decide))
  refine lv_aload_n hx hb d_M_append_62 rfl (lv_at hl 0 rfl) ?_
  refine lv_iload_n hx hb d_M_append_63 rfl (lv_at hl 1 rfl) ?_
  refine lv_lload_n hx hb d_M_append_64 rfl (lv_at hl 2 rfl) ?_
  refine lv_lload hx hb d_M_append_65 (lv_at hl 3 rfl) ?_
  refine jfV (rnV (As := [.int (nI w), .long a, .long b]) (rest := []) hx hb hml hown hE hK (hN _ _ hS) hP hD (k_come l D dA H.size h ad (MS.s_fresh (MS.s_used (MS.s_block (MS.s_kept (MS.s_records (MS.s_recordBlocks (MS.s_units (MS.s_seconds (MS.s_firsts (MS.s_recordSeries (MS.s_kinds (MS.s_written (MS.s_cutLeft (MS.s_cod x 0) (x.rCut 1)) (x.rWr 1)) (va_up x.kinds x.records 1)) (va_up x.recordSeries x.records w)) (va_up x.firsts x.records a)) (va_up x.seconds x.records b)) (va_up x.units x.records 1)) (va_up x.recordBlocks x.records (x.rBlock 1))) (x.records + 1)) (x.rKept 1)) (x.rBlock 1)) (x.rUsed 1)) true) w a b (show w < 256 from by omega) (Int64.not_lt.mpr t4) (show x.points < 12000 from by omega)) (q0 := 0) rfl rfl w893 w892 w894 w895 w328 rfl rfl ⟨⟨by decide, by decide⟩, rfl⟩ ⟨(Nat.le_of_ble_eq_true rfl), (Nat.le_of_ble_eq_true rfl)⟩ rfl hl.1 rfl (Nat.le_of_ble_eq_true rfl) d_M_append_67 ⟨(Nat.le_of_ble_eq_true rfl), (Nat.le_of_ble_eq_true rfl)⟩) hP hD hS hA (fun u8 H locs hp9 hP hD hS => ?_)
  have hP : va_P D vwCl (MW dA h ad (MS.s_fresh (MS.s_used (MS.s_block (MS.s_kept (MS.s_records (MS.s_recordBlocks (MS.s_units (MS.s_seconds (MS.s_firsts (MS.s_recordSeries (MS.s_kinds (MS.s_points (MS.s_baseHidden (MS.s_hidden (MS.s_places (MS.s_pointValues (MS.s_pointTimes (MS.s_pointSeries (MS.s_lasts (MS.s_written (MS.s_cutLeft (MS.s_cod x 0) (x.rCut 1)) (x.rWr 1)) (va_up x.lasts w a)) (va_up x.pointSeries x.points w)) (va_up x.pointTimes x.points a)) (va_up x.pointValues x.points b)) (va_up x.places x.points (-1))) (va_up x.hidden x.points (-1))) (va_up x.baseHidden x.points (-1))) (x.points + 1)) (va_up x.kinds x.records 1)) (va_up x.recordSeries x.records w)) (va_up x.firsts x.records a)) (va_up x.seconds x.records b)) (va_up x.units x.records 1)) (va_up x.recordBlocks x.records (x.rBlock 1))) (x.records + 1)) (x.rKept 1)) (x.rBlock 1)) (x.rUsed 1)) true)) H := hP
  have hD : va_D A (MW dA h ad (MS.s_fresh (MS.s_used (MS.s_block (MS.s_kept (MS.s_records (MS.s_recordBlocks (MS.s_units (MS.s_seconds (MS.s_firsts (MS.s_recordSeries (MS.s_kinds (MS.s_points (MS.s_baseHidden (MS.s_hidden (MS.s_places (MS.s_pointValues (MS.s_pointTimes (MS.s_pointSeries (MS.s_lasts (MS.s_written (MS.s_cutLeft (MS.s_cod x 0) (x.rCut 1)) (x.rWr 1)) (va_up x.lasts w a)) (va_up x.pointSeries x.points w)) (va_up x.pointTimes x.points a)) (va_up x.pointValues x.points b)) (va_up x.places x.points (-1))) (va_up x.hidden x.points (-1))) (va_up x.baseHidden x.points (-1))) (x.points + 1)) (va_up x.kinds x.records 1)) (va_up x.recordSeries x.records w)) (va_up x.firsts x.records a)) (va_up x.seconds x.records b)) (va_up x.units x.records 1)) (va_up x.recordBlocks x.records (x.rBlock 1))) (x.records + 1)) (x.rKept 1)) (x.rBlock 1)) (x.rUsed 1)) true)) := hD
  refine lv_aload_n hx hb d_M_append_70 rfl (lv_at hl 0 rfl) ?_
  refine jfI (rnV (As := []) (rest := []) hx hb hml hown hE hK (hN _ _ hS) hP hD (k_headCount l D dA H.size h ad (MS.s_fresh (MS.s_used (MS.s_block (MS.s_kept (MS.s_records (MS.s_recordBlocks (MS.s_units (MS.s_seconds (MS.s_firsts (MS.s_recordSeries (MS.s_kinds (MS.s_points (MS.s_baseHidden (MS.s_hidden (MS.s_places (MS.s_pointValues (MS.s_pointTimes (MS.s_pointSeries (MS.s_lasts (MS.s_written (MS.s_cutLeft (MS.s_cod x 0) (x.rCut 1)) (x.rWr 1)) (va_up x.lasts w a)) (va_up x.pointSeries x.points w)) (va_up x.pointTimes x.points a)) (va_up x.pointValues x.points b)) (va_up x.places x.points (-1))) (va_up x.hidden x.points (-1))) (va_up x.baseHidden x.points (-1))) (x.points + 1)) (va_up x.kinds x.records 1)) (va_up x.recordSeries x.records w)) (va_up x.firsts x.records a)) (va_up x.seconds x.records b)) (va_up x.units x.records 1)) (va_up x.recordBlocks x.records (x.rBlock 1))) (x.records + 1)) (x.rKept 1)) (x.rBlock 1)) (x.rUsed 1)) true) (show (x.points + 1) ≤ 12000 from by omega)) (q0 := 0) rfl rfl w439 w438 w440 w441 w328 rfl rfl ⟨⟨by decide, by decide⟩, rfl⟩ ⟨(Nat.le_of_ble_eq_true rfl), (Nat.le_of_ble_eq_true rfl)⟩ rfl hl.1 rfl (Nat.le_of_ble_eq_true rfl) d_M_append_71 ⟨(Nat.le_of_ble_eq_true rfl), (Nat.le_of_ble_eq_true rfl)⟩) hP hD hS hA (fun r9 u10 H locs hp9 hP hD hS => ?_)
  have hP : va_P D vwCl (MW dA h ad (MS.s_fresh (MS.s_used (MS.s_block (MS.s_kept (MS.s_records (MS.s_recordBlocks (MS.s_units (MS.s_seconds (MS.s_firsts (MS.s_recordSeries (MS.s_kinds (MS.s_points (MS.s_baseHidden (MS.s_hidden (MS.s_places (MS.s_pointValues (MS.s_pointTimes (MS.s_pointSeries (MS.s_lasts (MS.s_written (MS.s_cutLeft (MS.s_cod x 0) (x.rCut 1)) (x.rWr 1)) (va_up x.lasts w a)) (va_up x.pointSeries x.points w)) (va_up x.pointTimes x.points a)) (va_up x.pointValues x.points b)) (va_up x.places x.points (-1))) (va_up x.hidden x.points (-1))) (va_up x.baseHidden x.points (-1))) (x.points + 1)) (va_up x.kinds x.records 1)) (va_up x.recordSeries x.records w)) (va_up x.firsts x.records a)) (va_up x.seconds x.records b)) (va_up x.units x.records 1)) (va_up x.recordBlocks x.records (x.rBlock 1))) (x.records + 1)) (x.rKept 1)) (x.rBlock 1)) (x.rUsed 1)) true)) H := hP
  have hD : va_D A (MW dA h ad (MS.s_fresh (MS.s_used (MS.s_block (MS.s_kept (MS.s_records (MS.s_recordBlocks (MS.s_units (MS.s_seconds (MS.s_firsts (MS.s_recordSeries (MS.s_kinds (MS.s_points (MS.s_baseHidden (MS.s_hidden (MS.s_places (MS.s_pointValues (MS.s_pointTimes (MS.s_pointSeries (MS.s_lasts (MS.s_written (MS.s_cutLeft (MS.s_cod x 0) (x.rCut 1)) (x.rWr 1)) (va_up x.lasts w a)) (va_up x.pointSeries x.points w)) (va_up x.pointTimes x.points a)) (va_up x.pointValues x.points b)) (va_up x.places x.points (-1))) (va_up x.hidden x.points (-1))) (va_up x.baseHidden x.points (-1))) (x.points + 1)) (va_up x.kinds x.records 1)) (va_up x.recordSeries x.records w)) (va_up x.firsts x.records a)) (va_up x.seconds x.records b)) (va_up x.units x.records 1)) (va_up x.recordBlocks x.records (x.rBlock 1))) (x.records + 1)) (x.rKept 1)) (x.rBlock 1)) (x.rUsed 1)) true)) := hD
  replace hp9 : nI (MS.s_points (MS.s_hidden (MS.s_places (MS.s_pointTimes x (va_up x.pointTimes x.points a)) (va_up x.places x.points (-1))) (va_up x.hidden x.points (-1))) (x.points + 1)).heads = r9 := Eq.symm hp9
  subst hp9
  exact rfI hx hb hr hlk hS (MS.s_fresh (MS.s_used (MS.s_block (MS.s_kept (MS.s_records (MS.s_recordBlocks (MS.s_units (MS.s_seconds (MS.s_firsts (MS.s_recordSeries (MS.s_kinds (MS.s_points (MS.s_baseHidden (MS.s_hidden (MS.s_places (MS.s_pointValues (MS.s_pointTimes (MS.s_pointSeries (MS.s_lasts (MS.s_written (MS.s_cutLeft (MS.s_cod x 0) (x.rCut 1)) (x.rWr 1)) (va_up x.lasts w a)) (va_up x.pointSeries x.points w)) (va_up x.pointTimes x.points a)) (va_up x.pointValues x.points b)) (va_up x.places x.points (-1))) (va_up x.hidden x.points (-1))) (va_up x.baseHidden x.points (-1))) (x.points + 1)) (va_up x.kinds x.records 1)) (va_up x.recordSeries x.records w)) (va_up x.firsts x.records a)) (va_up x.seconds x.records b)) (va_up x.units x.records 1)) (va_up x.recordBlocks x.records (x.rBlock 1))) (x.records + 1)) (x.rKept 1)) (x.rBlock 1)) (x.rUsed 1)) true) ⟨rfl, rfl⟩ hP hD (Nat.le_of_ble_eq_true rfl) (Nat.le_of_ble_eq_true rfl) d_M_append_74
set_option maxHeartbeats 4000000 in
set_option maxRecDepth 100000 in
theorem k_delete_1 (l : Launch) (D : va_G) (dA : Nat → ClassId) (sz : Nat) (h : Nat) (ad : Nat → Nat) (x : MS) (z : Int32) (a : Int64) (b : Int64) (ho : x.on = false) : Met l ⟨"SeriesVaultModel", "delete", "(IJJ)I"⟩ [Cond.code ⟨"SeriesVaultModel", "delete", "(IJJ)I"⟩ prog_14_method_37_code 7 (some FieldType.int)] { frames := 2, cells := 0, slots := 0, locals := 21 } (pC D dA [.ref h, .int z, .long a, .long b] (MW dA h ad x) sz) (va_Qi (fun (r9 : Int32) (u9 : Unit) => r9 = 0) (fun (u9 : Unit) t9 => bW D (va_A (MW dA h ad x) sz) (MW dA h ad (MS.s_cod x 1)) t9) (va_A (MW dA h ad x) sz)) 0 0 (va_A (MW dA h ad x) sz) := by
  refine mkC (y := ⟨"SeriesVaultModel", "delete", "(IJJ)I"⟩) (cc := prog_14_method_37_code) (maxL := 7) (av := [.ref h, .int z, .long a, .long b]) (ws := MW dA h ad x) (sz := sz) (Qc := fun A => va_Qi (fun (r9 : Int32) (u9 : Unit) => r9 = 0) (fun (u9 : Unit) t9 => bW D A (MW dA h ad (MS.s_cod x 1)) t9) A) (by decide) (Nat.le_of_ble_eq_true rfl) ?_
  intro A p e s m below meth c ls hsz hB
  obtain ⟨hx, hb, hr, hml, hown, hin, hlk, hE, hK, hP, hD, hS, hA, hN, hl⟩ := hB
  have hown : s.vm.findClass "SeriesVaultModel" = some m.cls := hown
  have hl : lv_has ls 7 [(0, .ref h), (1, .int z), (2, .long a), (4, .long b)] := hl
  obtain ⟨H, hH⟩ : ∃ z, z = s.heap := ⟨_, rfl⟩
  have hP : va_P D vwCl (MW dA h ad x) H := by rw [hH]; exact hP
  have hS : va_S A s.heap H [] := by rw [hH]; exact hS
  rw [← hH]
  refine lv_aload_n hx hb d_M_delete_0 rfl (lv_at hl 0 rfl) ?_
  refine lv_aload_n hx hb d_M_delete_1 rfl (lv_at hl 0 rfl) ?_
  refine lv_iload_n hx hb d_M_delete_2 rfl (lv_at hl 1 rfl) ?_
  refine jfI (rnV (As := [.int z]) (rest := [.ref h]) hx hb hml hown hE hK (hN _ _ hS) hP hD (k_seriesFault_1 l D dA H.size h ad x z ho) (q0 := 0) rfl rfl w334 w333 w335 w336 w328 rfl rfl ⟨⟨by decide, by decide⟩, rfl⟩ ⟨(Nat.le_of_ble_eq_true rfl), (Nat.le_of_ble_eq_true rfl)⟩ rfl hl.1 rfl (Nat.le_of_ble_eq_true rfl) d_M_delete_3 ⟨(Nat.le_of_ble_eq_true rfl), (Nat.le_of_ble_eq_true rfl)⟩) hP hD hS hA (fun r1 u2 H locs hp9 hP hD hS => ?_)
  have hP : va_P D vwCl (MW dA h ad x) H := hP
  have hD : va_D A (MW dA h ad x) := hD
  replace hp9 : 1 = r1 := Eq.symm hp9
  subst hp9
  refine pF (v := .int 1) hx hb hown hE hK hP hD hS 0 rfl rfl layM tyM tokM nmM 0 (by decide) w319 rfl rfl rfl (Nat.le_of_ble_eq_true rfl) d_M_delete_6 (fun H locs hP hD hS => ?_)
  have hP : va_P D vwCl (MW dA h ad (MS.s_cod x 1)) H := hP
  have hD : va_D A (MW dA h ad (MS.s_cod x 1)) := hD
  refine lv_aload_n hx hb d_M_delete_9 rfl (lv_at hl 0 rfl) ?_
  refine lv_aload_n hx hb d_M_delete_10 rfl (lv_at hl 0 rfl) ?_
  refine gF (v := .int 1) hx hb hown hE hK hP 0 rfl rfl layM 0 (by decide) w319 rfl d_M_delete_11 ?_
  refine lv_if_ne hx hb d_M_delete_14 (tgt := 28) rfl (fun _ => ?_) (fun h9 => absurd h9 (by decide))
  refine lv_aload_n hx hb d_M_delete_28 rfl (lv_at hl 0 rfl) ?_
  refine gF (v := .int 1) hx hb hown hE hK hP 0 rfl rfl layM 0 (by decide) w319 rfl d_M_delete_29 ?_
  refine pF (v := .int 1) hx hb hown hE hK hP hD hS 0 rfl rfl layM tyM tokM nmM 0 (by decide) w319 rfl rfl rfl (Nat.le_of_ble_eq_true rfl) d_M_delete_32 (fun H locs hP hD hS => ?_)
  have hP : va_P D vwCl (MW dA h ad (MS.s_cod x 1)) H := hP
  have hD : va_D A (MW dA h ad (MS.s_cod x 1)) := hD
  refine lv_aload_n hx hb d_M_delete_35 rfl (lv_at hl 0 rfl) ?_
  refine gF (v := .int 1) hx hb hown hE hK hP 0 rfl rfl layM 0 (by decide) w319 rfl d_M_delete_36 ?_
  refine lv_if_le hx hb d_M_delete_39 (tgt := 44) rfl (fun h9 => absurd h9 (by decide)) (fun _ => ?_)
  refine lv_iconst (v := 0) hx hb d_M_delete_42 (by decide) ?_
  exact rfI hx hb hr hlk hS () rfl hP hD (Nat.le_of_ble_eq_true rfl) (Nat.le_of_ble_eq_true rfl) d_M_delete_43
set_option maxHeartbeats 4000000 in
set_option maxRecDepth 100000 in
theorem k_delete_2 (l : Launch) (D : va_G) (dA : Nat → ClassId) (sz : Nat) (h : Nat) (ad : Nat → Nat) (x : MS) (z : Int32) (a : Int64) (b : Int64) (ho : x.on = true) (h0 : z < 0 ∨ nI x.seriesCount ≤ z) : Met l ⟨"SeriesVaultModel", "delete", "(IJJ)I"⟩ [Cond.code ⟨"SeriesVaultModel", "delete", "(IJJ)I"⟩ prog_14_method_37_code 7 (some FieldType.int)] { frames := 2, cells := 0, slots := 0, locals := 21 } (pC D dA [.ref h, .int z, .long a, .long b] (MW dA h ad x) sz) (va_Qi (fun (r9 : Int32) (u9 : Unit) => r9 = 0) (fun (u9 : Unit) t9 => bW D (va_A (MW dA h ad x) sz) (MW dA h ad (MS.s_cod x 2)) t9) (va_A (MW dA h ad x) sz)) 0 0 (va_A (MW dA h ad x) sz) := by
  refine mkC (y := ⟨"SeriesVaultModel", "delete", "(IJJ)I"⟩) (cc := prog_14_method_37_code) (maxL := 7) (av := [.ref h, .int z, .long a, .long b]) (ws := MW dA h ad x) (sz := sz) (Qc := fun A => va_Qi (fun (r9 : Int32) (u9 : Unit) => r9 = 0) (fun (u9 : Unit) t9 => bW D A (MW dA h ad (MS.s_cod x 2)) t9) A) (by decide) (Nat.le_of_ble_eq_true rfl) ?_
  intro A p e s m below meth c ls hsz hB
  obtain ⟨hx, hb, hr, hml, hown, hin, hlk, hE, hK, hP, hD, hS, hA, hN, hl⟩ := hB
  have hown : s.vm.findClass "SeriesVaultModel" = some m.cls := hown
  have hl : lv_has ls 7 [(0, .ref h), (1, .int z), (2, .long a), (4, .long b)] := hl
  obtain ⟨H, hH⟩ : ∃ z, z = s.heap := ⟨_, rfl⟩
  have hP : va_P D vwCl (MW dA h ad x) H := by rw [hH]; exact hP
  have hS : va_S A s.heap H [] := by rw [hH]; exact hS
  rw [← hH]
  refine lv_aload_n hx hb d_M_delete_0 rfl (lv_at hl 0 rfl) ?_
  refine lv_aload_n hx hb d_M_delete_1 rfl (lv_at hl 0 rfl) ?_
  refine lv_iload_n hx hb d_M_delete_2 rfl (lv_at hl 1 rfl) ?_
  refine jfI (rnV (As := [.int z]) (rest := [.ref h]) hx hb hml hown hE hK (hN _ _ hS) hP hD (k_seriesFault_2 l D dA H.size h ad x z ho h0) (q0 := 0) rfl rfl w334 w333 w335 w336 w328 rfl rfl ⟨⟨by decide, by decide⟩, rfl⟩ ⟨(Nat.le_of_ble_eq_true rfl), (Nat.le_of_ble_eq_true rfl)⟩ rfl hl.1 rfl (Nat.le_of_ble_eq_true rfl) d_M_delete_3 ⟨(Nat.le_of_ble_eq_true rfl), (Nat.le_of_ble_eq_true rfl)⟩) hP hD hS hA (fun r1 u2 H locs hp9 hP hD hS => ?_)
  have hP : va_P D vwCl (MW dA h ad x) H := hP
  have hD : va_D A (MW dA h ad x) := hD
  replace hp9 : 2 = r1 := Eq.symm hp9
  subst hp9
  refine pF (v := .int 2) hx hb hown hE hK hP hD hS 0 rfl rfl layM tyM tokM nmM 0 (by decide) w319 rfl rfl rfl (Nat.le_of_ble_eq_true rfl) d_M_delete_6 (fun H locs hP hD hS => ?_)
  have hP : va_P D vwCl (MW dA h ad (MS.s_cod x 2)) H := hP
  have hD : va_D A (MW dA h ad (MS.s_cod x 2)) := hD
  refine lv_aload_n hx hb d_M_delete_9 rfl (lv_at hl 0 rfl) ?_
  refine lv_aload_n hx hb d_M_delete_10 rfl (lv_at hl 0 rfl) ?_
  refine gF (v := .int 2) hx hb hown hE hK hP 0 rfl rfl layM 0 (by decide) w319 rfl d_M_delete_11 ?_
  refine lv_if_ne hx hb d_M_delete_14 (tgt := 28) rfl (fun _ => ?_) (fun h9 => absurd h9 (by decide))
  refine lv_aload_n hx hb d_M_delete_28 rfl (lv_at hl 0 rfl) ?_
  refine gF (v := .int 2) hx hb hown hE hK hP 0 rfl rfl layM 0 (by decide) w319 rfl d_M_delete_29 ?_
  refine pF (v := .int 2) hx hb hown hE hK hP hD hS 0 rfl rfl layM tyM tokM nmM 0 (by decide) w319 rfl rfl rfl (Nat.le_of_ble_eq_true rfl) d_M_delete_32 (fun H locs hP hD hS => ?_)
  have hP : va_P D vwCl (MW dA h ad (MS.s_cod x 2)) H := hP
  have hD : va_D A (MW dA h ad (MS.s_cod x 2)) := hD
  refine lv_aload_n hx hb d_M_delete_35 rfl (lv_at hl 0 rfl) ?_
  refine gF (v := .int 2) hx hb hown hE hK hP 0 rfl rfl layM 0 (by decide) w319 rfl d_M_delete_36 ?_
  refine lv_if_le hx hb d_M_delete_39 (tgt := 44) rfl (fun h9 => absurd h9 (by decide)) (fun _ => ?_)
  refine lv_iconst (v := 0) hx hb d_M_delete_42 (by decide) ?_
  exact rfI hx hb hr hlk hS () rfl hP hD (Nat.le_of_ble_eq_true rfl) (Nat.le_of_ble_eq_true rfl) d_M_delete_43
theorem d_M_delete_17 : decode prog_14_method_37_code 17 = .ok (.lload_n 2, 1) := by decide +kernel
theorem d_M_delete_18 : decode prog_14_method_37_code 18 = .ok (.lload 4, 2) := by decide +kernel
theorem d_M_delete_20 : decode prog_14_method_37_code 20 = .ok (.lcmp, 1) := by decide +kernel
theorem d_M_delete_21 : decode prog_14_method_37_code 21 = .ok (.ifCond .le 7, 3) := by decide +kernel
theorem d_M_delete_24 : decode prog_14_method_37_code 24 = .ok (.iconst 3, 1) := by decide +kernel
theorem d_M_delete_25 : decode prog_14_method_37_code 25 = .ok (.goto 7, 3) := by decide +kernel
set_option maxHeartbeats 4000000 in
set_option maxRecDepth 100000 in
theorem k_delete_3 (l : Launch) (D : va_G) (dA : Nat → ClassId) (sz : Nat) (h : Nat) (ad : Nat → Nat) (x : MS) (w : Nat) (a : Int64) (b : Int64) (ho : x.on = true) (hw : w < x.seriesCount) (hc : x.seriesCount ≤ 256) (t1 : b < a) : Met l ⟨"SeriesVaultModel", "delete", "(IJJ)I"⟩ [Cond.code ⟨"SeriesVaultModel", "delete", "(IJJ)I"⟩ prog_14_method_37_code 7 (some FieldType.int)] { frames := 2, cells := 0, slots := 0, locals := 21 } (pC D dA [.ref h, .int (nI w), .long a, .long b] (MW dA h ad x) sz) (va_Qi (fun (r9 : Int32) (u9 : Unit) => r9 = 0) (fun (u9 : Unit) t9 => bW D (va_A (MW dA h ad x) sz) (MW dA h ad (MS.s_cod x 3)) t9) (va_A (MW dA h ad x) sz)) 0 0 (va_A (MW dA h ad x) sz) := by
  refine mkC (y := ⟨"SeriesVaultModel", "delete", "(IJJ)I"⟩) (cc := prog_14_method_37_code) (maxL := 7) (av := [.ref h, .int (nI w), .long a, .long b]) (ws := MW dA h ad x) (sz := sz) (Qc := fun A => va_Qi (fun (r9 : Int32) (u9 : Unit) => r9 = 0) (fun (u9 : Unit) t9 => bW D A (MW dA h ad (MS.s_cod x 3)) t9) A) (by decide) (Nat.le_of_ble_eq_true rfl) ?_
  intro A p e s m below meth c ls hsz hB
  obtain ⟨hx, hb, hr, hml, hown, hin, hlk, hE, hK, hP, hD, hS, hA, hN, hl⟩ := hB
  have hown : s.vm.findClass "SeriesVaultModel" = some m.cls := hown
  have hl : lv_has ls 7 [(0, .ref h), (1, .int (nI w)), (2, .long a), (4, .long b)] := hl
  obtain ⟨H, hH⟩ : ∃ z, z = s.heap := ⟨_, rfl⟩
  have hP : va_P D vwCl (MW dA h ad x) H := by rw [hH]; exact hP
  have hS : va_S A s.heap H [] := by rw [hH]; exact hS
  rw [← hH]
  refine lv_aload_n hx hb d_M_delete_0 rfl (lv_at hl 0 rfl) ?_
  refine lv_aload_n hx hb d_M_delete_1 rfl (lv_at hl 0 rfl) ?_
  refine lv_iload_n hx hb d_M_delete_2 rfl (lv_at hl 1 rfl) ?_
  refine jfI (rnV (As := [.int (nI w)]) (rest := [.ref h]) hx hb hml hown hE hK (hN _ _ hS) hP hD (k_seriesFault_0 l D dA H.size h ad x w ho hw hc) (q0 := 0) rfl rfl w334 w333 w335 w336 w328 rfl rfl ⟨⟨by decide, by decide⟩, rfl⟩ ⟨(Nat.le_of_ble_eq_true rfl), (Nat.le_of_ble_eq_true rfl)⟩ rfl hl.1 rfl (Nat.le_of_ble_eq_true rfl) d_M_delete_3 ⟨(Nat.le_of_ble_eq_true rfl), (Nat.le_of_ble_eq_true rfl)⟩) hP hD hS hA (fun r1 u2 H locs hp9 hP hD hS => ?_)
  have hP : va_P D vwCl (MW dA h ad x) H := hP
  have hD : va_D A (MW dA h ad x) := hD
  replace hp9 : 0 = r1 := Eq.symm hp9
  subst hp9
  refine pF (v := .int 0) hx hb hown hE hK hP hD hS 0 rfl rfl layM tyM tokM nmM 0 (by decide) w319 rfl rfl rfl (Nat.le_of_ble_eq_true rfl) d_M_delete_6 (fun H locs hP hD hS => ?_)
  have hP : va_P D vwCl (MW dA h ad (MS.s_cod x 0)) H := hP
  have hD : va_D A (MW dA h ad (MS.s_cod x 0)) := hD
  refine lv_aload_n hx hb d_M_delete_9 rfl (lv_at hl 0 rfl) ?_
  refine lv_aload_n hx hb d_M_delete_10 rfl (lv_at hl 0 rfl) ?_
  refine gF (v := .int 0) hx hb hown hE hK hP 0 rfl rfl layM 0 (by decide) w319 rfl d_M_delete_11 ?_
  refine lv_if_ne hx hb d_M_delete_14 (tgt := 28) rfl (fun h9 => absurd (by decide) h9) (fun _ => ?_)
  refine lv_lload_n hx hb d_M_delete_17 rfl (lv_at hl 2 rfl) ?_
  refine lv_lload hx hb d_M_delete_18 (lv_at hl 3 rfl) ?_
  refine W.lcmp hx hb d_M_delete_20 ?_
  refine lv_if_le hx hb d_M_delete_21 (tgt := 28) rfl (fun h9 => absurd h9 (mt (lg_cmp_le _ _).mp (Int64.not_le.mpr t1))) (fun _ => ?_)
  refine lv_iconst (v := 3) hx hb d_M_delete_24 (by decide) ?_
  refine lv_goto hx hb d_M_delete_25 (tgt := 32) rfl ?_
  refine pF (v := .int 3) hx hb hown hE hK hP hD hS 0 rfl rfl layM tyM tokM nmM 0 (by decide) w319 rfl rfl rfl (Nat.le_of_ble_eq_true rfl) d_M_delete_32 (fun H locs hP hD hS => ?_)
  have hP : va_P D vwCl (MW dA h ad (MS.s_cod x 3)) H := hP
  have hD : va_D A (MW dA h ad (MS.s_cod x 3)) := hD
  refine lv_aload_n hx hb d_M_delete_35 rfl (lv_at hl 0 rfl) ?_
  refine gF (v := .int 3) hx hb hown hE hK hP 0 rfl rfl layM 0 (by decide) w319 rfl d_M_delete_36 ?_
  refine lv_if_le hx hb d_M_delete_39 (tgt := 44) rfl (fun h9 => absurd h9 (by decide)) (fun _ => ?_)
  refine lv_iconst (v := 0) hx hb d_M_delete_42 (by decide) ?_
  exact rfI hx hb hr hlk hS () rfl hP hD (Nat.le_of_ble_eq_true rfl) (Nat.le_of_ble_eq_true rfl) d_M_delete_43
theorem d_M_delete_44 : decode prog_14_method_37_code 44 = .ok (.aload_n 0, 1) := by decide +kernel
theorem d_M_delete_45 : decode prog_14_method_37_code 45 = .ok (.iload_n 1, 1) := by decide +kernel
theorem d_M_delete_46 : decode prog_14_method_37_code 46 = .ok (.lload_n 2, 1) := by decide +kernel
theorem d_M_delete_47 : decode prog_14_method_37_code 47 = .ok (.lload 4, 2) := by decide +kernel
theorem d_M_delete_49 : decode prog_14_method_37_code 49 = .ok (.iconst 0, 1) := by decide +kernel
theorem d_M_delete_50 : decode prog_14_method_37_code 50 = .ok (.invokevirtual 278, 3) := by decide +kernel
theorem d_M_delete_53 : decode prog_14_method_37_code 53 = .ok (.istore 6, 2) := by decide +kernel
theorem d_M_delete_55 : decode prog_14_method_37_code 55 = .ok (.iload 6, 2) := by decide +kernel
theorem d_M_delete_57 : decode prog_14_method_37_code 57 = .ok (.ifCond .ne 5, 3) := by decide +kernel
theorem d_M_delete_60 : decode prog_14_method_37_code 60 = .ok (.iconst 0, 1) := by decide +kernel
theorem d_M_delete_61 : decode prog_14_method_37_code 61 = .ok (.ireturn, 1) := by decide +kernel
theorem w896 : Cond.methodLink "SeriesVaultModel" 278 ⟨"SeriesVaultModel", "between", "(IJJZ)I"⟩ ∈ aW := aw_of (tb_10 (List.mem_of_getElem? (i := 52) rfl)) rfl
theorem w897 : Cond.code ⟨"SeriesVaultModel", "between", "(IJJZ)I"⟩ prog_14_method_18_code 10 (some FieldType.int) ∈ aW := aw_of (tb_10 (List.mem_of_getElem? (i := 55) rfl)) rfl
theorem w898 : Cond.instanceMethod ⟨"SeriesVaultModel", "between", "(IJJZ)I"⟩ ∈ aW := aw_of (tb_10 (List.mem_of_getElem? (i := 54) rfl)) rfl
theorem w899 : Cond.selects "SeriesVaultModel" ⟨"SeriesVaultModel", "between", "(IJJZ)I"⟩ ⟨"SeriesVaultModel", "between", "(IJJZ)I"⟩ ∈ aW := aw_pr (List.mem_map.mpr ⟨_, pv_6 (List.mem_of_getElem? (i := 4) rfl), rfl⟩) rfl
set_option maxHeartbeats 4000000 in
set_option maxRecDepth 100000 in
theorem k_delete_n (l : Launch) (D : va_G) (dA : Nat → ClassId) (sz : Nat) (h : Nat) (ad : Nat → Nat) (x : MS) (w : Nat) (a : Int64) (b : Int64) (ho : x.on = true) (hw : w < x.seriesCount) (hc : x.seriesCount ≤ 256) (t1 : a ≤ b) (hs : ∀ q : Nat, q < x.points → x.pointSeries q < 256) (hp1 : x.points ≤ 12000) (n0 : cnt x.points (x.btw w a b false) = 0) : Met l ⟨"SeriesVaultModel", "delete", "(IJJ)I"⟩ [Cond.code ⟨"SeriesVaultModel", "delete", "(IJJ)I"⟩ prog_14_method_37_code 7 (some FieldType.int)] { frames := 3, cells := 0, slots := 0, locals := 50 } (pC D dA [.ref h, .int (nI w), .long a, .long b] (MW dA h ad x) sz) (va_Qi (fun (r9 : Int32) (u9 : Unit) => r9 = 0) (fun (u9 : Unit) t9 => bW D (va_A (MW dA h ad x) sz) (MW dA h ad (MS.s_cod x 0)) t9) (va_A (MW dA h ad x) sz)) 0 0 (va_A (MW dA h ad x) sz) := by
  refine mkC (y := ⟨"SeriesVaultModel", "delete", "(IJJ)I"⟩) (cc := prog_14_method_37_code) (maxL := 7) (av := [.ref h, .int (nI w), .long a, .long b]) (ws := MW dA h ad x) (sz := sz) (Qc := fun A => va_Qi (fun (r9 : Int32) (u9 : Unit) => r9 = 0) (fun (u9 : Unit) t9 => bW D A (MW dA h ad (MS.s_cod x 0)) t9) A) (by decide) (Nat.le_of_ble_eq_true rfl) ?_
  intro A p e s m below meth c ls hsz hB
  obtain ⟨hx, hb, hr, hml, hown, hin, hlk, hE, hK, hP, hD, hS, hA, hN, hl⟩ := hB
  have hown : s.vm.findClass "SeriesVaultModel" = some m.cls := hown
  have hl : lv_has ls 7 [(0, .ref h), (1, .int (nI w)), (2, .long a), (4, .long b)] := hl
  obtain ⟨H, hH⟩ : ∃ z, z = s.heap := ⟨_, rfl⟩
  have hP : va_P D vwCl (MW dA h ad x) H := by rw [hH]; exact hP
  have hS : va_S A s.heap H [] := by rw [hH]; exact hS
  rw [← hH]
  refine lv_aload_n hx hb d_M_delete_0 rfl (lv_at hl 0 rfl) ?_
  refine lv_aload_n hx hb d_M_delete_1 rfl (lv_at hl 0 rfl) ?_
  refine lv_iload_n hx hb d_M_delete_2 rfl (lv_at hl 1 rfl) ?_
  refine jfI (rnV (As := [.int (nI w)]) (rest := [.ref h]) hx hb hml hown hE hK (hN _ _ hS) hP hD (k_seriesFault_0 l D dA H.size h ad x w ho hw hc) (q0 := 0) rfl rfl w334 w333 w335 w336 w328 rfl rfl ⟨⟨by decide, by decide⟩, rfl⟩ ⟨(Nat.le_of_ble_eq_true rfl), (Nat.le_of_ble_eq_true rfl)⟩ rfl hl.1 rfl (Nat.le_of_ble_eq_true rfl) d_M_delete_3 ⟨(Nat.le_of_ble_eq_true rfl), (Nat.le_of_ble_eq_true rfl)⟩) hP hD hS hA (fun r1 u2 H locs hp9 hP hD hS => ?_)
  have hP : va_P D vwCl (MW dA h ad x) H := hP
  have hD : va_D A (MW dA h ad x) := hD
  replace hp9 : 0 = r1 := Eq.symm hp9
  subst hp9
  refine pF (v := .int 0) hx hb hown hE hK hP hD hS 0 rfl rfl layM tyM tokM nmM 0 (by decide) w319 rfl rfl rfl (Nat.le_of_ble_eq_true rfl) d_M_delete_6 (fun H locs hP hD hS => ?_)
  have hP : va_P D vwCl (MW dA h ad (MS.s_cod x 0)) H := hP
  have hD : va_D A (MW dA h ad (MS.s_cod x 0)) := hD
  refine lv_aload_n hx hb d_M_delete_9 rfl (lv_at hl 0 rfl) ?_
  refine lv_aload_n hx hb d_M_delete_10 rfl (lv_at hl 0 rfl) ?_
  refine gF (v := .int 0) hx hb hown hE hK hP 0 rfl rfl layM 0 (by decide) w319 rfl d_M_delete_11 ?_
  refine lv_if_ne hx hb d_M_delete_14 (tgt := 28) rfl (fun h9 => absurd (by decide) h9) (fun _ => ?_)
  refine lv_lload_n hx hb d_M_delete_17 rfl (lv_at hl 2 rfl) ?_
  refine lv_lload hx hb d_M_delete_18 (lv_at hl 3 rfl) ?_
  refine W.lcmp hx hb d_M_delete_20 ?_
  refine lv_if_le hx hb d_M_delete_21 (tgt := 28) rfl (fun _ => ?_) (fun h9 => absurd ((lg_cmp_le _ _).mpr t1) h9)
  refine lv_aload_n hx hb d_M_delete_28 rfl (lv_at hl 0 rfl) ?_
  refine gF (v := .int 0) hx hb hown hE hK hP 0 rfl rfl layM 0 (by decide) w319 rfl d_M_delete_29 ?_
  refine pF (v := .int 0) hx hb hown hE hK hP hD hS 0 rfl rfl layM tyM tokM nmM 0 (by decide) w319 rfl rfl rfl (Nat.le_of_ble_eq_true rfl) d_M_delete_32 (fun H locs hP hD hS => ?_)
  have hP : va_P D vwCl (MW dA h ad (MS.s_cod x 0)) H := hP
  have hD : va_D A (MW dA h ad (MS.s_cod x 0)) := hD
  refine lv_aload_n hx hb d_M_delete_35 rfl (lv_at hl 0 rfl) ?_
  refine gF (v := .int 0) hx hb hown hE hK hP 0 rfl rfl layM 0 (by decide) w319 rfl d_M_delete_36 ?_
  refine lv_if_le hx hb d_M_delete_39 (tgt := 44) rfl (fun _ => ?_) (fun h9 => absurd (by decide) h9)
  refine lv_aload_n hx hb d_M_delete_44 rfl (lv_at hl 0 rfl) ?_
  refine lv_iload_n hx hb d_M_delete_45 rfl (lv_at hl 1 rfl) ?_
  refine lv_lload_n hx hb d_M_delete_46 rfl (lv_at hl 2 rfl) ?_
  refine lv_lload hx hb d_M_delete_47 (lv_at hl 3 rfl) ?_
  refine lv_iconst (v := 0) hx hb d_M_delete_49 (by decide) ?_
  refine jfI (rnV (As := [.int (nI w), .long a, .long b, .int 0]) (rest := []) hx hb hml hown hE hK (hN _ _ hS) hP hD (k_between l D dA H.size h ad (MS.s_cod x 0) w a b false (show x.points ≤ 12000 from by omega) (show w < 256 from by omega) hs) (q0 := 0) rfl rfl w897 w896 w898 w899 w328 rfl rfl ⟨⟨by decide, by decide⟩, rfl⟩ ⟨(Nat.le_of_ble_eq_true rfl), (Nat.le_of_ble_eq_true rfl)⟩ rfl hl.1 rfl (Nat.le_of_ble_eq_true rfl) d_M_delete_50 ⟨(Nat.le_of_ble_eq_true rfl), (Nat.le_of_ble_eq_true rfl)⟩) hP hD hS hA (fun r3 u4 H locs hp9 hP hD hS => ?_)
  have hP : va_P D vwCl (MW dA h ad (MS.s_cod x 0)) H := hP
  have hD : va_D A (MW dA h ad (MS.s_cod x 0)) := hD
  replace hp9 : nI (cnt x.points (x.btw w a b false)) = r3 := Eq.symm hp9
  subst hp9
  refine lv_istore hx hb d_M_delete_53 hl (by decide) rfl (fun ls hl => ?_)
  have hl : lv_has ls 7 [(6, .int (nI (cnt x.points (x.btw w a b false)))), (0, .ref h), (1, .int (nI w)), (2, .long a), (4, .long b)] := hl
  refine lv_iload hx hb d_M_delete_55 (lv_at hl 0 rfl) ?_
  have bz := cnt_le x.points (x.btw w a b false)
  refine lv_if_ne hx hb d_M_delete_57 (tgt := 62) rfl (fun h9 => absurd ((nI_eq (a := cnt x.points (x.btw w a b false)) (b := 0) (by omega) (by omega)).mpr n0) h9) (fun _ => ?_)
  refine lv_iconst (v := 0) hx hb d_M_delete_60 (by decide) ?_
  exact rfI hx hb hr hlk hS () rfl hP hD (Nat.le_of_ble_eq_true rfl) (Nat.le_of_ble_eq_true rfl) d_M_delete_61
theorem d_M_delete_62 : decode prog_14_method_37_code 62 = .ok (.aload_n 0, 1) := by decide +kernel
theorem d_M_delete_63 : decode prog_14_method_37_code 63 = .ok (.iload_n 1, 1) := by decide +kernel
theorem d_M_delete_64 : decode prog_14_method_37_code 64 = .ok (.lload_n 2, 1) := by decide +kernel
theorem d_M_delete_65 : decode prog_14_method_37_code 65 = .ok (.lload 4, 2) := by decide +kernel
theorem d_M_delete_67 : decode prog_14_method_37_code 67 = .ok (.iconst 1, 1) := by decide +kernel
theorem d_M_delete_68 : decode prog_14_method_37_code 68 = .ok (.invokevirtual 278, 3) := by decide +kernel
theorem d_M_delete_71 : decode prog_14_method_37_code 71 = .ok (.ifCond .le 12, 3) := by decide +kernel
theorem d_M_delete_83 : decode prog_14_method_37_code 83 = .ok (.aload_n 0, 1) := by decide +kernel
theorem d_M_delete_84 : decode prog_14_method_37_code 84 = .ok (.iconst 1, 1) := by decide +kernel
theorem d_M_delete_85 : decode prog_14_method_37_code 85 = .ok (.invokevirtual 247, 3) := by decide +kernel
theorem d_M_delete_88 : decode prog_14_method_37_code 88 = .ok (.ifCond .ne 10, 3) := by decide +kernel
theorem d_M_delete_91 : decode prog_14_method_37_code 91 = .ok (.aload_n 0, 1) := by decide +kernel
theorem d_M_delete_92 : decode prog_14_method_37_code 92 = .ok (.iconst 4, 1) := by decide +kernel
theorem d_M_delete_93 : decode prog_14_method_37_code 93 = .ok (.putfield 145, 3) := by decide +kernel
theorem d_M_delete_96 : decode prog_14_method_37_code 96 = .ok (.iconst 0, 1) := by decide +kernel
theorem d_M_delete_97 : decode prog_14_method_37_code 97 = .ok (.ireturn, 1) := by decide +kernel
theorem d_M_delete_74 : decode prog_14_method_37_code 74 = .ok (.aload_n 0, 1) := by decide +kernel
theorem d_M_delete_75 : decode prog_14_method_37_code 75 = .ok (.invokevirtual 282, 3) := by decide +kernel
theorem d_M_delete_78 : decode prog_14_method_37_code 78 = .ok (.bipush 64, 2) := by decide +kernel
theorem d_M_delete_80 : decode prog_14_method_37_code 80 = .ok (.if_icmp .eq 11, 3) := by decide +kernel
set_option maxHeartbeats 4000000 in
set_option maxRecDepth 100000 in
theorem k_delete_4 (l : Launch) (D : va_G) (dA : Nat → ClassId) (sz : Nat) (h : Nat) (ad : Nat → Nat) (x : MS) (w : Nat) (a : Int64) (b : Int64) (ho : x.on = true) (hw : w < x.seriesCount) (hc : x.seriesCount ≤ 256) (t1 : a ≤ b) (hs : ∀ q : Nat, q < x.points → x.pointSeries q < 256) (hp1 : x.points ≤ 12000) (n0 : ¬ cnt x.points (x.btw w a b false) = 0) (u1 : x.used ≤ 126) (u2 : x.block < 2 ^ 20) (u3 : x.journal ≤ 256) (n4 : 0 < cnt x.points (x.btw w a b true) ∧ cnt x.points x.firstOf = 64 ∨ x.room 1 = false) : Met l ⟨"SeriesVaultModel", "delete", "(IJJ)I"⟩ [Cond.code ⟨"SeriesVaultModel", "delete", "(IJJ)I"⟩ prog_14_method_37_code 7 (some FieldType.int)] { frames := 3, cells := 0, slots := 0, locals := 50 } (pC D dA [.ref h, .int (nI w), .long a, .long b] (MW dA h ad x) sz) (va_Qi (fun (r9 : Int32) (u9 : Unit) => r9 = 0) (fun (u9 : Unit) t9 => bW D (va_A (MW dA h ad x) sz) (MW dA h ad (MS.s_cod x 4)) t9) (va_A (MW dA h ad x) sz)) 0 0 (va_A (MW dA h ad x) sz) := by
  refine mkC (y := ⟨"SeriesVaultModel", "delete", "(IJJ)I"⟩) (cc := prog_14_method_37_code) (maxL := 7) (av := [.ref h, .int (nI w), .long a, .long b]) (ws := MW dA h ad x) (sz := sz) (Qc := fun A => va_Qi (fun (r9 : Int32) (u9 : Unit) => r9 = 0) (fun (u9 : Unit) t9 => bW D A (MW dA h ad (MS.s_cod x 4)) t9) A) (by decide) (Nat.le_of_ble_eq_true rfl) ?_
  intro A p e s m below meth c ls hsz hB
  obtain ⟨hx, hb, hr, hml, hown, hin, hlk, hE, hK, hP, hD, hS, hA, hN, hl⟩ := hB
  have hown : s.vm.findClass "SeriesVaultModel" = some m.cls := hown
  have hl : lv_has ls 7 [(0, .ref h), (1, .int (nI w)), (2, .long a), (4, .long b)] := hl
  obtain ⟨H, hH⟩ : ∃ z, z = s.heap := ⟨_, rfl⟩
  have hP : va_P D vwCl (MW dA h ad x) H := by rw [hH]; exact hP
  have hS : va_S A s.heap H [] := by rw [hH]; exact hS
  rw [← hH]
  refine lv_aload_n hx hb d_M_delete_0 rfl (lv_at hl 0 rfl) ?_
  refine lv_aload_n hx hb d_M_delete_1 rfl (lv_at hl 0 rfl) ?_
  refine lv_iload_n hx hb d_M_delete_2 rfl (lv_at hl 1 rfl) ?_
  refine jfI (rnV (As := [.int (nI w)]) (rest := [.ref h]) hx hb hml hown hE hK (hN _ _ hS) hP hD (k_seriesFault_0 l D dA H.size h ad x w ho hw hc) (q0 := 0) rfl rfl w334 w333 w335 w336 w328 rfl rfl ⟨⟨by decide, by decide⟩, rfl⟩ ⟨(Nat.le_of_ble_eq_true rfl), (Nat.le_of_ble_eq_true rfl)⟩ rfl hl.1 rfl (Nat.le_of_ble_eq_true rfl) d_M_delete_3 ⟨(Nat.le_of_ble_eq_true rfl), (Nat.le_of_ble_eq_true rfl)⟩) hP hD hS hA (fun r1 u2 H locs hp9 hP hD hS => ?_)
  have hP : va_P D vwCl (MW dA h ad x) H := hP
  have hD : va_D A (MW dA h ad x) := hD
  replace hp9 : 0 = r1 := Eq.symm hp9
  subst hp9
  refine pF (v := .int 0) hx hb hown hE hK hP hD hS 0 rfl rfl layM tyM tokM nmM 0 (by decide) w319 rfl rfl rfl (Nat.le_of_ble_eq_true rfl) d_M_delete_6 (fun H locs hP hD hS => ?_)
  have hP : va_P D vwCl (MW dA h ad (MS.s_cod x 0)) H := hP
  have hD : va_D A (MW dA h ad (MS.s_cod x 0)) := hD
  refine lv_aload_n hx hb d_M_delete_9 rfl (lv_at hl 0 rfl) ?_
  refine lv_aload_n hx hb d_M_delete_10 rfl (lv_at hl 0 rfl) ?_
  refine gF (v := .int 0) hx hb hown hE hK hP 0 rfl rfl layM 0 (by decide) w319 rfl d_M_delete_11 ?_
  refine lv_if_ne hx hb d_M_delete_14 (tgt := 28) rfl (fun h9 => absurd (by decide) h9) (fun _ => ?_)
  refine lv_lload_n hx hb d_M_delete_17 rfl (lv_at hl 2 rfl) ?_
  refine lv_lload hx hb d_M_delete_18 (lv_at hl 3 rfl) ?_
  refine W.lcmp hx hb d_M_delete_20 ?_
  refine lv_if_le hx hb d_M_delete_21 (tgt := 28) rfl (fun _ => ?_) (fun h9 => absurd ((lg_cmp_le _ _).mpr t1) h9)
  refine lv_aload_n hx hb d_M_delete_28 rfl (lv_at hl 0 rfl) ?_
  refine gF (v := .int 0) hx hb hown hE hK hP 0 rfl rfl layM 0 (by decide) w319 rfl d_M_delete_29 ?_
  refine pF (v := .int 0) hx hb hown hE hK hP hD hS 0 rfl rfl layM tyM tokM nmM 0 (by decide) w319 rfl rfl rfl (Nat.le_of_ble_eq_true rfl) d_M_delete_32 (fun H locs hP hD hS => ?_)
  have hP : va_P D vwCl (MW dA h ad (MS.s_cod x 0)) H := hP
  have hD : va_D A (MW dA h ad (MS.s_cod x 0)) := hD
  refine lv_aload_n hx hb d_M_delete_35 rfl (lv_at hl 0 rfl) ?_
  refine gF (v := .int 0) hx hb hown hE hK hP 0 rfl rfl layM 0 (by decide) w319 rfl d_M_delete_36 ?_
  refine lv_if_le hx hb d_M_delete_39 (tgt := 44) rfl (fun _ => ?_) (fun h9 => absurd (by decide) h9)
  refine lv_aload_n hx hb d_M_delete_44 rfl (lv_at hl 0 rfl) ?_
  refine lv_iload_n hx hb d_M_delete_45 rfl (lv_at hl 1 rfl) ?_
  refine lv_lload_n hx hb d_M_delete_46 rfl (lv_at hl 2 rfl) ?_
  refine lv_lload hx hb d_M_delete_47 (lv_at hl 3 rfl) ?_
  refine lv_iconst (v := 0) hx hb d_M_delete_49 (by decide) ?_
  refine jfI (rnV (As := [.int (nI w), .long a, .long b, .int 0]) (rest := []) hx hb hml hown hE hK (hN _ _ hS) hP hD (k_between l D dA H.size h ad (MS.s_cod x 0) w a b false (show x.points ≤ 12000 from by omega) (show w < 256 from by omega) hs) (q0 := 0) rfl rfl w897 w896 w898 w899 w328 rfl rfl ⟨⟨by decide, by decide⟩, rfl⟩ ⟨(Nat.le_of_ble_eq_true rfl), (Nat.le_of_ble_eq_true rfl)⟩ rfl hl.1 rfl (Nat.le_of_ble_eq_true rfl) d_M_delete_50 ⟨(Nat.le_of_ble_eq_true rfl), (Nat.le_of_ble_eq_true rfl)⟩) hP hD hS hA (fun r3 u4 H locs hp9 hP hD hS => ?_)
  have hP : va_P D vwCl (MW dA h ad (MS.s_cod x 0)) H := hP
  have hD : va_D A (MW dA h ad (MS.s_cod x 0)) := hD
  replace hp9 : nI (cnt x.points (x.btw w a b false)) = r3 := Eq.symm hp9
  subst hp9
  refine lv_istore hx hb d_M_delete_53 hl (by decide) rfl (fun ls hl => ?_)
  have hl : lv_has ls 7 [(6, .int (nI (cnt x.points (x.btw w a b false)))), (0, .ref h), (1, .int (nI w)), (2, .long a), (4, .long b)] := hl
  refine lv_iload hx hb d_M_delete_55 (lv_at hl 0 rfl) ?_
  have bz := cnt_le x.points (x.btw w a b false)
  refine lv_if_ne hx hb d_M_delete_57 (tgt := 62) rfl (fun _ => ?_) (fun h9 => absurd h9 (mt (nI_eq (a := cnt x.points (x.btw w a b false)) (b := 0) (by omega) (by omega)).mp n0))
  refine lv_aload_n hx hb d_M_delete_62 rfl (lv_at hl 1 rfl) ?_
  refine lv_iload_n hx hb d_M_delete_63 rfl (lv_at hl 2 rfl) ?_
  refine lv_lload_n hx hb d_M_delete_64 rfl (lv_at hl 3 rfl) ?_
  refine lv_lload hx hb d_M_delete_65 (lv_at hl 4 rfl) ?_
  refine lv_iconst (v := 1) hx hb d_M_delete_67 (by decide) ?_
  refine jfI (rnV (As := [.int (nI w), .long a, .long b, .int 1]) (rest := []) hx hb hml hown hE hK (hN _ _ hS) hP hD (k_between l D dA H.size h ad (MS.s_cod x 0) w a b true (show x.points ≤ 12000 from by omega) (show w < 256 from by omega) hs) (q0 := 0) rfl rfl w897 w896 w898 w899 w328 rfl rfl ⟨⟨by decide, by decide⟩, rfl⟩ ⟨(Nat.le_of_ble_eq_true rfl), (Nat.le_of_ble_eq_true rfl)⟩ rfl hl.1 rfl (Nat.le_of_ble_eq_true rfl) d_M_delete_68 ⟨(Nat.le_of_ble_eq_true rfl), (Nat.le_of_ble_eq_true rfl)⟩) hP hD hS hA (fun r5 u6 H locs hp9 hP hD hS => ?_)
  have hP : va_P D vwCl (MW dA h ad (MS.s_cod x 0)) H := hP
  have hD : va_D A (MW dA h ad (MS.s_cod x 0)) := hD
  replace hp9 : nI (cnt x.points (x.btw w a b true)) = r5 := Eq.symm hp9
  subst hp9
  have bz2 := cnt_le x.points (x.btw w a b true)
  refine lv_if_le hx hb d_M_delete_71 (tgt := 83) rfl (fun g7 => ?_) (fun g7 => ?_)
  · have g7 := (nI_leI (a := cnt x.points (x.btw w a b true)) (b := 0) (by omega) (by decide)).mp g7
    refine lv_aload_n hx hb d_M_delete_83 rfl (lv_at hl 1 rfl) ?_
    refine lv_iconst (v := 1) hx hb d_M_delete_84 (by decide) ?_
    refine jfI (rnV (As := [.int 1]) (rest := []) hx hb hml hown hE hK (hN _ _ hS) hP hD (k_hasRoom l D dA H.size h ad (MS.s_cod x 0) 1 (show x.used + 1 < 2 ^ 31 from by omega) (show x.block + 1 < 2 ^ 31 from by omega) (show x.journal < 2 ^ 31 from by omega)) (q0 := 0) rfl rfl w867 w866 w868 w869 w328 rfl rfl ⟨⟨by decide, by decide⟩, rfl⟩ ⟨(Nat.le_of_ble_eq_true rfl), (Nat.le_of_ble_eq_true rfl)⟩ rfl hl.1 rfl (Nat.le_of_ble_eq_true rfl) d_M_delete_85 ⟨(Nat.le_of_ble_eq_true rfl), (Nat.le_of_ble_eq_true rfl)⟩) hP hD hS hA (fun r8 u9 H locs hp9 hP hD hS => ?_)
    have hP : va_P D vwCl (MW dA h ad (MS.s_cod x 0)) H := hP
    have hD : va_D A (MW dA h ad (MS.s_cod x 0)) := hD
    replace hp9 : bI (x.room 1) = r8 := Eq.symm hp9
    subst hp9
    refine lv_if_ne hx hb d_M_delete_88 (tgt := 98) rfl (fun h9 => absurd (by rw [show x.room 1 = false from n4.resolve_left (by omega)]; decide) h9) (fun _ => ?_)
    refine lv_aload_n hx hb d_M_delete_91 rfl (lv_at hl 1 rfl) ?_
    refine lv_iconst (v := 4) hx hb d_M_delete_92 (by decide) ?_
    refine pF (v := .int 4) hx hb hown hE hK hP hD hS 0 rfl rfl layM tyM tokM nmM 0 (by decide) w319 rfl rfl rfl (Nat.le_of_ble_eq_true rfl) d_M_delete_93 (fun H locs hP hD hS => ?_)
    have hP : va_P D vwCl (MW dA h ad (MS.s_cod x 4)) H := hP
    have hD : va_D A (MW dA h ad (MS.s_cod x 4)) := hD
    refine lv_iconst (v := 0) hx hb d_M_delete_96 (by decide) ?_
    exact rfI hx hb hr hlk hS () rfl hP hD (Nat.le_of_ble_eq_true rfl) (Nat.le_of_ble_eq_true rfl) d_M_delete_97
  · have g7 := mt (nI_leI (a := cnt x.points (x.btw w a b true)) (b := 0) (by omega) (by decide)).mpr g7
    refine lv_aload_n hx hb d_M_delete_74 rfl (lv_at hl 1 rfl) ?_
    refine jfI (rnV (As := []) (rest := []) hx hb hml hown hE hK (hN _ _ hS) hP hD (k_scars l D dA H.size h ad (MS.s_cod x 0) (show x.points ≤ 12000 from by omega)) (q0 := 0) rfl rfl w443 w442 w444 w445 w328 rfl rfl ⟨⟨by decide, by decide⟩, rfl⟩ ⟨(Nat.le_of_ble_eq_true rfl), (Nat.le_of_ble_eq_true rfl)⟩ rfl hl.1 rfl (Nat.le_of_ble_eq_true rfl) d_M_delete_75 ⟨(Nat.le_of_ble_eq_true rfl), (Nat.le_of_ble_eq_true rfl)⟩) hP hD hS hA (fun r10 u11 H locs hp9 hP hD hS => ?_)
    have hP : va_P D vwCl (MW dA h ad (MS.s_cod x 0)) H := hP
    have hD : va_D A (MW dA h ad (MS.s_cod x 0)) := hD
    replace hp9 : nI (cnt x.points x.firstOf) = r10 := Eq.symm hp9
    subst hp9
    refine lv_bipush (v := 64) hx hb d_M_delete_78 (by decide) ?_
    have bz3 := cnt_le x.points x.firstOf
    refine lv_icmp_eq hx hb d_M_delete_80 (tgt := 91) rfl (fun g12 => ?_) (fun g12 => ?_)
    · have g12 := (nI_eq (a := cnt x.points x.firstOf) (b := 64) (by omega) (by omega)).mp g12
      refine lv_aload_n hx hb d_M_delete_91 rfl (lv_at hl 1 rfl) ?_
      refine lv_iconst (v := 4) hx hb d_M_delete_92 (by decide) ?_
      refine pF (v := .int 4) hx hb hown hE hK hP hD hS 0 rfl rfl layM tyM tokM nmM 0 (by decide) w319 rfl rfl rfl (Nat.le_of_ble_eq_true rfl) d_M_delete_93 (fun H locs hP hD hS => ?_)
      have hP : va_P D vwCl (MW dA h ad (MS.s_cod x 4)) H := hP
      have hD : va_D A (MW dA h ad (MS.s_cod x 4)) := hD
      refine lv_iconst (v := 0) hx hb d_M_delete_96 (by decide) ?_
      exact rfI hx hb hr hlk hS () rfl hP hD (Nat.le_of_ble_eq_true rfl) (Nat.le_of_ble_eq_true rfl) d_M_delete_97
    · have g12 := mt (nI_eq (a := cnt x.points x.firstOf) (b := 64) (by omega) (by omega)).mpr g12
      refine lv_aload_n hx hb d_M_delete_83 rfl (lv_at hl 1 rfl) ?_
      refine lv_iconst (v := 1) hx hb d_M_delete_84 (by decide) ?_
      refine jfI (rnV (As := [.int 1]) (rest := []) hx hb hml hown hE hK (hN _ _ hS) hP hD (k_hasRoom l D dA H.size h ad (MS.s_cod x 0) 1 (show x.used + 1 < 2 ^ 31 from by omega) (show x.block + 1 < 2 ^ 31 from by omega) (show x.journal < 2 ^ 31 from by omega)) (q0 := 0) rfl rfl w867 w866 w868 w869 w328 rfl rfl ⟨⟨by decide, by decide⟩, rfl⟩ ⟨(Nat.le_of_ble_eq_true rfl), (Nat.le_of_ble_eq_true rfl)⟩ rfl hl.1 rfl (Nat.le_of_ble_eq_true rfl) d_M_delete_85 ⟨(Nat.le_of_ble_eq_true rfl), (Nat.le_of_ble_eq_true rfl)⟩) hP hD hS hA (fun r13 u14 H locs hp9 hP hD hS => ?_)
      have hP : va_P D vwCl (MW dA h ad (MS.s_cod x 0)) H := hP
      have hD : va_D A (MW dA h ad (MS.s_cod x 0)) := hD
      replace hp9 : bI (x.room 1) = r13 := Eq.symm hp9
      subst hp9
      refine lv_if_ne hx hb d_M_delete_88 (tgt := 98) rfl (fun h9 => absurd (by rw [show x.room 1 = false from n4.resolve_left (by omega)]; decide) h9) (fun _ => ?_)
      refine lv_aload_n hx hb d_M_delete_91 rfl (lv_at hl 1 rfl) ?_
      refine lv_iconst (v := 4) hx hb d_M_delete_92 (by decide) ?_
      refine pF (v := .int 4) hx hb hown hE hK hP hD hS 0 rfl rfl layM tyM tokM nmM 0 (by decide) w319 rfl rfl rfl (Nat.le_of_ble_eq_true rfl) d_M_delete_93 (fun H locs hP hD hS => ?_)
      have hP : va_P D vwCl (MW dA h ad (MS.s_cod x 4)) H := hP
      have hD : va_D A (MW dA h ad (MS.s_cod x 4)) := hD
      refine lv_iconst (v := 0) hx hb d_M_delete_96 (by decide) ?_
      exact rfI hx hb hr hlk hS () rfl hP hD (Nat.le_of_ble_eq_true rfl) (Nat.le_of_ble_eq_true rfl) d_M_delete_97
theorem d_M_delete_98 : decode prog_14_method_37_code 98 = .ok (.aload_n 0, 1) := by decide +kernel
theorem d_M_delete_99 : decode prog_14_method_37_code 99 = .ok (.iconst 2, 1) := by decide +kernel
theorem d_M_delete_100 : decode prog_14_method_37_code 100 = .ok (.iload_n 1, 1) := by decide +kernel
theorem d_M_delete_101 : decode prog_14_method_37_code 101 = .ok (.lload_n 2, 1) := by decide +kernel
theorem d_M_delete_102 : decode prog_14_method_37_code 102 = .ok (.lload 4, 2) := by decide +kernel
theorem d_M_delete_104 : decode prog_14_method_37_code 104 = .ok (.iconst 1, 1) := by decide +kernel
theorem d_M_delete_105 : decode prog_14_method_37_code 105 = .ok (.invokevirtual 250, 3) := by decide +kernel
theorem d_M_delete_108 : decode prog_14_method_37_code 108 = .ok (.ifCond .ne 10, 3) := by decide +kernel
theorem d_M_delete_111 : decode prog_14_method_37_code 111 = .ok (.aload_n 0, 1) := by decide +kernel
theorem d_M_delete_112 : decode prog_14_method_37_code 112 = .ok (.iconst 1, 1) := by decide +kernel
theorem d_M_delete_113 : decode prog_14_method_37_code 113 = .ok (.putfield 145, 3) := by decide +kernel
theorem d_M_delete_116 : decode prog_14_method_37_code 116 = .ok (.iconst 0, 1) := by decide +kernel
theorem d_M_delete_117 : decode prog_14_method_37_code 117 = .ok (.ireturn, 1) := by decide +kernel
set_option maxHeartbeats 4000000 in
set_option maxRecDepth 100000 in
theorem k_delete_5 (l : Launch) (D : va_G) (dA : Nat → ClassId) (sz : Nat) (h : Nat) (ad : Nat → Nat) (x : MS) (w : Nat) (a : Int64) (b : Int64) (ho : x.on = true) (hw : w < x.seriesCount) (hc : x.seriesCount ≤ 256) (t1 : a ≤ b) (hs : ∀ q : Nat, q < x.points → x.pointSeries q < 256) (hp1 : x.points ≤ 12000) (n0 : ¬ cnt x.points (x.btw w a b false) = 0) (u1 : x.used ≤ 126) (u2 : x.block < 2 ^ 20) (u3 : x.journal ≤ 256) (n4 : ¬ (0 < cnt x.points (x.btw w a b true) ∧ cnt x.points x.firstOf = 64)) (hro : x.room 1 = true) (c1 : 126 < x.used + 1) (hf : x.fresh = true) (hcu : x.cutLeft = 0) : Met l ⟨"SeriesVaultModel", "delete", "(IJJ)I"⟩ [Cond.code ⟨"SeriesVaultModel", "delete", "(IJJ)I"⟩ prog_14_method_37_code 7 (some FieldType.int)] { frames := 4, cells := 0, slots := 0, locals := 67 } (pC D dA [.ref h, .int (nI w), .long a, .long b] (MW dA h ad x) sz) (va_Qi (fun (r9 : Int32) (u9 : Unit) => r9 = 0) (fun (u9 : Unit) t9 => bW D (va_A (MW dA h ad x) sz) (MW dA h ad (MS.s_cutLeft (MS.s_on (MS.s_cod x 1) false) (-1))) t9) (va_A (MW dA h ad x) sz)) 0 0 (va_A (MW dA h ad x) sz) := by
  refine mkC (y := ⟨"SeriesVaultModel", "delete", "(IJJ)I"⟩) (cc := prog_14_method_37_code) (maxL := 7) (av := [.ref h, .int (nI w), .long a, .long b]) (ws := MW dA h ad x) (sz := sz) (Qc := fun A => va_Qi (fun (r9 : Int32) (u9 : Unit) => r9 = 0) (fun (u9 : Unit) t9 => bW D A (MW dA h ad (MS.s_cutLeft (MS.s_on (MS.s_cod x 1) false) (-1))) t9) A) (by decide) (Nat.le_of_ble_eq_true rfl) ?_
  intro A p e s m below meth c ls hsz hB
  obtain ⟨hx, hb, hr, hml, hown, hin, hlk, hE, hK, hP, hD, hS, hA, hN, hl⟩ := hB
  have hown : s.vm.findClass "SeriesVaultModel" = some m.cls := hown
  have hl : lv_has ls 7 [(0, .ref h), (1, .int (nI w)), (2, .long a), (4, .long b)] := hl
  obtain ⟨H, hH⟩ : ∃ z, z = s.heap := ⟨_, rfl⟩
  have hP : va_P D vwCl (MW dA h ad x) H := by rw [hH]; exact hP
  have hS : va_S A s.heap H [] := by rw [hH]; exact hS
  rw [← hH]
  refine lv_aload_n hx hb d_M_delete_0 rfl (lv_at hl 0 rfl) ?_
  refine lv_aload_n hx hb d_M_delete_1 rfl (lv_at hl 0 rfl) ?_
  refine lv_iload_n hx hb d_M_delete_2 rfl (lv_at hl 1 rfl) ?_
  refine jfI (rnV (As := [.int (nI w)]) (rest := [.ref h]) hx hb hml hown hE hK (hN _ _ hS) hP hD (k_seriesFault_0 l D dA H.size h ad x w ho hw hc) (q0 := 0) rfl rfl w334 w333 w335 w336 w328 rfl rfl ⟨⟨by decide, by decide⟩, rfl⟩ ⟨(Nat.le_of_ble_eq_true rfl), (Nat.le_of_ble_eq_true rfl)⟩ rfl hl.1 rfl (Nat.le_of_ble_eq_true rfl) d_M_delete_3 ⟨(Nat.le_of_ble_eq_true rfl), (Nat.le_of_ble_eq_true rfl)⟩) hP hD hS hA (fun r1 u2 H locs hp9 hP hD hS => ?_)
  have hP : va_P D vwCl (MW dA h ad x) H := hP
  have hD : va_D A (MW dA h ad x) := hD
  replace hp9 : 0 = r1 := Eq.symm hp9
  subst hp9
  refine pF (v := .int 0) hx hb hown hE hK hP hD hS 0 rfl rfl layM tyM tokM nmM 0 (by decide) w319 rfl rfl rfl (Nat.le_of_ble_eq_true rfl) d_M_delete_6 (fun H locs hP hD hS => ?_)
  have hP : va_P D vwCl (MW dA h ad (MS.s_cod x 0)) H := hP
  have hD : va_D A (MW dA h ad (MS.s_cod x 0)) := hD
  refine lv_aload_n hx hb d_M_delete_9 rfl (lv_at hl 0 rfl) ?_
  refine lv_aload_n hx hb d_M_delete_10 rfl (lv_at hl 0 rfl) ?_
  refine gF (v := .int 0) hx hb hown hE hK hP 0 rfl rfl layM 0 (by decide) w319 rfl d_M_delete_11 ?_
  refine lv_if_ne hx hb d_M_delete_14 (tgt := 28) rfl (fun h9 => absurd (by decide) h9) (fun _ => ?_)
  refine lv_lload_n hx hb d_M_delete_17 rfl (lv_at hl 2 rfl) ?_
  refine lv_lload hx hb d_M_delete_18 (lv_at hl 3 rfl) ?_
  refine W.lcmp hx hb d_M_delete_20 ?_
  refine lv_if_le hx hb d_M_delete_21 (tgt := 28) rfl (fun _ => ?_) (fun h9 => absurd ((lg_cmp_le _ _).mpr t1) h9)
  refine lv_aload_n hx hb d_M_delete_28 rfl (lv_at hl 0 rfl) ?_
  refine gF (v := .int 0) hx hb hown hE hK hP 0 rfl rfl layM 0 (by decide) w319 rfl d_M_delete_29 ?_
  refine pF (v := .int 0) hx hb hown hE hK hP hD hS 0 rfl rfl layM tyM tokM nmM 0 (by decide) w319 rfl rfl rfl (Nat.le_of_ble_eq_true rfl) d_M_delete_32 (fun H locs hP hD hS => ?_)
  have hP : va_P D vwCl (MW dA h ad (MS.s_cod x 0)) H := hP
  have hD : va_D A (MW dA h ad (MS.s_cod x 0)) := hD
  refine lv_aload_n hx hb d_M_delete_35 rfl (lv_at hl 0 rfl) ?_
  refine gF (v := .int 0) hx hb hown hE hK hP 0 rfl rfl layM 0 (by decide) w319 rfl d_M_delete_36 ?_
  refine lv_if_le hx hb d_M_delete_39 (tgt := 44) rfl (fun _ => ?_) (fun h9 => absurd (by decide) h9)
  refine lv_aload_n hx hb d_M_delete_44 rfl (lv_at hl 0 rfl) ?_
  refine lv_iload_n hx hb d_M_delete_45 rfl (lv_at hl 1 rfl) ?_
  refine lv_lload_n hx hb d_M_delete_46 rfl (lv_at hl 2 rfl) ?_
  refine lv_lload hx hb d_M_delete_47 (lv_at hl 3 rfl) ?_
  refine lv_iconst (v := 0) hx hb d_M_delete_49 (by decide) ?_
  refine jfI (rnV (As := [.int (nI w), .long a, .long b, .int 0]) (rest := []) hx hb hml hown hE hK (hN _ _ hS) hP hD (k_between l D dA H.size h ad (MS.s_cod x 0) w a b false (show x.points ≤ 12000 from by omega) (show w < 256 from by omega) hs) (q0 := 0) rfl rfl w897 w896 w898 w899 w328 rfl rfl ⟨⟨by decide, by decide⟩, rfl⟩ ⟨(Nat.le_of_ble_eq_true rfl), (Nat.le_of_ble_eq_true rfl)⟩ rfl hl.1 rfl (Nat.le_of_ble_eq_true rfl) d_M_delete_50 ⟨(Nat.le_of_ble_eq_true rfl), (Nat.le_of_ble_eq_true rfl)⟩) hP hD hS hA (fun r3 u4 H locs hp9 hP hD hS => ?_)
  have hP : va_P D vwCl (MW dA h ad (MS.s_cod x 0)) H := hP
  have hD : va_D A (MW dA h ad (MS.s_cod x 0)) := hD
  replace hp9 : nI (cnt x.points (x.btw w a b false)) = r3 := Eq.symm hp9
  subst hp9
  refine lv_istore hx hb d_M_delete_53 hl (by decide) rfl (fun ls hl => ?_)
  have hl : lv_has ls 7 [(6, .int (nI (cnt x.points (x.btw w a b false)))), (0, .ref h), (1, .int (nI w)), (2, .long a), (4, .long b)] := hl
  refine lv_iload hx hb d_M_delete_55 (lv_at hl 0 rfl) ?_
  have bz := cnt_le x.points (x.btw w a b false)
  refine lv_if_ne hx hb d_M_delete_57 (tgt := 62) rfl (fun _ => ?_) (fun h9 => absurd h9 (mt (nI_eq (a := cnt x.points (x.btw w a b false)) (b := 0) (by omega) (by omega)).mp n0))
  refine lv_aload_n hx hb d_M_delete_62 rfl (lv_at hl 1 rfl) ?_
  refine lv_iload_n hx hb d_M_delete_63 rfl (lv_at hl 2 rfl) ?_
  refine lv_lload_n hx hb d_M_delete_64 rfl (lv_at hl 3 rfl) ?_
  refine lv_lload hx hb d_M_delete_65 (lv_at hl 4 rfl) ?_
  refine lv_iconst (v := 1) hx hb d_M_delete_67 (by decide) ?_
  refine jfI (rnV (As := [.int (nI w), .long a, .long b, .int 1]) (rest := []) hx hb hml hown hE hK (hN _ _ hS) hP hD (k_between l D dA H.size h ad (MS.s_cod x 0) w a b true (show x.points ≤ 12000 from by omega) (show w < 256 from by omega) hs) (q0 := 0) rfl rfl w897 w896 w898 w899 w328 rfl rfl ⟨⟨by decide, by decide⟩, rfl⟩ ⟨(Nat.le_of_ble_eq_true rfl), (Nat.le_of_ble_eq_true rfl)⟩ rfl hl.1 rfl (Nat.le_of_ble_eq_true rfl) d_M_delete_68 ⟨(Nat.le_of_ble_eq_true rfl), (Nat.le_of_ble_eq_true rfl)⟩) hP hD hS hA (fun r5 u6 H locs hp9 hP hD hS => ?_)
  have hP : va_P D vwCl (MW dA h ad (MS.s_cod x 0)) H := hP
  have hD : va_D A (MW dA h ad (MS.s_cod x 0)) := hD
  replace hp9 : nI (cnt x.points (x.btw w a b true)) = r5 := Eq.symm hp9
  subst hp9
  have bz2 := cnt_le x.points (x.btw w a b true)
  refine lv_if_le hx hb d_M_delete_71 (tgt := 83) rfl (fun g7 => ?_) (fun g7 => ?_)
  · have g7 := (nI_leI (a := cnt x.points (x.btw w a b true)) (b := 0) (by omega) (by decide)).mp g7
    refine lv_aload_n hx hb d_M_delete_83 rfl (lv_at hl 1 rfl) ?_
    refine lv_iconst (v := 1) hx hb d_M_delete_84 (by decide) ?_
    refine jfI (rnV (As := [.int 1]) (rest := []) hx hb hml hown hE hK (hN _ _ hS) hP hD (k_hasRoom l D dA H.size h ad (MS.s_cod x 0) 1 (show x.used + 1 < 2 ^ 31 from by omega) (show x.block + 1 < 2 ^ 31 from by omega) (show x.journal < 2 ^ 31 from by omega)) (q0 := 0) rfl rfl w867 w866 w868 w869 w328 rfl rfl ⟨⟨by decide, by decide⟩, rfl⟩ ⟨(Nat.le_of_ble_eq_true rfl), (Nat.le_of_ble_eq_true rfl)⟩ rfl hl.1 rfl (Nat.le_of_ble_eq_true rfl) d_M_delete_85 ⟨(Nat.le_of_ble_eq_true rfl), (Nat.le_of_ble_eq_true rfl)⟩) hP hD hS hA (fun r8 u9 H locs hp9 hP hD hS => ?_)
    have hP : va_P D vwCl (MW dA h ad (MS.s_cod x 0)) H := hP
    have hD : va_D A (MW dA h ad (MS.s_cod x 0)) := hD
    replace hp9 : bI (x.room 1) = r8 := Eq.symm hp9
    subst hp9
    refine lv_if_ne hx hb d_M_delete_88 (tgt := 98) rfl (fun _ => ?_) (fun h9 => absurd h9 (by rw [hro]; decide))
    refine lv_aload_n hx hb d_M_delete_98 rfl (lv_at hl 1 rfl) ?_
    refine lv_iconst (v := 2) hx hb d_M_delete_99 (by decide) ?_
    refine lv_iload_n hx hb d_M_delete_100 rfl (lv_at hl 2 rfl) ?_
    refine lv_lload_n hx hb d_M_delete_101 rfl (lv_at hl 3 rfl) ?_
    refine lv_lload hx hb d_M_delete_102 (lv_at hl 4 rfl) ?_
    refine lv_iconst (v := 1) hx hb d_M_delete_104 (by decide) ?_
    refine jfI (rnV (As := [.int 2, .int (nI w), .long a, .long b, .int 1]) (rest := []) hx hb hml hown hE hK (hN _ _ hS) hP hD (k_record_x l D dA H.size h ad (MS.s_cod x 0) 2 w a b 1 (show x.used + 1 < 2 ^ 31 from by omega) (show 126 < x.used + 1 from by omega) hf hcu) (q0 := 0) rfl rfl w889 w888 w890 w891 w328 rfl rfl ⟨⟨by decide, by decide⟩, rfl⟩ ⟨(Nat.le_of_ble_eq_true rfl), (Nat.le_of_ble_eq_true rfl)⟩ rfl hl.1 rfl (Nat.le_of_ble_eq_true rfl) d_M_delete_105 ⟨(Nat.le_of_ble_eq_true rfl), (Nat.le_of_ble_eq_true rfl)⟩) hP hD hS hA (fun r10 u11 H locs hp9 hP hD hS => ?_)
    have hP : va_P D vwCl (MW dA h ad (MS.s_cutLeft (MS.s_on (MS.s_cod x 0) false) (-1))) H := hP
    have hD : va_D A (MW dA h ad (MS.s_cutLeft (MS.s_on (MS.s_cod x 0) false) (-1))) := hD
    replace hp9 : bI false = r10 := Eq.symm hp9
    subst hp9
    refine lv_if_ne hx hb d_M_delete_108 (tgt := 118) rfl (fun h9 => absurd (by decide) h9) (fun _ => ?_)
    refine lv_aload_n hx hb d_M_delete_111 rfl (lv_at hl 1 rfl) ?_
    refine lv_iconst (v := 1) hx hb d_M_delete_112 (by decide) ?_
    refine pF (v := .int 1) hx hb hown hE hK hP hD hS 0 rfl rfl layM tyM tokM nmM 0 (by decide) w319 rfl rfl rfl (Nat.le_of_ble_eq_true rfl) d_M_delete_113 (fun H locs hP hD hS => ?_)
    have hP : va_P D vwCl (MW dA h ad (MS.s_cutLeft (MS.s_on (MS.s_cod x 1) false) (-1))) H := hP
    have hD : va_D A (MW dA h ad (MS.s_cutLeft (MS.s_on (MS.s_cod x 1) false) (-1))) := hD
    refine lv_iconst (v := 0) hx hb d_M_delete_116 (by decide) ?_
    exact rfI hx hb hr hlk hS () rfl hP hD (Nat.le_of_ble_eq_true rfl) (Nat.le_of_ble_eq_true rfl) d_M_delete_117
  · have g7 := mt (nI_leI (a := cnt x.points (x.btw w a b true)) (b := 0) (by omega) (by decide)).mpr g7
    refine lv_aload_n hx hb d_M_delete_74 rfl (lv_at hl 1 rfl) ?_
    refine jfI (rnV (As := []) (rest := []) hx hb hml hown hE hK (hN _ _ hS) hP hD (k_scars l D dA H.size h ad (MS.s_cod x 0) (show x.points ≤ 12000 from by omega)) (q0 := 0) rfl rfl w443 w442 w444 w445 w328 rfl rfl ⟨⟨by decide, by decide⟩, rfl⟩ ⟨(Nat.le_of_ble_eq_true rfl), (Nat.le_of_ble_eq_true rfl)⟩ rfl hl.1 rfl (Nat.le_of_ble_eq_true rfl) d_M_delete_75 ⟨(Nat.le_of_ble_eq_true rfl), (Nat.le_of_ble_eq_true rfl)⟩) hP hD hS hA (fun r12 u13 H locs hp9 hP hD hS => ?_)
    have hP : va_P D vwCl (MW dA h ad (MS.s_cod x 0)) H := hP
    have hD : va_D A (MW dA h ad (MS.s_cod x 0)) := hD
    replace hp9 : nI (cnt x.points x.firstOf) = r12 := Eq.symm hp9
    subst hp9
    refine lv_bipush (v := 64) hx hb d_M_delete_78 (by decide) ?_
    have bz3 := cnt_le x.points x.firstOf
    refine lv_icmp_eq hx hb d_M_delete_80 (tgt := 91) rfl (fun g14 => ?_) (fun g14 => ?_)
    · have g14 := (nI_eq (a := cnt x.points x.firstOf) (b := 64) (by omega) (by omega)).mp g14; exfalso; omega
    have g14 := mt (nI_eq (a := cnt x.points x.firstOf) (b := 64) (by omega) (by omega)).mpr g14
    refine lv_aload_n hx hb d_M_delete_83 rfl (lv_at hl 1 rfl) ?_
    refine lv_iconst (v := 1) hx hb d_M_delete_84 (by decide) ?_
    refine jfI (rnV (As := [.int 1]) (rest := []) hx hb hml hown hE hK (hN _ _ hS) hP hD (k_hasRoom l D dA H.size h ad (MS.s_cod x 0) 1 (show x.used + 1 < 2 ^ 31 from by omega) (show x.block + 1 < 2 ^ 31 from by omega) (show x.journal < 2 ^ 31 from by omega)) (q0 := 0) rfl rfl w867 w866 w868 w869 w328 rfl rfl ⟨⟨by decide, by decide⟩, rfl⟩ ⟨(Nat.le_of_ble_eq_true rfl), (Nat.le_of_ble_eq_true rfl)⟩ rfl hl.1 rfl (Nat.le_of_ble_eq_true rfl) d_M_delete_85 ⟨(Nat.le_of_ble_eq_true rfl), (Nat.le_of_ble_eq_true rfl)⟩) hP hD hS hA (fun r15 u16 H locs hp9 hP hD hS => ?_)
    have hP : va_P D vwCl (MW dA h ad (MS.s_cod x 0)) H := hP
    have hD : va_D A (MW dA h ad (MS.s_cod x 0)) := hD
    replace hp9 : bI (x.room 1) = r15 := Eq.symm hp9
    subst hp9
    refine lv_if_ne hx hb d_M_delete_88 (tgt := 98) rfl (fun _ => ?_) (fun h9 => absurd h9 (by rw [hro]; decide))
    refine lv_aload_n hx hb d_M_delete_98 rfl (lv_at hl 1 rfl) ?_
    refine lv_iconst (v := 2) hx hb d_M_delete_99 (by decide) ?_
    refine lv_iload_n hx hb d_M_delete_100 rfl (lv_at hl 2 rfl) ?_
    refine lv_lload_n hx hb d_M_delete_101 rfl (lv_at hl 3 rfl) ?_
    refine lv_lload hx hb d_M_delete_102 (lv_at hl 4 rfl) ?_
    refine lv_iconst (v := 1) hx hb d_M_delete_104 (by decide) ?_
    refine jfI (rnV (As := [.int 2, .int (nI w), .long a, .long b, .int 1]) (rest := []) hx hb hml hown hE hK (hN _ _ hS) hP hD (k_record_x l D dA H.size h ad (MS.s_cod x 0) 2 w a b 1 (show x.used + 1 < 2 ^ 31 from by omega) (show 126 < x.used + 1 from by omega) hf hcu) (q0 := 0) rfl rfl w889 w888 w890 w891 w328 rfl rfl ⟨⟨by decide, by decide⟩, rfl⟩ ⟨(Nat.le_of_ble_eq_true rfl), (Nat.le_of_ble_eq_true rfl)⟩ rfl hl.1 rfl (Nat.le_of_ble_eq_true rfl) d_M_delete_105 ⟨(Nat.le_of_ble_eq_true rfl), (Nat.le_of_ble_eq_true rfl)⟩) hP hD hS hA (fun r17 u18 H locs hp9 hP hD hS => ?_)
    have hP : va_P D vwCl (MW dA h ad (MS.s_cutLeft (MS.s_on (MS.s_cod x 0) false) (-1))) H := hP
    have hD : va_D A (MW dA h ad (MS.s_cutLeft (MS.s_on (MS.s_cod x 0) false) (-1))) := hD
    replace hp9 : bI false = r17 := Eq.symm hp9
    subst hp9
    refine lv_if_ne hx hb d_M_delete_108 (tgt := 118) rfl (fun h9 => absurd (by decide) h9) (fun _ => ?_)
    refine lv_aload_n hx hb d_M_delete_111 rfl (lv_at hl 1 rfl) ?_
    refine lv_iconst (v := 1) hx hb d_M_delete_112 (by decide) ?_
    refine pF (v := .int 1) hx hb hown hE hK hP hD hS 0 rfl rfl layM tyM tokM nmM 0 (by decide) w319 rfl rfl rfl (Nat.le_of_ble_eq_true rfl) d_M_delete_113 (fun H locs hP hD hS => ?_)
    have hP : va_P D vwCl (MW dA h ad (MS.s_cutLeft (MS.s_on (MS.s_cod x 1) false) (-1))) H := hP
    have hD : va_D A (MW dA h ad (MS.s_cutLeft (MS.s_on (MS.s_cod x 1) false) (-1))) := hD
    refine lv_iconst (v := 0) hx hb d_M_delete_116 (by decide) ?_
    exact rfI hx hb hr hlk hS () rfl hP hD (Nat.le_of_ble_eq_true rfl) (Nat.le_of_ble_eq_true rfl) d_M_delete_117
theorem d_M_delete_118 : decode prog_14_method_37_code 118 = .ok (.aload_n 0, 1) := by decide +kernel
theorem d_M_delete_119 : decode prog_14_method_37_code 119 = .ok (.iload_n 1, 1) := by decide +kernel
theorem d_M_delete_120 : decode prog_14_method_37_code 120 = .ok (.lload_n 2, 1) := by decide +kernel
theorem d_M_delete_121 : decode prog_14_method_37_code 121 = .ok (.lload 4, 2) := by decide +kernel
theorem d_M_delete_123 : decode prog_14_method_37_code 123 = .ok (.invokevirtual 285, 3) := by decide +kernel
theorem d_M_delete_126 : decode prog_14_method_37_code 126 = .ok (.ireturn, 1) := by decide +kernel
theorem w900 : Cond.methodLink "SeriesVaultModel" 285 ⟨"SeriesVaultModel", "go", "(IJJ)I"⟩ ∈ aW := aw_of (tb_10 (List.mem_of_getElem? (i := 60) rfl)) rfl
theorem w901 : Cond.code ⟨"SeriesVaultModel", "go", "(IJJ)I"⟩ prog_14_method_17_code 8 (some FieldType.int) ∈ aW := aw_of (tb_10 (List.mem_of_getElem? (i := 63) rfl)) rfl
theorem w902 : Cond.instanceMethod ⟨"SeriesVaultModel", "go", "(IJJ)I"⟩ ∈ aW := aw_of (tb_10 (List.mem_of_getElem? (i := 62) rfl)) rfl
theorem w903 : Cond.selects "SeriesVaultModel" ⟨"SeriesVaultModel", "go", "(IJJ)I"⟩ ⟨"SeriesVaultModel", "go", "(IJJ)I"⟩ ∈ aW := aw_pr (List.mem_map.mpr ⟨_, pv_6 (List.mem_of_getElem? (i := 6) rfl), rfl⟩) rfl
set_option maxHeartbeats 4000000 in
set_option maxRecDepth 100000 in
theorem k_delete_0 (l : Launch) (D : va_G) (dA : Nat → ClassId) (sz : Nat) (h : Nat) (ad : Nat → Nat) (x : MS) (w : Nat) (a : Int64) (b : Int64) (ho : x.on = true) (hw : w < x.seriesCount) (hc : x.seriesCount ≤ 256) (t1 : a ≤ b) (hs : ∀ q : Nat, q < x.points → x.pointSeries q < 256) (hp1 : x.points ≤ 12000) (n0 : ¬ cnt x.points (x.btw w a b false) = 0) (u1 : x.used ≤ 126) (u2 : x.block < 2 ^ 20) (u3 : x.journal ≤ 256) (n4 : ¬ (0 < cnt x.points (x.btw w a b true) ∧ cnt x.points x.firstOf = 64)) (hro : x.room 1 = true) (r1 : x.records < 32000) (hcr : x.canR 1) (r3 : x.deletes < 2 ^ 30) : Met l ⟨"SeriesVaultModel", "delete", "(IJJ)I"⟩ [Cond.code ⟨"SeriesVaultModel", "delete", "(IJJ)I"⟩ prog_14_method_37_code 7 (some FieldType.int)] { frames := 4, cells := 0, slots := 0, locals := 67 } (pC D dA [.ref h, .int (nI w), .long a, .long b] (MW dA h ad x) sz) (va_Qi (fun (r9 : Int32) (u9 : MS) => r9 = nI (cnt x.points (x.hit w a b)) ∧ u9 = ((x.s_cod 0).recS 2 w a b 1).goS w a b) (fun (u9 : MS) t9 => bW D (va_A (MW dA h ad x) sz) (MW dA h ad u9) t9) (va_A (MW dA h ad x) sz)) 0 0 (va_A (MW dA h ad x) sz) := by
  refine mkC (y := ⟨"SeriesVaultModel", "delete", "(IJJ)I"⟩) (cc := prog_14_method_37_code) (maxL := 7) (av := [.ref h, .int (nI w), .long a, .long b]) (ws := MW dA h ad x) (sz := sz) (Qc := fun A => va_Qi (fun (r9 : Int32) (u9 : MS) => r9 = nI (cnt x.points (x.hit w a b)) ∧ u9 = ((x.s_cod 0).recS 2 w a b 1).goS w a b) (fun (u9 : MS) t9 => bW D A (MW dA h ad u9) t9) A) (by decide) (Nat.le_of_ble_eq_true rfl) ?_
  intro A p e s m below meth c ls hsz hB
  obtain ⟨hx, hb, hr, hml, hown, hin, hlk, hE, hK, hP, hD, hS, hA, hN, hl⟩ := hB
  have hown : s.vm.findClass "SeriesVaultModel" = some m.cls := hown
  have hl : lv_has ls 7 [(0, .ref h), (1, .int (nI w)), (2, .long a), (4, .long b)] := hl
  obtain ⟨H, hH⟩ : ∃ z, z = s.heap := ⟨_, rfl⟩
  have hP : va_P D vwCl (MW dA h ad x) H := by rw [hH]; exact hP
  have hS : va_S A s.heap H [] := by rw [hH]; exact hS
  rw [← hH]
  refine lv_aload_n hx hb d_M_delete_0 rfl (lv_at hl 0 rfl) ?_
  refine lv_aload_n hx hb d_M_delete_1 rfl (lv_at hl 0 rfl) ?_
  refine lv_iload_n hx hb d_M_delete_2 rfl (lv_at hl 1 rfl) ?_
  refine jfI (rnV (As := [.int (nI w)]) (rest := [.ref h]) hx hb hml hown hE hK (hN _ _ hS) hP hD (k_seriesFault_0 l D dA H.size h ad x w ho hw hc) (q0 := 0) rfl rfl w334 w333 w335 w336 w328 rfl rfl ⟨⟨by decide, by decide⟩, rfl⟩ ⟨(Nat.le_of_ble_eq_true rfl), (Nat.le_of_ble_eq_true rfl)⟩ rfl hl.1 rfl (Nat.le_of_ble_eq_true rfl) d_M_delete_3 ⟨(Nat.le_of_ble_eq_true rfl), (Nat.le_of_ble_eq_true rfl)⟩) hP hD hS hA (fun r1 u2 H locs hp9 hP hD hS => ?_)
  have hP : va_P D vwCl (MW dA h ad x) H := hP
  have hD : va_D A (MW dA h ad x) := hD
  replace hp9 : 0 = r1 := Eq.symm hp9
  subst hp9
  refine pF (v := .int 0) hx hb hown hE hK hP hD hS 0 rfl rfl layM tyM tokM nmM 0 (by decide) w319 rfl rfl rfl (Nat.le_of_ble_eq_true rfl) d_M_delete_6 (fun H locs hP hD hS => ?_)
  have hP : va_P D vwCl (MW dA h ad (MS.s_cod x 0)) H := hP
  have hD : va_D A (MW dA h ad (MS.s_cod x 0)) := hD
  refine lv_aload_n hx hb d_M_delete_9 rfl (lv_at hl 0 rfl) ?_
  refine lv_aload_n hx hb d_M_delete_10 rfl (lv_at hl 0 rfl) ?_
  refine gF (v := .int 0) hx hb hown hE hK hP 0 rfl rfl layM 0 (by decide) w319 rfl d_M_delete_11 ?_
  refine lv_if_ne hx hb d_M_delete_14 (tgt := 28) rfl (fun h9 => absurd (by decide) h9) (fun _ => ?_)
  refine lv_lload_n hx hb d_M_delete_17 rfl (lv_at hl 2 rfl) ?_
  refine lv_lload hx hb d_M_delete_18 (lv_at hl 3 rfl) ?_
  refine W.lcmp hx hb d_M_delete_20 ?_
  refine lv_if_le hx hb d_M_delete_21 (tgt := 28) rfl (fun _ => ?_) (fun h9 => absurd ((lg_cmp_le _ _).mpr t1) h9)
  refine lv_aload_n hx hb d_M_delete_28 rfl (lv_at hl 0 rfl) ?_
  refine gF (v := .int 0) hx hb hown hE hK hP 0 rfl rfl layM 0 (by decide) w319 rfl d_M_delete_29 ?_
  refine pF (v := .int 0) hx hb hown hE hK hP hD hS 0 rfl rfl layM tyM tokM nmM 0 (by decide) w319 rfl rfl rfl (Nat.le_of_ble_eq_true rfl) d_M_delete_32 (fun H locs hP hD hS => ?_)
  have hP : va_P D vwCl (MW dA h ad (MS.s_cod x 0)) H := hP
  have hD : va_D A (MW dA h ad (MS.s_cod x 0)) := hD
  refine lv_aload_n hx hb d_M_delete_35 rfl (lv_at hl 0 rfl) ?_
  refine gF (v := .int 0) hx hb hown hE hK hP 0 rfl rfl layM 0 (by decide) w319 rfl d_M_delete_36 ?_
  refine lv_if_le hx hb d_M_delete_39 (tgt := 44) rfl (fun _ => ?_) (fun h9 => absurd (by decide) h9)
  refine lv_aload_n hx hb d_M_delete_44 rfl (lv_at hl 0 rfl) ?_
  refine lv_iload_n hx hb d_M_delete_45 rfl (lv_at hl 1 rfl) ?_
  refine lv_lload_n hx hb d_M_delete_46 rfl (lv_at hl 2 rfl) ?_
  refine lv_lload hx hb d_M_delete_47 (lv_at hl 3 rfl) ?_
  refine lv_iconst (v := 0) hx hb d_M_delete_49 (by decide) ?_
  refine jfI (rnV (As := [.int (nI w), .long a, .long b, .int 0]) (rest := []) hx hb hml hown hE hK (hN _ _ hS) hP hD (k_between l D dA H.size h ad (MS.s_cod x 0) w a b false (show x.points ≤ 12000 from by omega) (show w < 256 from by omega) hs) (q0 := 0) rfl rfl w897 w896 w898 w899 w328 rfl rfl ⟨⟨by decide, by decide⟩, rfl⟩ ⟨(Nat.le_of_ble_eq_true rfl), (Nat.le_of_ble_eq_true rfl)⟩ rfl hl.1 rfl (Nat.le_of_ble_eq_true rfl) d_M_delete_50 ⟨(Nat.le_of_ble_eq_true rfl), (Nat.le_of_ble_eq_true rfl)⟩) hP hD hS hA (fun r3 u4 H locs hp9 hP hD hS => ?_)
  have hP : va_P D vwCl (MW dA h ad (MS.s_cod x 0)) H := hP
  have hD : va_D A (MW dA h ad (MS.s_cod x 0)) := hD
  replace hp9 : nI (cnt x.points (x.btw w a b false)) = r3 := Eq.symm hp9
  subst hp9
  refine lv_istore hx hb d_M_delete_53 hl (by decide) rfl (fun ls hl => ?_)
  have hl : lv_has ls 7 [(6, .int (nI (cnt x.points (x.btw w a b false)))), (0, .ref h), (1, .int (nI w)), (2, .long a), (4, .long b)] := hl
  refine lv_iload hx hb d_M_delete_55 (lv_at hl 0 rfl) ?_
  have bz := cnt_le x.points (x.btw w a b false)
  refine lv_if_ne hx hb d_M_delete_57 (tgt := 62) rfl (fun _ => ?_) (fun h9 => absurd h9 (mt (nI_eq (a := cnt x.points (x.btw w a b false)) (b := 0) (by omega) (by omega)).mp n0))
  refine lv_aload_n hx hb d_M_delete_62 rfl (lv_at hl 1 rfl) ?_
  refine lv_iload_n hx hb d_M_delete_63 rfl (lv_at hl 2 rfl) ?_
  refine lv_lload_n hx hb d_M_delete_64 rfl (lv_at hl 3 rfl) ?_
  refine lv_lload hx hb d_M_delete_65 (lv_at hl 4 rfl) ?_
  refine lv_iconst (v := 1) hx hb d_M_delete_67 (by decide) ?_
  refine jfI (rnV (As := [.int (nI w), .long a, .long b, .int 1]) (rest := []) hx hb hml hown hE hK (hN _ _ hS) hP hD (k_between l D dA H.size h ad (MS.s_cod x 0) w a b true (show x.points ≤ 12000 from by omega) (show w < 256 from by omega) hs) (q0 := 0) rfl rfl w897 w896 w898 w899 w328 rfl rfl ⟨⟨by decide, by decide⟩, rfl⟩ ⟨(Nat.le_of_ble_eq_true rfl), (Nat.le_of_ble_eq_true rfl)⟩ rfl hl.1 rfl (Nat.le_of_ble_eq_true rfl) d_M_delete_68 ⟨(Nat.le_of_ble_eq_true rfl), (Nat.le_of_ble_eq_true rfl)⟩) hP hD hS hA (fun r5 u6 H locs hp9 hP hD hS => ?_)
  have hP : va_P D vwCl (MW dA h ad (MS.s_cod x 0)) H := hP
  have hD : va_D A (MW dA h ad (MS.s_cod x 0)) := hD
  replace hp9 : nI (cnt x.points (x.btw w a b true)) = r5 := Eq.symm hp9
  subst hp9
  have bz2 := cnt_le x.points (x.btw w a b true)
  refine lv_if_le hx hb d_M_delete_71 (tgt := 83) rfl (fun g7 => ?_) (fun g7 => ?_)
  · have g7 := (nI_leI (a := cnt x.points (x.btw w a b true)) (b := 0) (by omega) (by decide)).mp g7
    refine lv_aload_n hx hb d_M_delete_83 rfl (lv_at hl 1 rfl) ?_
    refine lv_iconst (v := 1) hx hb d_M_delete_84 (by decide) ?_
    refine jfI (rnV (As := [.int 1]) (rest := []) hx hb hml hown hE hK (hN _ _ hS) hP hD (k_hasRoom l D dA H.size h ad (MS.s_cod x 0) 1 (show x.used + 1 < 2 ^ 31 from by omega) (show x.block + 1 < 2 ^ 31 from by omega) (show x.journal < 2 ^ 31 from by omega)) (q0 := 0) rfl rfl w867 w866 w868 w869 w328 rfl rfl ⟨⟨by decide, by decide⟩, rfl⟩ ⟨(Nat.le_of_ble_eq_true rfl), (Nat.le_of_ble_eq_true rfl)⟩ rfl hl.1 rfl (Nat.le_of_ble_eq_true rfl) d_M_delete_85 ⟨(Nat.le_of_ble_eq_true rfl), (Nat.le_of_ble_eq_true rfl)⟩) hP hD hS hA (fun r8 u9 H locs hp9 hP hD hS => ?_)
    have hP : va_P D vwCl (MW dA h ad (MS.s_cod x 0)) H := hP
    have hD : va_D A (MW dA h ad (MS.s_cod x 0)) := hD
    replace hp9 : bI (x.room 1) = r8 := Eq.symm hp9
    subst hp9
    refine lv_if_ne hx hb d_M_delete_88 (tgt := 98) rfl (fun _ => ?_) (fun h9 => absurd h9 (by rw [hro]; decide))
    refine lv_aload_n hx hb d_M_delete_98 rfl (lv_at hl 1 rfl) ?_
    refine lv_iconst (v := 2) hx hb d_M_delete_99 (by decide) ?_
    refine lv_iload_n hx hb d_M_delete_100 rfl (lv_at hl 2 rfl) ?_
    refine lv_lload_n hx hb d_M_delete_101 rfl (lv_at hl 3 rfl) ?_
    refine lv_lload hx hb d_M_delete_102 (lv_at hl 4 rfl) ?_
    refine lv_iconst (v := 1) hx hb d_M_delete_104 (by decide) ?_
    refine jfI (rnV (As := [.int 2, .int (nI w), .long a, .long b, .int 1]) (rest := []) hx hb hml hown hE hK (hN _ _ hS) hP hD (k_record l D dA H.size h ad (MS.s_cod x 0) 2 w a b 1 (by decide) (show x.records < 32000 from by omega) (show x.used + 1 < 2 ^ 31 from by omega) (show x.block < 2 ^ 30 from by omega) hcr) (q0 := 0) rfl rfl w889 w888 w890 w891 w328 rfl rfl ⟨⟨by decide, by decide⟩, rfl⟩ ⟨(Nat.le_of_ble_eq_true rfl), (Nat.le_of_ble_eq_true rfl)⟩ rfl hl.1 rfl (Nat.le_of_ble_eq_true rfl) d_M_delete_105 ⟨(Nat.le_of_ble_eq_true rfl), (Nat.le_of_ble_eq_true rfl)⟩) hP hD hS hA (fun r10 u11 H locs hp9 hP hD hS => ?_)
    have hP : va_P D vwCl (MW dA h ad (MS.s_fresh (MS.s_used (MS.s_block (MS.s_kept (MS.s_records (MS.s_recordBlocks (MS.s_units (MS.s_seconds (MS.s_firsts (MS.s_recordSeries (MS.s_kinds (MS.s_written (MS.s_cutLeft (MS.s_cod x 0) (x.rCut 1)) (x.rWr 1)) (va_up x.kinds x.records 2)) (va_up x.recordSeries x.records w)) (va_up x.firsts x.records a)) (va_up x.seconds x.records b)) (va_up x.units x.records 1)) (va_up x.recordBlocks x.records (x.rBlock 1))) (x.records + 1)) (x.rKept 1)) (x.rBlock 1)) (x.rUsed 1)) true)) H := hP
    have hD : va_D A (MW dA h ad (MS.s_fresh (MS.s_used (MS.s_block (MS.s_kept (MS.s_records (MS.s_recordBlocks (MS.s_units (MS.s_seconds (MS.s_firsts (MS.s_recordSeries (MS.s_kinds (MS.s_written (MS.s_cutLeft (MS.s_cod x 0) (x.rCut 1)) (x.rWr 1)) (va_up x.kinds x.records 2)) (va_up x.recordSeries x.records w)) (va_up x.firsts x.records a)) (va_up x.seconds x.records b)) (va_up x.units x.records 1)) (va_up x.recordBlocks x.records (x.rBlock 1))) (x.records + 1)) (x.rKept 1)) (x.rBlock 1)) (x.rUsed 1)) true)) := hD
    replace hp9 : bI true = r10 := Eq.symm hp9
    subst hp9
    refine lv_if_ne hx hb d_M_delete_108 (tgt := 118) rfl (fun _ => ?_) (fun h9 => absurd h9 (by decide))
    refine lv_aload_n hx hb d_M_delete_118 rfl (lv_at hl 1 rfl) ?_
    refine lv_iload_n hx hb d_M_delete_119 rfl (lv_at hl 2 rfl) ?_
    refine lv_lload_n hx hb d_M_delete_120 rfl (lv_at hl 3 rfl) ?_
    refine lv_lload hx hb d_M_delete_121 (lv_at hl 4 rfl) ?_
    refine jfI (rnV (As := [.int (nI w), .long a, .long b]) (rest := []) hx hb hml hown hE hK (hN _ _ hS) hP hD (k_go l D dA H.size h ad (MS.s_fresh (MS.s_used (MS.s_block (MS.s_kept (MS.s_records (MS.s_recordBlocks (MS.s_units (MS.s_seconds (MS.s_firsts (MS.s_recordSeries (MS.s_kinds (MS.s_written (MS.s_cutLeft (MS.s_cod x 0) (x.rCut 1)) (x.rWr 1)) (va_up x.kinds x.records 2)) (va_up x.recordSeries x.records w)) (va_up x.firsts x.records a)) (va_up x.seconds x.records b)) (va_up x.units x.records 1)) (va_up x.recordBlocks x.records (x.rBlock 1))) (x.records + 1)) (x.rKept 1)) (x.rBlock 1)) (x.rUsed 1)) true) w a b (show x.points ≤ 12000 from by omega) (show x.deletes < 2 ^ 30 from by omega) (show w < 256 from by omega) hs) (q0 := 0) rfl rfl w901 w900 w902 w903 w328 rfl rfl ⟨⟨by decide, by decide⟩, rfl⟩ ⟨(Nat.le_of_ble_eq_true rfl), (Nat.le_of_ble_eq_true rfl)⟩ rfl hl.1 rfl (Nat.le_of_ble_eq_true rfl) d_M_delete_123 ⟨(Nat.le_of_ble_eq_true rfl), (Nat.le_of_ble_eq_true rfl)⟩) hP hD hS hA (fun r12 u13 H locs hp9 hP hD hS => ?_)
    have hP : va_P D vwCl (MW dA h ad (MS.s_fresh (MS.s_used (MS.s_block (MS.s_kept (MS.s_records (MS.s_recordBlocks (MS.s_units (MS.s_seconds (MS.s_firsts (MS.s_recordSeries (MS.s_kinds (MS.s_deletes (MS.s_hidden (MS.s_places (MS.s_written (MS.s_cutLeft (MS.s_cod x 0) (x.rCut 1)) (x.rWr 1)) (mapT x.points (x.hit w a b) x.gP x.places)) (mapT x.points (x.hit w a b) x.gH x.hidden)) (x.deletes + 1)) (va_up x.kinds x.records 2)) (va_up x.recordSeries x.records w)) (va_up x.firsts x.records a)) (va_up x.seconds x.records b)) (va_up x.units x.records 1)) (va_up x.recordBlocks x.records (x.rBlock 1))) (x.records + 1)) (x.rKept 1)) (x.rBlock 1)) (x.rUsed 1)) true)) H := hP
    have hD : va_D A (MW dA h ad (MS.s_fresh (MS.s_used (MS.s_block (MS.s_kept (MS.s_records (MS.s_recordBlocks (MS.s_units (MS.s_seconds (MS.s_firsts (MS.s_recordSeries (MS.s_kinds (MS.s_deletes (MS.s_hidden (MS.s_places (MS.s_written (MS.s_cutLeft (MS.s_cod x 0) (x.rCut 1)) (x.rWr 1)) (mapT x.points (x.hit w a b) x.gP x.places)) (mapT x.points (x.hit w a b) x.gH x.hidden)) (x.deletes + 1)) (va_up x.kinds x.records 2)) (va_up x.recordSeries x.records w)) (va_up x.firsts x.records a)) (va_up x.seconds x.records b)) (va_up x.units x.records 1)) (va_up x.recordBlocks x.records (x.rBlock 1))) (x.records + 1)) (x.rKept 1)) (x.rBlock 1)) (x.rUsed 1)) true)) := hD
    replace hp9 : nI (cnt x.points (x.hit w a b)) = r12 := Eq.symm hp9
    subst hp9
    exact rfI hx hb hr hlk hS (MS.s_fresh (MS.s_used (MS.s_block (MS.s_kept (MS.s_records (MS.s_recordBlocks (MS.s_units (MS.s_seconds (MS.s_firsts (MS.s_recordSeries (MS.s_kinds (MS.s_deletes (MS.s_hidden (MS.s_places (MS.s_written (MS.s_cutLeft (MS.s_cod x 0) (x.rCut 1)) (x.rWr 1)) (mapT x.points (x.hit w a b) x.gP x.places)) (mapT x.points (x.hit w a b) x.gH x.hidden)) (x.deletes + 1)) (va_up x.kinds x.records 2)) (va_up x.recordSeries x.records w)) (va_up x.firsts x.records a)) (va_up x.seconds x.records b)) (va_up x.units x.records 1)) (va_up x.recordBlocks x.records (x.rBlock 1))) (x.records + 1)) (x.rKept 1)) (x.rBlock 1)) (x.rUsed 1)) true) ⟨rfl, rfl⟩ hP hD (Nat.le_of_ble_eq_true rfl) (Nat.le_of_ble_eq_true rfl) d_M_delete_126
  · have g7 := mt (nI_leI (a := cnt x.points (x.btw w a b true)) (b := 0) (by omega) (by decide)).mpr g7
    refine lv_aload_n hx hb d_M_delete_74 rfl (lv_at hl 1 rfl) ?_
    refine jfI (rnV (As := []) (rest := []) hx hb hml hown hE hK (hN _ _ hS) hP hD (k_scars l D dA H.size h ad (MS.s_cod x 0) (show x.points ≤ 12000 from by omega)) (q0 := 0) rfl rfl w443 w442 w444 w445 w328 rfl rfl ⟨⟨by decide, by decide⟩, rfl⟩ ⟨(Nat.le_of_ble_eq_true rfl), (Nat.le_of_ble_eq_true rfl)⟩ rfl hl.1 rfl (Nat.le_of_ble_eq_true rfl) d_M_delete_75 ⟨(Nat.le_of_ble_eq_true rfl), (Nat.le_of_ble_eq_true rfl)⟩) hP hD hS hA (fun r14 u15 H locs hp9 hP hD hS => ?_)
    have hP : va_P D vwCl (MW dA h ad (MS.s_cod x 0)) H := hP
    have hD : va_D A (MW dA h ad (MS.s_cod x 0)) := hD
    replace hp9 : nI (cnt x.points x.firstOf) = r14 := Eq.symm hp9
    subst hp9
    refine lv_bipush (v := 64) hx hb d_M_delete_78 (by decide) ?_
    have bz3 := cnt_le x.points x.firstOf
    refine lv_icmp_eq hx hb d_M_delete_80 (tgt := 91) rfl (fun g16 => ?_) (fun g16 => ?_)
    · have g16 := (nI_eq (a := cnt x.points x.firstOf) (b := 64) (by omega) (by omega)).mp g16; exfalso; omega
    have g16 := mt (nI_eq (a := cnt x.points x.firstOf) (b := 64) (by omega) (by omega)).mpr g16
    refine lv_aload_n hx hb d_M_delete_83 rfl (lv_at hl 1 rfl) ?_
    refine lv_iconst (v := 1) hx hb d_M_delete_84 (by decide) ?_
    refine jfI (rnV (As := [.int 1]) (rest := []) hx hb hml hown hE hK (hN _ _ hS) hP hD (k_hasRoom l D dA H.size h ad (MS.s_cod x 0) 1 (show x.used + 1 < 2 ^ 31 from by omega) (show x.block + 1 < 2 ^ 31 from by omega) (show x.journal < 2 ^ 31 from by omega)) (q0 := 0) rfl rfl w867 w866 w868 w869 w328 rfl rfl ⟨⟨by decide, by decide⟩, rfl⟩ ⟨(Nat.le_of_ble_eq_true rfl), (Nat.le_of_ble_eq_true rfl)⟩ rfl hl.1 rfl (Nat.le_of_ble_eq_true rfl) d_M_delete_85 ⟨(Nat.le_of_ble_eq_true rfl), (Nat.le_of_ble_eq_true rfl)⟩) hP hD hS hA (fun r17 u18 H locs hp9 hP hD hS => ?_)
    have hP : va_P D vwCl (MW dA h ad (MS.s_cod x 0)) H := hP
    have hD : va_D A (MW dA h ad (MS.s_cod x 0)) := hD
    replace hp9 : bI (x.room 1) = r17 := Eq.symm hp9
    subst hp9
    refine lv_if_ne hx hb d_M_delete_88 (tgt := 98) rfl (fun _ => ?_) (fun h9 => absurd h9 (by rw [hro]; decide))
    refine lv_aload_n hx hb d_M_delete_98 rfl (lv_at hl 1 rfl) ?_
    refine lv_iconst (v := 2) hx hb d_M_delete_99 (by decide) ?_
    refine lv_iload_n hx hb d_M_delete_100 rfl (lv_at hl 2 rfl) ?_
    refine lv_lload_n hx hb d_M_delete_101 rfl (lv_at hl 3 rfl) ?_
    refine lv_lload hx hb d_M_delete_102 (lv_at hl 4 rfl) ?_
    refine lv_iconst (v := 1) hx hb d_M_delete_104 (by decide) ?_
    refine jfI (rnV (As := [.int 2, .int (nI w), .long a, .long b, .int 1]) (rest := []) hx hb hml hown hE hK (hN _ _ hS) hP hD (k_record l D dA H.size h ad (MS.s_cod x 0) 2 w a b 1 (by decide) (show x.records < 32000 from by omega) (show x.used + 1 < 2 ^ 31 from by omega) (show x.block < 2 ^ 30 from by omega) hcr) (q0 := 0) rfl rfl w889 w888 w890 w891 w328 rfl rfl ⟨⟨by decide, by decide⟩, rfl⟩ ⟨(Nat.le_of_ble_eq_true rfl), (Nat.le_of_ble_eq_true rfl)⟩ rfl hl.1 rfl (Nat.le_of_ble_eq_true rfl) d_M_delete_105 ⟨(Nat.le_of_ble_eq_true rfl), (Nat.le_of_ble_eq_true rfl)⟩) hP hD hS hA (fun r19 u20 H locs hp9 hP hD hS => ?_)
    have hP : va_P D vwCl (MW dA h ad (MS.s_fresh (MS.s_used (MS.s_block (MS.s_kept (MS.s_records (MS.s_recordBlocks (MS.s_units (MS.s_seconds (MS.s_firsts (MS.s_recordSeries (MS.s_kinds (MS.s_written (MS.s_cutLeft (MS.s_cod x 0) (x.rCut 1)) (x.rWr 1)) (va_up x.kinds x.records 2)) (va_up x.recordSeries x.records w)) (va_up x.firsts x.records a)) (va_up x.seconds x.records b)) (va_up x.units x.records 1)) (va_up x.recordBlocks x.records (x.rBlock 1))) (x.records + 1)) (x.rKept 1)) (x.rBlock 1)) (x.rUsed 1)) true)) H := hP
    have hD : va_D A (MW dA h ad (MS.s_fresh (MS.s_used (MS.s_block (MS.s_kept (MS.s_records (MS.s_recordBlocks (MS.s_units (MS.s_seconds (MS.s_firsts (MS.s_recordSeries (MS.s_kinds (MS.s_written (MS.s_cutLeft (MS.s_cod x 0) (x.rCut 1)) (x.rWr 1)) (va_up x.kinds x.records 2)) (va_up x.recordSeries x.records w)) (va_up x.firsts x.records a)) (va_up x.seconds x.records b)) (va_up x.units x.records 1)) (va_up x.recordBlocks x.records (x.rBlock 1))) (x.records + 1)) (x.rKept 1)) (x.rBlock 1)) (x.rUsed 1)) true)) := hD
    replace hp9 : bI true = r19 := Eq.symm hp9
    subst hp9
    refine lv_if_ne hx hb d_M_delete_108 (tgt := 118) rfl (fun _ => ?_) (fun h9 => absurd h9 (by decide))
    refine lv_aload_n hx hb d_M_delete_118 rfl (lv_at hl 1 rfl) ?_
    refine lv_iload_n hx hb d_M_delete_119 rfl (lv_at hl 2 rfl) ?_
    refine lv_lload_n hx hb d_M_delete_120 rfl (lv_at hl 3 rfl) ?_
    refine lv_lload hx hb d_M_delete_121 (lv_at hl 4 rfl) ?_
    refine jfI (rnV (As := [.int (nI w), .long a, .long b]) (rest := []) hx hb hml hown hE hK (hN _ _ hS) hP hD (k_go l D dA H.size h ad (MS.s_fresh (MS.s_used (MS.s_block (MS.s_kept (MS.s_records (MS.s_recordBlocks (MS.s_units (MS.s_seconds (MS.s_firsts (MS.s_recordSeries (MS.s_kinds (MS.s_written (MS.s_cutLeft (MS.s_cod x 0) (x.rCut 1)) (x.rWr 1)) (va_up x.kinds x.records 2)) (va_up x.recordSeries x.records w)) (va_up x.firsts x.records a)) (va_up x.seconds x.records b)) (va_up x.units x.records 1)) (va_up x.recordBlocks x.records (x.rBlock 1))) (x.records + 1)) (x.rKept 1)) (x.rBlock 1)) (x.rUsed 1)) true) w a b (show x.points ≤ 12000 from by omega) (show x.deletes < 2 ^ 30 from by omega) (show w < 256 from by omega) hs) (q0 := 0) rfl rfl w901 w900 w902 w903 w328 rfl rfl ⟨⟨by decide, by decide⟩, rfl⟩ ⟨(Nat.le_of_ble_eq_true rfl), (Nat.le_of_ble_eq_true rfl)⟩ rfl hl.1 rfl (Nat.le_of_ble_eq_true rfl) d_M_delete_123 ⟨(Nat.le_of_ble_eq_true rfl), (Nat.le_of_ble_eq_true rfl)⟩) hP hD hS hA (fun r21 u22 H locs hp9 hP hD hS => ?_)
    have hP : va_P D vwCl (MW dA h ad (MS.s_fresh (MS.s_used (MS.s_block (MS.s_kept (MS.s_records (MS.s_recordBlocks (MS.s_units (MS.s_seconds (MS.s_firsts (MS.s_recordSeries (MS.s_kinds (MS.s_deletes (MS.s_hidden (MS.s_places (MS.s_written (MS.s_cutLeft (MS.s_cod x 0) (x.rCut 1)) (x.rWr 1)) (mapT x.points (x.hit w a b) x.gP x.places)) (mapT x.points (x.hit w a b) x.gH x.hidden)) (x.deletes + 1)) (va_up x.kinds x.records 2)) (va_up x.recordSeries x.records w)) (va_up x.firsts x.records a)) (va_up x.seconds x.records b)) (va_up x.units x.records 1)) (va_up x.recordBlocks x.records (x.rBlock 1))) (x.records + 1)) (x.rKept 1)) (x.rBlock 1)) (x.rUsed 1)) true)) H := hP
    have hD : va_D A (MW dA h ad (MS.s_fresh (MS.s_used (MS.s_block (MS.s_kept (MS.s_records (MS.s_recordBlocks (MS.s_units (MS.s_seconds (MS.s_firsts (MS.s_recordSeries (MS.s_kinds (MS.s_deletes (MS.s_hidden (MS.s_places (MS.s_written (MS.s_cutLeft (MS.s_cod x 0) (x.rCut 1)) (x.rWr 1)) (mapT x.points (x.hit w a b) x.gP x.places)) (mapT x.points (x.hit w a b) x.gH x.hidden)) (x.deletes + 1)) (va_up x.kinds x.records 2)) (va_up x.recordSeries x.records w)) (va_up x.firsts x.records a)) (va_up x.seconds x.records b)) (va_up x.units x.records 1)) (va_up x.recordBlocks x.records (x.rBlock 1))) (x.records + 1)) (x.rKept 1)) (x.rBlock 1)) (x.rUsed 1)) true)) := hD
    replace hp9 : nI (cnt x.points (x.hit w a b)) = r21 := Eq.symm hp9
    subst hp9
    exact rfI hx hb hr hlk hS (MS.s_fresh (MS.s_used (MS.s_block (MS.s_kept (MS.s_records (MS.s_recordBlocks (MS.s_units (MS.s_seconds (MS.s_firsts (MS.s_recordSeries (MS.s_kinds (MS.s_deletes (MS.s_hidden (MS.s_places (MS.s_written (MS.s_cutLeft (MS.s_cod x 0) (x.rCut 1)) (x.rWr 1)) (mapT x.points (x.hit w a b) x.gP x.places)) (mapT x.points (x.hit w a b) x.gH x.hidden)) (x.deletes + 1)) (va_up x.kinds x.records 2)) (va_up x.recordSeries x.records w)) (va_up x.firsts x.records a)) (va_up x.seconds x.records b)) (va_up x.units x.records 1)) (va_up x.recordBlocks x.records (x.rBlock 1))) (x.records + 1)) (x.rKept 1)) (x.rBlock 1)) (x.rUsed 1)) true) ⟨rfl, rfl⟩ hP hD (Nat.le_of_ble_eq_true rfl) (Nat.le_of_ble_eq_true rfl) d_M_delete_126
end
section
/-- a time that may come -/
def MS.okT (x : MS) (w : Nat) (t : Int64) : Prop := ¬ t < 0 ∧ ¬ 1099511627775 < t ∧ ¬ t ≤ x.lasts w ∧ x.horizon ≤ t
def MS.okS (x : MS) (w : Nat) (t : Int64) : Prop := x.okT w t ∧ x.room 1 = true
theorem blk3 {y : MS} {w n k : Nat} {t : Int64} (hst : k < n → y.okS w t) (hen : n ≤ k → ¬ y.okS w t) : (k < n ∧ y.okS w t) ∨ (n ≤ k ∧ (t < 0 ∨ 1099511627775 < t ∨ t ≤ y.lasts w ∨ t < y.horizon)) ∨ (n ≤ k ∧ y.okT w t ∧ y.room 1 = false) := by
  rcases Nat.lt_or_ge k n with h | h
  · exact Or.inl ⟨h, hst h⟩
  · have hn := hen h
    refine Or.inr ?_
    by_cases h1 : t < 0
    · exact Or.inl ⟨h, Or.inl h1⟩
    by_cases h2 : 1099511627775 < t
    · exact Or.inl ⟨h, Or.inr (Or.inl h2)⟩
    by_cases h3 : t ≤ y.lasts w
    · exact Or.inl ⟨h, Or.inr (Or.inr (Or.inl h3))⟩
    by_cases h4 : y.horizon ≤ t
    · refine Or.inr ⟨h, ⟨h1, h2, h3, h4⟩, ?_⟩
      cases e : y.room 1 with
      | false => rfl
      | true => exact absurd ⟨⟨h1, h2, h3, h4⟩, e⟩ hn
    · exact Or.inl ⟨h, Or.inr (Or.inr (Or.inr (Int64.not_le.mp h4)))⟩
/-- k points of the tape come -/
def MS.blkS (x : MS) (w : Nat) : Nat → MS
  | 0 => x
  | k + 1 => ((x.blkS w k).recS 1 w (numB x.tape (16 * k) 8) (numB x.tape (16 * k + 8) 8) 1).comS w (numB x.tape (16 * k) 8) (numB x.tape (16 * k + 8) 8)
theorem rUsed_le {x : MS} {n : Nat} (h : n ≤ 126) : x.rUsed n ≤ 126 := by
  unfold MS.rUsed
  split <;> omega
theorem rBlock_le (x : MS) (n : Nat) : x.rBlock n ≤ x.block + 1 := by
  unfold MS.rBlock
  split <;> omega
set_option maxHeartbeats 4000000 in
set_option maxRecDepth 100000 in
theorem k_bulk_1 (l : Launch) (D : va_G) (dA : Nat → ClassId) (sz : Nat) (h : Nat) (ad : Nat → Nat) (x : MS) (z : Int32) (ho : x.on = false) : Met l ⟨"SeriesVaultModel", "bulk", "(I)I"⟩ [Cond.code ⟨"SeriesVaultModel", "bulk", "(I)I"⟩ prog_14_method_36_code 7 (some FieldType.int)] { frames := 2, cells := 0, slots := 0, locals := 21 } (pC D dA [.ref h, .int z] (MW dA h ad x) sz) (va_Qi (fun (r9 : Int32) (u9 : Unit) => r9 = 0) (fun (u9 : Unit) t9 => bW D (va_A (MW dA h ad x) sz) (MW dA h ad (MS.s_cod x 1)) t9) (va_A (MW dA h ad x) sz)) 0 0 (va_A (MW dA h ad x) sz) := by
  refine mkC (y := ⟨"SeriesVaultModel", "bulk", "(I)I"⟩) (cc := prog_14_method_36_code) (maxL := 7) (av := [.ref h, .int z]) (ws := MW dA h ad x) (sz := sz) (Qc := fun A => va_Qi (fun (r9 : Int32) (u9 : Unit) => r9 = 0) (fun (u9 : Unit) t9 => bW D A (MW dA h ad (MS.s_cod x 1)) t9) A) (by decide) (Nat.le_of_ble_eq_true rfl) ?_
  intro A p e s m below meth c ls hsz hB
  obtain ⟨hx, hb, hr, hml, hown, hin, hlk, hE, hK, hP, hD, hS, hA, hN, hl⟩ := hB
  have hown : s.vm.findClass "SeriesVaultModel" = some m.cls := hown
  have hl : lv_has ls 7 [(0, .ref h), (1, .int z)] := hl
  obtain ⟨H, hH⟩ : ∃ z, z = s.heap := ⟨_, rfl⟩
  have hP : va_P D vwCl (MW dA h ad x) H := by rw [hH]; exact hP
  have hS : va_S A s.heap H [] := by rw [hH]; exact hS
  rw [← hH]
  refine lv_aload_n hx hb d_M_bulk_0 rfl (lv_at hl 0 rfl) ?_
  refine lv_aload_n hx hb d_M_bulk_1 rfl (lv_at hl 0 rfl) ?_
  refine lv_iload_n hx hb d_M_bulk_2 rfl (lv_at hl 1 rfl) ?_
  refine jfI (rnV (As := [.int z]) (rest := [.ref h]) hx hb hml hown hE hK (hN _ _ hS) hP hD (k_seriesFault_1 l D dA H.size h ad x z ho) (q0 := 0) rfl rfl w334 w333 w335 w336 w328 rfl rfl ⟨⟨by decide, by decide⟩, rfl⟩ ⟨(Nat.le_of_ble_eq_true rfl), (Nat.le_of_ble_eq_true rfl)⟩ rfl hl.1 rfl (Nat.le_of_ble_eq_true rfl) d_M_bulk_3 ⟨(Nat.le_of_ble_eq_true rfl), (Nat.le_of_ble_eq_true rfl)⟩) hP hD hS hA (fun r1 u2 H locs hp9 hP hD hS => ?_)
  have hP : va_P D vwCl (MW dA h ad x) H := hP
  have hD : va_D A (MW dA h ad x) := hD
  replace hp9 : 1 = r1 := Eq.symm hp9
  subst hp9
  refine pF (v := .int 1) hx hb hown hE hK hP hD hS 0 rfl rfl layM tyM tokM nmM 0 (by decide) w319 rfl rfl rfl (Nat.le_of_ble_eq_true rfl) d_M_bulk_6 (fun H locs hP hD hS => ?_)
  have hP : va_P D vwCl (MW dA h ad (MS.s_cod x 1)) H := hP
  have hD : va_D A (MW dA h ad (MS.s_cod x 1)) := hD
  refine lv_aload_n hx hb d_M_bulk_9 rfl (lv_at hl 0 rfl) ?_
  refine gF (v := .int 1) hx hb hown hE hK hP 0 rfl rfl layM 0 (by decide) w319 rfl d_M_bulk_10 ?_
  refine lv_if_le hx hb d_M_bulk_13 (tgt := 18) rfl (fun h9 => absurd h9 (by decide)) (fun _ => ?_)
  refine lv_iconst (v := 0) hx hb d_M_bulk_16 (by decide) ?_
  exact rfI hx hb hr hlk hS () rfl hP hD (Nat.le_of_ble_eq_true rfl) (Nat.le_of_ble_eq_true rfl) d_M_bulk_17
set_option maxHeartbeats 4000000 in
set_option maxRecDepth 100000 in
theorem k_bulk_2 (l : Launch) (D : va_G) (dA : Nat → ClassId) (sz : Nat) (h : Nat) (ad : Nat → Nat) (x : MS) (z : Int32) (ho : x.on = true) (h0 : z < 0 ∨ nI x.seriesCount ≤ z) : Met l ⟨"SeriesVaultModel", "bulk", "(I)I"⟩ [Cond.code ⟨"SeriesVaultModel", "bulk", "(I)I"⟩ prog_14_method_36_code 7 (some FieldType.int)] { frames := 2, cells := 0, slots := 0, locals := 21 } (pC D dA [.ref h, .int z] (MW dA h ad x) sz) (va_Qi (fun (r9 : Int32) (u9 : Unit) => r9 = 0) (fun (u9 : Unit) t9 => bW D (va_A (MW dA h ad x) sz) (MW dA h ad (MS.s_cod x 2)) t9) (va_A (MW dA h ad x) sz)) 0 0 (va_A (MW dA h ad x) sz) := by
  refine mkC (y := ⟨"SeriesVaultModel", "bulk", "(I)I"⟩) (cc := prog_14_method_36_code) (maxL := 7) (av := [.ref h, .int z]) (ws := MW dA h ad x) (sz := sz) (Qc := fun A => va_Qi (fun (r9 : Int32) (u9 : Unit) => r9 = 0) (fun (u9 : Unit) t9 => bW D A (MW dA h ad (MS.s_cod x 2)) t9) A) (by decide) (Nat.le_of_ble_eq_true rfl) ?_
  intro A p e s m below meth c ls hsz hB
  obtain ⟨hx, hb, hr, hml, hown, hin, hlk, hE, hK, hP, hD, hS, hA, hN, hl⟩ := hB
  have hown : s.vm.findClass "SeriesVaultModel" = some m.cls := hown
  have hl : lv_has ls 7 [(0, .ref h), (1, .int z)] := hl
  obtain ⟨H, hH⟩ : ∃ z, z = s.heap := ⟨_, rfl⟩
  have hP : va_P D vwCl (MW dA h ad x) H := by rw [hH]; exact hP
  have hS : va_S A s.heap H [] := by rw [hH]; exact hS
  rw [← hH]
  refine lv_aload_n hx hb d_M_bulk_0 rfl (lv_at hl 0 rfl) ?_
  refine lv_aload_n hx hb d_M_bulk_1 rfl (lv_at hl 0 rfl) ?_
  refine lv_iload_n hx hb d_M_bulk_2 rfl (lv_at hl 1 rfl) ?_
  refine jfI (rnV (As := [.int z]) (rest := [.ref h]) hx hb hml hown hE hK (hN _ _ hS) hP hD (k_seriesFault_2 l D dA H.size h ad x z ho h0) (q0 := 0) rfl rfl w334 w333 w335 w336 w328 rfl rfl ⟨⟨by decide, by decide⟩, rfl⟩ ⟨(Nat.le_of_ble_eq_true rfl), (Nat.le_of_ble_eq_true rfl)⟩ rfl hl.1 rfl (Nat.le_of_ble_eq_true rfl) d_M_bulk_3 ⟨(Nat.le_of_ble_eq_true rfl), (Nat.le_of_ble_eq_true rfl)⟩) hP hD hS hA (fun r1 u2 H locs hp9 hP hD hS => ?_)
  have hP : va_P D vwCl (MW dA h ad x) H := hP
  have hD : va_D A (MW dA h ad x) := hD
  replace hp9 : 2 = r1 := Eq.symm hp9
  subst hp9
  refine pF (v := .int 2) hx hb hown hE hK hP hD hS 0 rfl rfl layM tyM tokM nmM 0 (by decide) w319 rfl rfl rfl (Nat.le_of_ble_eq_true rfl) d_M_bulk_6 (fun H locs hP hD hS => ?_)
  have hP : va_P D vwCl (MW dA h ad (MS.s_cod x 2)) H := hP
  have hD : va_D A (MW dA h ad (MS.s_cod x 2)) := hD
  refine lv_aload_n hx hb d_M_bulk_9 rfl (lv_at hl 0 rfl) ?_
  refine gF (v := .int 2) hx hb hown hE hK hP 0 rfl rfl layM 0 (by decide) w319 rfl d_M_bulk_10 ?_
  refine lv_if_le hx hb d_M_bulk_13 (tgt := 18) rfl (fun h9 => absurd h9 (by decide)) (fun _ => ?_)
  refine lv_iconst (v := 0) hx hb d_M_bulk_16 (by decide) ?_
  exact rfI hx hb hr hlk hS () rfl hP hD (Nat.le_of_ble_eq_true rfl) (Nat.le_of_ble_eq_true rfl) d_M_bulk_17
theorem d_M_bulk_18 : decode prog_14_method_36_code 18 = .ok (.iconst 0, 1) := by decide +kernel
theorem d_M_bulk_19 : decode prog_14_method_36_code 19 = .ok (.istore_n 2, 1) := by decide +kernel
theorem d_M_bulk_20 : decode prog_14_method_36_code 20 = .ok (.bipush 16, 2) := by decide +kernel
theorem d_M_bulk_22 : decode prog_14_method_36_code 22 = .ok (.iload_n 2, 1) := by decide +kernel
theorem d_M_bulk_23 : decode prog_14_method_36_code 23 = .ok (.imul, 1) := by decide +kernel
theorem d_M_bulk_24 : decode prog_14_method_36_code 24 = .ok (.bipush 16, 2) := by decide +kernel
theorem d_M_bulk_26 : decode prog_14_method_36_code 26 = .ok (.iadd, 1) := by decide +kernel
theorem d_M_bulk_27 : decode prog_14_method_36_code 27 = .ok (.aload_n 0, 1) := by decide +kernel
theorem d_M_bulk_28 : decode prog_14_method_36_code 28 = .ok (.getfield 148, 3) := by decide +kernel
theorem d_M_bulk_31 : decode prog_14_method_36_code 31 = .ok (.if_icmp .gt 80, 3) := by decide +kernel
theorem d_M_bulk_111 : decode prog_14_method_36_code 111 = .ok (.aload_n 0, 1) := by decide +kernel
theorem d_M_bulk_112 : decode prog_14_method_36_code 112 = .ok (.iconst 0, 1) := by decide +kernel
theorem d_M_bulk_113 : decode prog_14_method_36_code 113 = .ok (.putfield 148, 3) := by decide +kernel
theorem d_M_bulk_116 : decode prog_14_method_36_code 116 = .ok (.iload_n 2, 1) := by decide +kernel
theorem d_M_bulk_117 : decode prog_14_method_36_code 117 = .ok (.ireturn, 1) := by decide +kernel
theorem d_M_bulk_34 : decode prog_14_method_36_code 34 = .ok (.aload_n 0, 1) := by decide +kernel
theorem d_M_bulk_35 : decode prog_14_method_36_code 35 = .ok (.iload_n 1, 1) := by decide +kernel
theorem d_M_bulk_36 : decode prog_14_method_36_code 36 = .ok (.aload_n 0, 1) := by decide +kernel
theorem d_M_bulk_37 : decode prog_14_method_36_code 37 = .ok (.bipush 16, 2) := by decide +kernel
theorem d_M_bulk_39 : decode prog_14_method_36_code 39 = .ok (.iload_n 2, 1) := by decide +kernel
theorem d_M_bulk_40 : decode prog_14_method_36_code 40 = .ok (.imul, 1) := by decide +kernel
theorem d_M_bulk_41 : decode prog_14_method_36_code 41 = .ok (.invokevirtual 274, 3) := by decide +kernel
theorem d_M_bulk_44 : decode prog_14_method_36_code 44 = .ok (.invokevirtual 263, 3) := by decide +kernel
theorem d_M_bulk_47 : decode prog_14_method_36_code 47 = .ok (.ifCond .ne 64, 3) := by decide +kernel
theorem d_M_bulk_50 : decode prog_14_method_36_code 50 = .ok (.aload_n 0, 1) := by decide +kernel
theorem d_M_bulk_51 : decode prog_14_method_36_code 51 = .ok (.bipush 16, 2) := by decide +kernel
theorem d_M_bulk_53 : decode prog_14_method_36_code 53 = .ok (.iload_n 2, 1) := by decide +kernel
theorem d_M_bulk_54 : decode prog_14_method_36_code 54 = .ok (.imul, 1) := by decide +kernel
theorem d_M_bulk_55 : decode prog_14_method_36_code 55 = .ok (.invokevirtual 274, 3) := by decide +kernel
theorem d_M_bulk_58 : decode prog_14_method_36_code 58 = .ok (.lstore_n 3, 1) := by decide +kernel
theorem d_M_bulk_59 : decode prog_14_method_36_code 59 = .ok (.aload_n 0, 1) := by decide +kernel
theorem d_M_bulk_60 : decode prog_14_method_36_code 60 = .ok (.bipush 16, 2) := by decide +kernel
theorem d_M_bulk_62 : decode prog_14_method_36_code 62 = .ok (.iload_n 2, 1) := by decide +kernel
theorem d_M_bulk_63 : decode prog_14_method_36_code 63 = .ok (.imul, 1) := by decide +kernel
theorem d_M_bulk_64 : decode prog_14_method_36_code 64 = .ok (.bipush 8, 2) := by decide +kernel
theorem d_M_bulk_66 : decode prog_14_method_36_code 66 = .ok (.iadd, 1) := by decide +kernel
theorem d_M_bulk_67 : decode prog_14_method_36_code 67 = .ok (.invokevirtual 274, 3) := by decide +kernel
theorem d_M_bulk_70 : decode prog_14_method_36_code 70 = .ok (.lstore 5, 2) := by decide +kernel
theorem d_M_bulk_72 : decode prog_14_method_36_code 72 = .ok (.aload_n 0, 1) := by decide +kernel
theorem d_M_bulk_73 : decode prog_14_method_36_code 73 = .ok (.iconst 1, 1) := by decide +kernel
theorem d_M_bulk_74 : decode prog_14_method_36_code 74 = .ok (.iload_n 1, 1) := by decide +kernel
theorem d_M_bulk_75 : decode prog_14_method_36_code 75 = .ok (.lload_n 3, 1) := by decide +kernel
theorem d_M_bulk_76 : decode prog_14_method_36_code 76 = .ok (.lload 5, 2) := by decide +kernel
theorem d_M_bulk_78 : decode prog_14_method_36_code 78 = .ok (.iconst 1, 1) := by decide +kernel
theorem d_M_bulk_79 : decode prog_14_method_36_code 79 = .ok (.invokevirtual 250, 3) := by decide +kernel
theorem d_M_bulk_82 : decode prog_14_method_36_code 82 = .ok (.ifCond .ne 15, 3) := by decide +kernel
theorem d_M_bulk_97 : decode prog_14_method_36_code 97 = .ok (.aload_n 0, 1) := by decide +kernel
theorem d_M_bulk_98 : decode prog_14_method_36_code 98 = .ok (.iload_n 1, 1) := by decide +kernel
theorem d_M_bulk_99 : decode prog_14_method_36_code 99 = .ok (.lload_n 3, 1) := by decide +kernel
theorem d_M_bulk_100 : decode prog_14_method_36_code 100 = .ok (.lload 5, 2) := by decide +kernel
theorem d_M_bulk_102 : decode prog_14_method_36_code 102 = .ok (.invokevirtual 267, 3) := by decide +kernel
theorem d_M_bulk_105 : decode prog_14_method_36_code 105 = .ok (.iinc 2 1, 3) := by decide +kernel
theorem d_M_bulk_108 : decode prog_14_method_36_code 108 = .ok (.goto (-88), 3) := by decide +kernel
theorem w904 : Cond.methodLink "SeriesVaultModel" 274 ⟨"SeriesVaultModel", "number", "(I)J"⟩ ∈ aW := aw_of (tb_10 (List.mem_of_getElem? (i := 44) rfl)) rfl
theorem w905 : Cond.code ⟨"SeriesVaultModel", "number", "(I)J"⟩ prog_14_method_35_code 5 (some FieldType.long) ∈ aW := aw_of (tb_10 (List.mem_of_getElem? (i := 47) rfl)) rfl
theorem w906 : Cond.instanceMethod ⟨"SeriesVaultModel", "number", "(I)J"⟩ ∈ aW := aw_of (tb_10 (List.mem_of_getElem? (i := 46) rfl)) rfl
theorem w907 : Cond.selects "SeriesVaultModel" ⟨"SeriesVaultModel", "number", "(I)J"⟩ ⟨"SeriesVaultModel", "number", "(I)J"⟩ ∈ aW := aw_pr (List.mem_map.mpr ⟨_, pv_6 (List.mem_of_getElem? (i := 3) rfl), rfl⟩) rfl
set_option maxHeartbeats 4000000 in
set_option maxRecDepth 100000 in
theorem k_bulk_0 (l : Launch) (D : va_G) (dA : Nat → ClassId) (sz : Nat) (h : Nat) (ad : Nat → Nat) (x : MS) (w : Nat) (n : Nat) (ho : x.on = true) (hw : w < x.seriesCount) (hc : x.seriesCount ≤ 256) (u1 : x.used ≤ 126) (u2 : x.block < 2 ^ 19) (u3 : x.journal ≤ 256) (l1 : x.length ≤ 65536) (r1 : x.records + n < 32000) (r2 : x.points + n < 12000) (hst : ∀ k : Nat, k < n → 16 * k + 16 ≤ x.length ∧ ((x.s_cod 0).blkS w k).okS w (numB x.tape (16 * k) 8) ∧ ((x.s_cod 0).blkS w k).canR 1) (hen : x.length < 16 * n + 16 ∨ ¬ ((x.s_cod 0).blkS w n).okS w (numB x.tape (16 * n) 8)) : Met l ⟨"SeriesVaultModel", "bulk", "(I)I"⟩ [Cond.code ⟨"SeriesVaultModel", "bulk", "(I)I"⟩ prog_14_method_36_code 7 (some FieldType.int)] { frames := 4, cells := 0, slots := 0, locals := 67 } (pC D dA [.ref h, .int (nI w)] (MW dA h ad x) sz) (va_Qi (fun (r9 : Int32) (u9 : MS) => r9 = nI n ∧ u9 = ((x.s_cod 0).blkS w n).s_length 0) (fun (u9 : MS) t9 => bW D (va_A (MW dA h ad x) sz) (MW dA h ad u9) t9) (va_A (MW dA h ad x) sz)) 0 0 (va_A (MW dA h ad x) sz) := by
  refine mkC (y := ⟨"SeriesVaultModel", "bulk", "(I)I"⟩) (cc := prog_14_method_36_code) (maxL := 7) (av := [.ref h, .int (nI w)]) (ws := MW dA h ad x) (sz := sz) (Qc := fun A => va_Qi (fun (r9 : Int32) (u9 : MS) => r9 = nI n ∧ u9 = ((x.s_cod 0).blkS w n).s_length 0) (fun (u9 : MS) t9 => bW D A (MW dA h ad u9) t9) A) (by decide) (Nat.le_of_ble_eq_true rfl) ?_
  intro A p e s m below meth c ls hsz hB
  obtain ⟨hx, hb, hr, hml, hown, hin, hlk, hE, hK, hP, hD, hS, hA, hN, hl⟩ := hB
  have hown : s.vm.findClass "SeriesVaultModel" = some m.cls := hown
  have hl : lv_has ls 7 [(0, .ref h), (1, .int (nI w))] := hl
  obtain ⟨H, hH⟩ : ∃ z, z = s.heap := ⟨_, rfl⟩
  have hP : va_P D vwCl (MW dA h ad x) H := by rw [hH]; exact hP
  have hS : va_S A s.heap H [] := by rw [hH]; exact hS
  rw [← hH]
  refine lv_aload_n hx hb d_M_bulk_0 rfl (lv_at hl 0 rfl) ?_
  refine lv_aload_n hx hb d_M_bulk_1 rfl (lv_at hl 0 rfl) ?_
  refine lv_iload_n hx hb d_M_bulk_2 rfl (lv_at hl 1 rfl) ?_
  refine jfI (rnV (As := [.int (nI w)]) (rest := [.ref h]) hx hb hml hown hE hK (hN _ _ hS) hP hD (k_seriesFault_0 l D dA H.size h ad x w ho hw hc) (q0 := 0) rfl rfl w334 w333 w335 w336 w328 rfl rfl ⟨⟨by decide, by decide⟩, rfl⟩ ⟨(Nat.le_of_ble_eq_true rfl), (Nat.le_of_ble_eq_true rfl)⟩ rfl hl.1 rfl (Nat.le_of_ble_eq_true rfl) d_M_bulk_3 ⟨(Nat.le_of_ble_eq_true rfl), (Nat.le_of_ble_eq_true rfl)⟩) hP hD hS hA (fun r1 u2 H locs hp9 hP hD hS => ?_)
  have hP : va_P D vwCl (MW dA h ad x) H := hP
  have hD : va_D A (MW dA h ad x) := hD
  replace hp9 : 0 = r1 := Eq.symm hp9
  subst hp9
  refine pF (v := .int 0) hx hb hown hE hK hP hD hS 0 rfl rfl layM tyM tokM nmM 0 (by decide) w319 rfl rfl rfl (Nat.le_of_ble_eq_true rfl) d_M_bulk_6 (fun H locs hP hD hS => ?_)
  have hP : va_P D vwCl (MW dA h ad (MS.s_cod x 0)) H := hP
  have hD : va_D A (MW dA h ad (MS.s_cod x 0)) := hD
  refine lv_aload_n hx hb d_M_bulk_9 rfl (lv_at hl 0 rfl) ?_
  refine gF (v := .int 0) hx hb hown hE hK hP 0 rfl rfl layM 0 (by decide) w319 rfl d_M_bulk_10 ?_
  refine lv_if_le hx hb d_M_bulk_13 (tgt := 18) rfl (fun _ => ?_) (fun h9 => absurd (by decide) h9)
  refine lv_iconst (v := 0) hx hb d_M_bulk_18 (by decide) ?_
  refine lv_istore_n hx hb d_M_bulk_19 rfl hl (by decide) rfl (fun ls hl => ?_)
  have hl : lv_has ls 7 [(2, .int 0), (0, .ref h), (1, .int (nI w))] := hl
  have L20 : ∀ (k9 : Nat) (k : Nat) (y : MS) (ey : y = (x.s_cod 0).blkS w k) (k1 : k ≤ n) (y1 : y.points = x.points + k) (y2 : y.records = x.records + k) (y3 : y.tape = x.tape) (y4 : y.length = x.length) (y5 : y.used ≤ 126) (y6 : y.block ≤ x.block + k) (y7 : y.journal = x.journal) (y8 : y.on = true) (hk9 : n + 1 - k = k9), ∀ (H : Heap) (locs : List Loc) (ls : Array Slot) (hP : va_P D vwCl (MW dA h ad y) H) (hD : va_D A (MW dA h ad y)) (hS : va_S A s.heap H locs) (hl : lv_has ls 7 [(2, .int (nI k)), (1, .int (nI w)), (0, .ref h)]), W p l e ({ frames := 4, cells := 0, slots := 0, locals := 67 } : Room) s m ([.ref h, .int (nI w)] : List Value).toArray below meth c H locs 0 0 (MQ below (va_Qi (fun (r9 : Int32) (u9 : MS) => r9 = nI n ∧ u9 = ((x.s_cod 0).blkS w n).s_length 0) (fun (u9 : MS) t9 => bW D A (MW dA h ad u9) t9) A) ([.ref h, .int (nI w)] : List Value).toArray s 0 0 A) (F0 m 20 ls []) := by
    intro k9
    induction k9 using Nat.strongRecOn with
    | ind k9 ih20 =>
      intro k y ey k1 y1 y2 y3 y4 y5 y6 y7 y8 hk9 H locs ls hP hD hS hl
      refine lv_bipush (v := 16) hx hb d_M_bulk_20 (by decide) ?_
      refine lv_iload_n hx hb d_M_bulk_22 rfl (lv_at hl 0 rfl) ?_
      refine lv_imul hx hb d_M_bulk_23 (tpi (y := nI (16 * k)) (pk_mul (16) (k)) ?_)
      refine lv_bipush (v := 16) hx hb d_M_bulk_24 (by decide) ?_
      refine lv_iadd hx hb d_M_bulk_26 (tpi (y := nI ((16 * k) + 16)) (nI_add (16 * k) (16)) ?_)
      refine lv_aload_n hx hb d_M_bulk_27 rfl (lv_at hl 2 rfl) ?_
      refine gF (v := .int (nI y.length)) hx hb hown hE hK hP 0 rfl rfl layM 2 (by decide) w320 rfl d_M_bulk_28 ?_
      have z0 : k < n → 16 * k + 16 ≤ x.length := fun z => (hst k z).1
      refine lv_icmp_gt hx hb d_M_bulk_31 (tgt := 111) rfl (fun g3 => ?_) (fun g3 => ?_)
      · have g3 := (nI_ltI (a := y.length) (b := (16 * k) + 16) (by omega) (by omega)).mp g3
        refine lv_aload_n hx hb d_M_bulk_111 rfl (lv_at hl 2 rfl) ?_
        refine lv_iconst (v := 0) hx hb d_M_bulk_112 (by decide) ?_
        refine pF (v := .int (nI 0)) hx hb hown hE hK hP hD hS 0 rfl rfl layM tyM tokM nmM 2 (by decide) w320 rfl rfl rfl (Nat.le_of_ble_eq_true rfl) d_M_bulk_113 (fun H locs hP hD hS => ?_)
        have hP : va_P D vwCl (MW dA h ad (MS.s_length y 0)) H := hP
        have hD : va_D A (MW dA h ad (MS.s_length y 0)) := hD
        refine lv_iload_n hx hb d_M_bulk_116 rfl (lv_at hl 0 rfl) ?_
        exact rfI hx hb hr hlk hS (MS.s_length y 0) ⟨by rw [show k = n by omega], by rw [ey, show k = n by omega]⟩ hP hD (Nat.le_of_ble_eq_true rfl) (Nat.le_of_ble_eq_true rfl) d_M_bulk_117
      · have g3 := mt (nI_ltI (a := y.length) (b := (16 * k) + 16) (by omega) (by omega)).mpr g3
        refine lv_aload_n hx hb d_M_bulk_34 rfl (lv_at hl 2 rfl) ?_
        refine lv_iload_n hx hb d_M_bulk_35 rfl (lv_at hl 1 rfl) ?_
        refine lv_aload_n hx hb d_M_bulk_36 rfl (lv_at hl 2 rfl) ?_
        refine lv_bipush (v := 16) hx hb d_M_bulk_37 (by decide) ?_
        refine lv_iload_n hx hb d_M_bulk_39 rfl (lv_at hl 0 rfl) ?_
        refine lv_imul hx hb d_M_bulk_40 (tpi (y := nI (16 * k)) (pk_mul (16) (k)) ?_)
        refine jfL (rnV (As := [.int (nI (16 * k))]) (rest := [.int (nI w), .ref h]) hx hb hml hown hE hK (hN _ _ hS) hP hD (k_number l D dA H.size h ad y (16 * k) (show (16 * k) + 8 ≤ 65536 from by omega)) (q0 := 0) rfl rfl w905 w904 w906 w907 w328 rfl rfl ⟨⟨by decide, by decide⟩, rfl⟩ ⟨(Nat.le_of_ble_eq_true rfl), (Nat.le_of_ble_eq_true rfl)⟩ rfl hl.1 rfl (Nat.le_of_ble_eq_true rfl) d_M_bulk_41 ⟨(Nat.le_of_ble_eq_true rfl), (Nat.le_of_ble_eq_true rfl)⟩) hP hD hS hA (fun r4 u5 H locs hp9 hP hD hS => ?_)
        have hP : va_P D vwCl (MW dA h ad y) H := hP
        have hD : va_D A (MW dA h ad y) := hD
        replace hp9 : numB y.tape (16 * k) 8 = r4 := Eq.symm hp9
        subst hp9
        refine tpl (y := numB x.tape (16 * k) 8) (by rw [y3]) ?_
        rcases (blk3 (y := y) (w := w) (n := n) (k := k) (t := numB x.tape (16 * k) 8) (fun z => by rw [ey]; exact (hst k z).2.1) (fun z => by rw [ey, show k = n by omega]; exact hen.resolve_left (by omega))) with ⟨z1, z2⟩ | ⟨z1, z2⟩ | ⟨z1, z2, z3⟩
        · refine jfI (rnV (As := [.int (nI w), .long (numB x.tape (16 * k) 8)]) (rest := []) hx hb hml hown hE hK (hN _ _ hS) hP hD (k_why_0 l D dA H.size h ad y w (numB x.tape (16 * k) 8) (show w < 256 from by omega) z2.1.1 z2.1.2.1 z2.1.2.2.1 z2.1.2.2.2 (show y.used ≤ 126 from by omega) (show y.block < 2 ^ 20 from by omega) (show y.journal ≤ 256 from by omega) z2.2) (q0 := 0) rfl rfl w885 w884 w886 w887 w328 rfl rfl ⟨⟨by decide, by decide⟩, rfl⟩ ⟨(Nat.le_of_ble_eq_true rfl), (Nat.le_of_ble_eq_true rfl)⟩ rfl hl.1 rfl (Nat.le_of_ble_eq_true rfl) d_M_bulk_44 ⟨(Nat.le_of_ble_eq_true rfl), (Nat.le_of_ble_eq_true rfl)⟩) hP hD hS hA (fun r6 u7 H locs hp9 hP hD hS => ?_)
          have hP : va_P D vwCl (MW dA h ad y) H := hP
          have hD : va_D A (MW dA h ad y) := hD
          replace hp9 : 0 = r6 := Eq.symm hp9
          subst hp9
          refine lv_if_ne hx hb d_M_bulk_47 (tgt := 111) rfl (fun h9 => absurd (by decide) h9) (fun _ => ?_)
          refine lv_aload_n hx hb d_M_bulk_50 rfl (lv_at hl 2 rfl) ?_
          refine lv_bipush (v := 16) hx hb d_M_bulk_51 (by decide) ?_
          refine lv_iload_n hx hb d_M_bulk_53 rfl (lv_at hl 0 rfl) ?_
          refine lv_imul hx hb d_M_bulk_54 (tpi (y := nI (16 * k)) (pk_mul (16) (k)) ?_)
          refine jfL (rnV (As := [.int (nI (16 * k))]) (rest := []) hx hb hml hown hE hK (hN _ _ hS) hP hD (k_number l D dA H.size h ad y (16 * k) (show (16 * k) + 8 ≤ 65536 from by omega)) (q0 := 0) rfl rfl w905 w904 w906 w907 w328 rfl rfl ⟨⟨by decide, by decide⟩, rfl⟩ ⟨(Nat.le_of_ble_eq_true rfl), (Nat.le_of_ble_eq_true rfl)⟩ rfl hl.1 rfl (Nat.le_of_ble_eq_true rfl) d_M_bulk_55 ⟨(Nat.le_of_ble_eq_true rfl), (Nat.le_of_ble_eq_true rfl)⟩) hP hD hS hA (fun r8 u9 H locs hp9 hP hD hS => ?_)
          have hP : va_P D vwCl (MW dA h ad y) H := hP
          have hD : va_D A (MW dA h ad y) := hD
          replace hp9 : numB y.tape (16 * k) 8 = r8 := Eq.symm hp9
          subst hp9
          refine tpl (y := numB x.tape (16 * k) 8) (by rw [y3]) ?_
          refine lv_lstore_n hx hb d_M_bulk_58 rfl hl (by decide) rfl (fun ls hl => ?_)
          have hl : lv_has ls 7 [(3, .long (numB x.tape (16 * k) 8)), (2, .int (nI k)), (1, .int (nI w)), (0, .ref h)] := hl
          refine lv_aload_n hx hb d_M_bulk_59 rfl (lv_at hl 3 rfl) ?_
          refine lv_bipush (v := 16) hx hb d_M_bulk_60 (by decide) ?_
          refine lv_iload_n hx hb d_M_bulk_62 rfl (lv_at hl 1 rfl) ?_
          refine lv_imul hx hb d_M_bulk_63 (tpi (y := nI (16 * k)) (pk_mul (16) (k)) ?_)
          refine lv_bipush (v := 8) hx hb d_M_bulk_64 (by decide) ?_
          refine lv_iadd hx hb d_M_bulk_66 (tpi (y := nI ((16 * k) + 8)) (nI_add (16 * k) (8)) ?_)
          refine jfL (rnV (As := [.int (nI ((16 * k) + 8))]) (rest := []) hx hb hml hown hE hK (hN _ _ hS) hP hD (k_number l D dA H.size h ad y ((16 * k) + 8) (show ((16 * k) + 8) + 8 ≤ 65536 from by omega)) (q0 := 0) rfl rfl w905 w904 w906 w907 w328 rfl rfl ⟨⟨by decide, by decide⟩, rfl⟩ ⟨(Nat.le_of_ble_eq_true rfl), (Nat.le_of_ble_eq_true rfl)⟩ rfl hl.1 rfl (Nat.le_of_ble_eq_true rfl) d_M_bulk_67 ⟨(Nat.le_of_ble_eq_true rfl), (Nat.le_of_ble_eq_true rfl)⟩) hP hD hS hA (fun r10 u11 H locs hp9 hP hD hS => ?_)
          have hP : va_P D vwCl (MW dA h ad y) H := hP
          have hD : va_D A (MW dA h ad y) := hD
          replace hp9 : numB y.tape ((16 * k) + 8) 8 = r10 := Eq.symm hp9
          subst hp9
          refine tpl (y := numB x.tape (16 * k + 8) 8) (by rw [y3]) ?_
          refine lv_lstore hx hb d_M_bulk_70 hl (by decide) rfl (fun ls hl => ?_)
          have hl : lv_has ls 7 [(5, .long (numB x.tape (16 * k + 8) 8)), (3, .long (numB x.tape (16 * k) 8)), (2, .int (nI k)), (1, .int (nI w)), (0, .ref h)] := hl
          refine lv_aload_n hx hb d_M_bulk_72 rfl (lv_at hl 4 rfl) ?_
          refine lv_iconst (v := 1) hx hb d_M_bulk_73 (by decide) ?_
          refine lv_iload_n hx hb d_M_bulk_74 rfl (lv_at hl 3 rfl) ?_
          refine lv_lload_n hx hb d_M_bulk_75 rfl (lv_at hl 1 rfl) ?_
          refine lv_lload hx hb d_M_bulk_76 (lv_at hl 0 rfl) ?_
          refine lv_iconst (v := 1) hx hb d_M_bulk_78 (by decide) ?_
          refine jfI (rnV (As := [.int 1, .int (nI w), .long (numB x.tape (16 * k) 8), .long (numB x.tape (16 * k + 8) 8), .int 1]) (rest := []) hx hb hml hown hE hK (hN _ _ hS) hP hD (k_record l D dA H.size h ad y 1 w (numB x.tape (16 * k) 8) (numB x.tape (16 * k + 8) 8) 1 (by decide) (show y.records < 32000 from by omega) (show y.used + 1 < 2 ^ 31 from by omega) (show y.block < 2 ^ 30 from by omega) (by rw [ey]; exact (hst k z1).2.2)) (q0 := 0) rfl rfl w889 w888 w890 w891 w328 rfl rfl ⟨⟨by decide, by decide⟩, rfl⟩ ⟨(Nat.le_of_ble_eq_true rfl), (Nat.le_of_ble_eq_true rfl)⟩ rfl hl.1 rfl (Nat.le_of_ble_eq_true rfl) d_M_bulk_79 ⟨(Nat.le_of_ble_eq_true rfl), (Nat.le_of_ble_eq_true rfl)⟩) hP hD hS hA (fun r12 u13 H locs hp9 hP hD hS => ?_)
          have hP : va_P D vwCl (MW dA h ad (MS.s_fresh (MS.s_used (MS.s_block (MS.s_kept (MS.s_records (MS.s_recordBlocks (MS.s_units (MS.s_seconds (MS.s_firsts (MS.s_recordSeries (MS.s_kinds (MS.s_written (MS.s_cutLeft y (y.rCut 1)) (y.rWr 1)) (va_up y.kinds y.records 1)) (va_up y.recordSeries y.records w)) (va_up y.firsts y.records (numB x.tape (16 * k) 8))) (va_up y.seconds y.records (numB x.tape (16 * k + 8) 8))) (va_up y.units y.records 1)) (va_up y.recordBlocks y.records (y.rBlock 1))) (y.records + 1)) (y.rKept 1)) (y.rBlock 1)) (y.rUsed 1)) true)) H := hP
          have hD : va_D A (MW dA h ad (MS.s_fresh (MS.s_used (MS.s_block (MS.s_kept (MS.s_records (MS.s_recordBlocks (MS.s_units (MS.s_seconds (MS.s_firsts (MS.s_recordSeries (MS.s_kinds (MS.s_written (MS.s_cutLeft y (y.rCut 1)) (y.rWr 1)) (va_up y.kinds y.records 1)) (va_up y.recordSeries y.records w)) (va_up y.firsts y.records (numB x.tape (16 * k) 8))) (va_up y.seconds y.records (numB x.tape (16 * k + 8) 8))) (va_up y.units y.records 1)) (va_up y.recordBlocks y.records (y.rBlock 1))) (y.records + 1)) (y.rKept 1)) (y.rBlock 1)) (y.rUsed 1)) true)) := hD
          replace hp9 : bI true = r12 := Eq.symm hp9
          subst hp9
          refine lv_if_ne hx hb d_M_bulk_82 (tgt := 97) rfl (fun _ => ?_) (fun h9 => absurd h9 (by decide))
          refine lv_aload_n hx hb d_M_bulk_97 rfl (lv_at hl 4 rfl) ?_
          refine lv_iload_n hx hb d_M_bulk_98 rfl (lv_at hl 3 rfl) ?_
          refine lv_lload_n hx hb d_M_bulk_99 rfl (lv_at hl 1 rfl) ?_
          refine lv_lload hx hb d_M_bulk_100 (lv_at hl 0 rfl) ?_
          refine jfV (rnV (As := [.int (nI w), .long (numB x.tape (16 * k) 8), .long (numB x.tape (16 * k + 8) 8)]) (rest := []) hx hb hml hown hE hK (hN _ _ hS) hP hD (k_come l D dA H.size h ad (MS.s_fresh (MS.s_used (MS.s_block (MS.s_kept (MS.s_records (MS.s_recordBlocks (MS.s_units (MS.s_seconds (MS.s_firsts (MS.s_recordSeries (MS.s_kinds (MS.s_written (MS.s_cutLeft y (y.rCut 1)) (y.rWr 1)) (va_up y.kinds y.records 1)) (va_up y.recordSeries y.records w)) (va_up y.firsts y.records (numB x.tape (16 * k) 8))) (va_up y.seconds y.records (numB x.tape (16 * k + 8) 8))) (va_up y.units y.records 1)) (va_up y.recordBlocks y.records (y.rBlock 1))) (y.records + 1)) (y.rKept 1)) (y.rBlock 1)) (y.rUsed 1)) true) w (numB x.tape (16 * k) 8) (numB x.tape (16 * k + 8) 8) (show w < 256 from by omega) (Int64.not_lt.mpr z2.1.2.2.2) (show y.points < 12000 from by omega)) (q0 := 0) rfl rfl w893 w892 w894 w895 w328 rfl rfl ⟨⟨by decide, by decide⟩, rfl⟩ ⟨(Nat.le_of_ble_eq_true rfl), (Nat.le_of_ble_eq_true rfl)⟩ rfl hl.1 rfl (Nat.le_of_ble_eq_true rfl) d_M_bulk_102 ⟨(Nat.le_of_ble_eq_true rfl), (Nat.le_of_ble_eq_true rfl)⟩) hP hD hS hA (fun u15 H locs hp9 hP hD hS => ?_)
          have hP : va_P D vwCl (MW dA h ad (MS.s_fresh (MS.s_used (MS.s_block (MS.s_kept (MS.s_records (MS.s_recordBlocks (MS.s_units (MS.s_seconds (MS.s_firsts (MS.s_recordSeries (MS.s_kinds (MS.s_points (MS.s_baseHidden (MS.s_hidden (MS.s_places (MS.s_pointValues (MS.s_pointTimes (MS.s_pointSeries (MS.s_lasts (MS.s_written (MS.s_cutLeft y (y.rCut 1)) (y.rWr 1)) (va_up y.lasts w (numB x.tape (16 * k) 8))) (va_up y.pointSeries y.points w)) (va_up y.pointTimes y.points (numB x.tape (16 * k) 8))) (va_up y.pointValues y.points (numB x.tape (16 * k + 8) 8))) (va_up y.places y.points (-1))) (va_up y.hidden y.points (-1))) (va_up y.baseHidden y.points (-1))) (y.points + 1)) (va_up y.kinds y.records 1)) (va_up y.recordSeries y.records w)) (va_up y.firsts y.records (numB x.tape (16 * k) 8))) (va_up y.seconds y.records (numB x.tape (16 * k + 8) 8))) (va_up y.units y.records 1)) (va_up y.recordBlocks y.records (y.rBlock 1))) (y.records + 1)) (y.rKept 1)) (y.rBlock 1)) (y.rUsed 1)) true)) H := hP
          have hD : va_D A (MW dA h ad (MS.s_fresh (MS.s_used (MS.s_block (MS.s_kept (MS.s_records (MS.s_recordBlocks (MS.s_units (MS.s_seconds (MS.s_firsts (MS.s_recordSeries (MS.s_kinds (MS.s_points (MS.s_baseHidden (MS.s_hidden (MS.s_places (MS.s_pointValues (MS.s_pointTimes (MS.s_pointSeries (MS.s_lasts (MS.s_written (MS.s_cutLeft y (y.rCut 1)) (y.rWr 1)) (va_up y.lasts w (numB x.tape (16 * k) 8))) (va_up y.pointSeries y.points w)) (va_up y.pointTimes y.points (numB x.tape (16 * k) 8))) (va_up y.pointValues y.points (numB x.tape (16 * k + 8) 8))) (va_up y.places y.points (-1))) (va_up y.hidden y.points (-1))) (va_up y.baseHidden y.points (-1))) (y.points + 1)) (va_up y.kinds y.records 1)) (va_up y.recordSeries y.records w)) (va_up y.firsts y.records (numB x.tape (16 * k) 8))) (va_up y.seconds y.records (numB x.tape (16 * k + 8) 8))) (va_up y.units y.records 1)) (va_up y.recordBlocks y.records (y.rBlock 1))) (y.records + 1)) (y.rKept 1)) (y.rBlock 1)) (y.rUsed 1)) true)) := hD
          refine lv_iinc (k := 2) (v := nI (k + 1)) hx hb d_M_bulk_105 hl rfl (iincN (k) 1 1 (by decide)) (by decide) rfl (fun ls hl => ?_)
          have hl : lv_has ls 7 [(2, .int (nI (k + 1))), (5, .long (numB x.tape (16 * k + 8) 8)), (3, .long (numB x.tape (16 * k) 8)), (1, .int (nI w)), (0, .ref h)] := hl
          refine lv_goto hx hb d_M_bulk_108 (tgt := 20) rfl ?_
          exact ih20 _ (by omega) (k + 1) (MS.s_fresh (MS.s_used (MS.s_block (MS.s_kept (MS.s_records (MS.s_recordBlocks (MS.s_units (MS.s_seconds (MS.s_firsts (MS.s_recordSeries (MS.s_kinds (MS.s_points (MS.s_baseHidden (MS.s_hidden (MS.s_places (MS.s_pointValues (MS.s_pointTimes (MS.s_pointSeries (MS.s_lasts (MS.s_written (MS.s_cutLeft y (y.rCut 1)) (y.rWr 1)) (va_up y.lasts w (numB x.tape (16 * k) 8))) (va_up y.pointSeries y.points w)) (va_up y.pointTimes y.points (numB x.tape (16 * k) 8))) (va_up y.pointValues y.points (numB x.tape (16 * k + 8) 8))) (va_up y.places y.points (-1))) (va_up y.hidden y.points (-1))) (va_up y.baseHidden y.points (-1))) (y.points + 1)) (va_up y.kinds y.records 1)) (va_up y.recordSeries y.records w)) (va_up y.firsts y.records (numB x.tape (16 * k) 8))) (va_up y.seconds y.records (numB x.tape (16 * k + 8) 8))) (va_up y.units y.records 1)) (va_up y.recordBlocks y.records (y.rBlock 1))) (y.records + 1)) (y.rKept 1)) (y.rBlock 1)) (y.rUsed 1)) true) (by rw [ey]; rfl) (by omega) (by show y.points + 1 = _; omega) (by show y.records + 1 = _; omega) y3 y4 (rUsed_le (by decide)) (Nat.le_trans (rBlock_le y 1) (by omega)) y7 y8 rfl H _ ls hP hD hS (lv_sub hl [0, 3, 4] rfl)
        · refine jfI (rnV (As := [.int (nI w), .long (numB x.tape (16 * k) 8)]) (rest := []) hx hb hml hown hE hK (hN _ _ hS) hP hD (k_why_3 l D dA H.size h ad y w (numB x.tape (16 * k) 8) (show w < 256 from by omega) z2) (q0 := 0) rfl rfl w885 w884 w886 w887 w328 rfl rfl ⟨⟨by decide, by decide⟩, rfl⟩ ⟨(Nat.le_of_ble_eq_true rfl), (Nat.le_of_ble_eq_true rfl)⟩ rfl hl.1 rfl (Nat.le_of_ble_eq_true rfl) d_M_bulk_44 ⟨(Nat.le_of_ble_eq_true rfl), (Nat.le_of_ble_eq_true rfl)⟩) hP hD hS hA (fun r16 u17 H locs hp9 hP hD hS => ?_)
          have hP : va_P D vwCl (MW dA h ad y) H := hP
          have hD : va_D A (MW dA h ad y) := hD
          replace hp9 : 3 = r16 := Eq.symm hp9
          subst hp9
          refine lv_if_ne hx hb d_M_bulk_47 (tgt := 111) rfl (fun _ => ?_) (fun h9 => absurd h9 (by decide))
          refine lv_aload_n hx hb d_M_bulk_111 rfl (lv_at hl 2 rfl) ?_
          refine lv_iconst (v := 0) hx hb d_M_bulk_112 (by decide) ?_
          refine pF (v := .int (nI 0)) hx hb hown hE hK hP hD hS 0 rfl rfl layM tyM tokM nmM 2 (by decide) w320 rfl rfl rfl (Nat.le_of_ble_eq_true rfl) d_M_bulk_113 (fun H locs hP hD hS => ?_)
          have hP : va_P D vwCl (MW dA h ad (MS.s_length y 0)) H := hP
          have hD : va_D A (MW dA h ad (MS.s_length y 0)) := hD
          refine lv_iload_n hx hb d_M_bulk_116 rfl (lv_at hl 0 rfl) ?_
          exact rfI hx hb hr hlk hS (MS.s_length y 0) ⟨by rw [show k = n by omega], by rw [ey, show k = n by omega]⟩ hP hD (Nat.le_of_ble_eq_true rfl) (Nat.le_of_ble_eq_true rfl) d_M_bulk_117
        · refine jfI (rnV (As := [.int (nI w), .long (numB x.tape (16 * k) 8)]) (rest := []) hx hb hml hown hE hK (hN _ _ hS) hP hD (k_why_4 l D dA H.size h ad y w (numB x.tape (16 * k) 8) (show w < 256 from by omega) z2.1 z2.2.1 z2.2.2.1 z2.2.2.2 (show y.used ≤ 126 from by omega) (show y.block < 2 ^ 20 from by omega) (show y.journal ≤ 256 from by omega) z3) (q0 := 0) rfl rfl w885 w884 w886 w887 w328 rfl rfl ⟨⟨by decide, by decide⟩, rfl⟩ ⟨(Nat.le_of_ble_eq_true rfl), (Nat.le_of_ble_eq_true rfl)⟩ rfl hl.1 rfl (Nat.le_of_ble_eq_true rfl) d_M_bulk_44 ⟨(Nat.le_of_ble_eq_true rfl), (Nat.le_of_ble_eq_true rfl)⟩) hP hD hS hA (fun r18 u19 H locs hp9 hP hD hS => ?_)
          have hP : va_P D vwCl (MW dA h ad y) H := hP
          have hD : va_D A (MW dA h ad y) := hD
          replace hp9 : 4 = r18 := Eq.symm hp9
          subst hp9
          refine lv_if_ne hx hb d_M_bulk_47 (tgt := 111) rfl (fun _ => ?_) (fun h9 => absurd h9 (by decide))
          refine lv_aload_n hx hb d_M_bulk_111 rfl (lv_at hl 2 rfl) ?_
          refine lv_iconst (v := 0) hx hb d_M_bulk_112 (by decide) ?_
          refine pF (v := .int (nI 0)) hx hb hown hE hK hP hD hS 0 rfl rfl layM tyM tokM nmM 2 (by decide) w320 rfl rfl rfl (Nat.le_of_ble_eq_true rfl) d_M_bulk_113 (fun H locs hP hD hS => ?_)
          have hP : va_P D vwCl (MW dA h ad (MS.s_length y 0)) H := hP
          have hD : va_D A (MW dA h ad (MS.s_length y 0)) := hD
          refine lv_iload_n hx hb d_M_bulk_116 rfl (lv_at hl 0 rfl) ?_
          exact rfI hx hb hr hlk hS (MS.s_length y 0) ⟨by rw [show k = n by omega], by rw [ey, show k = n by omega]⟩ hP hD (Nat.le_of_ble_eq_true rfl) (Nat.le_of_ble_eq_true rfl) d_M_bulk_117
  exact L20 _ 0 (MS.s_cod x 0) rfl (Nat.zero_le _) rfl rfl rfl rfl (by omega) (Nat.le_refl _) rfl ho rfl H _ ls hP hD hS (lv_sub hl [0, 2, 1] rfl)
theorem d_M_bulk_85 : decode prog_14_method_36_code 85 = .ok (.aload_n 0, 1) := by decide +kernel
theorem d_M_bulk_86 : decode prog_14_method_36_code 86 = .ok (.iconst 1, 1) := by decide +kernel
theorem d_M_bulk_87 : decode prog_14_method_36_code 87 = .ok (.putfield 145, 3) := by decide +kernel
theorem d_M_bulk_90 : decode prog_14_method_36_code 90 = .ok (.aload_n 0, 1) := by decide +kernel
theorem d_M_bulk_91 : decode prog_14_method_36_code 91 = .ok (.iconst 0, 1) := by decide +kernel
theorem d_M_bulk_92 : decode prog_14_method_36_code 92 = .ok (.putfield 148, 3) := by decide +kernel
theorem d_M_bulk_95 : decode prog_14_method_36_code 95 = .ok (.iconst 0, 1) := by decide +kernel
theorem d_M_bulk_96 : decode prog_14_method_36_code 96 = .ok (.ireturn, 1) := by decide +kernel
set_option maxHeartbeats 4000000 in
set_option maxRecDepth 100000 in
theorem k_bulk_5 (l : Launch) (D : va_G) (dA : Nat → ClassId) (sz : Nat) (h : Nat) (ad : Nat → Nat) (x : MS) (w : Nat) (n : Nat) (ho : x.on = true) (hw : w < x.seriesCount) (hc : x.seriesCount ≤ 256) (u1 : x.used ≤ 126) (u2 : x.block < 2 ^ 19) (u3 : x.journal ≤ 256) (l1 : x.length ≤ 65536) (r1 : x.records + n < 32000) (r2 : x.points + n < 12000) (hst : ∀ k : Nat, k < n → 16 * k + 16 ≤ x.length ∧ ((x.s_cod 0).blkS w k).okS w (numB x.tape (16 * k) 8) ∧ ((x.s_cod 0).blkS w k).canR 1) (h9 : 16 * n + 16 ≤ x.length) (hok : ((x.s_cod 0).blkS w n).okS w (numB x.tape (16 * n) 8)) (c1 : 126 < ((x.s_cod 0).blkS w n).used + 1) (hf : ((x.s_cod 0).blkS w n).fresh = true) (hcu : ((x.s_cod 0).blkS w n).cutLeft = 0) : Met l ⟨"SeriesVaultModel", "bulk", "(I)I"⟩ [Cond.code ⟨"SeriesVaultModel", "bulk", "(I)I"⟩ prog_14_method_36_code 7 (some FieldType.int)] { frames := 4, cells := 0, slots := 0, locals := 67 } (pC D dA [.ref h, .int (nI w)] (MW dA h ad x) sz) (va_Qi (fun (r9 : Int32) (u9 : MS) => r9 = 0 ∧ u9 = ((((((x.s_cod 0).blkS w n).s_cod 1).s_length 0).s_on false).s_cutLeft (-1))) (fun (u9 : MS) t9 => bW D (va_A (MW dA h ad x) sz) (MW dA h ad u9) t9) (va_A (MW dA h ad x) sz)) 0 0 (va_A (MW dA h ad x) sz) := by
  refine mkC (y := ⟨"SeriesVaultModel", "bulk", "(I)I"⟩) (cc := prog_14_method_36_code) (maxL := 7) (av := [.ref h, .int (nI w)]) (ws := MW dA h ad x) (sz := sz) (Qc := fun A => va_Qi (fun (r9 : Int32) (u9 : MS) => r9 = 0 ∧ u9 = ((((((x.s_cod 0).blkS w n).s_cod 1).s_length 0).s_on false).s_cutLeft (-1))) (fun (u9 : MS) t9 => bW D A (MW dA h ad u9) t9) A) (by decide) (Nat.le_of_ble_eq_true rfl) ?_
  intro A p e s m below meth c ls hsz hB
  obtain ⟨hx, hb, hr, hml, hown, hin, hlk, hE, hK, hP, hD, hS, hA, hN, hl⟩ := hB
  have hown : s.vm.findClass "SeriesVaultModel" = some m.cls := hown
  have hl : lv_has ls 7 [(0, .ref h), (1, .int (nI w))] := hl
  obtain ⟨H, hH⟩ : ∃ z, z = s.heap := ⟨_, rfl⟩
  have hP : va_P D vwCl (MW dA h ad x) H := by rw [hH]; exact hP
  have hS : va_S A s.heap H [] := by rw [hH]; exact hS
  rw [← hH]
  refine lv_aload_n hx hb d_M_bulk_0 rfl (lv_at hl 0 rfl) ?_
  refine lv_aload_n hx hb d_M_bulk_1 rfl (lv_at hl 0 rfl) ?_
  refine lv_iload_n hx hb d_M_bulk_2 rfl (lv_at hl 1 rfl) ?_
  refine jfI (rnV (As := [.int (nI w)]) (rest := [.ref h]) hx hb hml hown hE hK (hN _ _ hS) hP hD (k_seriesFault_0 l D dA H.size h ad x w ho hw hc) (q0 := 0) rfl rfl w334 w333 w335 w336 w328 rfl rfl ⟨⟨by decide, by decide⟩, rfl⟩ ⟨(Nat.le_of_ble_eq_true rfl), (Nat.le_of_ble_eq_true rfl)⟩ rfl hl.1 rfl (Nat.le_of_ble_eq_true rfl) d_M_bulk_3 ⟨(Nat.le_of_ble_eq_true rfl), (Nat.le_of_ble_eq_true rfl)⟩) hP hD hS hA (fun r1 u2 H locs hp9 hP hD hS => ?_)
  have hP : va_P D vwCl (MW dA h ad x) H := hP
  have hD : va_D A (MW dA h ad x) := hD
  replace hp9 : 0 = r1 := Eq.symm hp9
  subst hp9
  refine pF (v := .int 0) hx hb hown hE hK hP hD hS 0 rfl rfl layM tyM tokM nmM 0 (by decide) w319 rfl rfl rfl (Nat.le_of_ble_eq_true rfl) d_M_bulk_6 (fun H locs hP hD hS => ?_)
  have hP : va_P D vwCl (MW dA h ad (MS.s_cod x 0)) H := hP
  have hD : va_D A (MW dA h ad (MS.s_cod x 0)) := hD
  refine lv_aload_n hx hb d_M_bulk_9 rfl (lv_at hl 0 rfl) ?_
  refine gF (v := .int 0) hx hb hown hE hK hP 0 rfl rfl layM 0 (by decide) w319 rfl d_M_bulk_10 ?_
  refine lv_if_le hx hb d_M_bulk_13 (tgt := 18) rfl (fun _ => ?_) (fun h9 => absurd (by decide) h9)
  refine lv_iconst (v := 0) hx hb d_M_bulk_18 (by decide) ?_
  refine lv_istore_n hx hb d_M_bulk_19 rfl hl (by decide) rfl (fun ls hl => ?_)
  have hl : lv_has ls 7 [(2, .int 0), (0, .ref h), (1, .int (nI w))] := hl
  have L20 : ∀ (k9 : Nat) (k : Nat) (y : MS) (ey : y = (x.s_cod 0).blkS w k) (k1 : k ≤ n) (y1 : y.points = x.points + k) (y2 : y.records = x.records + k) (y3 : y.tape = x.tape) (y4 : y.length = x.length) (y5 : y.used ≤ 126) (y6 : y.block ≤ x.block + k) (y7 : y.journal = x.journal) (y8 : y.on = true) (hk9 : n + 1 - k = k9), ∀ (H : Heap) (locs : List Loc) (ls : Array Slot) (hP : va_P D vwCl (MW dA h ad y) H) (hD : va_D A (MW dA h ad y)) (hS : va_S A s.heap H locs) (hl : lv_has ls 7 [(2, .int (nI k)), (1, .int (nI w)), (0, .ref h)]), W p l e ({ frames := 4, cells := 0, slots := 0, locals := 67 } : Room) s m ([.ref h, .int (nI w)] : List Value).toArray below meth c H locs 0 0 (MQ below (va_Qi (fun (r9 : Int32) (u9 : MS) => r9 = 0 ∧ u9 = ((((((x.s_cod 0).blkS w n).s_cod 1).s_length 0).s_on false).s_cutLeft (-1))) (fun (u9 : MS) t9 => bW D A (MW dA h ad u9) t9) A) ([.ref h, .int (nI w)] : List Value).toArray s 0 0 A) (F0 m 20 ls []) := by
    intro k9
    induction k9 using Nat.strongRecOn with
    | ind k9 ih20 =>
      intro k y ey k1 y1 y2 y3 y4 y5 y6 y7 y8 hk9 H locs ls hP hD hS hl
      refine lv_bipush (v := 16) hx hb d_M_bulk_20 (by decide) ?_
      refine lv_iload_n hx hb d_M_bulk_22 rfl (lv_at hl 0 rfl) ?_
      refine lv_imul hx hb d_M_bulk_23 (tpi (y := nI (16 * k)) (pk_mul (16) (k)) ?_)
      refine lv_bipush (v := 16) hx hb d_M_bulk_24 (by decide) ?_
      refine lv_iadd hx hb d_M_bulk_26 (tpi (y := nI ((16 * k) + 16)) (nI_add (16 * k) (16)) ?_)
      refine lv_aload_n hx hb d_M_bulk_27 rfl (lv_at hl 2 rfl) ?_
      refine gF (v := .int (nI y.length)) hx hb hown hE hK hP 0 rfl rfl layM 2 (by decide) w320 rfl d_M_bulk_28 ?_
      have z0 : k < n → 16 * k + 16 ≤ x.length := fun z => (hst k z).1
      refine lv_icmp_gt hx hb d_M_bulk_31 (tgt := 111) rfl (fun g3 => ?_) (fun g3 => ?_)
      · have g3 := (nI_ltI (a := y.length) (b := (16 * k) + 16) (by omega) (by omega)).mp g3; exfalso; omega
      have g3 := mt (nI_ltI (a := y.length) (b := (16 * k) + 16) (by omega) (by omega)).mpr g3
      refine lv_aload_n hx hb d_M_bulk_34 rfl (lv_at hl 2 rfl) ?_
      refine lv_iload_n hx hb d_M_bulk_35 rfl (lv_at hl 1 rfl) ?_
      refine lv_aload_n hx hb d_M_bulk_36 rfl (lv_at hl 2 rfl) ?_
      refine lv_bipush (v := 16) hx hb d_M_bulk_37 (by decide) ?_
      refine lv_iload_n hx hb d_M_bulk_39 rfl (lv_at hl 0 rfl) ?_
      refine lv_imul hx hb d_M_bulk_40 (tpi (y := nI (16 * k)) (pk_mul (16) (k)) ?_)
      refine jfL (rnV (As := [.int (nI (16 * k))]) (rest := [.int (nI w), .ref h]) hx hb hml hown hE hK (hN _ _ hS) hP hD (k_number l D dA H.size h ad y (16 * k) (show (16 * k) + 8 ≤ 65536 from by omega)) (q0 := 0) rfl rfl w905 w904 w906 w907 w328 rfl rfl ⟨⟨by decide, by decide⟩, rfl⟩ ⟨(Nat.le_of_ble_eq_true rfl), (Nat.le_of_ble_eq_true rfl)⟩ rfl hl.1 rfl (Nat.le_of_ble_eq_true rfl) d_M_bulk_41 ⟨(Nat.le_of_ble_eq_true rfl), (Nat.le_of_ble_eq_true rfl)⟩) hP hD hS hA (fun r4 u5 H locs hp9 hP hD hS => ?_)
      have hP : va_P D vwCl (MW dA h ad y) H := hP
      have hD : va_D A (MW dA h ad y) := hD
      replace hp9 : numB y.tape (16 * k) 8 = r4 := Eq.symm hp9
      subst hp9
      refine tpl (y := numB x.tape (16 * k) 8) (by rw [y3]) ?_
      rcases (show (k < n ∧ y.okS w (numB x.tape (16 * k) 8)) ∨ (n = k ∧ y.okS w (numB x.tape (16 * k) 8)) from (Nat.lt_or_ge k n).elim (fun z => Or.inl ⟨z, by rw [ey]; exact (hst k z).2.1⟩) (fun z => Or.inr ⟨by omega, by rw [ey, show k = n by omega]; exact hok⟩)) with ⟨z1, z2⟩ | ⟨z1, z2⟩
      · refine jfI (rnV (As := [.int (nI w), .long (numB x.tape (16 * k) 8)]) (rest := []) hx hb hml hown hE hK (hN _ _ hS) hP hD (k_why_0 l D dA H.size h ad y w (numB x.tape (16 * k) 8) (show w < 256 from by omega) z2.1.1 z2.1.2.1 z2.1.2.2.1 z2.1.2.2.2 (show y.used ≤ 126 from by omega) (show y.block < 2 ^ 20 from by omega) (show y.journal ≤ 256 from by omega) z2.2) (q0 := 0) rfl rfl w885 w884 w886 w887 w328 rfl rfl ⟨⟨by decide, by decide⟩, rfl⟩ ⟨(Nat.le_of_ble_eq_true rfl), (Nat.le_of_ble_eq_true rfl)⟩ rfl hl.1 rfl (Nat.le_of_ble_eq_true rfl) d_M_bulk_44 ⟨(Nat.le_of_ble_eq_true rfl), (Nat.le_of_ble_eq_true rfl)⟩) hP hD hS hA (fun r6 u7 H locs hp9 hP hD hS => ?_)
        have hP : va_P D vwCl (MW dA h ad y) H := hP
        have hD : va_D A (MW dA h ad y) := hD
        replace hp9 : 0 = r6 := Eq.symm hp9
        subst hp9
        refine lv_if_ne hx hb d_M_bulk_47 (tgt := 111) rfl (fun h9 => absurd (by decide) h9) (fun _ => ?_)
        refine lv_aload_n hx hb d_M_bulk_50 rfl (lv_at hl 2 rfl) ?_
        refine lv_bipush (v := 16) hx hb d_M_bulk_51 (by decide) ?_
        refine lv_iload_n hx hb d_M_bulk_53 rfl (lv_at hl 0 rfl) ?_
        refine lv_imul hx hb d_M_bulk_54 (tpi (y := nI (16 * k)) (pk_mul (16) (k)) ?_)
        refine jfL (rnV (As := [.int (nI (16 * k))]) (rest := []) hx hb hml hown hE hK (hN _ _ hS) hP hD (k_number l D dA H.size h ad y (16 * k) (show (16 * k) + 8 ≤ 65536 from by omega)) (q0 := 0) rfl rfl w905 w904 w906 w907 w328 rfl rfl ⟨⟨by decide, by decide⟩, rfl⟩ ⟨(Nat.le_of_ble_eq_true rfl), (Nat.le_of_ble_eq_true rfl)⟩ rfl hl.1 rfl (Nat.le_of_ble_eq_true rfl) d_M_bulk_55 ⟨(Nat.le_of_ble_eq_true rfl), (Nat.le_of_ble_eq_true rfl)⟩) hP hD hS hA (fun r8 u9 H locs hp9 hP hD hS => ?_)
        have hP : va_P D vwCl (MW dA h ad y) H := hP
        have hD : va_D A (MW dA h ad y) := hD
        replace hp9 : numB y.tape (16 * k) 8 = r8 := Eq.symm hp9
        subst hp9
        refine tpl (y := numB x.tape (16 * k) 8) (by rw [y3]) ?_
        refine lv_lstore_n hx hb d_M_bulk_58 rfl hl (by decide) rfl (fun ls hl => ?_)
        have hl : lv_has ls 7 [(3, .long (numB x.tape (16 * k) 8)), (2, .int (nI k)), (1, .int (nI w)), (0, .ref h)] := hl
        refine lv_aload_n hx hb d_M_bulk_59 rfl (lv_at hl 3 rfl) ?_
        refine lv_bipush (v := 16) hx hb d_M_bulk_60 (by decide) ?_
        refine lv_iload_n hx hb d_M_bulk_62 rfl (lv_at hl 1 rfl) ?_
        refine lv_imul hx hb d_M_bulk_63 (tpi (y := nI (16 * k)) (pk_mul (16) (k)) ?_)
        refine lv_bipush (v := 8) hx hb d_M_bulk_64 (by decide) ?_
        refine lv_iadd hx hb d_M_bulk_66 (tpi (y := nI ((16 * k) + 8)) (nI_add (16 * k) (8)) ?_)
        refine jfL (rnV (As := [.int (nI ((16 * k) + 8))]) (rest := []) hx hb hml hown hE hK (hN _ _ hS) hP hD (k_number l D dA H.size h ad y ((16 * k) + 8) (show ((16 * k) + 8) + 8 ≤ 65536 from by omega)) (q0 := 0) rfl rfl w905 w904 w906 w907 w328 rfl rfl ⟨⟨by decide, by decide⟩, rfl⟩ ⟨(Nat.le_of_ble_eq_true rfl), (Nat.le_of_ble_eq_true rfl)⟩ rfl hl.1 rfl (Nat.le_of_ble_eq_true rfl) d_M_bulk_67 ⟨(Nat.le_of_ble_eq_true rfl), (Nat.le_of_ble_eq_true rfl)⟩) hP hD hS hA (fun r10 u11 H locs hp9 hP hD hS => ?_)
        have hP : va_P D vwCl (MW dA h ad y) H := hP
        have hD : va_D A (MW dA h ad y) := hD
        replace hp9 : numB y.tape ((16 * k) + 8) 8 = r10 := Eq.symm hp9
        subst hp9
        refine tpl (y := numB x.tape (16 * k + 8) 8) (by rw [y3]) ?_
        refine lv_lstore hx hb d_M_bulk_70 hl (by decide) rfl (fun ls hl => ?_)
        have hl : lv_has ls 7 [(5, .long (numB x.tape (16 * k + 8) 8)), (3, .long (numB x.tape (16 * k) 8)), (2, .int (nI k)), (1, .int (nI w)), (0, .ref h)] := hl
        refine lv_aload_n hx hb d_M_bulk_72 rfl (lv_at hl 4 rfl) ?_
        refine lv_iconst (v := 1) hx hb d_M_bulk_73 (by decide) ?_
        refine lv_iload_n hx hb d_M_bulk_74 rfl (lv_at hl 3 rfl) ?_
        refine lv_lload_n hx hb d_M_bulk_75 rfl (lv_at hl 1 rfl) ?_
        refine lv_lload hx hb d_M_bulk_76 (lv_at hl 0 rfl) ?_
        refine lv_iconst (v := 1) hx hb d_M_bulk_78 (by decide) ?_
        refine jfI (rnV (As := [.int 1, .int (nI w), .long (numB x.tape (16 * k) 8), .long (numB x.tape (16 * k + 8) 8), .int 1]) (rest := []) hx hb hml hown hE hK (hN _ _ hS) hP hD (k_record l D dA H.size h ad y 1 w (numB x.tape (16 * k) 8) (numB x.tape (16 * k + 8) 8) 1 (by decide) (show y.records < 32000 from by omega) (show y.used + 1 < 2 ^ 31 from by omega) (show y.block < 2 ^ 30 from by omega) (by rw [ey]; exact (hst k z1).2.2)) (q0 := 0) rfl rfl w889 w888 w890 w891 w328 rfl rfl ⟨⟨by decide, by decide⟩, rfl⟩ ⟨(Nat.le_of_ble_eq_true rfl), (Nat.le_of_ble_eq_true rfl)⟩ rfl hl.1 rfl (Nat.le_of_ble_eq_true rfl) d_M_bulk_79 ⟨(Nat.le_of_ble_eq_true rfl), (Nat.le_of_ble_eq_true rfl)⟩) hP hD hS hA (fun r12 u13 H locs hp9 hP hD hS => ?_)
        have hP : va_P D vwCl (MW dA h ad (MS.s_fresh (MS.s_used (MS.s_block (MS.s_kept (MS.s_records (MS.s_recordBlocks (MS.s_units (MS.s_seconds (MS.s_firsts (MS.s_recordSeries (MS.s_kinds (MS.s_written (MS.s_cutLeft y (y.rCut 1)) (y.rWr 1)) (va_up y.kinds y.records 1)) (va_up y.recordSeries y.records w)) (va_up y.firsts y.records (numB x.tape (16 * k) 8))) (va_up y.seconds y.records (numB x.tape (16 * k + 8) 8))) (va_up y.units y.records 1)) (va_up y.recordBlocks y.records (y.rBlock 1))) (y.records + 1)) (y.rKept 1)) (y.rBlock 1)) (y.rUsed 1)) true)) H := hP
        have hD : va_D A (MW dA h ad (MS.s_fresh (MS.s_used (MS.s_block (MS.s_kept (MS.s_records (MS.s_recordBlocks (MS.s_units (MS.s_seconds (MS.s_firsts (MS.s_recordSeries (MS.s_kinds (MS.s_written (MS.s_cutLeft y (y.rCut 1)) (y.rWr 1)) (va_up y.kinds y.records 1)) (va_up y.recordSeries y.records w)) (va_up y.firsts y.records (numB x.tape (16 * k) 8))) (va_up y.seconds y.records (numB x.tape (16 * k + 8) 8))) (va_up y.units y.records 1)) (va_up y.recordBlocks y.records (y.rBlock 1))) (y.records + 1)) (y.rKept 1)) (y.rBlock 1)) (y.rUsed 1)) true)) := hD
        replace hp9 : bI true = r12 := Eq.symm hp9
        subst hp9
        refine lv_if_ne hx hb d_M_bulk_82 (tgt := 97) rfl (fun _ => ?_) (fun h9 => absurd h9 (by decide))
        refine lv_aload_n hx hb d_M_bulk_97 rfl (lv_at hl 4 rfl) ?_
        refine lv_iload_n hx hb d_M_bulk_98 rfl (lv_at hl 3 rfl) ?_
        refine lv_lload_n hx hb d_M_bulk_99 rfl (lv_at hl 1 rfl) ?_
        refine lv_lload hx hb d_M_bulk_100 (lv_at hl 0 rfl) ?_
        refine jfV (rnV (As := [.int (nI w), .long (numB x.tape (16 * k) 8), .long (numB x.tape (16 * k + 8) 8)]) (rest := []) hx hb hml hown hE hK (hN _ _ hS) hP hD (k_come l D dA H.size h ad (MS.s_fresh (MS.s_used (MS.s_block (MS.s_kept (MS.s_records (MS.s_recordBlocks (MS.s_units (MS.s_seconds (MS.s_firsts (MS.s_recordSeries (MS.s_kinds (MS.s_written (MS.s_cutLeft y (y.rCut 1)) (y.rWr 1)) (va_up y.kinds y.records 1)) (va_up y.recordSeries y.records w)) (va_up y.firsts y.records (numB x.tape (16 * k) 8))) (va_up y.seconds y.records (numB x.tape (16 * k + 8) 8))) (va_up y.units y.records 1)) (va_up y.recordBlocks y.records (y.rBlock 1))) (y.records + 1)) (y.rKept 1)) (y.rBlock 1)) (y.rUsed 1)) true) w (numB x.tape (16 * k) 8) (numB x.tape (16 * k + 8) 8) (show w < 256 from by omega) (Int64.not_lt.mpr z2.1.2.2.2) (show y.points < 12000 from by omega)) (q0 := 0) rfl rfl w893 w892 w894 w895 w328 rfl rfl ⟨⟨by decide, by decide⟩, rfl⟩ ⟨(Nat.le_of_ble_eq_true rfl), (Nat.le_of_ble_eq_true rfl)⟩ rfl hl.1 rfl (Nat.le_of_ble_eq_true rfl) d_M_bulk_102 ⟨(Nat.le_of_ble_eq_true rfl), (Nat.le_of_ble_eq_true rfl)⟩) hP hD hS hA (fun u15 H locs hp9 hP hD hS => ?_)
        have hP : va_P D vwCl (MW dA h ad (MS.s_fresh (MS.s_used (MS.s_block (MS.s_kept (MS.s_records (MS.s_recordBlocks (MS.s_units (MS.s_seconds (MS.s_firsts (MS.s_recordSeries (MS.s_kinds (MS.s_points (MS.s_baseHidden (MS.s_hidden (MS.s_places (MS.s_pointValues (MS.s_pointTimes (MS.s_pointSeries (MS.s_lasts (MS.s_written (MS.s_cutLeft y (y.rCut 1)) (y.rWr 1)) (va_up y.lasts w (numB x.tape (16 * k) 8))) (va_up y.pointSeries y.points w)) (va_up y.pointTimes y.points (numB x.tape (16 * k) 8))) (va_up y.pointValues y.points (numB x.tape (16 * k + 8) 8))) (va_up y.places y.points (-1))) (va_up y.hidden y.points (-1))) (va_up y.baseHidden y.points (-1))) (y.points + 1)) (va_up y.kinds y.records 1)) (va_up y.recordSeries y.records w)) (va_up y.firsts y.records (numB x.tape (16 * k) 8))) (va_up y.seconds y.records (numB x.tape (16 * k + 8) 8))) (va_up y.units y.records 1)) (va_up y.recordBlocks y.records (y.rBlock 1))) (y.records + 1)) (y.rKept 1)) (y.rBlock 1)) (y.rUsed 1)) true)) H := hP
        have hD : va_D A (MW dA h ad (MS.s_fresh (MS.s_used (MS.s_block (MS.s_kept (MS.s_records (MS.s_recordBlocks (MS.s_units (MS.s_seconds (MS.s_firsts (MS.s_recordSeries (MS.s_kinds (MS.s_points (MS.s_baseHidden (MS.s_hidden (MS.s_places (MS.s_pointValues (MS.s_pointTimes (MS.s_pointSeries (MS.s_lasts (MS.s_written (MS.s_cutLeft y (y.rCut 1)) (y.rWr 1)) (va_up y.lasts w (numB x.tape (16 * k) 8))) (va_up y.pointSeries y.points w)) (va_up y.pointTimes y.points (numB x.tape (16 * k) 8))) (va_up y.pointValues y.points (numB x.tape (16 * k + 8) 8))) (va_up y.places y.points (-1))) (va_up y.hidden y.points (-1))) (va_up y.baseHidden y.points (-1))) (y.points + 1)) (va_up y.kinds y.records 1)) (va_up y.recordSeries y.records w)) (va_up y.firsts y.records (numB x.tape (16 * k) 8))) (va_up y.seconds y.records (numB x.tape (16 * k + 8) 8))) (va_up y.units y.records 1)) (va_up y.recordBlocks y.records (y.rBlock 1))) (y.records + 1)) (y.rKept 1)) (y.rBlock 1)) (y.rUsed 1)) true)) := hD
        refine lv_iinc (k := 2) (v := nI (k + 1)) hx hb d_M_bulk_105 hl rfl (iincN (k) 1 1 (by decide)) (by decide) rfl (fun ls hl => ?_)
        have hl : lv_has ls 7 [(2, .int (nI (k + 1))), (5, .long (numB x.tape (16 * k + 8) 8)), (3, .long (numB x.tape (16 * k) 8)), (1, .int (nI w)), (0, .ref h)] := hl
        refine lv_goto hx hb d_M_bulk_108 (tgt := 20) rfl ?_
        exact ih20 _ (by omega) (k + 1) (MS.s_fresh (MS.s_used (MS.s_block (MS.s_kept (MS.s_records (MS.s_recordBlocks (MS.s_units (MS.s_seconds (MS.s_firsts (MS.s_recordSeries (MS.s_kinds (MS.s_points (MS.s_baseHidden (MS.s_hidden (MS.s_places (MS.s_pointValues (MS.s_pointTimes (MS.s_pointSeries (MS.s_lasts (MS.s_written (MS.s_cutLeft y (y.rCut 1)) (y.rWr 1)) (va_up y.lasts w (numB x.tape (16 * k) 8))) (va_up y.pointSeries y.points w)) (va_up y.pointTimes y.points (numB x.tape (16 * k) 8))) (va_up y.pointValues y.points (numB x.tape (16 * k + 8) 8))) (va_up y.places y.points (-1))) (va_up y.hidden y.points (-1))) (va_up y.baseHidden y.points (-1))) (y.points + 1)) (va_up y.kinds y.records 1)) (va_up y.recordSeries y.records w)) (va_up y.firsts y.records (numB x.tape (16 * k) 8))) (va_up y.seconds y.records (numB x.tape (16 * k + 8) 8))) (va_up y.units y.records 1)) (va_up y.recordBlocks y.records (y.rBlock 1))) (y.records + 1)) (y.rKept 1)) (y.rBlock 1)) (y.rUsed 1)) true) (by rw [ey]; rfl) (by omega) (by show y.points + 1 = _; omega) (by show y.records + 1 = _; omega) y3 y4 (rUsed_le (by decide)) (Nat.le_trans (rBlock_le y 1) (by omega)) y7 y8 rfl H _ ls hP hD hS (lv_sub hl [0, 3, 4] rfl)
      · refine jfI (rnV (As := [.int (nI w), .long (numB x.tape (16 * k) 8)]) (rest := []) hx hb hml hown hE hK (hN _ _ hS) hP hD (k_why_0 l D dA H.size h ad y w (numB x.tape (16 * k) 8) (show w < 256 from by omega) z2.1.1 z2.1.2.1 z2.1.2.2.1 z2.1.2.2.2 (show y.used ≤ 126 from by omega) (show y.block < 2 ^ 20 from by omega) (show y.journal ≤ 256 from by omega) z2.2) (q0 := 0) rfl rfl w885 w884 w886 w887 w328 rfl rfl ⟨⟨by decide, by decide⟩, rfl⟩ ⟨(Nat.le_of_ble_eq_true rfl), (Nat.le_of_ble_eq_true rfl)⟩ rfl hl.1 rfl (Nat.le_of_ble_eq_true rfl) d_M_bulk_44 ⟨(Nat.le_of_ble_eq_true rfl), (Nat.le_of_ble_eq_true rfl)⟩) hP hD hS hA (fun r16 u17 H locs hp9 hP hD hS => ?_)
        have hP : va_P D vwCl (MW dA h ad y) H := hP
        have hD : va_D A (MW dA h ad y) := hD
        replace hp9 : 0 = r16 := Eq.symm hp9
        subst hp9
        refine lv_if_ne hx hb d_M_bulk_47 (tgt := 111) rfl (fun h9 => absurd (by decide) h9) (fun _ => ?_)
        refine lv_aload_n hx hb d_M_bulk_50 rfl (lv_at hl 2 rfl) ?_
        refine lv_bipush (v := 16) hx hb d_M_bulk_51 (by decide) ?_
        refine lv_iload_n hx hb d_M_bulk_53 rfl (lv_at hl 0 rfl) ?_
        refine lv_imul hx hb d_M_bulk_54 (tpi (y := nI (16 * k)) (pk_mul (16) (k)) ?_)
        refine jfL (rnV (As := [.int (nI (16 * k))]) (rest := []) hx hb hml hown hE hK (hN _ _ hS) hP hD (k_number l D dA H.size h ad y (16 * k) (show (16 * k) + 8 ≤ 65536 from by omega)) (q0 := 0) rfl rfl w905 w904 w906 w907 w328 rfl rfl ⟨⟨by decide, by decide⟩, rfl⟩ ⟨(Nat.le_of_ble_eq_true rfl), (Nat.le_of_ble_eq_true rfl)⟩ rfl hl.1 rfl (Nat.le_of_ble_eq_true rfl) d_M_bulk_55 ⟨(Nat.le_of_ble_eq_true rfl), (Nat.le_of_ble_eq_true rfl)⟩) hP hD hS hA (fun r18 u19 H locs hp9 hP hD hS => ?_)
        have hP : va_P D vwCl (MW dA h ad y) H := hP
        have hD : va_D A (MW dA h ad y) := hD
        replace hp9 : numB y.tape (16 * k) 8 = r18 := Eq.symm hp9
        subst hp9
        refine tpl (y := numB x.tape (16 * k) 8) (by rw [y3]) ?_
        refine lv_lstore_n hx hb d_M_bulk_58 rfl hl (by decide) rfl (fun ls hl => ?_)
        have hl : lv_has ls 7 [(3, .long (numB x.tape (16 * k) 8)), (2, .int (nI k)), (1, .int (nI w)), (0, .ref h)] := hl
        refine lv_aload_n hx hb d_M_bulk_59 rfl (lv_at hl 3 rfl) ?_
        refine lv_bipush (v := 16) hx hb d_M_bulk_60 (by decide) ?_
        refine lv_iload_n hx hb d_M_bulk_62 rfl (lv_at hl 1 rfl) ?_
        refine lv_imul hx hb d_M_bulk_63 (tpi (y := nI (16 * k)) (pk_mul (16) (k)) ?_)
        refine lv_bipush (v := 8) hx hb d_M_bulk_64 (by decide) ?_
        refine lv_iadd hx hb d_M_bulk_66 (tpi (y := nI ((16 * k) + 8)) (nI_add (16 * k) (8)) ?_)
        refine jfL (rnV (As := [.int (nI ((16 * k) + 8))]) (rest := []) hx hb hml hown hE hK (hN _ _ hS) hP hD (k_number l D dA H.size h ad y ((16 * k) + 8) (show ((16 * k) + 8) + 8 ≤ 65536 from by omega)) (q0 := 0) rfl rfl w905 w904 w906 w907 w328 rfl rfl ⟨⟨by decide, by decide⟩, rfl⟩ ⟨(Nat.le_of_ble_eq_true rfl), (Nat.le_of_ble_eq_true rfl)⟩ rfl hl.1 rfl (Nat.le_of_ble_eq_true rfl) d_M_bulk_67 ⟨(Nat.le_of_ble_eq_true rfl), (Nat.le_of_ble_eq_true rfl)⟩) hP hD hS hA (fun r20 u21 H locs hp9 hP hD hS => ?_)
        have hP : va_P D vwCl (MW dA h ad y) H := hP
        have hD : va_D A (MW dA h ad y) := hD
        replace hp9 : numB y.tape ((16 * k) + 8) 8 = r20 := Eq.symm hp9
        subst hp9
        refine tpl (y := numB x.tape (16 * k + 8) 8) (by rw [y3]) ?_
        refine lv_lstore hx hb d_M_bulk_70 hl (by decide) rfl (fun ls hl => ?_)
        have hl : lv_has ls 7 [(5, .long (numB x.tape (16 * k + 8) 8)), (3, .long (numB x.tape (16 * k) 8)), (2, .int (nI k)), (1, .int (nI w)), (0, .ref h)] := hl
        refine lv_aload_n hx hb d_M_bulk_72 rfl (lv_at hl 4 rfl) ?_
        refine lv_iconst (v := 1) hx hb d_M_bulk_73 (by decide) ?_
        refine lv_iload_n hx hb d_M_bulk_74 rfl (lv_at hl 3 rfl) ?_
        refine lv_lload_n hx hb d_M_bulk_75 rfl (lv_at hl 1 rfl) ?_
        refine lv_lload hx hb d_M_bulk_76 (lv_at hl 0 rfl) ?_
        refine lv_iconst (v := 1) hx hb d_M_bulk_78 (by decide) ?_
        refine jfI (rnV (As := [.int 1, .int (nI w), .long (numB x.tape (16 * k) 8), .long (numB x.tape (16 * k + 8) 8), .int 1]) (rest := []) hx hb hml hown hE hK (hN _ _ hS) hP hD (k_record_x l D dA H.size h ad y 1 w (numB x.tape (16 * k) 8) (numB x.tape (16 * k + 8) 8) 1 (show y.used + 1 < 2 ^ 31 from by omega) (by rw [ey, ← z1]; exact c1) (by rw [ey, ← z1]; exact hf) (by rw [ey, ← z1]; exact hcu)) (q0 := 0) rfl rfl w889 w888 w890 w891 w328 rfl rfl ⟨⟨by decide, by decide⟩, rfl⟩ ⟨(Nat.le_of_ble_eq_true rfl), (Nat.le_of_ble_eq_true rfl)⟩ rfl hl.1 rfl (Nat.le_of_ble_eq_true rfl) d_M_bulk_79 ⟨(Nat.le_of_ble_eq_true rfl), (Nat.le_of_ble_eq_true rfl)⟩) hP hD hS hA (fun r22 u23 H locs hp9 hP hD hS => ?_)
        have hP : va_P D vwCl (MW dA h ad (MS.s_cutLeft (MS.s_on y false) (-1))) H := hP
        have hD : va_D A (MW dA h ad (MS.s_cutLeft (MS.s_on y false) (-1))) := hD
        replace hp9 : bI false = r22 := Eq.symm hp9
        subst hp9
        refine lv_if_ne hx hb d_M_bulk_82 (tgt := 97) rfl (fun h9 => absurd (by decide) h9) (fun _ => ?_)
        refine lv_aload_n hx hb d_M_bulk_85 rfl (lv_at hl 4 rfl) ?_
        refine lv_iconst (v := 1) hx hb d_M_bulk_86 (by decide) ?_
        refine pF (v := .int 1) hx hb hown hE hK hP hD hS 0 rfl rfl layM tyM tokM nmM 0 (by decide) w319 rfl rfl rfl (Nat.le_of_ble_eq_true rfl) d_M_bulk_87 (fun H locs hP hD hS => ?_)
        have hP : va_P D vwCl (MW dA h ad (MS.s_cutLeft (MS.s_on (MS.s_cod y 1) false) (-1))) H := hP
        have hD : va_D A (MW dA h ad (MS.s_cutLeft (MS.s_on (MS.s_cod y 1) false) (-1))) := hD
        refine lv_aload_n hx hb d_M_bulk_90 rfl (lv_at hl 4 rfl) ?_
        refine lv_iconst (v := 0) hx hb d_M_bulk_91 (by decide) ?_
        refine pF (v := .int (nI 0)) hx hb hown hE hK hP hD hS 0 rfl rfl layM tyM tokM nmM 2 (by decide) w320 rfl rfl rfl (Nat.le_of_ble_eq_true rfl) d_M_bulk_92 (fun H locs hP hD hS => ?_)
        have hP : va_P D vwCl (MW dA h ad (MS.s_cutLeft (MS.s_on (MS.s_length (MS.s_cod y 1) 0) false) (-1))) H := hP
        have hD : va_D A (MW dA h ad (MS.s_cutLeft (MS.s_on (MS.s_length (MS.s_cod y 1) 0) false) (-1))) := hD
        refine lv_iconst (v := 0) hx hb d_M_bulk_95 (by decide) ?_
        exact rfI hx hb hr hlk hS (MS.s_cutLeft (MS.s_on (MS.s_length (MS.s_cod y 1) 0) false) (-1)) ⟨rfl, by rw [ey, show k = n by omega]⟩ hP hD (Nat.le_of_ble_eq_true rfl) (Nat.le_of_ble_eq_true rfl) d_M_bulk_96
  exact L20 _ 0 (MS.s_cod x 0) rfl (Nat.zero_le _) rfl rfl rfl rfl (by omega) (Nat.le_refl _) rfl ho rfl H _ ls hP hD hS (lv_sub hl [0, 2, 1] rfl)
theorem d_M_count_8 : decode prog_14_method_48_code 8 = .ok (.iconst 1, 1) := by decide +kernel
theorem d_M_count_9 : decode prog_14_method_48_code 9 = .ok (.goto 18, 3) := by decide +kernel
set_option maxHeartbeats 4000000 in
set_option maxRecDepth 100000 in
theorem k_count_1 (l : Launch) (D : va_G) (dA : Nat → ClassId) (sz : Nat) (h : Nat) (ad : Nat → Nat) (x : MS) (z : Int32) (ho : x.on = false) : Met l ⟨"SeriesVaultModel", "count", "(I)I"⟩ [Cond.code ⟨"SeriesVaultModel", "count", "(I)I"⟩ prog_14_method_48_code 5 (some FieldType.int)] { frames := 1, cells := 0, slots := 0, locals := 0 } (pC D dA [.ref h, .int z] (MW dA h ad x) sz) (va_Qi (fun (r9 : Int32) (u9 : Unit) => r9 = 0) (fun (u9 : Unit) t9 => bW D (va_A (MW dA h ad x) sz) (MW dA h ad (MS.s_cod x 1)) t9) (va_A (MW dA h ad x) sz)) 0 0 (va_A (MW dA h ad x) sz) := by
  refine mkC (y := ⟨"SeriesVaultModel", "count", "(I)I"⟩) (cc := prog_14_method_48_code) (maxL := 5) (av := [.ref h, .int z]) (ws := MW dA h ad x) (sz := sz) (Qc := fun A => va_Qi (fun (r9 : Int32) (u9 : Unit) => r9 = 0) (fun (u9 : Unit) t9 => bW D A (MW dA h ad (MS.s_cod x 1)) t9) A) (by decide) (Nat.le_of_ble_eq_true rfl) ?_
  intro A p e s m below meth c ls hsz hB
  obtain ⟨hx, hb, hr, hml, hown, hin, hlk, hE, hK, hP, hD, hS, hA, hN, hl⟩ := hB
  have hown : s.vm.findClass "SeriesVaultModel" = some m.cls := hown
  have hl : lv_has ls 5 [(0, .ref h), (1, .int z)] := hl
  obtain ⟨H, hH⟩ : ∃ z, z = s.heap := ⟨_, rfl⟩
  have hP : va_P D vwCl (MW dA h ad x) H := by rw [hH]; exact hP
  have hS : va_S A s.heap H [] := by rw [hH]; exact hS
  rw [← hH]
  refine lv_aload_n hx hb d_M_count_0 rfl (lv_at hl 0 rfl) ?_
  refine lv_aload_n hx hb d_M_count_1 rfl (lv_at hl 0 rfl) ?_
  refine gF (v := .int (bI x.on)) hx hb hown hE hK hP 0 rfl rfl layM 7 (by decide) w324 rfl d_M_count_2 ?_
  refine lv_if_ne hx hb d_M_count_5 (tgt := 12) rfl (fun h9 => absurd (by rw [ho]; decide) h9) (fun _ => ?_)
  refine lv_iconst (v := 1) hx hb d_M_count_8 (by decide) ?_
  refine lv_goto hx hb d_M_count_9 (tgt := 27) rfl ?_
  refine pF (v := .int 1) hx hb hown hE hK hP hD hS 0 rfl rfl layM tyM tokM nmM 0 (by decide) w319 rfl rfl rfl (Nat.le_of_ble_eq_true rfl) d_M_count_27 (fun H locs hP hD hS => ?_)
  have hP : va_P D vwCl (MW dA h ad (MS.s_cod x 1)) H := hP
  have hD : va_D A (MW dA h ad (MS.s_cod x 1)) := hD
  refine lv_aload_n hx hb d_M_count_30 rfl (lv_at hl 0 rfl) ?_
  refine gF (v := .int 1) hx hb hown hE hK hP 0 rfl rfl layM 0 (by decide) w319 rfl d_M_count_31 ?_
  refine lv_if_le hx hb d_M_count_34 (tgt := 39) rfl (fun h9 => absurd h9 (by decide)) (fun _ => ?_)
  refine lv_iconst (v := 0) hx hb d_M_count_37 (by decide) ?_
  exact rfI hx hb hr hlk hS () rfl hP hD (Nat.le_of_ble_eq_true rfl) (Nat.le_of_ble_eq_true rfl) d_M_count_38
set_option maxHeartbeats 4000000 in
set_option maxRecDepth 100000 in
theorem k_count_2 (l : Launch) (D : va_G) (dA : Nat → ClassId) (sz : Nat) (h : Nat) (ad : Nat → Nat) (x : MS) (z : Int32) (ho : x.on = true) (h0 : z < 0 ∨ 8 < z) : Met l ⟨"SeriesVaultModel", "count", "(I)I"⟩ [Cond.code ⟨"SeriesVaultModel", "count", "(I)I"⟩ prog_14_method_48_code 5 (some FieldType.int)] { frames := 1, cells := 0, slots := 0, locals := 0 } (pC D dA [.ref h, .int z] (MW dA h ad x) sz) (va_Qi (fun (r9 : Int32) (u9 : Unit) => r9 = 0) (fun (u9 : Unit) t9 => bW D (va_A (MW dA h ad x) sz) (MW dA h ad (MS.s_cod x 2)) t9) (va_A (MW dA h ad x) sz)) 0 0 (va_A (MW dA h ad x) sz) := by
  refine mkC (y := ⟨"SeriesVaultModel", "count", "(I)I"⟩) (cc := prog_14_method_48_code) (maxL := 5) (av := [.ref h, .int z]) (ws := MW dA h ad x) (sz := sz) (Qc := fun A => va_Qi (fun (r9 : Int32) (u9 : Unit) => r9 = 0) (fun (u9 : Unit) t9 => bW D A (MW dA h ad (MS.s_cod x 2)) t9) A) (by decide) (Nat.le_of_ble_eq_true rfl) ?_
  intro A p e s m below meth c ls hsz hB
  obtain ⟨hx, hb, hr, hml, hown, hin, hlk, hE, hK, hP, hD, hS, hA, hN, hl⟩ := hB
  have hown : s.vm.findClass "SeriesVaultModel" = some m.cls := hown
  have hl : lv_has ls 5 [(0, .ref h), (1, .int z)] := hl
  obtain ⟨H, hH⟩ : ∃ z, z = s.heap := ⟨_, rfl⟩
  have hP : va_P D vwCl (MW dA h ad x) H := by rw [hH]; exact hP
  have hS : va_S A s.heap H [] := by rw [hH]; exact hS
  rw [← hH]
  refine lv_aload_n hx hb d_M_count_0 rfl (lv_at hl 0 rfl) ?_
  refine lv_aload_n hx hb d_M_count_1 rfl (lv_at hl 0 rfl) ?_
  refine gF (v := .int (bI x.on)) hx hb hown hE hK hP 0 rfl rfl layM 7 (by decide) w324 rfl d_M_count_2 ?_
  refine lv_if_ne hx hb d_M_count_5 (tgt := 12) rfl (fun _ => ?_) (fun h9 => absurd h9 (by rw [ho]; decide))
  refine lv_iload_n hx hb d_M_count_12 rfl (lv_at hl 1 rfl) ?_
  refine lv_if_lt hx hb d_M_count_13 (tgt := 22) rfl (fun g1 => ?_) (fun g1 => ?_)
  · have g1 := g1
    refine lv_iconst (v := 2) hx hb d_M_count_22 (by decide) ?_
    refine lv_goto hx hb d_M_count_23 (tgt := 27) rfl ?_
    refine pF (v := .int 2) hx hb hown hE hK hP hD hS 0 rfl rfl layM tyM tokM nmM 0 (by decide) w319 rfl rfl rfl (Nat.le_of_ble_eq_true rfl) d_M_count_27 (fun H locs hP hD hS => ?_)
    have hP : va_P D vwCl (MW dA h ad (MS.s_cod x 2)) H := hP
    have hD : va_D A (MW dA h ad (MS.s_cod x 2)) := hD
    refine lv_aload_n hx hb d_M_count_30 rfl (lv_at hl 0 rfl) ?_
    refine gF (v := .int 2) hx hb hown hE hK hP 0 rfl rfl layM 0 (by decide) w319 rfl d_M_count_31 ?_
    refine lv_if_le hx hb d_M_count_34 (tgt := 39) rfl (fun h9 => absurd h9 (by decide)) (fun _ => ?_)
    refine lv_iconst (v := 0) hx hb d_M_count_37 (by decide) ?_
    exact rfI hx hb hr hlk hS () rfl hP hD (Nat.le_of_ble_eq_true rfl) (Nat.le_of_ble_eq_true rfl) d_M_count_38
  · have g1 := g1
    refine lv_iload_n hx hb d_M_count_16 rfl (lv_at hl 1 rfl) ?_
    refine lv_bipush (v := 8) hx hb d_M_count_17 (by decide) ?_
    refine lv_icmp_le hx hb d_M_count_19 (tgt := 26) rfl (fun h9 => absurd h9 (Int32.not_le.mpr (h0.resolve_left (by assumption)))) (fun _ => ?_)
    refine lv_iconst (v := 2) hx hb d_M_count_22 (by decide) ?_
    refine lv_goto hx hb d_M_count_23 (tgt := 27) rfl ?_
    refine pF (v := .int 2) hx hb hown hE hK hP hD hS 0 rfl rfl layM tyM tokM nmM 0 (by decide) w319 rfl rfl rfl (Nat.le_of_ble_eq_true rfl) d_M_count_27 (fun H locs hP hD hS => ?_)
    have hP : va_P D vwCl (MW dA h ad (MS.s_cod x 2)) H := hP
    have hD : va_D A (MW dA h ad (MS.s_cod x 2)) := hD
    refine lv_aload_n hx hb d_M_count_30 rfl (lv_at hl 0 rfl) ?_
    refine gF (v := .int 2) hx hb hown hE hK hP 0 rfl rfl layM 0 (by decide) w319 rfl d_M_count_31 ?_
    refine lv_if_le hx hb d_M_count_34 (tgt := 39) rfl (fun h9 => absurd h9 (by decide)) (fun _ => ?_)
    refine lv_iconst (v := 0) hx hb d_M_count_37 (by decide) ?_
    exact rfI hx hb hr hlk hS () rfl hP hD (Nat.le_of_ble_eq_true rfl) (Nat.le_of_ble_eq_true rfl) d_M_count_38
theorem d_M_count_80 : decode prog_14_method_48_code 80 = .ok (.iload_n 3, 1) := by decide +kernel
theorem d_M_count_81 : decode prog_14_method_48_code 81 = .ok (.aload_n 0, 1) := by decide +kernel
theorem d_M_count_82 : decode prog_14_method_48_code 82 = .ok (.iload 4, 2) := by decide +kernel
theorem d_M_count_84 : decode prog_14_method_48_code 84 = .ok (.invokevirtual 207, 3) := by decide +kernel
theorem d_M_count_87 : decode prog_14_method_48_code 87 = .ok (.ifCond .eq 7, 3) := by decide +kernel
theorem d_M_count_94 : decode prog_14_method_48_code 94 = .ok (.iconst 0, 1) := by decide +kernel
theorem d_M_count_95 : decode prog_14_method_48_code 95 = .ok (.iadd, 1) := by decide +kernel
theorem d_M_count_96 : decode prog_14_method_48_code 96 = .ok (.istore_n 3, 1) := by decide +kernel
theorem d_M_count_97 : decode prog_14_method_48_code 97 = .ok (.iinc 4 1, 3) := by decide +kernel
theorem d_M_count_100 : decode prog_14_method_48_code 100 = .ok (.goto (-29), 3) := by decide +kernel
theorem d_M_count_90 : decode prog_14_method_48_code 90 = .ok (.iconst 1, 1) := by decide +kernel
theorem d_M_count_91 : decode prog_14_method_48_code 91 = .ok (.goto 4, 3) := by decide +kernel
theorem d_M_count_51 : decode prog_14_method_48_code 51 = .ok (.iload_n 2, 1) := by decide +kernel
theorem d_M_count_52 : decode prog_14_method_48_code 52 = .ok (.aload_n 0, 1) := by decide +kernel
theorem d_M_count_53 : decode prog_14_method_48_code 53 = .ok (.getfield 79, 3) := by decide +kernel
theorem d_M_count_56 : decode prog_14_method_48_code 56 = .ok (.iload_n 3, 1) := by decide +kernel
theorem d_M_count_57 : decode prog_14_method_48_code 57 = .ok (.iaload, 1) := by decide +kernel
theorem d_M_count_58 : decode prog_14_method_48_code 58 = .ok (.iadd, 1) := by decide +kernel
theorem d_M_count_59 : decode prog_14_method_48_code 59 = .ok (.istore_n 2, 1) := by decide +kernel
theorem d_M_count_60 : decode prog_14_method_48_code 60 = .ok (.iinc 3 1, 3) := by decide +kernel
theorem d_M_count_63 : decode prog_14_method_48_code 63 = .ok (.goto (-20), 3) := by decide +kernel
set_option maxHeartbeats 4000000 in
set_option maxRecDepth 100000 in
theorem k_count0_0 (l : Launch) (D : va_G) (dA : Nat → ClassId) (sz : Nat) (h : Nat) (ad : Nat → Nat) (x : MS) (ho : x.on = true) (r1 : x.records ≤ 32000) (hp1 : x.points ≤ 12000) : Met l ⟨"SeriesVaultModel", "count", "(I)I"⟩ [Cond.code ⟨"SeriesVaultModel", "count", "(I)I"⟩ prog_14_method_48_code 5 (some FieldType.int)] { frames := 2, cells := 0, slots := 0, locals := 21 } (pC D dA [.ref h, .int 0] (MW dA h ad x) sz) (va_Qi (fun (r9 : Int32) (u9 : Unit) => r9 = nI x.seriesCount) (fun (u9 : Unit) t9 => bW D (va_A (MW dA h ad x) sz) (MW dA h ad (MS.s_cod x 0)) t9) (va_A (MW dA h ad x) sz)) 0 0 (va_A (MW dA h ad x) sz) := by
  refine mkC (y := ⟨"SeriesVaultModel", "count", "(I)I"⟩) (cc := prog_14_method_48_code) (maxL := 5) (av := [.ref h, .int 0]) (ws := MW dA h ad x) (sz := sz) (Qc := fun A => va_Qi (fun (r9 : Int32) (u9 : Unit) => r9 = nI x.seriesCount) (fun (u9 : Unit) t9 => bW D A (MW dA h ad (MS.s_cod x 0)) t9) A) (by decide) (Nat.le_of_ble_eq_true rfl) ?_
  intro A p e s m below meth c ls hsz hB
  obtain ⟨hx, hb, hr, hml, hown, hin, hlk, hE, hK, hP, hD, hS, hA, hN, hl⟩ := hB
  have hown : s.vm.findClass "SeriesVaultModel" = some m.cls := hown
  have hl : lv_has ls 5 [(0, .ref h), (1, .int 0)] := hl
  obtain ⟨H, hH⟩ : ∃ z, z = s.heap := ⟨_, rfl⟩
  have hP : va_P D vwCl (MW dA h ad x) H := by rw [hH]; exact hP
  have hS : va_S A s.heap H [] := by rw [hH]; exact hS
  rw [← hH]
  refine lv_aload_n hx hb d_M_count_0 rfl (lv_at hl 0 rfl) ?_
  refine lv_aload_n hx hb d_M_count_1 rfl (lv_at hl 0 rfl) ?_
  refine gF (v := .int (bI x.on)) hx hb hown hE hK hP 0 rfl rfl layM 7 (by decide) w324 rfl d_M_count_2 ?_
  refine lv_if_ne hx hb d_M_count_5 (tgt := 12) rfl (fun _ => ?_) (fun h9 => absurd h9 (by rw [ho]; decide))
  refine lv_iload_n hx hb d_M_count_12 rfl (lv_at hl 1 rfl) ?_
  refine lv_if_lt hx hb d_M_count_13 (tgt := 22) rfl (fun h9 => absurd h9 (by decide)) (fun _ => ?_)
  refine lv_iload_n hx hb d_M_count_16 rfl (lv_at hl 1 rfl) ?_
  refine lv_bipush (v := 8) hx hb d_M_count_17 (by decide) ?_
  refine lv_icmp_le hx hb d_M_count_19 (tgt := 26) rfl (fun _ => ?_) (fun h9 => absurd (by decide) h9)
  refine lv_iconst (v := 0) hx hb d_M_count_26 (by decide) ?_
  refine pF (v := .int 0) hx hb hown hE hK hP hD hS 0 rfl rfl layM tyM tokM nmM 0 (by decide) w319 rfl rfl rfl (Nat.le_of_ble_eq_true rfl) d_M_count_27 (fun H locs hP hD hS => ?_)
  have hP : va_P D vwCl (MW dA h ad (MS.s_cod x 0)) H := hP
  have hD : va_D A (MW dA h ad (MS.s_cod x 0)) := hD
  refine lv_aload_n hx hb d_M_count_30 rfl (lv_at hl 0 rfl) ?_
  refine gF (v := .int 0) hx hb hown hE hK hP 0 rfl rfl layM 0 (by decide) w319 rfl d_M_count_31 ?_
  refine lv_if_le hx hb d_M_count_34 (tgt := 39) rfl (fun _ => ?_) (fun h9 => absurd (by decide) h9)
  refine lv_iconst (v := 0) hx hb d_M_count_39 (by decide) ?_
  refine lv_istore_n hx hb d_M_count_40 rfl hl (by decide) rfl (fun ls hl => ?_)
  have hl : lv_has ls 5 [(2, .int 0), (0, .ref h), (1, .int 0)] := hl
  refine lv_iconst (v := 0) hx hb d_M_count_41 (by decide) ?_
  refine lv_istore_n hx hb d_M_count_42 rfl hl (by decide) rfl (fun ls hl => ?_)
  have hl : lv_has ls 5 [(3, .int 0), (2, .int 0), (0, .ref h), (1, .int 0)] := hl
  have L43 : ∀ (k9 : Nat) (k : Nat) (n : Nat) (i1 : k ≤ x.records) (i2 : n = sumN k x.units) (hk9 : x.records - k = k9), ∀ (H : Heap) (locs : List Loc) (ls : Array Slot) (hP : va_P D vwCl (MW dA h ad (MS.s_cod x 0)) H) (hD : va_D A (MW dA h ad (MS.s_cod x 0))) (hS : va_S A s.heap H locs) (hl : lv_has ls 5 [(3, .int (nI k)), (2, .int (nI n)), (1, .int 0), (0, .ref h)]), W p l e ({ frames := 2, cells := 0, slots := 0, locals := 21 } : Room) s m ([.ref h, .int 0] : List Value).toArray below meth c H locs 0 0 (MQ below (va_Qi (fun (r9 : Int32) (u9 : Unit) => r9 = nI x.seriesCount) (fun (u9 : Unit) t9 => bW D A (MW dA h ad (MS.s_cod x 0)) t9) A) ([.ref h, .int 0] : List Value).toArray s 0 0 A) (F0 m 43 ls []) := by
    intro k9
    induction k9 using Nat.strongRecOn with
    | ind k9 ih43 =>
      intro k n i1 i2 hk9 H locs ls hP hD hS hl
      refine lv_iload_n hx hb d_M_count_43 rfl (lv_at hl 0 rfl) ?_
      refine lv_aload_n hx hb d_M_count_44 rfl (lv_at hl 3 rfl) ?_
      refine gF (v := .int (nI x.records)) hx hb hown hE hK hP 0 rfl rfl layM 37 (by decide) w338 rfl d_M_count_45 ?_
      refine lv_icmp_ge hx hb d_M_count_48 (tgt := 66) rfl (fun g1 => ?_) (fun g1 => ?_)
      · have g1 := (nI_leI (a := x.records) (b := k) (by omega) (by omega)).mp g1
        refine lv_iconst (v := 0) hx hb d_M_count_66 (by decide) ?_
        refine lv_istore_n hx hb d_M_count_67 rfl hl (by decide) rfl (fun ls hl => ?_)
        have hl : lv_has ls 5 [(3, .int 0), (2, .int (nI n)), (1, .int 0), (0, .ref h)] := hl
        refine lv_iconst (v := 0) hx hb d_M_count_68 (by decide) ?_
        refine lv_istore hx hb d_M_count_69 hl (by decide) rfl (fun ls hl => ?_)
        have hl : lv_has ls 5 [(4, .int 0), (3, .int 0), (2, .int (nI n)), (1, .int 0), (0, .ref h)] := hl
        have L71 : ∀ (k9 : Nat) (q : Nat) (j : Nat) (j1 : q ≤ x.points) (j2 : j = cnt q x.seen) (hk9 : x.points - q = k9), ∀ (H : Heap) (locs : List Loc) (ls : Array Slot) (hP : va_P D vwCl (MW dA h ad (MS.s_cod x 0)) H) (hD : va_D A (MW dA h ad (MS.s_cod x 0))) (hS : va_S A s.heap H locs) (hl : lv_has ls 5 [(4, .int (nI q)), (3, .int (nI j)), (2, .int (nI n)), (1, .int 0), (0, .ref h)]), W p l e ({ frames := 2, cells := 0, slots := 0, locals := 21 } : Room) s m ([.ref h, .int 0] : List Value).toArray below meth c H locs 0 0 (MQ below (va_Qi (fun (r9 : Int32) (u9 : Unit) => r9 = nI x.seriesCount) (fun (u9 : Unit) t9 => bW D A (MW dA h ad (MS.s_cod x 0)) t9) A) ([.ref h, .int 0] : List Value).toArray s 0 0 A) (F0 m 71 ls []) := by
          intro k9
          induction k9 using Nat.strongRecOn with
          | ind k9 ih71 =>
            intro q j j1 j2 hk9 H locs ls hP hD hS hl
            refine lv_iload hx hb d_M_count_71 (lv_at hl 0 rfl) ?_
            refine lv_aload_n hx hb d_M_count_73 rfl (lv_at hl 4 rfl) ?_
            refine gF (v := .int (nI x.points)) hx hb hown hE hK hP 0 rfl rfl layM 23 (by decide) w420 rfl d_M_count_74 ?_
            refine lv_icmp_ge hx hb d_M_count_77 (tgt := 103) rfl (fun g2 => ?_) (fun g2 => ?_)
            · have g2 := (nI_leI (a := x.points) (b := q) (by omega) (by omega)).mp g2
              refine lv_iload_n hx hb d_M_count_103 rfl (lv_at hl 3 rfl) ?_
              refine lv_if_ne hx hb d_M_count_104 (tgt := 114) rfl (fun h9 => absurd (by decide) h9) (fun _ => ?_)
              refine lv_aload_n hx hb d_M_count_107 rfl (lv_at hl 4 rfl) ?_
              refine gF (v := .int (nI x.seriesCount)) hx hb hown hE hK hP 0 rfl rfl layM 12 (by decide) w332 rfl d_M_count_108 ?_
              refine lv_goto hx hb d_M_count_111 (tgt := 198) rfl ?_
              exact rfI hx hb hr hlk hS () (by first | rfl | rw [i2, show k = x.records by omega] | rw [j2, show q = x.points by omega]) hP hD (Nat.le_of_ble_eq_true rfl) (Nat.le_of_ble_eq_true rfl) d_M_count_198
            · have g2 := mt (nI_leI (a := x.points) (b := q) (by omega) (by omega)).mpr g2
              refine lv_iload_n hx hb d_M_count_80 rfl (lv_at hl 1 rfl) ?_
              refine lv_aload_n hx hb d_M_count_81 rfl (lv_at hl 4 rfl) ?_
              refine lv_iload hx hb d_M_count_82 (lv_at hl 0 rfl) ?_
              refine jfI (rnV (As := [.int (nI q)]) (rest := [.int (nI j)]) hx hb hml hown hE hK (hN _ _ hS) hP hD (k_isSeen l D dA H.size h ad (MS.s_cod x 0) q (show q < 12000 from by omega)) (q0 := 0) rfl rfl w861 w860 w862 w863 w328 rfl rfl ⟨⟨by decide, by decide⟩, rfl⟩ ⟨(Nat.le_of_ble_eq_true rfl), (Nat.le_of_ble_eq_true rfl)⟩ rfl hl.1 rfl (Nat.le_of_ble_eq_true rfl) d_M_count_84 ⟨(Nat.le_of_ble_eq_true rfl), (Nat.le_of_ble_eq_true rfl)⟩) hP hD hS hA (fun r3 u4 H locs hp9 hP hD hS => ?_)
              have hP : va_P D vwCl (MW dA h ad (MS.s_cod x 0)) H := hP
              have hD : va_D A (MW dA h ad (MS.s_cod x 0)) := hD
              replace hp9 : bI (x.seen q) = r3 := Eq.symm hp9
              subst hp9
              refine lv_if_eq hx hb d_M_count_87 (tgt := 94) rfl (fun g5 => ?_) (fun g5 => ?_)
              · have g5 := bI_0 g5
                refine lv_iconst (v := 0) hx hb d_M_count_94 (by decide) ?_
                refine lv_iadd hx hb d_M_count_95 (tpi (y := nI (j)) (nI_add (j) (0)) ?_)
                refine lv_istore_n hx hb d_M_count_96 rfl hl (by decide) rfl (fun ls hl => ?_)
                have hl : lv_has ls 5 [(3, .int (nI (j))), (4, .int (nI q)), (2, .int (nI n)), (1, .int 0), (0, .ref h)] := hl
                refine lv_iinc (k := 1) (v := nI (q + 1)) hx hb d_M_count_97 hl rfl (iincN (q) 1 1 (by decide)) (by decide) rfl (fun ls hl => ?_)
                have hl : lv_has ls 5 [(4, .int (nI (q + 1))), (3, .int (nI (j))), (2, .int (nI n)), (1, .int 0), (0, .ref h)] := hl
                refine lv_goto hx hb d_M_count_100 (tgt := 71) rfl ?_
                exact ih71 _ (by omega) (q + 1) j (by omega) (by simp [cnt, *]) rfl H _ ls hP hD hS (lv_sub hl [0, 1, 2, 3, 4] rfl)
              · have g5 := bI_n0 g5
                refine lv_iconst (v := 1) hx hb d_M_count_90 (by decide) ?_
                refine lv_goto hx hb d_M_count_91 (tgt := 95) rfl ?_
                refine lv_iadd hx hb d_M_count_95 (tpi (y := nI (j + 1)) (nI_add (j) (1)) ?_)
                refine lv_istore_n hx hb d_M_count_96 rfl hl (by decide) rfl (fun ls hl => ?_)
                have hl : lv_has ls 5 [(3, .int (nI (j + 1))), (4, .int (nI q)), (2, .int (nI n)), (1, .int 0), (0, .ref h)] := hl
                refine lv_iinc (k := 1) (v := nI (q + 1)) hx hb d_M_count_97 hl rfl (iincN (q) 1 1 (by decide)) (by decide) rfl (fun ls hl => ?_)
                have hl : lv_has ls 5 [(4, .int (nI (q + 1))), (3, .int (nI (j + 1))), (2, .int (nI n)), (1, .int 0), (0, .ref h)] := hl
                refine lv_goto hx hb d_M_count_100 (tgt := 71) rfl ?_
                exact ih71 _ (by omega) (q + 1) (j + 1) (by omega) (by simp [cnt, *]) rfl H _ ls hP hD hS (lv_sub hl [0, 1, 2, 3, 4] rfl)
        exact L71 _ 0 0 (by omega) rfl rfl H _ ls hP hD hS (lv_sub hl [0, 1, 2, 3, 4] rfl)
      · have g1 := mt (nI_leI (a := x.records) (b := k) (by omega) (by omega)).mpr g1
        refine lv_iload_n hx hb d_M_count_51 rfl (lv_at hl 1 rfl) ?_
        refine lv_aload_n hx hb d_M_count_52 rfl (lv_at hl 3 rfl) ?_
        refine gF (v := .ref (ad 35)) hx hb hown hE hK hP 0 rfl rfl layM 35 (by decide) w515 rfl d_M_count_53 ?_
        refine lv_iload_n hx hb d_M_count_56 rfl (lv_at hl 0 rfl) ?_
        refine nild (f := (fun z9 => nI (x.units z9))) hx hb hK hP 18 1 rfl rfl (k) (by omega) (by decide) d_M_count_57 ?_
        refine lv_iadd hx hb d_M_count_58 (tpi (y := nI (n + (x.units k))) (nI_add (n) (x.units k)) ?_)
        refine lv_istore_n hx hb d_M_count_59 rfl hl (by decide) rfl (fun ls hl => ?_)
        have hl : lv_has ls 5 [(2, .int (nI (n + (x.units k)))), (3, .int (nI k)), (1, .int 0), (0, .ref h)] := hl
        refine lv_iinc (k := 1) (v := nI (k + 1)) hx hb d_M_count_60 hl rfl (iincN (k) 1 1 (by decide)) (by decide) rfl (fun ls hl => ?_)
        have hl : lv_has ls 5 [(3, .int (nI (k + 1))), (2, .int (nI (n + (x.units k)))), (1, .int 0), (0, .ref h)] := hl
        refine lv_goto hx hb d_M_count_63 (tgt := 43) rfl ?_
        exact ih43 _ (by omega) (k + 1) (n + (x.units k)) (by omega) (by rw [i2]; rfl) rfl H _ ls hP hD hS (lv_sub hl [0, 1, 2, 3] rfl)
  exact L43 _ 0 0 (by omega) rfl rfl H _ ls hP hD hS (lv_sub hl [0, 1, 3, 2] rfl)
set_option maxHeartbeats 4000000 in
set_option maxRecDepth 100000 in
theorem k_count0_1 (l : Launch) (D : va_G) (dA : Nat → ClassId) (sz : Nat) (h : Nat) (ad : Nat → Nat) (x : MS) (ho : x.on = true) (r1 : x.records ≤ 32000) (hp1 : x.points ≤ 12000) : Met l ⟨"SeriesVaultModel", "count", "(I)I"⟩ [Cond.code ⟨"SeriesVaultModel", "count", "(I)I"⟩ prog_14_method_48_code 5 (some FieldType.int)] { frames := 3, cells := 0, slots := 0, locals := 43 } (pC D dA [.ref h, .int 1] (MW dA h ad x) sz) (va_Qi (fun (r9 : Int32) (u9 : Unit) => r9 = nI x.heads) (fun (u9 : Unit) t9 => bW D (va_A (MW dA h ad x) sz) (MW dA h ad (MS.s_cod x 0)) t9) (va_A (MW dA h ad x) sz)) 0 0 (va_A (MW dA h ad x) sz) := by
  refine mkC (y := ⟨"SeriesVaultModel", "count", "(I)I"⟩) (cc := prog_14_method_48_code) (maxL := 5) (av := [.ref h, .int 1]) (ws := MW dA h ad x) (sz := sz) (Qc := fun A => va_Qi (fun (r9 : Int32) (u9 : Unit) => r9 = nI x.heads) (fun (u9 : Unit) t9 => bW D A (MW dA h ad (MS.s_cod x 0)) t9) A) (by decide) (Nat.le_of_ble_eq_true rfl) ?_
  intro A p e s m below meth c ls hsz hB
  obtain ⟨hx, hb, hr, hml, hown, hin, hlk, hE, hK, hP, hD, hS, hA, hN, hl⟩ := hB
  have hown : s.vm.findClass "SeriesVaultModel" = some m.cls := hown
  have hl : lv_has ls 5 [(0, .ref h), (1, .int 1)] := hl
  obtain ⟨H, hH⟩ : ∃ z, z = s.heap := ⟨_, rfl⟩
  have hP : va_P D vwCl (MW dA h ad x) H := by rw [hH]; exact hP
  have hS : va_S A s.heap H [] := by rw [hH]; exact hS
  rw [← hH]
  refine lv_aload_n hx hb d_M_count_0 rfl (lv_at hl 0 rfl) ?_
  refine lv_aload_n hx hb d_M_count_1 rfl (lv_at hl 0 rfl) ?_
  refine gF (v := .int (bI x.on)) hx hb hown hE hK hP 0 rfl rfl layM 7 (by decide) w324 rfl d_M_count_2 ?_
  refine lv_if_ne hx hb d_M_count_5 (tgt := 12) rfl (fun _ => ?_) (fun h9 => absurd h9 (by rw [ho]; decide))
  refine lv_iload_n hx hb d_M_count_12 rfl (lv_at hl 1 rfl) ?_
  refine lv_if_lt hx hb d_M_count_13 (tgt := 22) rfl (fun h9 => absurd h9 (by decide)) (fun _ => ?_)
  refine lv_iload_n hx hb d_M_count_16 rfl (lv_at hl 1 rfl) ?_
  refine lv_bipush (v := 8) hx hb d_M_count_17 (by decide) ?_
  refine lv_icmp_le hx hb d_M_count_19 (tgt := 26) rfl (fun _ => ?_) (fun h9 => absurd (by decide) h9)
  refine lv_iconst (v := 0) hx hb d_M_count_26 (by decide) ?_
  refine pF (v := .int 0) hx hb hown hE hK hP hD hS 0 rfl rfl layM tyM tokM nmM 0 (by decide) w319 rfl rfl rfl (Nat.le_of_ble_eq_true rfl) d_M_count_27 (fun H locs hP hD hS => ?_)
  have hP : va_P D vwCl (MW dA h ad (MS.s_cod x 0)) H := hP
  have hD : va_D A (MW dA h ad (MS.s_cod x 0)) := hD
  refine lv_aload_n hx hb d_M_count_30 rfl (lv_at hl 0 rfl) ?_
  refine gF (v := .int 0) hx hb hown hE hK hP 0 rfl rfl layM 0 (by decide) w319 rfl d_M_count_31 ?_
  refine lv_if_le hx hb d_M_count_34 (tgt := 39) rfl (fun _ => ?_) (fun h9 => absurd (by decide) h9)
  refine lv_iconst (v := 0) hx hb d_M_count_39 (by decide) ?_
  refine lv_istore_n hx hb d_M_count_40 rfl hl (by decide) rfl (fun ls hl => ?_)
  have hl : lv_has ls 5 [(2, .int 0), (0, .ref h), (1, .int 1)] := hl
  refine lv_iconst (v := 0) hx hb d_M_count_41 (by decide) ?_
  refine lv_istore_n hx hb d_M_count_42 rfl hl (by decide) rfl (fun ls hl => ?_)
  have hl : lv_has ls 5 [(3, .int 0), (2, .int 0), (0, .ref h), (1, .int 1)] := hl
  have L43 : ∀ (k9 : Nat) (k : Nat) (n : Nat) (i1 : k ≤ x.records) (i2 : n = sumN k x.units) (hk9 : x.records - k = k9), ∀ (H : Heap) (locs : List Loc) (ls : Array Slot) (hP : va_P D vwCl (MW dA h ad (MS.s_cod x 0)) H) (hD : va_D A (MW dA h ad (MS.s_cod x 0))) (hS : va_S A s.heap H locs) (hl : lv_has ls 5 [(3, .int (nI k)), (2, .int (nI n)), (1, .int 1), (0, .ref h)]), W p l e ({ frames := 3, cells := 0, slots := 0, locals := 43 } : Room) s m ([.ref h, .int 1] : List Value).toArray below meth c H locs 0 0 (MQ below (va_Qi (fun (r9 : Int32) (u9 : Unit) => r9 = nI x.heads) (fun (u9 : Unit) t9 => bW D A (MW dA h ad (MS.s_cod x 0)) t9) A) ([.ref h, .int 1] : List Value).toArray s 0 0 A) (F0 m 43 ls []) := by
    intro k9
    induction k9 using Nat.strongRecOn with
    | ind k9 ih43 =>
      intro k n i1 i2 hk9 H locs ls hP hD hS hl
      refine lv_iload_n hx hb d_M_count_43 rfl (lv_at hl 0 rfl) ?_
      refine lv_aload_n hx hb d_M_count_44 rfl (lv_at hl 3 rfl) ?_
      refine gF (v := .int (nI x.records)) hx hb hown hE hK hP 0 rfl rfl layM 37 (by decide) w338 rfl d_M_count_45 ?_
      refine lv_icmp_ge hx hb d_M_count_48 (tgt := 66) rfl (fun g1 => ?_) (fun g1 => ?_)
      · have g1 := (nI_leI (a := x.records) (b := k) (by omega) (by omega)).mp g1
        refine lv_iconst (v := 0) hx hb d_M_count_66 (by decide) ?_
        refine lv_istore_n hx hb d_M_count_67 rfl hl (by decide) rfl (fun ls hl => ?_)
        have hl : lv_has ls 5 [(3, .int 0), (2, .int (nI n)), (1, .int 1), (0, .ref h)] := hl
        refine lv_iconst (v := 0) hx hb d_M_count_68 (by decide) ?_
        refine lv_istore hx hb d_M_count_69 hl (by decide) rfl (fun ls hl => ?_)
        have hl : lv_has ls 5 [(4, .int 0), (3, .int 0), (2, .int (nI n)), (1, .int 1), (0, .ref h)] := hl
        have L71 : ∀ (k9 : Nat) (q : Nat) (j : Nat) (j1 : q ≤ x.points) (j2 : j = cnt q x.seen) (hk9 : x.points - q = k9), ∀ (H : Heap) (locs : List Loc) (ls : Array Slot) (hP : va_P D vwCl (MW dA h ad (MS.s_cod x 0)) H) (hD : va_D A (MW dA h ad (MS.s_cod x 0))) (hS : va_S A s.heap H locs) (hl : lv_has ls 5 [(4, .int (nI q)), (3, .int (nI j)), (2, .int (nI n)), (1, .int 1), (0, .ref h)]), W p l e ({ frames := 3, cells := 0, slots := 0, locals := 43 } : Room) s m ([.ref h, .int 1] : List Value).toArray below meth c H locs 0 0 (MQ below (va_Qi (fun (r9 : Int32) (u9 : Unit) => r9 = nI x.heads) (fun (u9 : Unit) t9 => bW D A (MW dA h ad (MS.s_cod x 0)) t9) A) ([.ref h, .int 1] : List Value).toArray s 0 0 A) (F0 m 71 ls []) := by
          intro k9
          induction k9 using Nat.strongRecOn with
          | ind k9 ih71 =>
            intro q j j1 j2 hk9 H locs ls hP hD hS hl
            refine lv_iload hx hb d_M_count_71 (lv_at hl 0 rfl) ?_
            refine lv_aload_n hx hb d_M_count_73 rfl (lv_at hl 4 rfl) ?_
            refine gF (v := .int (nI x.points)) hx hb hown hE hK hP 0 rfl rfl layM 23 (by decide) w420 rfl d_M_count_74 ?_
            refine lv_icmp_ge hx hb d_M_count_77 (tgt := 103) rfl (fun g2 => ?_) (fun g2 => ?_)
            · have g2 := (nI_leI (a := x.points) (b := q) (by omega) (by omega)).mp g2
              refine lv_iload_n hx hb d_M_count_103 rfl (lv_at hl 3 rfl) ?_
              refine lv_if_ne hx hb d_M_count_104 (tgt := 114) rfl (fun _ => ?_) (fun h9 => absurd h9 (by decide))
              refine lv_iload_n hx hb d_M_count_114 rfl (lv_at hl 3 rfl) ?_
              refine lv_iconst (v := 1) hx hb d_M_count_115 (by decide) ?_
              refine lv_icmp_ne hx hb d_M_count_116 (tgt := 126) rfl (fun h9 => absurd (by decide) h9) (fun _ => ?_)
              refine lv_aload_n hx hb d_M_count_119 rfl (lv_at hl 4 rfl) ?_
              refine jfI (rnV (As := []) (rest := []) hx hb hml hown hE hK (hN _ _ hS) hP hD (k_headCount l D dA H.size h ad (MS.s_cod x 0) (show x.points ≤ 12000 from by omega)) (q0 := 0) rfl rfl w439 w438 w440 w441 w328 rfl rfl ⟨⟨by decide, by decide⟩, rfl⟩ ⟨(Nat.le_of_ble_eq_true rfl), (Nat.le_of_ble_eq_true rfl)⟩ rfl hl.1 rfl (Nat.le_of_ble_eq_true rfl) d_M_count_120 ⟨(Nat.le_of_ble_eq_true rfl), (Nat.le_of_ble_eq_true rfl)⟩) hP hD hS hA (fun r3 u4 H locs hp9 hP hD hS => ?_)
              have hP : va_P D vwCl (MW dA h ad (MS.s_cod x 0)) H := hP
              have hD : va_D A (MW dA h ad (MS.s_cod x 0)) := hD
              replace hp9 : nI x.heads = r3 := Eq.symm hp9
              subst hp9
              refine lv_goto hx hb d_M_count_123 (tgt := 198) rfl ?_
              exact rfI hx hb hr hlk hS () (by first | rfl | rw [i2, show k = x.records by omega] | rw [j2, show q = x.points by omega]) hP hD (Nat.le_of_ble_eq_true rfl) (Nat.le_of_ble_eq_true rfl) d_M_count_198
            · have g2 := mt (nI_leI (a := x.points) (b := q) (by omega) (by omega)).mpr g2
              refine lv_iload_n hx hb d_M_count_80 rfl (lv_at hl 1 rfl) ?_
              refine lv_aload_n hx hb d_M_count_81 rfl (lv_at hl 4 rfl) ?_
              refine lv_iload hx hb d_M_count_82 (lv_at hl 0 rfl) ?_
              refine jfI (rnV (As := [.int (nI q)]) (rest := [.int (nI j)]) hx hb hml hown hE hK (hN _ _ hS) hP hD (k_isSeen l D dA H.size h ad (MS.s_cod x 0) q (show q < 12000 from by omega)) (q0 := 0) rfl rfl w861 w860 w862 w863 w328 rfl rfl ⟨⟨by decide, by decide⟩, rfl⟩ ⟨(Nat.le_of_ble_eq_true rfl), (Nat.le_of_ble_eq_true rfl)⟩ rfl hl.1 rfl (Nat.le_of_ble_eq_true rfl) d_M_count_84 ⟨(Nat.le_of_ble_eq_true rfl), (Nat.le_of_ble_eq_true rfl)⟩) hP hD hS hA (fun r5 u6 H locs hp9 hP hD hS => ?_)
              have hP : va_P D vwCl (MW dA h ad (MS.s_cod x 0)) H := hP
              have hD : va_D A (MW dA h ad (MS.s_cod x 0)) := hD
              replace hp9 : bI (x.seen q) = r5 := Eq.symm hp9
              subst hp9
              refine lv_if_eq hx hb d_M_count_87 (tgt := 94) rfl (fun g7 => ?_) (fun g7 => ?_)
              · have g7 := bI_0 g7
                refine lv_iconst (v := 0) hx hb d_M_count_94 (by decide) ?_
                refine lv_iadd hx hb d_M_count_95 (tpi (y := nI (j)) (nI_add (j) (0)) ?_)
                refine lv_istore_n hx hb d_M_count_96 rfl hl (by decide) rfl (fun ls hl => ?_)
                have hl : lv_has ls 5 [(3, .int (nI (j))), (4, .int (nI q)), (2, .int (nI n)), (1, .int 1), (0, .ref h)] := hl
                refine lv_iinc (k := 1) (v := nI (q + 1)) hx hb d_M_count_97 hl rfl (iincN (q) 1 1 (by decide)) (by decide) rfl (fun ls hl => ?_)
                have hl : lv_has ls 5 [(4, .int (nI (q + 1))), (3, .int (nI (j))), (2, .int (nI n)), (1, .int 1), (0, .ref h)] := hl
                refine lv_goto hx hb d_M_count_100 (tgt := 71) rfl ?_
                exact ih71 _ (by omega) (q + 1) j (by omega) (by simp [cnt, *]) rfl H _ ls hP hD hS (lv_sub hl [0, 1, 2, 3, 4] rfl)
              · have g7 := bI_n0 g7
                refine lv_iconst (v := 1) hx hb d_M_count_90 (by decide) ?_
                refine lv_goto hx hb d_M_count_91 (tgt := 95) rfl ?_
                refine lv_iadd hx hb d_M_count_95 (tpi (y := nI (j + 1)) (nI_add (j) (1)) ?_)
                refine lv_istore_n hx hb d_M_count_96 rfl hl (by decide) rfl (fun ls hl => ?_)
                have hl : lv_has ls 5 [(3, .int (nI (j + 1))), (4, .int (nI q)), (2, .int (nI n)), (1, .int 1), (0, .ref h)] := hl
                refine lv_iinc (k := 1) (v := nI (q + 1)) hx hb d_M_count_97 hl rfl (iincN (q) 1 1 (by decide)) (by decide) rfl (fun ls hl => ?_)
                have hl : lv_has ls 5 [(4, .int (nI (q + 1))), (3, .int (nI (j + 1))), (2, .int (nI n)), (1, .int 1), (0, .ref h)] := hl
                refine lv_goto hx hb d_M_count_100 (tgt := 71) rfl ?_
                exact ih71 _ (by omega) (q + 1) (j + 1) (by omega) (by simp [cnt, *]) rfl H _ ls hP hD hS (lv_sub hl [0, 1, 2, 3, 4] rfl)
        exact L71 _ 0 0 (by omega) rfl rfl H _ ls hP hD hS (lv_sub hl [0, 1, 2, 3, 4] rfl)
      · have g1 := mt (nI_leI (a := x.records) (b := k) (by omega) (by omega)).mpr g1
        refine lv_iload_n hx hb d_M_count_51 rfl (lv_at hl 1 rfl) ?_
        refine lv_aload_n hx hb d_M_count_52 rfl (lv_at hl 3 rfl) ?_
        refine gF (v := .ref (ad 35)) hx hb hown hE hK hP 0 rfl rfl layM 35 (by decide) w515 rfl d_M_count_53 ?_
        refine lv_iload_n hx hb d_M_count_56 rfl (lv_at hl 0 rfl) ?_
        refine nild (f := (fun z9 => nI (x.units z9))) hx hb hK hP 18 1 rfl rfl (k) (by omega) (by decide) d_M_count_57 ?_
        refine lv_iadd hx hb d_M_count_58 (tpi (y := nI (n + (x.units k))) (nI_add (n) (x.units k)) ?_)
        refine lv_istore_n hx hb d_M_count_59 rfl hl (by decide) rfl (fun ls hl => ?_)
        have hl : lv_has ls 5 [(2, .int (nI (n + (x.units k)))), (3, .int (nI k)), (1, .int 1), (0, .ref h)] := hl
        refine lv_iinc (k := 1) (v := nI (k + 1)) hx hb d_M_count_60 hl rfl (iincN (k) 1 1 (by decide)) (by decide) rfl (fun ls hl => ?_)
        have hl : lv_has ls 5 [(3, .int (nI (k + 1))), (2, .int (nI (n + (x.units k)))), (1, .int 1), (0, .ref h)] := hl
        refine lv_goto hx hb d_M_count_63 (tgt := 43) rfl ?_
        exact ih43 _ (by omega) (k + 1) (n + (x.units k)) (by omega) (by rw [i2]; rfl) rfl H _ ls hP hD hS (lv_sub hl [0, 1, 2, 3] rfl)
  exact L43 _ 0 0 (by omega) rfl rfl H _ ls hP hD hS (lv_sub hl [0, 1, 3, 2] rfl)
set_option maxHeartbeats 4000000 in
set_option maxRecDepth 100000 in
theorem k_count0_2 (l : Launch) (D : va_G) (dA : Nat → ClassId) (sz : Nat) (h : Nat) (ad : Nat → Nat) (x : MS) (ho : x.on = true) (r1 : x.records ≤ 32000) (hp1 : x.points ≤ 12000) : Met l ⟨"SeriesVaultModel", "count", "(I)I"⟩ [Cond.code ⟨"SeriesVaultModel", "count", "(I)I"⟩ prog_14_method_48_code 5 (some FieldType.int)] { frames := 2, cells := 0, slots := 0, locals := 21 } (pC D dA [.ref h, .int 2] (MW dA h ad x) sz) (va_Qi (fun (r9 : Int32) (u9 : Unit) => r9 = nI x.parcelCount) (fun (u9 : Unit) t9 => bW D (va_A (MW dA h ad x) sz) (MW dA h ad (MS.s_cod x 0)) t9) (va_A (MW dA h ad x) sz)) 0 0 (va_A (MW dA h ad x) sz) := by
  refine mkC (y := ⟨"SeriesVaultModel", "count", "(I)I"⟩) (cc := prog_14_method_48_code) (maxL := 5) (av := [.ref h, .int 2]) (ws := MW dA h ad x) (sz := sz) (Qc := fun A => va_Qi (fun (r9 : Int32) (u9 : Unit) => r9 = nI x.parcelCount) (fun (u9 : Unit) t9 => bW D A (MW dA h ad (MS.s_cod x 0)) t9) A) (by decide) (Nat.le_of_ble_eq_true rfl) ?_
  intro A p e s m below meth c ls hsz hB
  obtain ⟨hx, hb, hr, hml, hown, hin, hlk, hE, hK, hP, hD, hS, hA, hN, hl⟩ := hB
  have hown : s.vm.findClass "SeriesVaultModel" = some m.cls := hown
  have hl : lv_has ls 5 [(0, .ref h), (1, .int 2)] := hl
  obtain ⟨H, hH⟩ : ∃ z, z = s.heap := ⟨_, rfl⟩
  have hP : va_P D vwCl (MW dA h ad x) H := by rw [hH]; exact hP
  have hS : va_S A s.heap H [] := by rw [hH]; exact hS
  rw [← hH]
  refine lv_aload_n hx hb d_M_count_0 rfl (lv_at hl 0 rfl) ?_
  refine lv_aload_n hx hb d_M_count_1 rfl (lv_at hl 0 rfl) ?_
  refine gF (v := .int (bI x.on)) hx hb hown hE hK hP 0 rfl rfl layM 7 (by decide) w324 rfl d_M_count_2 ?_
  refine lv_if_ne hx hb d_M_count_5 (tgt := 12) rfl (fun _ => ?_) (fun h9 => absurd h9 (by rw [ho]; decide))
  refine lv_iload_n hx hb d_M_count_12 rfl (lv_at hl 1 rfl) ?_
  refine lv_if_lt hx hb d_M_count_13 (tgt := 22) rfl (fun h9 => absurd h9 (by decide)) (fun _ => ?_)
  refine lv_iload_n hx hb d_M_count_16 rfl (lv_at hl 1 rfl) ?_
  refine lv_bipush (v := 8) hx hb d_M_count_17 (by decide) ?_
  refine lv_icmp_le hx hb d_M_count_19 (tgt := 26) rfl (fun _ => ?_) (fun h9 => absurd (by decide) h9)
  refine lv_iconst (v := 0) hx hb d_M_count_26 (by decide) ?_
  refine pF (v := .int 0) hx hb hown hE hK hP hD hS 0 rfl rfl layM tyM tokM nmM 0 (by decide) w319 rfl rfl rfl (Nat.le_of_ble_eq_true rfl) d_M_count_27 (fun H locs hP hD hS => ?_)
  have hP : va_P D vwCl (MW dA h ad (MS.s_cod x 0)) H := hP
  have hD : va_D A (MW dA h ad (MS.s_cod x 0)) := hD
  refine lv_aload_n hx hb d_M_count_30 rfl (lv_at hl 0 rfl) ?_
  refine gF (v := .int 0) hx hb hown hE hK hP 0 rfl rfl layM 0 (by decide) w319 rfl d_M_count_31 ?_
  refine lv_if_le hx hb d_M_count_34 (tgt := 39) rfl (fun _ => ?_) (fun h9 => absurd (by decide) h9)
  refine lv_iconst (v := 0) hx hb d_M_count_39 (by decide) ?_
  refine lv_istore_n hx hb d_M_count_40 rfl hl (by decide) rfl (fun ls hl => ?_)
  have hl : lv_has ls 5 [(2, .int 0), (0, .ref h), (1, .int 2)] := hl
  refine lv_iconst (v := 0) hx hb d_M_count_41 (by decide) ?_
  refine lv_istore_n hx hb d_M_count_42 rfl hl (by decide) rfl (fun ls hl => ?_)
  have hl : lv_has ls 5 [(3, .int 0), (2, .int 0), (0, .ref h), (1, .int 2)] := hl
  have L43 : ∀ (k9 : Nat) (k : Nat) (n : Nat) (i1 : k ≤ x.records) (i2 : n = sumN k x.units) (hk9 : x.records - k = k9), ∀ (H : Heap) (locs : List Loc) (ls : Array Slot) (hP : va_P D vwCl (MW dA h ad (MS.s_cod x 0)) H) (hD : va_D A (MW dA h ad (MS.s_cod x 0))) (hS : va_S A s.heap H locs) (hl : lv_has ls 5 [(3, .int (nI k)), (2, .int (nI n)), (1, .int 2), (0, .ref h)]), W p l e ({ frames := 2, cells := 0, slots := 0, locals := 21 } : Room) s m ([.ref h, .int 2] : List Value).toArray below meth c H locs 0 0 (MQ below (va_Qi (fun (r9 : Int32) (u9 : Unit) => r9 = nI x.parcelCount) (fun (u9 : Unit) t9 => bW D A (MW dA h ad (MS.s_cod x 0)) t9) A) ([.ref h, .int 2] : List Value).toArray s 0 0 A) (F0 m 43 ls []) := by
    intro k9
    induction k9 using Nat.strongRecOn with
    | ind k9 ih43 =>
      intro k n i1 i2 hk9 H locs ls hP hD hS hl
      refine lv_iload_n hx hb d_M_count_43 rfl (lv_at hl 0 rfl) ?_
      refine lv_aload_n hx hb d_M_count_44 rfl (lv_at hl 3 rfl) ?_
      refine gF (v := .int (nI x.records)) hx hb hown hE hK hP 0 rfl rfl layM 37 (by decide) w338 rfl d_M_count_45 ?_
      refine lv_icmp_ge hx hb d_M_count_48 (tgt := 66) rfl (fun g1 => ?_) (fun g1 => ?_)
      · have g1 := (nI_leI (a := x.records) (b := k) (by omega) (by omega)).mp g1
        refine lv_iconst (v := 0) hx hb d_M_count_66 (by decide) ?_
        refine lv_istore_n hx hb d_M_count_67 rfl hl (by decide) rfl (fun ls hl => ?_)
        have hl : lv_has ls 5 [(3, .int 0), (2, .int (nI n)), (1, .int 2), (0, .ref h)] := hl
        refine lv_iconst (v := 0) hx hb d_M_count_68 (by decide) ?_
        refine lv_istore hx hb d_M_count_69 hl (by decide) rfl (fun ls hl => ?_)
        have hl : lv_has ls 5 [(4, .int 0), (3, .int 0), (2, .int (nI n)), (1, .int 2), (0, .ref h)] := hl
        have L71 : ∀ (k9 : Nat) (q : Nat) (j : Nat) (j1 : q ≤ x.points) (j2 : j = cnt q x.seen) (hk9 : x.points - q = k9), ∀ (H : Heap) (locs : List Loc) (ls : Array Slot) (hP : va_P D vwCl (MW dA h ad (MS.s_cod x 0)) H) (hD : va_D A (MW dA h ad (MS.s_cod x 0))) (hS : va_S A s.heap H locs) (hl : lv_has ls 5 [(4, .int (nI q)), (3, .int (nI j)), (2, .int (nI n)), (1, .int 2), (0, .ref h)]), W p l e ({ frames := 2, cells := 0, slots := 0, locals := 21 } : Room) s m ([.ref h, .int 2] : List Value).toArray below meth c H locs 0 0 (MQ below (va_Qi (fun (r9 : Int32) (u9 : Unit) => r9 = nI x.parcelCount) (fun (u9 : Unit) t9 => bW D A (MW dA h ad (MS.s_cod x 0)) t9) A) ([.ref h, .int 2] : List Value).toArray s 0 0 A) (F0 m 71 ls []) := by
          intro k9
          induction k9 using Nat.strongRecOn with
          | ind k9 ih71 =>
            intro q j j1 j2 hk9 H locs ls hP hD hS hl
            refine lv_iload hx hb d_M_count_71 (lv_at hl 0 rfl) ?_
            refine lv_aload_n hx hb d_M_count_73 rfl (lv_at hl 4 rfl) ?_
            refine gF (v := .int (nI x.points)) hx hb hown hE hK hP 0 rfl rfl layM 23 (by decide) w420 rfl d_M_count_74 ?_
            refine lv_icmp_ge hx hb d_M_count_77 (tgt := 103) rfl (fun g2 => ?_) (fun g2 => ?_)
            · have g2 := (nI_leI (a := x.points) (b := q) (by omega) (by omega)).mp g2
              refine lv_iload_n hx hb d_M_count_103 rfl (lv_at hl 3 rfl) ?_
              refine lv_if_ne hx hb d_M_count_104 (tgt := 114) rfl (fun _ => ?_) (fun h9 => absurd h9 (by decide))
              refine lv_iload_n hx hb d_M_count_114 rfl (lv_at hl 3 rfl) ?_
              refine lv_iconst (v := 1) hx hb d_M_count_115 (by decide) ?_
              refine lv_icmp_ne hx hb d_M_count_116 (tgt := 126) rfl (fun _ => ?_) (fun h9 => absurd h9 (by decide))
              refine lv_iload_n hx hb d_M_count_126 rfl (lv_at hl 3 rfl) ?_
              refine lv_iconst (v := 2) hx hb d_M_count_127 (by decide) ?_
              refine lv_icmp_ne hx hb d_M_count_128 (tgt := 138) rfl (fun h9 => absurd (by decide) h9) (fun _ => ?_)
              refine lv_aload_n hx hb d_M_count_131 rfl (lv_at hl 4 rfl) ?_
              refine gF (v := .int (nI x.parcelCount)) hx hb hown hE hK hP 0 rfl rfl layM 28 (by decide) w344 rfl d_M_count_132 ?_
              refine lv_goto hx hb d_M_count_135 (tgt := 198) rfl ?_
              exact rfI hx hb hr hlk hS () (by first | rfl | rw [i2, show k = x.records by omega] | rw [j2, show q = x.points by omega]) hP hD (Nat.le_of_ble_eq_true rfl) (Nat.le_of_ble_eq_true rfl) d_M_count_198
            · have g2 := mt (nI_leI (a := x.points) (b := q) (by omega) (by omega)).mpr g2
              refine lv_iload_n hx hb d_M_count_80 rfl (lv_at hl 1 rfl) ?_
              refine lv_aload_n hx hb d_M_count_81 rfl (lv_at hl 4 rfl) ?_
              refine lv_iload hx hb d_M_count_82 (lv_at hl 0 rfl) ?_
              refine jfI (rnV (As := [.int (nI q)]) (rest := [.int (nI j)]) hx hb hml hown hE hK (hN _ _ hS) hP hD (k_isSeen l D dA H.size h ad (MS.s_cod x 0) q (show q < 12000 from by omega)) (q0 := 0) rfl rfl w861 w860 w862 w863 w328 rfl rfl ⟨⟨by decide, by decide⟩, rfl⟩ ⟨(Nat.le_of_ble_eq_true rfl), (Nat.le_of_ble_eq_true rfl)⟩ rfl hl.1 rfl (Nat.le_of_ble_eq_true rfl) d_M_count_84 ⟨(Nat.le_of_ble_eq_true rfl), (Nat.le_of_ble_eq_true rfl)⟩) hP hD hS hA (fun r3 u4 H locs hp9 hP hD hS => ?_)
              have hP : va_P D vwCl (MW dA h ad (MS.s_cod x 0)) H := hP
              have hD : va_D A (MW dA h ad (MS.s_cod x 0)) := hD
              replace hp9 : bI (x.seen q) = r3 := Eq.symm hp9
              subst hp9
              refine lv_if_eq hx hb d_M_count_87 (tgt := 94) rfl (fun g5 => ?_) (fun g5 => ?_)
              · have g5 := bI_0 g5
                refine lv_iconst (v := 0) hx hb d_M_count_94 (by decide) ?_
                refine lv_iadd hx hb d_M_count_95 (tpi (y := nI (j)) (nI_add (j) (0)) ?_)
                refine lv_istore_n hx hb d_M_count_96 rfl hl (by decide) rfl (fun ls hl => ?_)
                have hl : lv_has ls 5 [(3, .int (nI (j))), (4, .int (nI q)), (2, .int (nI n)), (1, .int 2), (0, .ref h)] := hl
                refine lv_iinc (k := 1) (v := nI (q + 1)) hx hb d_M_count_97 hl rfl (iincN (q) 1 1 (by decide)) (by decide) rfl (fun ls hl => ?_)
                have hl : lv_has ls 5 [(4, .int (nI (q + 1))), (3, .int (nI (j))), (2, .int (nI n)), (1, .int 2), (0, .ref h)] := hl
                refine lv_goto hx hb d_M_count_100 (tgt := 71) rfl ?_
                exact ih71 _ (by omega) (q + 1) j (by omega) (by simp [cnt, *]) rfl H _ ls hP hD hS (lv_sub hl [0, 1, 2, 3, 4] rfl)
              · have g5 := bI_n0 g5
                refine lv_iconst (v := 1) hx hb d_M_count_90 (by decide) ?_
                refine lv_goto hx hb d_M_count_91 (tgt := 95) rfl ?_
                refine lv_iadd hx hb d_M_count_95 (tpi (y := nI (j + 1)) (nI_add (j) (1)) ?_)
                refine lv_istore_n hx hb d_M_count_96 rfl hl (by decide) rfl (fun ls hl => ?_)
                have hl : lv_has ls 5 [(3, .int (nI (j + 1))), (4, .int (nI q)), (2, .int (nI n)), (1, .int 2), (0, .ref h)] := hl
                refine lv_iinc (k := 1) (v := nI (q + 1)) hx hb d_M_count_97 hl rfl (iincN (q) 1 1 (by decide)) (by decide) rfl (fun ls hl => ?_)
                have hl : lv_has ls 5 [(4, .int (nI (q + 1))), (3, .int (nI (j + 1))), (2, .int (nI n)), (1, .int 2), (0, .ref h)] := hl
                refine lv_goto hx hb d_M_count_100 (tgt := 71) rfl ?_
                exact ih71 _ (by omega) (q + 1) (j + 1) (by omega) (by simp [cnt, *]) rfl H _ ls hP hD hS (lv_sub hl [0, 1, 2, 3, 4] rfl)
        exact L71 _ 0 0 (by omega) rfl rfl H _ ls hP hD hS (lv_sub hl [0, 1, 2, 3, 4] rfl)
      · have g1 := mt (nI_leI (a := x.records) (b := k) (by omega) (by omega)).mpr g1
        refine lv_iload_n hx hb d_M_count_51 rfl (lv_at hl 1 rfl) ?_
        refine lv_aload_n hx hb d_M_count_52 rfl (lv_at hl 3 rfl) ?_
        refine gF (v := .ref (ad 35)) hx hb hown hE hK hP 0 rfl rfl layM 35 (by decide) w515 rfl d_M_count_53 ?_
        refine lv_iload_n hx hb d_M_count_56 rfl (lv_at hl 0 rfl) ?_
        refine nild (f := (fun z9 => nI (x.units z9))) hx hb hK hP 18 1 rfl rfl (k) (by omega) (by decide) d_M_count_57 ?_
        refine lv_iadd hx hb d_M_count_58 (tpi (y := nI (n + (x.units k))) (nI_add (n) (x.units k)) ?_)
        refine lv_istore_n hx hb d_M_count_59 rfl hl (by decide) rfl (fun ls hl => ?_)
        have hl : lv_has ls 5 [(2, .int (nI (n + (x.units k)))), (3, .int (nI k)), (1, .int 2), (0, .ref h)] := hl
        refine lv_iinc (k := 1) (v := nI (k + 1)) hx hb d_M_count_60 hl rfl (iincN (k) 1 1 (by decide)) (by decide) rfl (fun ls hl => ?_)
        have hl : lv_has ls 5 [(3, .int (nI (k + 1))), (2, .int (nI (n + (x.units k)))), (1, .int 2), (0, .ref h)] := hl
        refine lv_goto hx hb d_M_count_63 (tgt := 43) rfl ?_
        exact ih43 _ (by omega) (k + 1) (n + (x.units k)) (by omega) (by rw [i2]; rfl) rfl H _ ls hP hD hS (lv_sub hl [0, 1, 2, 3] rfl)
  exact L43 _ 0 0 (by omega) rfl rfl H _ ls hP hD hS (lv_sub hl [0, 1, 3, 2] rfl)
set_option maxHeartbeats 4000000 in
set_option maxRecDepth 100000 in
theorem k_count0_3 (l : Launch) (D : va_G) (dA : Nat → ClassId) (sz : Nat) (h : Nat) (ad : Nat → Nat) (x : MS) (ho : x.on = true) (r1 : x.records ≤ 32000) (hp1 : x.points ≤ 12000) : Met l ⟨"SeriesVaultModel", "count", "(I)I"⟩ [Cond.code ⟨"SeriesVaultModel", "count", "(I)I"⟩ prog_14_method_48_code 5 (some FieldType.int)] { frames := 2, cells := 0, slots := 0, locals := 24 } (pC D dA [.ref h, .int 3] (MW dA h ad x) sz) (va_Qi (fun (r9 : Int32) (u9 : Unit) => r9 = nI (cnt x.points x.firstOf)) (fun (u9 : Unit) t9 => bW D (va_A (MW dA h ad x) sz) (MW dA h ad (MS.s_cod x 0)) t9) (va_A (MW dA h ad x) sz)) 0 0 (va_A (MW dA h ad x) sz) := by
  refine mkC (y := ⟨"SeriesVaultModel", "count", "(I)I"⟩) (cc := prog_14_method_48_code) (maxL := 5) (av := [.ref h, .int 3]) (ws := MW dA h ad x) (sz := sz) (Qc := fun A => va_Qi (fun (r9 : Int32) (u9 : Unit) => r9 = nI (cnt x.points x.firstOf)) (fun (u9 : Unit) t9 => bW D A (MW dA h ad (MS.s_cod x 0)) t9) A) (by decide) (Nat.le_of_ble_eq_true rfl) ?_
  intro A p e s m below meth c ls hsz hB
  obtain ⟨hx, hb, hr, hml, hown, hin, hlk, hE, hK, hP, hD, hS, hA, hN, hl⟩ := hB
  have hown : s.vm.findClass "SeriesVaultModel" = some m.cls := hown
  have hl : lv_has ls 5 [(0, .ref h), (1, .int 3)] := hl
  obtain ⟨H, hH⟩ : ∃ z, z = s.heap := ⟨_, rfl⟩
  have hP : va_P D vwCl (MW dA h ad x) H := by rw [hH]; exact hP
  have hS : va_S A s.heap H [] := by rw [hH]; exact hS
  rw [← hH]
  refine lv_aload_n hx hb d_M_count_0 rfl (lv_at hl 0 rfl) ?_
  refine lv_aload_n hx hb d_M_count_1 rfl (lv_at hl 0 rfl) ?_
  refine gF (v := .int (bI x.on)) hx hb hown hE hK hP 0 rfl rfl layM 7 (by decide) w324 rfl d_M_count_2 ?_
  refine lv_if_ne hx hb d_M_count_5 (tgt := 12) rfl (fun _ => ?_) (fun h9 => absurd h9 (by rw [ho]; decide))
  refine lv_iload_n hx hb d_M_count_12 rfl (lv_at hl 1 rfl) ?_
  refine lv_if_lt hx hb d_M_count_13 (tgt := 22) rfl (fun h9 => absurd h9 (by decide)) (fun _ => ?_)
  refine lv_iload_n hx hb d_M_count_16 rfl (lv_at hl 1 rfl) ?_
  refine lv_bipush (v := 8) hx hb d_M_count_17 (by decide) ?_
  refine lv_icmp_le hx hb d_M_count_19 (tgt := 26) rfl (fun _ => ?_) (fun h9 => absurd (by decide) h9)
  refine lv_iconst (v := 0) hx hb d_M_count_26 (by decide) ?_
  refine pF (v := .int 0) hx hb hown hE hK hP hD hS 0 rfl rfl layM tyM tokM nmM 0 (by decide) w319 rfl rfl rfl (Nat.le_of_ble_eq_true rfl) d_M_count_27 (fun H locs hP hD hS => ?_)
  have hP : va_P D vwCl (MW dA h ad (MS.s_cod x 0)) H := hP
  have hD : va_D A (MW dA h ad (MS.s_cod x 0)) := hD
  refine lv_aload_n hx hb d_M_count_30 rfl (lv_at hl 0 rfl) ?_
  refine gF (v := .int 0) hx hb hown hE hK hP 0 rfl rfl layM 0 (by decide) w319 rfl d_M_count_31 ?_
  refine lv_if_le hx hb d_M_count_34 (tgt := 39) rfl (fun _ => ?_) (fun h9 => absurd (by decide) h9)
  refine lv_iconst (v := 0) hx hb d_M_count_39 (by decide) ?_
  refine lv_istore_n hx hb d_M_count_40 rfl hl (by decide) rfl (fun ls hl => ?_)
  have hl : lv_has ls 5 [(2, .int 0), (0, .ref h), (1, .int 3)] := hl
  refine lv_iconst (v := 0) hx hb d_M_count_41 (by decide) ?_
  refine lv_istore_n hx hb d_M_count_42 rfl hl (by decide) rfl (fun ls hl => ?_)
  have hl : lv_has ls 5 [(3, .int 0), (2, .int 0), (0, .ref h), (1, .int 3)] := hl
  have L43 : ∀ (k9 : Nat) (k : Nat) (n : Nat) (i1 : k ≤ x.records) (i2 : n = sumN k x.units) (hk9 : x.records - k = k9), ∀ (H : Heap) (locs : List Loc) (ls : Array Slot) (hP : va_P D vwCl (MW dA h ad (MS.s_cod x 0)) H) (hD : va_D A (MW dA h ad (MS.s_cod x 0))) (hS : va_S A s.heap H locs) (hl : lv_has ls 5 [(3, .int (nI k)), (2, .int (nI n)), (1, .int 3), (0, .ref h)]), W p l e ({ frames := 2, cells := 0, slots := 0, locals := 24 } : Room) s m ([.ref h, .int 3] : List Value).toArray below meth c H locs 0 0 (MQ below (va_Qi (fun (r9 : Int32) (u9 : Unit) => r9 = nI (cnt x.points x.firstOf)) (fun (u9 : Unit) t9 => bW D A (MW dA h ad (MS.s_cod x 0)) t9) A) ([.ref h, .int 3] : List Value).toArray s 0 0 A) (F0 m 43 ls []) := by
    intro k9
    induction k9 using Nat.strongRecOn with
    | ind k9 ih43 =>
      intro k n i1 i2 hk9 H locs ls hP hD hS hl
      refine lv_iload_n hx hb d_M_count_43 rfl (lv_at hl 0 rfl) ?_
      refine lv_aload_n hx hb d_M_count_44 rfl (lv_at hl 3 rfl) ?_
      refine gF (v := .int (nI x.records)) hx hb hown hE hK hP 0 rfl rfl layM 37 (by decide) w338 rfl d_M_count_45 ?_
      refine lv_icmp_ge hx hb d_M_count_48 (tgt := 66) rfl (fun g1 => ?_) (fun g1 => ?_)
      · have g1 := (nI_leI (a := x.records) (b := k) (by omega) (by omega)).mp g1
        refine lv_iconst (v := 0) hx hb d_M_count_66 (by decide) ?_
        refine lv_istore_n hx hb d_M_count_67 rfl hl (by decide) rfl (fun ls hl => ?_)
        have hl : lv_has ls 5 [(3, .int 0), (2, .int (nI n)), (1, .int 3), (0, .ref h)] := hl
        refine lv_iconst (v := 0) hx hb d_M_count_68 (by decide) ?_
        refine lv_istore hx hb d_M_count_69 hl (by decide) rfl (fun ls hl => ?_)
        have hl : lv_has ls 5 [(4, .int 0), (3, .int 0), (2, .int (nI n)), (1, .int 3), (0, .ref h)] := hl
        have L71 : ∀ (k9 : Nat) (q : Nat) (j : Nat) (j1 : q ≤ x.points) (j2 : j = cnt q x.seen) (hk9 : x.points - q = k9), ∀ (H : Heap) (locs : List Loc) (ls : Array Slot) (hP : va_P D vwCl (MW dA h ad (MS.s_cod x 0)) H) (hD : va_D A (MW dA h ad (MS.s_cod x 0))) (hS : va_S A s.heap H locs) (hl : lv_has ls 5 [(4, .int (nI q)), (3, .int (nI j)), (2, .int (nI n)), (1, .int 3), (0, .ref h)]), W p l e ({ frames := 2, cells := 0, slots := 0, locals := 24 } : Room) s m ([.ref h, .int 3] : List Value).toArray below meth c H locs 0 0 (MQ below (va_Qi (fun (r9 : Int32) (u9 : Unit) => r9 = nI (cnt x.points x.firstOf)) (fun (u9 : Unit) t9 => bW D A (MW dA h ad (MS.s_cod x 0)) t9) A) ([.ref h, .int 3] : List Value).toArray s 0 0 A) (F0 m 71 ls []) := by
          intro k9
          induction k9 using Nat.strongRecOn with
          | ind k9 ih71 =>
            intro q j j1 j2 hk9 H locs ls hP hD hS hl
            refine lv_iload hx hb d_M_count_71 (lv_at hl 0 rfl) ?_
            refine lv_aload_n hx hb d_M_count_73 rfl (lv_at hl 4 rfl) ?_
            refine gF (v := .int (nI x.points)) hx hb hown hE hK hP 0 rfl rfl layM 23 (by decide) w420 rfl d_M_count_74 ?_
            refine lv_icmp_ge hx hb d_M_count_77 (tgt := 103) rfl (fun g2 => ?_) (fun g2 => ?_)
            · have g2 := (nI_leI (a := x.points) (b := q) (by omega) (by omega)).mp g2
              refine lv_iload_n hx hb d_M_count_103 rfl (lv_at hl 3 rfl) ?_
              refine lv_if_ne hx hb d_M_count_104 (tgt := 114) rfl (fun _ => ?_) (fun h9 => absurd h9 (by decide))
              refine lv_iload_n hx hb d_M_count_114 rfl (lv_at hl 3 rfl) ?_
              refine lv_iconst (v := 1) hx hb d_M_count_115 (by decide) ?_
              refine lv_icmp_ne hx hb d_M_count_116 (tgt := 126) rfl (fun _ => ?_) (fun h9 => absurd h9 (by decide))
              refine lv_iload_n hx hb d_M_count_126 rfl (lv_at hl 3 rfl) ?_
              refine lv_iconst (v := 2) hx hb d_M_count_127 (by decide) ?_
              refine lv_icmp_ne hx hb d_M_count_128 (tgt := 138) rfl (fun _ => ?_) (fun h9 => absurd h9 (by decide))
              refine lv_iload_n hx hb d_M_count_138 rfl (lv_at hl 3 rfl) ?_
              refine lv_iconst (v := 3) hx hb d_M_count_139 (by decide) ?_
              refine lv_icmp_ne hx hb d_M_count_140 (tgt := 150) rfl (fun h9 => absurd (by decide) h9) (fun _ => ?_)
              refine lv_aload_n hx hb d_M_count_143 rfl (lv_at hl 4 rfl) ?_
              refine jfI (rnV (As := []) (rest := []) hx hb hml hown hE hK (hN _ _ hS) hP hD (k_scars l D dA H.size h ad (MS.s_cod x 0) (show x.points ≤ 12000 from by omega)) (q0 := 0) rfl rfl w443 w442 w444 w445 w328 rfl rfl ⟨⟨by decide, by decide⟩, rfl⟩ ⟨(Nat.le_of_ble_eq_true rfl), (Nat.le_of_ble_eq_true rfl)⟩ rfl hl.1 rfl (Nat.le_of_ble_eq_true rfl) d_M_count_144 ⟨(Nat.le_of_ble_eq_true rfl), (Nat.le_of_ble_eq_true rfl)⟩) hP hD hS hA (fun r3 u4 H locs hp9 hP hD hS => ?_)
              have hP : va_P D vwCl (MW dA h ad (MS.s_cod x 0)) H := hP
              have hD : va_D A (MW dA h ad (MS.s_cod x 0)) := hD
              replace hp9 : nI (cnt x.points x.firstOf) = r3 := Eq.symm hp9
              subst hp9
              refine lv_goto hx hb d_M_count_147 (tgt := 198) rfl ?_
              exact rfI hx hb hr hlk hS () (by first | rfl | rw [i2, show k = x.records by omega] | rw [j2, show q = x.points by omega]) hP hD (Nat.le_of_ble_eq_true rfl) (Nat.le_of_ble_eq_true rfl) d_M_count_198
            · have g2 := mt (nI_leI (a := x.points) (b := q) (by omega) (by omega)).mpr g2
              refine lv_iload_n hx hb d_M_count_80 rfl (lv_at hl 1 rfl) ?_
              refine lv_aload_n hx hb d_M_count_81 rfl (lv_at hl 4 rfl) ?_
              refine lv_iload hx hb d_M_count_82 (lv_at hl 0 rfl) ?_
              refine jfI (rnV (As := [.int (nI q)]) (rest := [.int (nI j)]) hx hb hml hown hE hK (hN _ _ hS) hP hD (k_isSeen l D dA H.size h ad (MS.s_cod x 0) q (show q < 12000 from by omega)) (q0 := 0) rfl rfl w861 w860 w862 w863 w328 rfl rfl ⟨⟨by decide, by decide⟩, rfl⟩ ⟨(Nat.le_of_ble_eq_true rfl), (Nat.le_of_ble_eq_true rfl)⟩ rfl hl.1 rfl (Nat.le_of_ble_eq_true rfl) d_M_count_84 ⟨(Nat.le_of_ble_eq_true rfl), (Nat.le_of_ble_eq_true rfl)⟩) hP hD hS hA (fun r5 u6 H locs hp9 hP hD hS => ?_)
              have hP : va_P D vwCl (MW dA h ad (MS.s_cod x 0)) H := hP
              have hD : va_D A (MW dA h ad (MS.s_cod x 0)) := hD
              replace hp9 : bI (x.seen q) = r5 := Eq.symm hp9
              subst hp9
              refine lv_if_eq hx hb d_M_count_87 (tgt := 94) rfl (fun g7 => ?_) (fun g7 => ?_)
              · have g7 := bI_0 g7
                refine lv_iconst (v := 0) hx hb d_M_count_94 (by decide) ?_
                refine lv_iadd hx hb d_M_count_95 (tpi (y := nI (j)) (nI_add (j) (0)) ?_)
                refine lv_istore_n hx hb d_M_count_96 rfl hl (by decide) rfl (fun ls hl => ?_)
                have hl : lv_has ls 5 [(3, .int (nI (j))), (4, .int (nI q)), (2, .int (nI n)), (1, .int 3), (0, .ref h)] := hl
                refine lv_iinc (k := 1) (v := nI (q + 1)) hx hb d_M_count_97 hl rfl (iincN (q) 1 1 (by decide)) (by decide) rfl (fun ls hl => ?_)
                have hl : lv_has ls 5 [(4, .int (nI (q + 1))), (3, .int (nI (j))), (2, .int (nI n)), (1, .int 3), (0, .ref h)] := hl
                refine lv_goto hx hb d_M_count_100 (tgt := 71) rfl ?_
                exact ih71 _ (by omega) (q + 1) j (by omega) (by simp [cnt, *]) rfl H _ ls hP hD hS (lv_sub hl [0, 1, 2, 3, 4] rfl)
              · have g7 := bI_n0 g7
                refine lv_iconst (v := 1) hx hb d_M_count_90 (by decide) ?_
                refine lv_goto hx hb d_M_count_91 (tgt := 95) rfl ?_
                refine lv_iadd hx hb d_M_count_95 (tpi (y := nI (j + 1)) (nI_add (j) (1)) ?_)
                refine lv_istore_n hx hb d_M_count_96 rfl hl (by decide) rfl (fun ls hl => ?_)
                have hl : lv_has ls 5 [(3, .int (nI (j + 1))), (4, .int (nI q)), (2, .int (nI n)), (1, .int 3), (0, .ref h)] := hl
                refine lv_iinc (k := 1) (v := nI (q + 1)) hx hb d_M_count_97 hl rfl (iincN (q) 1 1 (by decide)) (by decide) rfl (fun ls hl => ?_)
                have hl : lv_has ls 5 [(4, .int (nI (q + 1))), (3, .int (nI (j + 1))), (2, .int (nI n)), (1, .int 3), (0, .ref h)] := hl
                refine lv_goto hx hb d_M_count_100 (tgt := 71) rfl ?_
                exact ih71 _ (by omega) (q + 1) (j + 1) (by omega) (by simp [cnt, *]) rfl H _ ls hP hD hS (lv_sub hl [0, 1, 2, 3, 4] rfl)
        exact L71 _ 0 0 (by omega) rfl rfl H _ ls hP hD hS (lv_sub hl [0, 1, 2, 3, 4] rfl)
      · have g1 := mt (nI_leI (a := x.records) (b := k) (by omega) (by omega)).mpr g1
        refine lv_iload_n hx hb d_M_count_51 rfl (lv_at hl 1 rfl) ?_
        refine lv_aload_n hx hb d_M_count_52 rfl (lv_at hl 3 rfl) ?_
        refine gF (v := .ref (ad 35)) hx hb hown hE hK hP 0 rfl rfl layM 35 (by decide) w515 rfl d_M_count_53 ?_
        refine lv_iload_n hx hb d_M_count_56 rfl (lv_at hl 0 rfl) ?_
        refine nild (f := (fun z9 => nI (x.units z9))) hx hb hK hP 18 1 rfl rfl (k) (by omega) (by decide) d_M_count_57 ?_
        refine lv_iadd hx hb d_M_count_58 (tpi (y := nI (n + (x.units k))) (nI_add (n) (x.units k)) ?_)
        refine lv_istore_n hx hb d_M_count_59 rfl hl (by decide) rfl (fun ls hl => ?_)
        have hl : lv_has ls 5 [(2, .int (nI (n + (x.units k)))), (3, .int (nI k)), (1, .int 3), (0, .ref h)] := hl
        refine lv_iinc (k := 1) (v := nI (k + 1)) hx hb d_M_count_60 hl rfl (iincN (k) 1 1 (by decide)) (by decide) rfl (fun ls hl => ?_)
        have hl : lv_has ls 5 [(3, .int (nI (k + 1))), (2, .int (nI (n + (x.units k)))), (1, .int 3), (0, .ref h)] := hl
        refine lv_goto hx hb d_M_count_63 (tgt := 43) rfl ?_
        exact ih43 _ (by omega) (k + 1) (n + (x.units k)) (by omega) (by rw [i2]; rfl) rfl H _ ls hP hD hS (lv_sub hl [0, 1, 2, 3] rfl)
  exact L43 _ 0 0 (by omega) rfl rfl H _ ls hP hD hS (lv_sub hl [0, 1, 3, 2] rfl)
set_option maxHeartbeats 4000000 in
set_option maxRecDepth 100000 in
theorem k_count0_4 (l : Launch) (D : va_G) (dA : Nat → ClassId) (sz : Nat) (h : Nat) (ad : Nat → Nat) (x : MS) (ho : x.on = true) (r1 : x.records ≤ 32000) (hp1 : x.points ≤ 12000) (f1 : x.parcelCount ≤ 40) (f2 : 2 + x.journal + x.catalogBlocks + sumN x.parcelCount x.parcelBlocks ≤ x.blocks) (f3 : x.blocks ≤ 256) : Met l ⟨"SeriesVaultModel", "count", "(I)I"⟩ [Cond.code ⟨"SeriesVaultModel", "count", "(I)I"⟩ prog_14_method_48_code 5 (some FieldType.int)] { frames := 2, cells := 0, slots := 0, locals := 22 } (pC D dA [.ref h, .int 4] (MW dA h ad x) sz) (va_Qi (fun (r9 : Int32) (u9 : Unit) => r9 = nI x.freeN) (fun (u9 : Unit) t9 => bW D (va_A (MW dA h ad x) sz) (MW dA h ad (MS.s_cod x 0)) t9) (va_A (MW dA h ad x) sz)) 0 0 (va_A (MW dA h ad x) sz) := by
  refine mkC (y := ⟨"SeriesVaultModel", "count", "(I)I"⟩) (cc := prog_14_method_48_code) (maxL := 5) (av := [.ref h, .int 4]) (ws := MW dA h ad x) (sz := sz) (Qc := fun A => va_Qi (fun (r9 : Int32) (u9 : Unit) => r9 = nI x.freeN) (fun (u9 : Unit) t9 => bW D A (MW dA h ad (MS.s_cod x 0)) t9) A) (by decide) (Nat.le_of_ble_eq_true rfl) ?_
  intro A p e s m below meth c ls hsz hB
  obtain ⟨hx, hb, hr, hml, hown, hin, hlk, hE, hK, hP, hD, hS, hA, hN, hl⟩ := hB
  have hown : s.vm.findClass "SeriesVaultModel" = some m.cls := hown
  have hl : lv_has ls 5 [(0, .ref h), (1, .int 4)] := hl
  obtain ⟨H, hH⟩ : ∃ z, z = s.heap := ⟨_, rfl⟩
  have hP : va_P D vwCl (MW dA h ad x) H := by rw [hH]; exact hP
  have hS : va_S A s.heap H [] := by rw [hH]; exact hS
  rw [← hH]
  refine lv_aload_n hx hb d_M_count_0 rfl (lv_at hl 0 rfl) ?_
  refine lv_aload_n hx hb d_M_count_1 rfl (lv_at hl 0 rfl) ?_
  refine gF (v := .int (bI x.on)) hx hb hown hE hK hP 0 rfl rfl layM 7 (by decide) w324 rfl d_M_count_2 ?_
  refine lv_if_ne hx hb d_M_count_5 (tgt := 12) rfl (fun _ => ?_) (fun h9 => absurd h9 (by rw [ho]; decide))
  refine lv_iload_n hx hb d_M_count_12 rfl (lv_at hl 1 rfl) ?_
  refine lv_if_lt hx hb d_M_count_13 (tgt := 22) rfl (fun h9 => absurd h9 (by decide)) (fun _ => ?_)
  refine lv_iload_n hx hb d_M_count_16 rfl (lv_at hl 1 rfl) ?_
  refine lv_bipush (v := 8) hx hb d_M_count_17 (by decide) ?_
  refine lv_icmp_le hx hb d_M_count_19 (tgt := 26) rfl (fun _ => ?_) (fun h9 => absurd (by decide) h9)
  refine lv_iconst (v := 0) hx hb d_M_count_26 (by decide) ?_
  refine pF (v := .int 0) hx hb hown hE hK hP hD hS 0 rfl rfl layM tyM tokM nmM 0 (by decide) w319 rfl rfl rfl (Nat.le_of_ble_eq_true rfl) d_M_count_27 (fun H locs hP hD hS => ?_)
  have hP : va_P D vwCl (MW dA h ad (MS.s_cod x 0)) H := hP
  have hD : va_D A (MW dA h ad (MS.s_cod x 0)) := hD
  refine lv_aload_n hx hb d_M_count_30 rfl (lv_at hl 0 rfl) ?_
  refine gF (v := .int 0) hx hb hown hE hK hP 0 rfl rfl layM 0 (by decide) w319 rfl d_M_count_31 ?_
  refine lv_if_le hx hb d_M_count_34 (tgt := 39) rfl (fun _ => ?_) (fun h9 => absurd (by decide) h9)
  refine lv_iconst (v := 0) hx hb d_M_count_39 (by decide) ?_
  refine lv_istore_n hx hb d_M_count_40 rfl hl (by decide) rfl (fun ls hl => ?_)
  have hl : lv_has ls 5 [(2, .int 0), (0, .ref h), (1, .int 4)] := hl
  refine lv_iconst (v := 0) hx hb d_M_count_41 (by decide) ?_
  refine lv_istore_n hx hb d_M_count_42 rfl hl (by decide) rfl (fun ls hl => ?_)
  have hl : lv_has ls 5 [(3, .int 0), (2, .int 0), (0, .ref h), (1, .int 4)] := hl
  have L43 : ∀ (k9 : Nat) (k : Nat) (n : Nat) (i1 : k ≤ x.records) (i2 : n = sumN k x.units) (hk9 : x.records - k = k9), ∀ (H : Heap) (locs : List Loc) (ls : Array Slot) (hP : va_P D vwCl (MW dA h ad (MS.s_cod x 0)) H) (hD : va_D A (MW dA h ad (MS.s_cod x 0))) (hS : va_S A s.heap H locs) (hl : lv_has ls 5 [(3, .int (nI k)), (2, .int (nI n)), (1, .int 4), (0, .ref h)]), W p l e ({ frames := 2, cells := 0, slots := 0, locals := 22 } : Room) s m ([.ref h, .int 4] : List Value).toArray below meth c H locs 0 0 (MQ below (va_Qi (fun (r9 : Int32) (u9 : Unit) => r9 = nI x.freeN) (fun (u9 : Unit) t9 => bW D A (MW dA h ad (MS.s_cod x 0)) t9) A) ([.ref h, .int 4] : List Value).toArray s 0 0 A) (F0 m 43 ls []) := by
    intro k9
    induction k9 using Nat.strongRecOn with
    | ind k9 ih43 =>
      intro k n i1 i2 hk9 H locs ls hP hD hS hl
      refine lv_iload_n hx hb d_M_count_43 rfl (lv_at hl 0 rfl) ?_
      refine lv_aload_n hx hb d_M_count_44 rfl (lv_at hl 3 rfl) ?_
      refine gF (v := .int (nI x.records)) hx hb hown hE hK hP 0 rfl rfl layM 37 (by decide) w338 rfl d_M_count_45 ?_
      refine lv_icmp_ge hx hb d_M_count_48 (tgt := 66) rfl (fun g1 => ?_) (fun g1 => ?_)
      · have g1 := (nI_leI (a := x.records) (b := k) (by omega) (by omega)).mp g1
        refine lv_iconst (v := 0) hx hb d_M_count_66 (by decide) ?_
        refine lv_istore_n hx hb d_M_count_67 rfl hl (by decide) rfl (fun ls hl => ?_)
        have hl : lv_has ls 5 [(3, .int 0), (2, .int (nI n)), (1, .int 4), (0, .ref h)] := hl
        refine lv_iconst (v := 0) hx hb d_M_count_68 (by decide) ?_
        refine lv_istore hx hb d_M_count_69 hl (by decide) rfl (fun ls hl => ?_)
        have hl : lv_has ls 5 [(4, .int 0), (3, .int 0), (2, .int (nI n)), (1, .int 4), (0, .ref h)] := hl
        have L71 : ∀ (k9 : Nat) (q : Nat) (j : Nat) (j1 : q ≤ x.points) (j2 : j = cnt q x.seen) (hk9 : x.points - q = k9), ∀ (H : Heap) (locs : List Loc) (ls : Array Slot) (hP : va_P D vwCl (MW dA h ad (MS.s_cod x 0)) H) (hD : va_D A (MW dA h ad (MS.s_cod x 0))) (hS : va_S A s.heap H locs) (hl : lv_has ls 5 [(4, .int (nI q)), (3, .int (nI j)), (2, .int (nI n)), (1, .int 4), (0, .ref h)]), W p l e ({ frames := 2, cells := 0, slots := 0, locals := 22 } : Room) s m ([.ref h, .int 4] : List Value).toArray below meth c H locs 0 0 (MQ below (va_Qi (fun (r9 : Int32) (u9 : Unit) => r9 = nI x.freeN) (fun (u9 : Unit) t9 => bW D A (MW dA h ad (MS.s_cod x 0)) t9) A) ([.ref h, .int 4] : List Value).toArray s 0 0 A) (F0 m 71 ls []) := by
          intro k9
          induction k9 using Nat.strongRecOn with
          | ind k9 ih71 =>
            intro q j j1 j2 hk9 H locs ls hP hD hS hl
            refine lv_iload hx hb d_M_count_71 (lv_at hl 0 rfl) ?_
            refine lv_aload_n hx hb d_M_count_73 rfl (lv_at hl 4 rfl) ?_
            refine gF (v := .int (nI x.points)) hx hb hown hE hK hP 0 rfl rfl layM 23 (by decide) w420 rfl d_M_count_74 ?_
            refine lv_icmp_ge hx hb d_M_count_77 (tgt := 103) rfl (fun g2 => ?_) (fun g2 => ?_)
            · have g2 := (nI_leI (a := x.points) (b := q) (by omega) (by omega)).mp g2
              refine lv_iload_n hx hb d_M_count_103 rfl (lv_at hl 3 rfl) ?_
              refine lv_if_ne hx hb d_M_count_104 (tgt := 114) rfl (fun _ => ?_) (fun h9 => absurd h9 (by decide))
              refine lv_iload_n hx hb d_M_count_114 rfl (lv_at hl 3 rfl) ?_
              refine lv_iconst (v := 1) hx hb d_M_count_115 (by decide) ?_
              refine lv_icmp_ne hx hb d_M_count_116 (tgt := 126) rfl (fun _ => ?_) (fun h9 => absurd h9 (by decide))
              refine lv_iload_n hx hb d_M_count_126 rfl (lv_at hl 3 rfl) ?_
              refine lv_iconst (v := 2) hx hb d_M_count_127 (by decide) ?_
              refine lv_icmp_ne hx hb d_M_count_128 (tgt := 138) rfl (fun _ => ?_) (fun h9 => absurd h9 (by decide))
              refine lv_iload_n hx hb d_M_count_138 rfl (lv_at hl 3 rfl) ?_
              refine lv_iconst (v := 3) hx hb d_M_count_139 (by decide) ?_
              refine lv_icmp_ne hx hb d_M_count_140 (tgt := 150) rfl (fun _ => ?_) (fun h9 => absurd h9 (by decide))
              refine lv_iload_n hx hb d_M_count_150 rfl (lv_at hl 3 rfl) ?_
              refine lv_iconst (v := 4) hx hb d_M_count_151 (by decide) ?_
              refine lv_icmp_ne hx hb d_M_count_152 (tgt := 162) rfl (fun h9 => absurd (by decide) h9) (fun _ => ?_)
              refine lv_aload_n hx hb d_M_count_155 rfl (lv_at hl 4 rfl) ?_
              refine jfI (rnV (As := []) (rest := []) hx hb hml hown hE hK (hN _ _ hS) hP hD (k_free l D dA H.size h ad (MS.s_cod x 0) (show x.parcelCount ≤ 40 from by omega) (show 2 + x.journal + x.catalogBlocks + sumN x.parcelCount x.parcelBlocks ≤ x.blocks from by omega) (show x.blocks ≤ 256 from by omega)) (q0 := 0) rfl rfl w447 w446 w448 w449 w328 rfl rfl ⟨⟨by decide, by decide⟩, rfl⟩ ⟨(Nat.le_of_ble_eq_true rfl), (Nat.le_of_ble_eq_true rfl)⟩ rfl hl.1 rfl (Nat.le_of_ble_eq_true rfl) d_M_count_156 ⟨(Nat.le_of_ble_eq_true rfl), (Nat.le_of_ble_eq_true rfl)⟩) hP hD hS hA (fun r3 u4 H locs hp9 hP hD hS => ?_)
              have hP : va_P D vwCl (MW dA h ad (MS.s_cod x 0)) H := hP
              have hD : va_D A (MW dA h ad (MS.s_cod x 0)) := hD
              replace hp9 : nI x.freeN = r3 := Eq.symm hp9
              subst hp9
              refine lv_goto hx hb d_M_count_159 (tgt := 198) rfl ?_
              exact rfI hx hb hr hlk hS () (by first | rfl | rw [i2, show k = x.records by omega] | rw [j2, show q = x.points by omega]) hP hD (Nat.le_of_ble_eq_true rfl) (Nat.le_of_ble_eq_true rfl) d_M_count_198
            · have g2 := mt (nI_leI (a := x.points) (b := q) (by omega) (by omega)).mpr g2
              refine lv_iload_n hx hb d_M_count_80 rfl (lv_at hl 1 rfl) ?_
              refine lv_aload_n hx hb d_M_count_81 rfl (lv_at hl 4 rfl) ?_
              refine lv_iload hx hb d_M_count_82 (lv_at hl 0 rfl) ?_
              refine jfI (rnV (As := [.int (nI q)]) (rest := [.int (nI j)]) hx hb hml hown hE hK (hN _ _ hS) hP hD (k_isSeen l D dA H.size h ad (MS.s_cod x 0) q (show q < 12000 from by omega)) (q0 := 0) rfl rfl w861 w860 w862 w863 w328 rfl rfl ⟨⟨by decide, by decide⟩, rfl⟩ ⟨(Nat.le_of_ble_eq_true rfl), (Nat.le_of_ble_eq_true rfl)⟩ rfl hl.1 rfl (Nat.le_of_ble_eq_true rfl) d_M_count_84 ⟨(Nat.le_of_ble_eq_true rfl), (Nat.le_of_ble_eq_true rfl)⟩) hP hD hS hA (fun r5 u6 H locs hp9 hP hD hS => ?_)
              have hP : va_P D vwCl (MW dA h ad (MS.s_cod x 0)) H := hP
              have hD : va_D A (MW dA h ad (MS.s_cod x 0)) := hD
              replace hp9 : bI (x.seen q) = r5 := Eq.symm hp9
              subst hp9
              refine lv_if_eq hx hb d_M_count_87 (tgt := 94) rfl (fun g7 => ?_) (fun g7 => ?_)
              · have g7 := bI_0 g7
                refine lv_iconst (v := 0) hx hb d_M_count_94 (by decide) ?_
                refine lv_iadd hx hb d_M_count_95 (tpi (y := nI (j)) (nI_add (j) (0)) ?_)
                refine lv_istore_n hx hb d_M_count_96 rfl hl (by decide) rfl (fun ls hl => ?_)
                have hl : lv_has ls 5 [(3, .int (nI (j))), (4, .int (nI q)), (2, .int (nI n)), (1, .int 4), (0, .ref h)] := hl
                refine lv_iinc (k := 1) (v := nI (q + 1)) hx hb d_M_count_97 hl rfl (iincN (q) 1 1 (by decide)) (by decide) rfl (fun ls hl => ?_)
                have hl : lv_has ls 5 [(4, .int (nI (q + 1))), (3, .int (nI (j))), (2, .int (nI n)), (1, .int 4), (0, .ref h)] := hl
                refine lv_goto hx hb d_M_count_100 (tgt := 71) rfl ?_
                exact ih71 _ (by omega) (q + 1) j (by omega) (by simp [cnt, *]) rfl H _ ls hP hD hS (lv_sub hl [0, 1, 2, 3, 4] rfl)
              · have g7 := bI_n0 g7
                refine lv_iconst (v := 1) hx hb d_M_count_90 (by decide) ?_
                refine lv_goto hx hb d_M_count_91 (tgt := 95) rfl ?_
                refine lv_iadd hx hb d_M_count_95 (tpi (y := nI (j + 1)) (nI_add (j) (1)) ?_)
                refine lv_istore_n hx hb d_M_count_96 rfl hl (by decide) rfl (fun ls hl => ?_)
                have hl : lv_has ls 5 [(3, .int (nI (j + 1))), (4, .int (nI q)), (2, .int (nI n)), (1, .int 4), (0, .ref h)] := hl
                refine lv_iinc (k := 1) (v := nI (q + 1)) hx hb d_M_count_97 hl rfl (iincN (q) 1 1 (by decide)) (by decide) rfl (fun ls hl => ?_)
                have hl : lv_has ls 5 [(4, .int (nI (q + 1))), (3, .int (nI (j + 1))), (2, .int (nI n)), (1, .int 4), (0, .ref h)] := hl
                refine lv_goto hx hb d_M_count_100 (tgt := 71) rfl ?_
                exact ih71 _ (by omega) (q + 1) (j + 1) (by omega) (by simp [cnt, *]) rfl H _ ls hP hD hS (lv_sub hl [0, 1, 2, 3, 4] rfl)
        exact L71 _ 0 0 (by omega) rfl rfl H _ ls hP hD hS (lv_sub hl [0, 1, 2, 3, 4] rfl)
      · have g1 := mt (nI_leI (a := x.records) (b := k) (by omega) (by omega)).mpr g1
        refine lv_iload_n hx hb d_M_count_51 rfl (lv_at hl 1 rfl) ?_
        refine lv_aload_n hx hb d_M_count_52 rfl (lv_at hl 3 rfl) ?_
        refine gF (v := .ref (ad 35)) hx hb hown hE hK hP 0 rfl rfl layM 35 (by decide) w515 rfl d_M_count_53 ?_
        refine lv_iload_n hx hb d_M_count_56 rfl (lv_at hl 0 rfl) ?_
        refine nild (f := (fun z9 => nI (x.units z9))) hx hb hK hP 18 1 rfl rfl (k) (by omega) (by decide) d_M_count_57 ?_
        refine lv_iadd hx hb d_M_count_58 (tpi (y := nI (n + (x.units k))) (nI_add (n) (x.units k)) ?_)
        refine lv_istore_n hx hb d_M_count_59 rfl hl (by decide) rfl (fun ls hl => ?_)
        have hl : lv_has ls 5 [(2, .int (nI (n + (x.units k)))), (3, .int (nI k)), (1, .int 4), (0, .ref h)] := hl
        refine lv_iinc (k := 1) (v := nI (k + 1)) hx hb d_M_count_60 hl rfl (iincN (k) 1 1 (by decide)) (by decide) rfl (fun ls hl => ?_)
        have hl : lv_has ls 5 [(3, .int (nI (k + 1))), (2, .int (nI (n + (x.units k)))), (1, .int 4), (0, .ref h)] := hl
        refine lv_goto hx hb d_M_count_63 (tgt := 43) rfl ?_
        exact ih43 _ (by omega) (k + 1) (n + (x.units k)) (by omega) (by rw [i2]; rfl) rfl H _ ls hP hD hS (lv_sub hl [0, 1, 2, 3] rfl)
  exact L43 _ 0 0 (by omega) rfl rfl H _ ls hP hD hS (lv_sub hl [0, 1, 3, 2] rfl)
set_option maxHeartbeats 4000000 in
set_option maxRecDepth 100000 in
theorem k_count0_5 (l : Launch) (D : va_G) (dA : Nat → ClassId) (sz : Nat) (h : Nat) (ad : Nat → Nat) (x : MS) (ho : x.on = true) (r1 : x.records ≤ 32000) (hp1 : x.points ≤ 12000) : Met l ⟨"SeriesVaultModel", "count", "(I)I"⟩ [Cond.code ⟨"SeriesVaultModel", "count", "(I)I"⟩ prog_14_method_48_code 5 (some FieldType.int)] { frames := 2, cells := 0, slots := 0, locals := 21 } (pC D dA [.ref h, .int 5] (MW dA h ad x) sz) (va_Qi (fun (r9 : Int32) (u9 : Unit) => r9 = nI (sumN x.records x.units)) (fun (u9 : Unit) t9 => bW D (va_A (MW dA h ad x) sz) (MW dA h ad (MS.s_cod x 0)) t9) (va_A (MW dA h ad x) sz)) 0 0 (va_A (MW dA h ad x) sz) := by
  refine mkC (y := ⟨"SeriesVaultModel", "count", "(I)I"⟩) (cc := prog_14_method_48_code) (maxL := 5) (av := [.ref h, .int 5]) (ws := MW dA h ad x) (sz := sz) (Qc := fun A => va_Qi (fun (r9 : Int32) (u9 : Unit) => r9 = nI (sumN x.records x.units)) (fun (u9 : Unit) t9 => bW D A (MW dA h ad (MS.s_cod x 0)) t9) A) (by decide) (Nat.le_of_ble_eq_true rfl) ?_
  intro A p e s m below meth c ls hsz hB
  obtain ⟨hx, hb, hr, hml, hown, hin, hlk, hE, hK, hP, hD, hS, hA, hN, hl⟩ := hB
  have hown : s.vm.findClass "SeriesVaultModel" = some m.cls := hown
  have hl : lv_has ls 5 [(0, .ref h), (1, .int 5)] := hl
  obtain ⟨H, hH⟩ : ∃ z, z = s.heap := ⟨_, rfl⟩
  have hP : va_P D vwCl (MW dA h ad x) H := by rw [hH]; exact hP
  have hS : va_S A s.heap H [] := by rw [hH]; exact hS
  rw [← hH]
  refine lv_aload_n hx hb d_M_count_0 rfl (lv_at hl 0 rfl) ?_
  refine lv_aload_n hx hb d_M_count_1 rfl (lv_at hl 0 rfl) ?_
  refine gF (v := .int (bI x.on)) hx hb hown hE hK hP 0 rfl rfl layM 7 (by decide) w324 rfl d_M_count_2 ?_
  refine lv_if_ne hx hb d_M_count_5 (tgt := 12) rfl (fun _ => ?_) (fun h9 => absurd h9 (by rw [ho]; decide))
  refine lv_iload_n hx hb d_M_count_12 rfl (lv_at hl 1 rfl) ?_
  refine lv_if_lt hx hb d_M_count_13 (tgt := 22) rfl (fun h9 => absurd h9 (by decide)) (fun _ => ?_)
  refine lv_iload_n hx hb d_M_count_16 rfl (lv_at hl 1 rfl) ?_
  refine lv_bipush (v := 8) hx hb d_M_count_17 (by decide) ?_
  refine lv_icmp_le hx hb d_M_count_19 (tgt := 26) rfl (fun _ => ?_) (fun h9 => absurd (by decide) h9)
  refine lv_iconst (v := 0) hx hb d_M_count_26 (by decide) ?_
  refine pF (v := .int 0) hx hb hown hE hK hP hD hS 0 rfl rfl layM tyM tokM nmM 0 (by decide) w319 rfl rfl rfl (Nat.le_of_ble_eq_true rfl) d_M_count_27 (fun H locs hP hD hS => ?_)
  have hP : va_P D vwCl (MW dA h ad (MS.s_cod x 0)) H := hP
  have hD : va_D A (MW dA h ad (MS.s_cod x 0)) := hD
  refine lv_aload_n hx hb d_M_count_30 rfl (lv_at hl 0 rfl) ?_
  refine gF (v := .int 0) hx hb hown hE hK hP 0 rfl rfl layM 0 (by decide) w319 rfl d_M_count_31 ?_
  refine lv_if_le hx hb d_M_count_34 (tgt := 39) rfl (fun _ => ?_) (fun h9 => absurd (by decide) h9)
  refine lv_iconst (v := 0) hx hb d_M_count_39 (by decide) ?_
  refine lv_istore_n hx hb d_M_count_40 rfl hl (by decide) rfl (fun ls hl => ?_)
  have hl : lv_has ls 5 [(2, .int 0), (0, .ref h), (1, .int 5)] := hl
  refine lv_iconst (v := 0) hx hb d_M_count_41 (by decide) ?_
  refine lv_istore_n hx hb d_M_count_42 rfl hl (by decide) rfl (fun ls hl => ?_)
  have hl : lv_has ls 5 [(3, .int 0), (2, .int 0), (0, .ref h), (1, .int 5)] := hl
  have L43 : ∀ (k9 : Nat) (k : Nat) (n : Nat) (i1 : k ≤ x.records) (i2 : n = sumN k x.units) (hk9 : x.records - k = k9), ∀ (H : Heap) (locs : List Loc) (ls : Array Slot) (hP : va_P D vwCl (MW dA h ad (MS.s_cod x 0)) H) (hD : va_D A (MW dA h ad (MS.s_cod x 0))) (hS : va_S A s.heap H locs) (hl : lv_has ls 5 [(3, .int (nI k)), (2, .int (nI n)), (1, .int 5), (0, .ref h)]), W p l e ({ frames := 2, cells := 0, slots := 0, locals := 21 } : Room) s m ([.ref h, .int 5] : List Value).toArray below meth c H locs 0 0 (MQ below (va_Qi (fun (r9 : Int32) (u9 : Unit) => r9 = nI (sumN x.records x.units)) (fun (u9 : Unit) t9 => bW D A (MW dA h ad (MS.s_cod x 0)) t9) A) ([.ref h, .int 5] : List Value).toArray s 0 0 A) (F0 m 43 ls []) := by
    intro k9
    induction k9 using Nat.strongRecOn with
    | ind k9 ih43 =>
      intro k n i1 i2 hk9 H locs ls hP hD hS hl
      refine lv_iload_n hx hb d_M_count_43 rfl (lv_at hl 0 rfl) ?_
      refine lv_aload_n hx hb d_M_count_44 rfl (lv_at hl 3 rfl) ?_
      refine gF (v := .int (nI x.records)) hx hb hown hE hK hP 0 rfl rfl layM 37 (by decide) w338 rfl d_M_count_45 ?_
      refine lv_icmp_ge hx hb d_M_count_48 (tgt := 66) rfl (fun g1 => ?_) (fun g1 => ?_)
      · have g1 := (nI_leI (a := x.records) (b := k) (by omega) (by omega)).mp g1
        refine lv_iconst (v := 0) hx hb d_M_count_66 (by decide) ?_
        refine lv_istore_n hx hb d_M_count_67 rfl hl (by decide) rfl (fun ls hl => ?_)
        have hl : lv_has ls 5 [(3, .int 0), (2, .int (nI n)), (1, .int 5), (0, .ref h)] := hl
        refine lv_iconst (v := 0) hx hb d_M_count_68 (by decide) ?_
        refine lv_istore hx hb d_M_count_69 hl (by decide) rfl (fun ls hl => ?_)
        have hl : lv_has ls 5 [(4, .int 0), (3, .int 0), (2, .int (nI n)), (1, .int 5), (0, .ref h)] := hl
        have L71 : ∀ (k9 : Nat) (q : Nat) (j : Nat) (j1 : q ≤ x.points) (j2 : j = cnt q x.seen) (hk9 : x.points - q = k9), ∀ (H : Heap) (locs : List Loc) (ls : Array Slot) (hP : va_P D vwCl (MW dA h ad (MS.s_cod x 0)) H) (hD : va_D A (MW dA h ad (MS.s_cod x 0))) (hS : va_S A s.heap H locs) (hl : lv_has ls 5 [(4, .int (nI q)), (3, .int (nI j)), (2, .int (nI n)), (1, .int 5), (0, .ref h)]), W p l e ({ frames := 2, cells := 0, slots := 0, locals := 21 } : Room) s m ([.ref h, .int 5] : List Value).toArray below meth c H locs 0 0 (MQ below (va_Qi (fun (r9 : Int32) (u9 : Unit) => r9 = nI (sumN x.records x.units)) (fun (u9 : Unit) t9 => bW D A (MW dA h ad (MS.s_cod x 0)) t9) A) ([.ref h, .int 5] : List Value).toArray s 0 0 A) (F0 m 71 ls []) := by
          intro k9
          induction k9 using Nat.strongRecOn with
          | ind k9 ih71 =>
            intro q j j1 j2 hk9 H locs ls hP hD hS hl
            refine lv_iload hx hb d_M_count_71 (lv_at hl 0 rfl) ?_
            refine lv_aload_n hx hb d_M_count_73 rfl (lv_at hl 4 rfl) ?_
            refine gF (v := .int (nI x.points)) hx hb hown hE hK hP 0 rfl rfl layM 23 (by decide) w420 rfl d_M_count_74 ?_
            refine lv_icmp_ge hx hb d_M_count_77 (tgt := 103) rfl (fun g2 => ?_) (fun g2 => ?_)
            · have g2 := (nI_leI (a := x.points) (b := q) (by omega) (by omega)).mp g2
              refine lv_iload_n hx hb d_M_count_103 rfl (lv_at hl 3 rfl) ?_
              refine lv_if_ne hx hb d_M_count_104 (tgt := 114) rfl (fun _ => ?_) (fun h9 => absurd h9 (by decide))
              refine lv_iload_n hx hb d_M_count_114 rfl (lv_at hl 3 rfl) ?_
              refine lv_iconst (v := 1) hx hb d_M_count_115 (by decide) ?_
              refine lv_icmp_ne hx hb d_M_count_116 (tgt := 126) rfl (fun _ => ?_) (fun h9 => absurd h9 (by decide))
              refine lv_iload_n hx hb d_M_count_126 rfl (lv_at hl 3 rfl) ?_
              refine lv_iconst (v := 2) hx hb d_M_count_127 (by decide) ?_
              refine lv_icmp_ne hx hb d_M_count_128 (tgt := 138) rfl (fun _ => ?_) (fun h9 => absurd h9 (by decide))
              refine lv_iload_n hx hb d_M_count_138 rfl (lv_at hl 3 rfl) ?_
              refine lv_iconst (v := 3) hx hb d_M_count_139 (by decide) ?_
              refine lv_icmp_ne hx hb d_M_count_140 (tgt := 150) rfl (fun _ => ?_) (fun h9 => absurd h9 (by decide))
              refine lv_iload_n hx hb d_M_count_150 rfl (lv_at hl 3 rfl) ?_
              refine lv_iconst (v := 4) hx hb d_M_count_151 (by decide) ?_
              refine lv_icmp_ne hx hb d_M_count_152 (tgt := 162) rfl (fun _ => ?_) (fun h9 => absurd h9 (by decide))
              refine lv_iload_n hx hb d_M_count_162 rfl (lv_at hl 3 rfl) ?_
              refine lv_iconst (v := 5) hx hb d_M_count_163 (by decide) ?_
              refine lv_icmp_ne hx hb d_M_count_164 (tgt := 171) rfl (fun h9 => absurd (by decide) h9) (fun _ => ?_)
              refine lv_iload_n hx hb d_M_count_167 rfl (lv_at hl 2 rfl) ?_
              refine lv_goto hx hb d_M_count_168 (tgt := 198) rfl ?_
              exact rfI hx hb hr hlk hS () (by first | rfl | rw [i2, show k = x.records by omega] | rw [j2, show q = x.points by omega]) hP hD (Nat.le_of_ble_eq_true rfl) (Nat.le_of_ble_eq_true rfl) d_M_count_198
            · have g2 := mt (nI_leI (a := x.points) (b := q) (by omega) (by omega)).mpr g2
              refine lv_iload_n hx hb d_M_count_80 rfl (lv_at hl 1 rfl) ?_
              refine lv_aload_n hx hb d_M_count_81 rfl (lv_at hl 4 rfl) ?_
              refine lv_iload hx hb d_M_count_82 (lv_at hl 0 rfl) ?_
              refine jfI (rnV (As := [.int (nI q)]) (rest := [.int (nI j)]) hx hb hml hown hE hK (hN _ _ hS) hP hD (k_isSeen l D dA H.size h ad (MS.s_cod x 0) q (show q < 12000 from by omega)) (q0 := 0) rfl rfl w861 w860 w862 w863 w328 rfl rfl ⟨⟨by decide, by decide⟩, rfl⟩ ⟨(Nat.le_of_ble_eq_true rfl), (Nat.le_of_ble_eq_true rfl)⟩ rfl hl.1 rfl (Nat.le_of_ble_eq_true rfl) d_M_count_84 ⟨(Nat.le_of_ble_eq_true rfl), (Nat.le_of_ble_eq_true rfl)⟩) hP hD hS hA (fun r3 u4 H locs hp9 hP hD hS => ?_)
              have hP : va_P D vwCl (MW dA h ad (MS.s_cod x 0)) H := hP
              have hD : va_D A (MW dA h ad (MS.s_cod x 0)) := hD
              replace hp9 : bI (x.seen q) = r3 := Eq.symm hp9
              subst hp9
              refine lv_if_eq hx hb d_M_count_87 (tgt := 94) rfl (fun g5 => ?_) (fun g5 => ?_)
              · have g5 := bI_0 g5
                refine lv_iconst (v := 0) hx hb d_M_count_94 (by decide) ?_
                refine lv_iadd hx hb d_M_count_95 (tpi (y := nI (j)) (nI_add (j) (0)) ?_)
                refine lv_istore_n hx hb d_M_count_96 rfl hl (by decide) rfl (fun ls hl => ?_)
                have hl : lv_has ls 5 [(3, .int (nI (j))), (4, .int (nI q)), (2, .int (nI n)), (1, .int 5), (0, .ref h)] := hl
                refine lv_iinc (k := 1) (v := nI (q + 1)) hx hb d_M_count_97 hl rfl (iincN (q) 1 1 (by decide)) (by decide) rfl (fun ls hl => ?_)
                have hl : lv_has ls 5 [(4, .int (nI (q + 1))), (3, .int (nI (j))), (2, .int (nI n)), (1, .int 5), (0, .ref h)] := hl
                refine lv_goto hx hb d_M_count_100 (tgt := 71) rfl ?_
                exact ih71 _ (by omega) (q + 1) j (by omega) (by simp [cnt, *]) rfl H _ ls hP hD hS (lv_sub hl [0, 1, 2, 3, 4] rfl)
              · have g5 := bI_n0 g5
                refine lv_iconst (v := 1) hx hb d_M_count_90 (by decide) ?_
                refine lv_goto hx hb d_M_count_91 (tgt := 95) rfl ?_
                refine lv_iadd hx hb d_M_count_95 (tpi (y := nI (j + 1)) (nI_add (j) (1)) ?_)
                refine lv_istore_n hx hb d_M_count_96 rfl hl (by decide) rfl (fun ls hl => ?_)
                have hl : lv_has ls 5 [(3, .int (nI (j + 1))), (4, .int (nI q)), (2, .int (nI n)), (1, .int 5), (0, .ref h)] := hl
                refine lv_iinc (k := 1) (v := nI (q + 1)) hx hb d_M_count_97 hl rfl (iincN (q) 1 1 (by decide)) (by decide) rfl (fun ls hl => ?_)
                have hl : lv_has ls 5 [(4, .int (nI (q + 1))), (3, .int (nI (j + 1))), (2, .int (nI n)), (1, .int 5), (0, .ref h)] := hl
                refine lv_goto hx hb d_M_count_100 (tgt := 71) rfl ?_
                exact ih71 _ (by omega) (q + 1) (j + 1) (by omega) (by simp [cnt, *]) rfl H _ ls hP hD hS (lv_sub hl [0, 1, 2, 3, 4] rfl)
        exact L71 _ 0 0 (by omega) rfl rfl H _ ls hP hD hS (lv_sub hl [0, 1, 2, 3, 4] rfl)
      · have g1 := mt (nI_leI (a := x.records) (b := k) (by omega) (by omega)).mpr g1
        refine lv_iload_n hx hb d_M_count_51 rfl (lv_at hl 1 rfl) ?_
        refine lv_aload_n hx hb d_M_count_52 rfl (lv_at hl 3 rfl) ?_
        refine gF (v := .ref (ad 35)) hx hb hown hE hK hP 0 rfl rfl layM 35 (by decide) w515 rfl d_M_count_53 ?_
        refine lv_iload_n hx hb d_M_count_56 rfl (lv_at hl 0 rfl) ?_
        refine nild (f := (fun z9 => nI (x.units z9))) hx hb hK hP 18 1 rfl rfl (k) (by omega) (by decide) d_M_count_57 ?_
        refine lv_iadd hx hb d_M_count_58 (tpi (y := nI (n + (x.units k))) (nI_add (n) (x.units k)) ?_)
        refine lv_istore_n hx hb d_M_count_59 rfl hl (by decide) rfl (fun ls hl => ?_)
        have hl : lv_has ls 5 [(2, .int (nI (n + (x.units k)))), (3, .int (nI k)), (1, .int 5), (0, .ref h)] := hl
        refine lv_iinc (k := 1) (v := nI (k + 1)) hx hb d_M_count_60 hl rfl (iincN (k) 1 1 (by decide)) (by decide) rfl (fun ls hl => ?_)
        have hl : lv_has ls 5 [(3, .int (nI (k + 1))), (2, .int (nI (n + (x.units k)))), (1, .int 5), (0, .ref h)] := hl
        refine lv_goto hx hb d_M_count_63 (tgt := 43) rfl ?_
        exact ih43 _ (by omega) (k + 1) (n + (x.units k)) (by omega) (by rw [i2]; rfl) rfl H _ ls hP hD hS (lv_sub hl [0, 1, 2, 3] rfl)
  exact L43 _ 0 0 (by omega) rfl rfl H _ ls hP hD hS (lv_sub hl [0, 1, 3, 2] rfl)
set_option maxHeartbeats 4000000 in
set_option maxRecDepth 100000 in
theorem k_count0_6 (l : Launch) (D : va_G) (dA : Nat → ClassId) (sz : Nat) (h : Nat) (ad : Nat → Nat) (x : MS) (ho : x.on = true) (r1 : x.records ≤ 32000) (hp1 : x.points ≤ 12000) : Met l ⟨"SeriesVaultModel", "count", "(I)I"⟩ [Cond.code ⟨"SeriesVaultModel", "count", "(I)I"⟩ prog_14_method_48_code 5 (some FieldType.int)] { frames := 2, cells := 0, slots := 0, locals := 21 } (pC D dA [.ref h, .int 6] (MW dA h ad x) sz) (va_Qi (fun (r9 : Int32) (u9 : Unit) => r9 = nI x.records) (fun (u9 : Unit) t9 => bW D (va_A (MW dA h ad x) sz) (MW dA h ad (MS.s_cod x 0)) t9) (va_A (MW dA h ad x) sz)) 0 0 (va_A (MW dA h ad x) sz) := by
  refine mkC (y := ⟨"SeriesVaultModel", "count", "(I)I"⟩) (cc := prog_14_method_48_code) (maxL := 5) (av := [.ref h, .int 6]) (ws := MW dA h ad x) (sz := sz) (Qc := fun A => va_Qi (fun (r9 : Int32) (u9 : Unit) => r9 = nI x.records) (fun (u9 : Unit) t9 => bW D A (MW dA h ad (MS.s_cod x 0)) t9) A) (by decide) (Nat.le_of_ble_eq_true rfl) ?_
  intro A p e s m below meth c ls hsz hB
  obtain ⟨hx, hb, hr, hml, hown, hin, hlk, hE, hK, hP, hD, hS, hA, hN, hl⟩ := hB
  have hown : s.vm.findClass "SeriesVaultModel" = some m.cls := hown
  have hl : lv_has ls 5 [(0, .ref h), (1, .int 6)] := hl
  obtain ⟨H, hH⟩ : ∃ z, z = s.heap := ⟨_, rfl⟩
  have hP : va_P D vwCl (MW dA h ad x) H := by rw [hH]; exact hP
  have hS : va_S A s.heap H [] := by rw [hH]; exact hS
  rw [← hH]
  refine lv_aload_n hx hb d_M_count_0 rfl (lv_at hl 0 rfl) ?_
  refine lv_aload_n hx hb d_M_count_1 rfl (lv_at hl 0 rfl) ?_
  refine gF (v := .int (bI x.on)) hx hb hown hE hK hP 0 rfl rfl layM 7 (by decide) w324 rfl d_M_count_2 ?_
  refine lv_if_ne hx hb d_M_count_5 (tgt := 12) rfl (fun _ => ?_) (fun h9 => absurd h9 (by rw [ho]; decide))
  refine lv_iload_n hx hb d_M_count_12 rfl (lv_at hl 1 rfl) ?_
  refine lv_if_lt hx hb d_M_count_13 (tgt := 22) rfl (fun h9 => absurd h9 (by decide)) (fun _ => ?_)
  refine lv_iload_n hx hb d_M_count_16 rfl (lv_at hl 1 rfl) ?_
  refine lv_bipush (v := 8) hx hb d_M_count_17 (by decide) ?_
  refine lv_icmp_le hx hb d_M_count_19 (tgt := 26) rfl (fun _ => ?_) (fun h9 => absurd (by decide) h9)
  refine lv_iconst (v := 0) hx hb d_M_count_26 (by decide) ?_
  refine pF (v := .int 0) hx hb hown hE hK hP hD hS 0 rfl rfl layM tyM tokM nmM 0 (by decide) w319 rfl rfl rfl (Nat.le_of_ble_eq_true rfl) d_M_count_27 (fun H locs hP hD hS => ?_)
  have hP : va_P D vwCl (MW dA h ad (MS.s_cod x 0)) H := hP
  have hD : va_D A (MW dA h ad (MS.s_cod x 0)) := hD
  refine lv_aload_n hx hb d_M_count_30 rfl (lv_at hl 0 rfl) ?_
  refine gF (v := .int 0) hx hb hown hE hK hP 0 rfl rfl layM 0 (by decide) w319 rfl d_M_count_31 ?_
  refine lv_if_le hx hb d_M_count_34 (tgt := 39) rfl (fun _ => ?_) (fun h9 => absurd (by decide) h9)
  refine lv_iconst (v := 0) hx hb d_M_count_39 (by decide) ?_
  refine lv_istore_n hx hb d_M_count_40 rfl hl (by decide) rfl (fun ls hl => ?_)
  have hl : lv_has ls 5 [(2, .int 0), (0, .ref h), (1, .int 6)] := hl
  refine lv_iconst (v := 0) hx hb d_M_count_41 (by decide) ?_
  refine lv_istore_n hx hb d_M_count_42 rfl hl (by decide) rfl (fun ls hl => ?_)
  have hl : lv_has ls 5 [(3, .int 0), (2, .int 0), (0, .ref h), (1, .int 6)] := hl
  have L43 : ∀ (k9 : Nat) (k : Nat) (n : Nat) (i1 : k ≤ x.records) (i2 : n = sumN k x.units) (hk9 : x.records - k = k9), ∀ (H : Heap) (locs : List Loc) (ls : Array Slot) (hP : va_P D vwCl (MW dA h ad (MS.s_cod x 0)) H) (hD : va_D A (MW dA h ad (MS.s_cod x 0))) (hS : va_S A s.heap H locs) (hl : lv_has ls 5 [(3, .int (nI k)), (2, .int (nI n)), (1, .int 6), (0, .ref h)]), W p l e ({ frames := 2, cells := 0, slots := 0, locals := 21 } : Room) s m ([.ref h, .int 6] : List Value).toArray below meth c H locs 0 0 (MQ below (va_Qi (fun (r9 : Int32) (u9 : Unit) => r9 = nI x.records) (fun (u9 : Unit) t9 => bW D A (MW dA h ad (MS.s_cod x 0)) t9) A) ([.ref h, .int 6] : List Value).toArray s 0 0 A) (F0 m 43 ls []) := by
    intro k9
    induction k9 using Nat.strongRecOn with
    | ind k9 ih43 =>
      intro k n i1 i2 hk9 H locs ls hP hD hS hl
      refine lv_iload_n hx hb d_M_count_43 rfl (lv_at hl 0 rfl) ?_
      refine lv_aload_n hx hb d_M_count_44 rfl (lv_at hl 3 rfl) ?_
      refine gF (v := .int (nI x.records)) hx hb hown hE hK hP 0 rfl rfl layM 37 (by decide) w338 rfl d_M_count_45 ?_
      refine lv_icmp_ge hx hb d_M_count_48 (tgt := 66) rfl (fun g1 => ?_) (fun g1 => ?_)
      · have g1 := (nI_leI (a := x.records) (b := k) (by omega) (by omega)).mp g1
        refine lv_iconst (v := 0) hx hb d_M_count_66 (by decide) ?_
        refine lv_istore_n hx hb d_M_count_67 rfl hl (by decide) rfl (fun ls hl => ?_)
        have hl : lv_has ls 5 [(3, .int 0), (2, .int (nI n)), (1, .int 6), (0, .ref h)] := hl
        refine lv_iconst (v := 0) hx hb d_M_count_68 (by decide) ?_
        refine lv_istore hx hb d_M_count_69 hl (by decide) rfl (fun ls hl => ?_)
        have hl : lv_has ls 5 [(4, .int 0), (3, .int 0), (2, .int (nI n)), (1, .int 6), (0, .ref h)] := hl
        have L71 : ∀ (k9 : Nat) (q : Nat) (j : Nat) (j1 : q ≤ x.points) (j2 : j = cnt q x.seen) (hk9 : x.points - q = k9), ∀ (H : Heap) (locs : List Loc) (ls : Array Slot) (hP : va_P D vwCl (MW dA h ad (MS.s_cod x 0)) H) (hD : va_D A (MW dA h ad (MS.s_cod x 0))) (hS : va_S A s.heap H locs) (hl : lv_has ls 5 [(4, .int (nI q)), (3, .int (nI j)), (2, .int (nI n)), (1, .int 6), (0, .ref h)]), W p l e ({ frames := 2, cells := 0, slots := 0, locals := 21 } : Room) s m ([.ref h, .int 6] : List Value).toArray below meth c H locs 0 0 (MQ below (va_Qi (fun (r9 : Int32) (u9 : Unit) => r9 = nI x.records) (fun (u9 : Unit) t9 => bW D A (MW dA h ad (MS.s_cod x 0)) t9) A) ([.ref h, .int 6] : List Value).toArray s 0 0 A) (F0 m 71 ls []) := by
          intro k9
          induction k9 using Nat.strongRecOn with
          | ind k9 ih71 =>
            intro q j j1 j2 hk9 H locs ls hP hD hS hl
            refine lv_iload hx hb d_M_count_71 (lv_at hl 0 rfl) ?_
            refine lv_aload_n hx hb d_M_count_73 rfl (lv_at hl 4 rfl) ?_
            refine gF (v := .int (nI x.points)) hx hb hown hE hK hP 0 rfl rfl layM 23 (by decide) w420 rfl d_M_count_74 ?_
            refine lv_icmp_ge hx hb d_M_count_77 (tgt := 103) rfl (fun g2 => ?_) (fun g2 => ?_)
            · have g2 := (nI_leI (a := x.points) (b := q) (by omega) (by omega)).mp g2
              refine lv_iload_n hx hb d_M_count_103 rfl (lv_at hl 3 rfl) ?_
              refine lv_if_ne hx hb d_M_count_104 (tgt := 114) rfl (fun _ => ?_) (fun h9 => absurd h9 (by decide))
              refine lv_iload_n hx hb d_M_count_114 rfl (lv_at hl 3 rfl) ?_
              refine lv_iconst (v := 1) hx hb d_M_count_115 (by decide) ?_
              refine lv_icmp_ne hx hb d_M_count_116 (tgt := 126) rfl (fun _ => ?_) (fun h9 => absurd h9 (by decide))
              refine lv_iload_n hx hb d_M_count_126 rfl (lv_at hl 3 rfl) ?_
              refine lv_iconst (v := 2) hx hb d_M_count_127 (by decide) ?_
              refine lv_icmp_ne hx hb d_M_count_128 (tgt := 138) rfl (fun _ => ?_) (fun h9 => absurd h9 (by decide))
              refine lv_iload_n hx hb d_M_count_138 rfl (lv_at hl 3 rfl) ?_
              refine lv_iconst (v := 3) hx hb d_M_count_139 (by decide) ?_
              refine lv_icmp_ne hx hb d_M_count_140 (tgt := 150) rfl (fun _ => ?_) (fun h9 => absurd h9 (by decide))
              refine lv_iload_n hx hb d_M_count_150 rfl (lv_at hl 3 rfl) ?_
              refine lv_iconst (v := 4) hx hb d_M_count_151 (by decide) ?_
              refine lv_icmp_ne hx hb d_M_count_152 (tgt := 162) rfl (fun _ => ?_) (fun h9 => absurd h9 (by decide))
              refine lv_iload_n hx hb d_M_count_162 rfl (lv_at hl 3 rfl) ?_
              refine lv_iconst (v := 5) hx hb d_M_count_163 (by decide) ?_
              refine lv_icmp_ne hx hb d_M_count_164 (tgt := 171) rfl (fun _ => ?_) (fun h9 => absurd h9 (by decide))
              refine lv_iload_n hx hb d_M_count_171 rfl (lv_at hl 3 rfl) ?_
              refine lv_bipush (v := 6) hx hb d_M_count_172 (by decide) ?_
              refine lv_icmp_ne hx hb d_M_count_174 (tgt := 184) rfl (fun h9 => absurd (by decide) h9) (fun _ => ?_)
              refine lv_aload_n hx hb d_M_count_177 rfl (lv_at hl 4 rfl) ?_
              refine gF (v := .int (nI x.records)) hx hb hown hE hK hP 0 rfl rfl layM 37 (by decide) w338 rfl d_M_count_178 ?_
              refine lv_goto hx hb d_M_count_181 (tgt := 198) rfl ?_
              exact rfI hx hb hr hlk hS () (by first | rfl | rw [i2, show k = x.records by omega] | rw [j2, show q = x.points by omega]) hP hD (Nat.le_of_ble_eq_true rfl) (Nat.le_of_ble_eq_true rfl) d_M_count_198
            · have g2 := mt (nI_leI (a := x.points) (b := q) (by omega) (by omega)).mpr g2
              refine lv_iload_n hx hb d_M_count_80 rfl (lv_at hl 1 rfl) ?_
              refine lv_aload_n hx hb d_M_count_81 rfl (lv_at hl 4 rfl) ?_
              refine lv_iload hx hb d_M_count_82 (lv_at hl 0 rfl) ?_
              refine jfI (rnV (As := [.int (nI q)]) (rest := [.int (nI j)]) hx hb hml hown hE hK (hN _ _ hS) hP hD (k_isSeen l D dA H.size h ad (MS.s_cod x 0) q (show q < 12000 from by omega)) (q0 := 0) rfl rfl w861 w860 w862 w863 w328 rfl rfl ⟨⟨by decide, by decide⟩, rfl⟩ ⟨(Nat.le_of_ble_eq_true rfl), (Nat.le_of_ble_eq_true rfl)⟩ rfl hl.1 rfl (Nat.le_of_ble_eq_true rfl) d_M_count_84 ⟨(Nat.le_of_ble_eq_true rfl), (Nat.le_of_ble_eq_true rfl)⟩) hP hD hS hA (fun r3 u4 H locs hp9 hP hD hS => ?_)
              have hP : va_P D vwCl (MW dA h ad (MS.s_cod x 0)) H := hP
              have hD : va_D A (MW dA h ad (MS.s_cod x 0)) := hD
              replace hp9 : bI (x.seen q) = r3 := Eq.symm hp9
              subst hp9
              refine lv_if_eq hx hb d_M_count_87 (tgt := 94) rfl (fun g5 => ?_) (fun g5 => ?_)
              · have g5 := bI_0 g5
                refine lv_iconst (v := 0) hx hb d_M_count_94 (by decide) ?_
                refine lv_iadd hx hb d_M_count_95 (tpi (y := nI (j)) (nI_add (j) (0)) ?_)
                refine lv_istore_n hx hb d_M_count_96 rfl hl (by decide) rfl (fun ls hl => ?_)
                have hl : lv_has ls 5 [(3, .int (nI (j))), (4, .int (nI q)), (2, .int (nI n)), (1, .int 6), (0, .ref h)] := hl
                refine lv_iinc (k := 1) (v := nI (q + 1)) hx hb d_M_count_97 hl rfl (iincN (q) 1 1 (by decide)) (by decide) rfl (fun ls hl => ?_)
                have hl : lv_has ls 5 [(4, .int (nI (q + 1))), (3, .int (nI (j))), (2, .int (nI n)), (1, .int 6), (0, .ref h)] := hl
                refine lv_goto hx hb d_M_count_100 (tgt := 71) rfl ?_
                exact ih71 _ (by omega) (q + 1) j (by omega) (by simp [cnt, *]) rfl H _ ls hP hD hS (lv_sub hl [0, 1, 2, 3, 4] rfl)
              · have g5 := bI_n0 g5
                refine lv_iconst (v := 1) hx hb d_M_count_90 (by decide) ?_
                refine lv_goto hx hb d_M_count_91 (tgt := 95) rfl ?_
                refine lv_iadd hx hb d_M_count_95 (tpi (y := nI (j + 1)) (nI_add (j) (1)) ?_)
                refine lv_istore_n hx hb d_M_count_96 rfl hl (by decide) rfl (fun ls hl => ?_)
                have hl : lv_has ls 5 [(3, .int (nI (j + 1))), (4, .int (nI q)), (2, .int (nI n)), (1, .int 6), (0, .ref h)] := hl
                refine lv_iinc (k := 1) (v := nI (q + 1)) hx hb d_M_count_97 hl rfl (iincN (q) 1 1 (by decide)) (by decide) rfl (fun ls hl => ?_)
                have hl : lv_has ls 5 [(4, .int (nI (q + 1))), (3, .int (nI (j + 1))), (2, .int (nI n)), (1, .int 6), (0, .ref h)] := hl
                refine lv_goto hx hb d_M_count_100 (tgt := 71) rfl ?_
                exact ih71 _ (by omega) (q + 1) (j + 1) (by omega) (by simp [cnt, *]) rfl H _ ls hP hD hS (lv_sub hl [0, 1, 2, 3, 4] rfl)
        exact L71 _ 0 0 (by omega) rfl rfl H _ ls hP hD hS (lv_sub hl [0, 1, 2, 3, 4] rfl)
      · have g1 := mt (nI_leI (a := x.records) (b := k) (by omega) (by omega)).mpr g1
        refine lv_iload_n hx hb d_M_count_51 rfl (lv_at hl 1 rfl) ?_
        refine lv_aload_n hx hb d_M_count_52 rfl (lv_at hl 3 rfl) ?_
        refine gF (v := .ref (ad 35)) hx hb hown hE hK hP 0 rfl rfl layM 35 (by decide) w515 rfl d_M_count_53 ?_
        refine lv_iload_n hx hb d_M_count_56 rfl (lv_at hl 0 rfl) ?_
        refine nild (f := (fun z9 => nI (x.units z9))) hx hb hK hP 18 1 rfl rfl (k) (by omega) (by decide) d_M_count_57 ?_
        refine lv_iadd hx hb d_M_count_58 (tpi (y := nI (n + (x.units k))) (nI_add (n) (x.units k)) ?_)
        refine lv_istore_n hx hb d_M_count_59 rfl hl (by decide) rfl (fun ls hl => ?_)
        have hl : lv_has ls 5 [(2, .int (nI (n + (x.units k)))), (3, .int (nI k)), (1, .int 6), (0, .ref h)] := hl
        refine lv_iinc (k := 1) (v := nI (k + 1)) hx hb d_M_count_60 hl rfl (iincN (k) 1 1 (by decide)) (by decide) rfl (fun ls hl => ?_)
        have hl : lv_has ls 5 [(3, .int (nI (k + 1))), (2, .int (nI (n + (x.units k)))), (1, .int 6), (0, .ref h)] := hl
        refine lv_goto hx hb d_M_count_63 (tgt := 43) rfl ?_
        exact ih43 _ (by omega) (k + 1) (n + (x.units k)) (by omega) (by rw [i2]; rfl) rfl H _ ls hP hD hS (lv_sub hl [0, 1, 2, 3] rfl)
  exact L43 _ 0 0 (by omega) rfl rfl H _ ls hP hD hS (lv_sub hl [0, 1, 3, 2] rfl)
set_option maxHeartbeats 4000000 in
set_option maxRecDepth 100000 in
theorem k_count0_7 (l : Launch) (D : va_G) (dA : Nat → ClassId) (sz : Nat) (h : Nat) (ad : Nat → Nat) (x : MS) (ho : x.on = true) (r1 : x.records ≤ 32000) (hp1 : x.points ≤ 12000) : Met l ⟨"SeriesVaultModel", "count", "(I)I"⟩ [Cond.code ⟨"SeriesVaultModel", "count", "(I)I"⟩ prog_14_method_48_code 5 (some FieldType.int)] { frames := 2, cells := 0, slots := 0, locals := 21 } (pC D dA [.ref h, .int 7] (MW dA h ad x) sz) (va_Qi (fun (r9 : Int32) (u9 : Unit) => r9 = nI x.kept) (fun (u9 : Unit) t9 => bW D (va_A (MW dA h ad x) sz) (MW dA h ad (MS.s_cod x 0)) t9) (va_A (MW dA h ad x) sz)) 0 0 (va_A (MW dA h ad x) sz) := by
  refine mkC (y := ⟨"SeriesVaultModel", "count", "(I)I"⟩) (cc := prog_14_method_48_code) (maxL := 5) (av := [.ref h, .int 7]) (ws := MW dA h ad x) (sz := sz) (Qc := fun A => va_Qi (fun (r9 : Int32) (u9 : Unit) => r9 = nI x.kept) (fun (u9 : Unit) t9 => bW D A (MW dA h ad (MS.s_cod x 0)) t9) A) (by decide) (Nat.le_of_ble_eq_true rfl) ?_
  intro A p e s m below meth c ls hsz hB
  obtain ⟨hx, hb, hr, hml, hown, hin, hlk, hE, hK, hP, hD, hS, hA, hN, hl⟩ := hB
  have hown : s.vm.findClass "SeriesVaultModel" = some m.cls := hown
  have hl : lv_has ls 5 [(0, .ref h), (1, .int 7)] := hl
  obtain ⟨H, hH⟩ : ∃ z, z = s.heap := ⟨_, rfl⟩
  have hP : va_P D vwCl (MW dA h ad x) H := by rw [hH]; exact hP
  have hS : va_S A s.heap H [] := by rw [hH]; exact hS
  rw [← hH]
  refine lv_aload_n hx hb d_M_count_0 rfl (lv_at hl 0 rfl) ?_
  refine lv_aload_n hx hb d_M_count_1 rfl (lv_at hl 0 rfl) ?_
  refine gF (v := .int (bI x.on)) hx hb hown hE hK hP 0 rfl rfl layM 7 (by decide) w324 rfl d_M_count_2 ?_
  refine lv_if_ne hx hb d_M_count_5 (tgt := 12) rfl (fun _ => ?_) (fun h9 => absurd h9 (by rw [ho]; decide))
  refine lv_iload_n hx hb d_M_count_12 rfl (lv_at hl 1 rfl) ?_
  refine lv_if_lt hx hb d_M_count_13 (tgt := 22) rfl (fun h9 => absurd h9 (by decide)) (fun _ => ?_)
  refine lv_iload_n hx hb d_M_count_16 rfl (lv_at hl 1 rfl) ?_
  refine lv_bipush (v := 8) hx hb d_M_count_17 (by decide) ?_
  refine lv_icmp_le hx hb d_M_count_19 (tgt := 26) rfl (fun _ => ?_) (fun h9 => absurd (by decide) h9)
  refine lv_iconst (v := 0) hx hb d_M_count_26 (by decide) ?_
  refine pF (v := .int 0) hx hb hown hE hK hP hD hS 0 rfl rfl layM tyM tokM nmM 0 (by decide) w319 rfl rfl rfl (Nat.le_of_ble_eq_true rfl) d_M_count_27 (fun H locs hP hD hS => ?_)
  have hP : va_P D vwCl (MW dA h ad (MS.s_cod x 0)) H := hP
  have hD : va_D A (MW dA h ad (MS.s_cod x 0)) := hD
  refine lv_aload_n hx hb d_M_count_30 rfl (lv_at hl 0 rfl) ?_
  refine gF (v := .int 0) hx hb hown hE hK hP 0 rfl rfl layM 0 (by decide) w319 rfl d_M_count_31 ?_
  refine lv_if_le hx hb d_M_count_34 (tgt := 39) rfl (fun _ => ?_) (fun h9 => absurd (by decide) h9)
  refine lv_iconst (v := 0) hx hb d_M_count_39 (by decide) ?_
  refine lv_istore_n hx hb d_M_count_40 rfl hl (by decide) rfl (fun ls hl => ?_)
  have hl : lv_has ls 5 [(2, .int 0), (0, .ref h), (1, .int 7)] := hl
  refine lv_iconst (v := 0) hx hb d_M_count_41 (by decide) ?_
  refine lv_istore_n hx hb d_M_count_42 rfl hl (by decide) rfl (fun ls hl => ?_)
  have hl : lv_has ls 5 [(3, .int 0), (2, .int 0), (0, .ref h), (1, .int 7)] := hl
  have L43 : ∀ (k9 : Nat) (k : Nat) (n : Nat) (i1 : k ≤ x.records) (i2 : n = sumN k x.units) (hk9 : x.records - k = k9), ∀ (H : Heap) (locs : List Loc) (ls : Array Slot) (hP : va_P D vwCl (MW dA h ad (MS.s_cod x 0)) H) (hD : va_D A (MW dA h ad (MS.s_cod x 0))) (hS : va_S A s.heap H locs) (hl : lv_has ls 5 [(3, .int (nI k)), (2, .int (nI n)), (1, .int 7), (0, .ref h)]), W p l e ({ frames := 2, cells := 0, slots := 0, locals := 21 } : Room) s m ([.ref h, .int 7] : List Value).toArray below meth c H locs 0 0 (MQ below (va_Qi (fun (r9 : Int32) (u9 : Unit) => r9 = nI x.kept) (fun (u9 : Unit) t9 => bW D A (MW dA h ad (MS.s_cod x 0)) t9) A) ([.ref h, .int 7] : List Value).toArray s 0 0 A) (F0 m 43 ls []) := by
    intro k9
    induction k9 using Nat.strongRecOn with
    | ind k9 ih43 =>
      intro k n i1 i2 hk9 H locs ls hP hD hS hl
      refine lv_iload_n hx hb d_M_count_43 rfl (lv_at hl 0 rfl) ?_
      refine lv_aload_n hx hb d_M_count_44 rfl (lv_at hl 3 rfl) ?_
      refine gF (v := .int (nI x.records)) hx hb hown hE hK hP 0 rfl rfl layM 37 (by decide) w338 rfl d_M_count_45 ?_
      refine lv_icmp_ge hx hb d_M_count_48 (tgt := 66) rfl (fun g1 => ?_) (fun g1 => ?_)
      · have g1 := (nI_leI (a := x.records) (b := k) (by omega) (by omega)).mp g1
        refine lv_iconst (v := 0) hx hb d_M_count_66 (by decide) ?_
        refine lv_istore_n hx hb d_M_count_67 rfl hl (by decide) rfl (fun ls hl => ?_)
        have hl : lv_has ls 5 [(3, .int 0), (2, .int (nI n)), (1, .int 7), (0, .ref h)] := hl
        refine lv_iconst (v := 0) hx hb d_M_count_68 (by decide) ?_
        refine lv_istore hx hb d_M_count_69 hl (by decide) rfl (fun ls hl => ?_)
        have hl : lv_has ls 5 [(4, .int 0), (3, .int 0), (2, .int (nI n)), (1, .int 7), (0, .ref h)] := hl
        have L71 : ∀ (k9 : Nat) (q : Nat) (j : Nat) (j1 : q ≤ x.points) (j2 : j = cnt q x.seen) (hk9 : x.points - q = k9), ∀ (H : Heap) (locs : List Loc) (ls : Array Slot) (hP : va_P D vwCl (MW dA h ad (MS.s_cod x 0)) H) (hD : va_D A (MW dA h ad (MS.s_cod x 0))) (hS : va_S A s.heap H locs) (hl : lv_has ls 5 [(4, .int (nI q)), (3, .int (nI j)), (2, .int (nI n)), (1, .int 7), (0, .ref h)]), W p l e ({ frames := 2, cells := 0, slots := 0, locals := 21 } : Room) s m ([.ref h, .int 7] : List Value).toArray below meth c H locs 0 0 (MQ below (va_Qi (fun (r9 : Int32) (u9 : Unit) => r9 = nI x.kept) (fun (u9 : Unit) t9 => bW D A (MW dA h ad (MS.s_cod x 0)) t9) A) ([.ref h, .int 7] : List Value).toArray s 0 0 A) (F0 m 71 ls []) := by
          intro k9
          induction k9 using Nat.strongRecOn with
          | ind k9 ih71 =>
            intro q j j1 j2 hk9 H locs ls hP hD hS hl
            refine lv_iload hx hb d_M_count_71 (lv_at hl 0 rfl) ?_
            refine lv_aload_n hx hb d_M_count_73 rfl (lv_at hl 4 rfl) ?_
            refine gF (v := .int (nI x.points)) hx hb hown hE hK hP 0 rfl rfl layM 23 (by decide) w420 rfl d_M_count_74 ?_
            refine lv_icmp_ge hx hb d_M_count_77 (tgt := 103) rfl (fun g2 => ?_) (fun g2 => ?_)
            · have g2 := (nI_leI (a := x.points) (b := q) (by omega) (by omega)).mp g2
              refine lv_iload_n hx hb d_M_count_103 rfl (lv_at hl 3 rfl) ?_
              refine lv_if_ne hx hb d_M_count_104 (tgt := 114) rfl (fun _ => ?_) (fun h9 => absurd h9 (by decide))
              refine lv_iload_n hx hb d_M_count_114 rfl (lv_at hl 3 rfl) ?_
              refine lv_iconst (v := 1) hx hb d_M_count_115 (by decide) ?_
              refine lv_icmp_ne hx hb d_M_count_116 (tgt := 126) rfl (fun _ => ?_) (fun h9 => absurd h9 (by decide))
              refine lv_iload_n hx hb d_M_count_126 rfl (lv_at hl 3 rfl) ?_
              refine lv_iconst (v := 2) hx hb d_M_count_127 (by decide) ?_
              refine lv_icmp_ne hx hb d_M_count_128 (tgt := 138) rfl (fun _ => ?_) (fun h9 => absurd h9 (by decide))
              refine lv_iload_n hx hb d_M_count_138 rfl (lv_at hl 3 rfl) ?_
              refine lv_iconst (v := 3) hx hb d_M_count_139 (by decide) ?_
              refine lv_icmp_ne hx hb d_M_count_140 (tgt := 150) rfl (fun _ => ?_) (fun h9 => absurd h9 (by decide))
              refine lv_iload_n hx hb d_M_count_150 rfl (lv_at hl 3 rfl) ?_
              refine lv_iconst (v := 4) hx hb d_M_count_151 (by decide) ?_
              refine lv_icmp_ne hx hb d_M_count_152 (tgt := 162) rfl (fun _ => ?_) (fun h9 => absurd h9 (by decide))
              refine lv_iload_n hx hb d_M_count_162 rfl (lv_at hl 3 rfl) ?_
              refine lv_iconst (v := 5) hx hb d_M_count_163 (by decide) ?_
              refine lv_icmp_ne hx hb d_M_count_164 (tgt := 171) rfl (fun _ => ?_) (fun h9 => absurd h9 (by decide))
              refine lv_iload_n hx hb d_M_count_171 rfl (lv_at hl 3 rfl) ?_
              refine lv_bipush (v := 6) hx hb d_M_count_172 (by decide) ?_
              refine lv_icmp_ne hx hb d_M_count_174 (tgt := 184) rfl (fun _ => ?_) (fun h9 => absurd h9 (by decide))
              refine lv_iload_n hx hb d_M_count_184 rfl (lv_at hl 3 rfl) ?_
              refine lv_bipush (v := 7) hx hb d_M_count_185 (by decide) ?_
              refine lv_icmp_ne hx hb d_M_count_187 (tgt := 197) rfl (fun h9 => absurd (by decide) h9) (fun _ => ?_)
              refine lv_aload_n hx hb d_M_count_190 rfl (lv_at hl 4 rfl) ?_
              refine gF (v := .int (nI x.kept)) hx hb hown hE hK hP 0 rfl rfl layM 38 (by decide) w339 rfl d_M_count_191 ?_
              refine lv_goto hx hb d_M_count_194 (tgt := 198) rfl ?_
              exact rfI hx hb hr hlk hS () (by first | rfl | rw [i2, show k = x.records by omega] | rw [j2, show q = x.points by omega]) hP hD (Nat.le_of_ble_eq_true rfl) (Nat.le_of_ble_eq_true rfl) d_M_count_198
            · have g2 := mt (nI_leI (a := x.points) (b := q) (by omega) (by omega)).mpr g2
              refine lv_iload_n hx hb d_M_count_80 rfl (lv_at hl 1 rfl) ?_
              refine lv_aload_n hx hb d_M_count_81 rfl (lv_at hl 4 rfl) ?_
              refine lv_iload hx hb d_M_count_82 (lv_at hl 0 rfl) ?_
              refine jfI (rnV (As := [.int (nI q)]) (rest := [.int (nI j)]) hx hb hml hown hE hK (hN _ _ hS) hP hD (k_isSeen l D dA H.size h ad (MS.s_cod x 0) q (show q < 12000 from by omega)) (q0 := 0) rfl rfl w861 w860 w862 w863 w328 rfl rfl ⟨⟨by decide, by decide⟩, rfl⟩ ⟨(Nat.le_of_ble_eq_true rfl), (Nat.le_of_ble_eq_true rfl)⟩ rfl hl.1 rfl (Nat.le_of_ble_eq_true rfl) d_M_count_84 ⟨(Nat.le_of_ble_eq_true rfl), (Nat.le_of_ble_eq_true rfl)⟩) hP hD hS hA (fun r3 u4 H locs hp9 hP hD hS => ?_)
              have hP : va_P D vwCl (MW dA h ad (MS.s_cod x 0)) H := hP
              have hD : va_D A (MW dA h ad (MS.s_cod x 0)) := hD
              replace hp9 : bI (x.seen q) = r3 := Eq.symm hp9
              subst hp9
              refine lv_if_eq hx hb d_M_count_87 (tgt := 94) rfl (fun g5 => ?_) (fun g5 => ?_)
              · have g5 := bI_0 g5
                refine lv_iconst (v := 0) hx hb d_M_count_94 (by decide) ?_
                refine lv_iadd hx hb d_M_count_95 (tpi (y := nI (j)) (nI_add (j) (0)) ?_)
                refine lv_istore_n hx hb d_M_count_96 rfl hl (by decide) rfl (fun ls hl => ?_)
                have hl : lv_has ls 5 [(3, .int (nI (j))), (4, .int (nI q)), (2, .int (nI n)), (1, .int 7), (0, .ref h)] := hl
                refine lv_iinc (k := 1) (v := nI (q + 1)) hx hb d_M_count_97 hl rfl (iincN (q) 1 1 (by decide)) (by decide) rfl (fun ls hl => ?_)
                have hl : lv_has ls 5 [(4, .int (nI (q + 1))), (3, .int (nI (j))), (2, .int (nI n)), (1, .int 7), (0, .ref h)] := hl
                refine lv_goto hx hb d_M_count_100 (tgt := 71) rfl ?_
                exact ih71 _ (by omega) (q + 1) j (by omega) (by simp [cnt, *]) rfl H _ ls hP hD hS (lv_sub hl [0, 1, 2, 3, 4] rfl)
              · have g5 := bI_n0 g5
                refine lv_iconst (v := 1) hx hb d_M_count_90 (by decide) ?_
                refine lv_goto hx hb d_M_count_91 (tgt := 95) rfl ?_
                refine lv_iadd hx hb d_M_count_95 (tpi (y := nI (j + 1)) (nI_add (j) (1)) ?_)
                refine lv_istore_n hx hb d_M_count_96 rfl hl (by decide) rfl (fun ls hl => ?_)
                have hl : lv_has ls 5 [(3, .int (nI (j + 1))), (4, .int (nI q)), (2, .int (nI n)), (1, .int 7), (0, .ref h)] := hl
                refine lv_iinc (k := 1) (v := nI (q + 1)) hx hb d_M_count_97 hl rfl (iincN (q) 1 1 (by decide)) (by decide) rfl (fun ls hl => ?_)
                have hl : lv_has ls 5 [(4, .int (nI (q + 1))), (3, .int (nI (j + 1))), (2, .int (nI n)), (1, .int 7), (0, .ref h)] := hl
                refine lv_goto hx hb d_M_count_100 (tgt := 71) rfl ?_
                exact ih71 _ (by omega) (q + 1) (j + 1) (by omega) (by simp [cnt, *]) rfl H _ ls hP hD hS (lv_sub hl [0, 1, 2, 3, 4] rfl)
        exact L71 _ 0 0 (by omega) rfl rfl H _ ls hP hD hS (lv_sub hl [0, 1, 2, 3, 4] rfl)
      · have g1 := mt (nI_leI (a := x.records) (b := k) (by omega) (by omega)).mpr g1
        refine lv_iload_n hx hb d_M_count_51 rfl (lv_at hl 1 rfl) ?_
        refine lv_aload_n hx hb d_M_count_52 rfl (lv_at hl 3 rfl) ?_
        refine gF (v := .ref (ad 35)) hx hb hown hE hK hP 0 rfl rfl layM 35 (by decide) w515 rfl d_M_count_53 ?_
        refine lv_iload_n hx hb d_M_count_56 rfl (lv_at hl 0 rfl) ?_
        refine nild (f := (fun z9 => nI (x.units z9))) hx hb hK hP 18 1 rfl rfl (k) (by omega) (by decide) d_M_count_57 ?_
        refine lv_iadd hx hb d_M_count_58 (tpi (y := nI (n + (x.units k))) (nI_add (n) (x.units k)) ?_)
        refine lv_istore_n hx hb d_M_count_59 rfl hl (by decide) rfl (fun ls hl => ?_)
        have hl : lv_has ls 5 [(2, .int (nI (n + (x.units k)))), (3, .int (nI k)), (1, .int 7), (0, .ref h)] := hl
        refine lv_iinc (k := 1) (v := nI (k + 1)) hx hb d_M_count_60 hl rfl (iincN (k) 1 1 (by decide)) (by decide) rfl (fun ls hl => ?_)
        have hl : lv_has ls 5 [(3, .int (nI (k + 1))), (2, .int (nI (n + (x.units k)))), (1, .int 7), (0, .ref h)] := hl
        refine lv_goto hx hb d_M_count_63 (tgt := 43) rfl ?_
        exact ih43 _ (by omega) (k + 1) (n + (x.units k)) (by omega) (by rw [i2]; rfl) rfl H _ ls hP hD hS (lv_sub hl [0, 1, 2, 3] rfl)
  exact L43 _ 0 0 (by omega) rfl rfl H _ ls hP hD hS (lv_sub hl [0, 1, 3, 2] rfl)
set_option maxHeartbeats 4000000 in
set_option maxRecDepth 100000 in
theorem k_count0_8 (l : Launch) (D : va_G) (dA : Nat → ClassId) (sz : Nat) (h : Nat) (ad : Nat → Nat) (x : MS) (ho : x.on = true) (r1 : x.records ≤ 32000) (hp1 : x.points ≤ 12000) : Met l ⟨"SeriesVaultModel", "count", "(I)I"⟩ [Cond.code ⟨"SeriesVaultModel", "count", "(I)I"⟩ prog_14_method_48_code 5 (some FieldType.int)] { frames := 2, cells := 0, slots := 0, locals := 21 } (pC D dA [.ref h, .int 8] (MW dA h ad x) sz) (va_Qi (fun (r9 : Int32) (u9 : Unit) => r9 = nI (cnt x.points x.seen)) (fun (u9 : Unit) t9 => bW D (va_A (MW dA h ad x) sz) (MW dA h ad (MS.s_cod x 0)) t9) (va_A (MW dA h ad x) sz)) 0 0 (va_A (MW dA h ad x) sz) := by
  refine mkC (y := ⟨"SeriesVaultModel", "count", "(I)I"⟩) (cc := prog_14_method_48_code) (maxL := 5) (av := [.ref h, .int 8]) (ws := MW dA h ad x) (sz := sz) (Qc := fun A => va_Qi (fun (r9 : Int32) (u9 : Unit) => r9 = nI (cnt x.points x.seen)) (fun (u9 : Unit) t9 => bW D A (MW dA h ad (MS.s_cod x 0)) t9) A) (by decide) (Nat.le_of_ble_eq_true rfl) ?_
  intro A p e s m below meth c ls hsz hB
  obtain ⟨hx, hb, hr, hml, hown, hin, hlk, hE, hK, hP, hD, hS, hA, hN, hl⟩ := hB
  have hown : s.vm.findClass "SeriesVaultModel" = some m.cls := hown
  have hl : lv_has ls 5 [(0, .ref h), (1, .int 8)] := hl
  obtain ⟨H, hH⟩ : ∃ z, z = s.heap := ⟨_, rfl⟩
  have hP : va_P D vwCl (MW dA h ad x) H := by rw [hH]; exact hP
  have hS : va_S A s.heap H [] := by rw [hH]; exact hS
  rw [← hH]
  refine lv_aload_n hx hb d_M_count_0 rfl (lv_at hl 0 rfl) ?_
  refine lv_aload_n hx hb d_M_count_1 rfl (lv_at hl 0 rfl) ?_
  refine gF (v := .int (bI x.on)) hx hb hown hE hK hP 0 rfl rfl layM 7 (by decide) w324 rfl d_M_count_2 ?_
  refine lv_if_ne hx hb d_M_count_5 (tgt := 12) rfl (fun _ => ?_) (fun h9 => absurd h9 (by rw [ho]; decide))
  refine lv_iload_n hx hb d_M_count_12 rfl (lv_at hl 1 rfl) ?_
  refine lv_if_lt hx hb d_M_count_13 (tgt := 22) rfl (fun h9 => absurd h9 (by decide)) (fun _ => ?_)
  refine lv_iload_n hx hb d_M_count_16 rfl (lv_at hl 1 rfl) ?_
  refine lv_bipush (v := 8) hx hb d_M_count_17 (by decide) ?_
  refine lv_icmp_le hx hb d_M_count_19 (tgt := 26) rfl (fun _ => ?_) (fun h9 => absurd (by decide) h9)
  refine lv_iconst (v := 0) hx hb d_M_count_26 (by decide) ?_
  refine pF (v := .int 0) hx hb hown hE hK hP hD hS 0 rfl rfl layM tyM tokM nmM 0 (by decide) w319 rfl rfl rfl (Nat.le_of_ble_eq_true rfl) d_M_count_27 (fun H locs hP hD hS => ?_)
  have hP : va_P D vwCl (MW dA h ad (MS.s_cod x 0)) H := hP
  have hD : va_D A (MW dA h ad (MS.s_cod x 0)) := hD
  refine lv_aload_n hx hb d_M_count_30 rfl (lv_at hl 0 rfl) ?_
  refine gF (v := .int 0) hx hb hown hE hK hP 0 rfl rfl layM 0 (by decide) w319 rfl d_M_count_31 ?_
  refine lv_if_le hx hb d_M_count_34 (tgt := 39) rfl (fun _ => ?_) (fun h9 => absurd (by decide) h9)
  refine lv_iconst (v := 0) hx hb d_M_count_39 (by decide) ?_
  refine lv_istore_n hx hb d_M_count_40 rfl hl (by decide) rfl (fun ls hl => ?_)
  have hl : lv_has ls 5 [(2, .int 0), (0, .ref h), (1, .int 8)] := hl
  refine lv_iconst (v := 0) hx hb d_M_count_41 (by decide) ?_
  refine lv_istore_n hx hb d_M_count_42 rfl hl (by decide) rfl (fun ls hl => ?_)
  have hl : lv_has ls 5 [(3, .int 0), (2, .int 0), (0, .ref h), (1, .int 8)] := hl
  have L43 : ∀ (k9 : Nat) (k : Nat) (n : Nat) (i1 : k ≤ x.records) (i2 : n = sumN k x.units) (hk9 : x.records - k = k9), ∀ (H : Heap) (locs : List Loc) (ls : Array Slot) (hP : va_P D vwCl (MW dA h ad (MS.s_cod x 0)) H) (hD : va_D A (MW dA h ad (MS.s_cod x 0))) (hS : va_S A s.heap H locs) (hl : lv_has ls 5 [(3, .int (nI k)), (2, .int (nI n)), (1, .int 8), (0, .ref h)]), W p l e ({ frames := 2, cells := 0, slots := 0, locals := 21 } : Room) s m ([.ref h, .int 8] : List Value).toArray below meth c H locs 0 0 (MQ below (va_Qi (fun (r9 : Int32) (u9 : Unit) => r9 = nI (cnt x.points x.seen)) (fun (u9 : Unit) t9 => bW D A (MW dA h ad (MS.s_cod x 0)) t9) A) ([.ref h, .int 8] : List Value).toArray s 0 0 A) (F0 m 43 ls []) := by
    intro k9
    induction k9 using Nat.strongRecOn with
    | ind k9 ih43 =>
      intro k n i1 i2 hk9 H locs ls hP hD hS hl
      refine lv_iload_n hx hb d_M_count_43 rfl (lv_at hl 0 rfl) ?_
      refine lv_aload_n hx hb d_M_count_44 rfl (lv_at hl 3 rfl) ?_
      refine gF (v := .int (nI x.records)) hx hb hown hE hK hP 0 rfl rfl layM 37 (by decide) w338 rfl d_M_count_45 ?_
      refine lv_icmp_ge hx hb d_M_count_48 (tgt := 66) rfl (fun g1 => ?_) (fun g1 => ?_)
      · have g1 := (nI_leI (a := x.records) (b := k) (by omega) (by omega)).mp g1
        refine lv_iconst (v := 0) hx hb d_M_count_66 (by decide) ?_
        refine lv_istore_n hx hb d_M_count_67 rfl hl (by decide) rfl (fun ls hl => ?_)
        have hl : lv_has ls 5 [(3, .int 0), (2, .int (nI n)), (1, .int 8), (0, .ref h)] := hl
        refine lv_iconst (v := 0) hx hb d_M_count_68 (by decide) ?_
        refine lv_istore hx hb d_M_count_69 hl (by decide) rfl (fun ls hl => ?_)
        have hl : lv_has ls 5 [(4, .int 0), (3, .int 0), (2, .int (nI n)), (1, .int 8), (0, .ref h)] := hl
        have L71 : ∀ (k9 : Nat) (q : Nat) (j : Nat) (j1 : q ≤ x.points) (j2 : j = cnt q x.seen) (hk9 : x.points - q = k9), ∀ (H : Heap) (locs : List Loc) (ls : Array Slot) (hP : va_P D vwCl (MW dA h ad (MS.s_cod x 0)) H) (hD : va_D A (MW dA h ad (MS.s_cod x 0))) (hS : va_S A s.heap H locs) (hl : lv_has ls 5 [(4, .int (nI q)), (3, .int (nI j)), (2, .int (nI n)), (1, .int 8), (0, .ref h)]), W p l e ({ frames := 2, cells := 0, slots := 0, locals := 21 } : Room) s m ([.ref h, .int 8] : List Value).toArray below meth c H locs 0 0 (MQ below (va_Qi (fun (r9 : Int32) (u9 : Unit) => r9 = nI (cnt x.points x.seen)) (fun (u9 : Unit) t9 => bW D A (MW dA h ad (MS.s_cod x 0)) t9) A) ([.ref h, .int 8] : List Value).toArray s 0 0 A) (F0 m 71 ls []) := by
          intro k9
          induction k9 using Nat.strongRecOn with
          | ind k9 ih71 =>
            intro q j j1 j2 hk9 H locs ls hP hD hS hl
            refine lv_iload hx hb d_M_count_71 (lv_at hl 0 rfl) ?_
            refine lv_aload_n hx hb d_M_count_73 rfl (lv_at hl 4 rfl) ?_
            refine gF (v := .int (nI x.points)) hx hb hown hE hK hP 0 rfl rfl layM 23 (by decide) w420 rfl d_M_count_74 ?_
            refine lv_icmp_ge hx hb d_M_count_77 (tgt := 103) rfl (fun g2 => ?_) (fun g2 => ?_)
            · have g2 := (nI_leI (a := x.points) (b := q) (by omega) (by omega)).mp g2
              refine lv_iload_n hx hb d_M_count_103 rfl (lv_at hl 3 rfl) ?_
              refine lv_if_ne hx hb d_M_count_104 (tgt := 114) rfl (fun _ => ?_) (fun h9 => absurd h9 (by decide))
              refine lv_iload_n hx hb d_M_count_114 rfl (lv_at hl 3 rfl) ?_
              refine lv_iconst (v := 1) hx hb d_M_count_115 (by decide) ?_
              refine lv_icmp_ne hx hb d_M_count_116 (tgt := 126) rfl (fun _ => ?_) (fun h9 => absurd h9 (by decide))
              refine lv_iload_n hx hb d_M_count_126 rfl (lv_at hl 3 rfl) ?_
              refine lv_iconst (v := 2) hx hb d_M_count_127 (by decide) ?_
              refine lv_icmp_ne hx hb d_M_count_128 (tgt := 138) rfl (fun _ => ?_) (fun h9 => absurd h9 (by decide))
              refine lv_iload_n hx hb d_M_count_138 rfl (lv_at hl 3 rfl) ?_
              refine lv_iconst (v := 3) hx hb d_M_count_139 (by decide) ?_
              refine lv_icmp_ne hx hb d_M_count_140 (tgt := 150) rfl (fun _ => ?_) (fun h9 => absurd h9 (by decide))
              refine lv_iload_n hx hb d_M_count_150 rfl (lv_at hl 3 rfl) ?_
              refine lv_iconst (v := 4) hx hb d_M_count_151 (by decide) ?_
              refine lv_icmp_ne hx hb d_M_count_152 (tgt := 162) rfl (fun _ => ?_) (fun h9 => absurd h9 (by decide))
              refine lv_iload_n hx hb d_M_count_162 rfl (lv_at hl 3 rfl) ?_
              refine lv_iconst (v := 5) hx hb d_M_count_163 (by decide) ?_
              refine lv_icmp_ne hx hb d_M_count_164 (tgt := 171) rfl (fun _ => ?_) (fun h9 => absurd h9 (by decide))
              refine lv_iload_n hx hb d_M_count_171 rfl (lv_at hl 3 rfl) ?_
              refine lv_bipush (v := 6) hx hb d_M_count_172 (by decide) ?_
              refine lv_icmp_ne hx hb d_M_count_174 (tgt := 184) rfl (fun _ => ?_) (fun h9 => absurd h9 (by decide))
              refine lv_iload_n hx hb d_M_count_184 rfl (lv_at hl 3 rfl) ?_
              refine lv_bipush (v := 7) hx hb d_M_count_185 (by decide) ?_
              refine lv_icmp_ne hx hb d_M_count_187 (tgt := 197) rfl (fun _ => ?_) (fun h9 => absurd h9 (by decide))
              refine lv_iload_n hx hb d_M_count_197 rfl (lv_at hl 1 rfl) ?_
              exact rfI hx hb hr hlk hS () (by first | rfl | rw [i2, show k = x.records by omega] | rw [j2, show q = x.points by omega]) hP hD (Nat.le_of_ble_eq_true rfl) (Nat.le_of_ble_eq_true rfl) d_M_count_198
            · have g2 := mt (nI_leI (a := x.points) (b := q) (by omega) (by omega)).mpr g2
              refine lv_iload_n hx hb d_M_count_80 rfl (lv_at hl 1 rfl) ?_
              refine lv_aload_n hx hb d_M_count_81 rfl (lv_at hl 4 rfl) ?_
              refine lv_iload hx hb d_M_count_82 (lv_at hl 0 rfl) ?_
              refine jfI (rnV (As := [.int (nI q)]) (rest := [.int (nI j)]) hx hb hml hown hE hK (hN _ _ hS) hP hD (k_isSeen l D dA H.size h ad (MS.s_cod x 0) q (show q < 12000 from by omega)) (q0 := 0) rfl rfl w861 w860 w862 w863 w328 rfl rfl ⟨⟨by decide, by decide⟩, rfl⟩ ⟨(Nat.le_of_ble_eq_true rfl), (Nat.le_of_ble_eq_true rfl)⟩ rfl hl.1 rfl (Nat.le_of_ble_eq_true rfl) d_M_count_84 ⟨(Nat.le_of_ble_eq_true rfl), (Nat.le_of_ble_eq_true rfl)⟩) hP hD hS hA (fun r3 u4 H locs hp9 hP hD hS => ?_)
              have hP : va_P D vwCl (MW dA h ad (MS.s_cod x 0)) H := hP
              have hD : va_D A (MW dA h ad (MS.s_cod x 0)) := hD
              replace hp9 : bI (x.seen q) = r3 := Eq.symm hp9
              subst hp9
              refine lv_if_eq hx hb d_M_count_87 (tgt := 94) rfl (fun g5 => ?_) (fun g5 => ?_)
              · have g5 := bI_0 g5
                refine lv_iconst (v := 0) hx hb d_M_count_94 (by decide) ?_
                refine lv_iadd hx hb d_M_count_95 (tpi (y := nI (j)) (nI_add (j) (0)) ?_)
                refine lv_istore_n hx hb d_M_count_96 rfl hl (by decide) rfl (fun ls hl => ?_)
                have hl : lv_has ls 5 [(3, .int (nI (j))), (4, .int (nI q)), (2, .int (nI n)), (1, .int 8), (0, .ref h)] := hl
                refine lv_iinc (k := 1) (v := nI (q + 1)) hx hb d_M_count_97 hl rfl (iincN (q) 1 1 (by decide)) (by decide) rfl (fun ls hl => ?_)
                have hl : lv_has ls 5 [(4, .int (nI (q + 1))), (3, .int (nI (j))), (2, .int (nI n)), (1, .int 8), (0, .ref h)] := hl
                refine lv_goto hx hb d_M_count_100 (tgt := 71) rfl ?_
                exact ih71 _ (by omega) (q + 1) j (by omega) (by simp [cnt, *]) rfl H _ ls hP hD hS (lv_sub hl [0, 1, 2, 3, 4] rfl)
              · have g5 := bI_n0 g5
                refine lv_iconst (v := 1) hx hb d_M_count_90 (by decide) ?_
                refine lv_goto hx hb d_M_count_91 (tgt := 95) rfl ?_
                refine lv_iadd hx hb d_M_count_95 (tpi (y := nI (j + 1)) (nI_add (j) (1)) ?_)
                refine lv_istore_n hx hb d_M_count_96 rfl hl (by decide) rfl (fun ls hl => ?_)
                have hl : lv_has ls 5 [(3, .int (nI (j + 1))), (4, .int (nI q)), (2, .int (nI n)), (1, .int 8), (0, .ref h)] := hl
                refine lv_iinc (k := 1) (v := nI (q + 1)) hx hb d_M_count_97 hl rfl (iincN (q) 1 1 (by decide)) (by decide) rfl (fun ls hl => ?_)
                have hl : lv_has ls 5 [(4, .int (nI (q + 1))), (3, .int (nI (j + 1))), (2, .int (nI n)), (1, .int 8), (0, .ref h)] := hl
                refine lv_goto hx hb d_M_count_100 (tgt := 71) rfl ?_
                exact ih71 _ (by omega) (q + 1) (j + 1) (by omega) (by simp [cnt, *]) rfl H _ ls hP hD hS (lv_sub hl [0, 1, 2, 3, 4] rfl)
        exact L71 _ 0 0 (by omega) rfl rfl H _ ls hP hD hS (lv_sub hl [0, 1, 2, 3, 4] rfl)
      · have g1 := mt (nI_leI (a := x.records) (b := k) (by omega) (by omega)).mpr g1
        refine lv_iload_n hx hb d_M_count_51 rfl (lv_at hl 1 rfl) ?_
        refine lv_aload_n hx hb d_M_count_52 rfl (lv_at hl 3 rfl) ?_
        refine gF (v := .ref (ad 35)) hx hb hown hE hK hP 0 rfl rfl layM 35 (by decide) w515 rfl d_M_count_53 ?_
        refine lv_iload_n hx hb d_M_count_56 rfl (lv_at hl 0 rfl) ?_
        refine nild (f := (fun z9 => nI (x.units z9))) hx hb hK hP 18 1 rfl rfl (k) (by omega) (by decide) d_M_count_57 ?_
        refine lv_iadd hx hb d_M_count_58 (tpi (y := nI (n + (x.units k))) (nI_add (n) (x.units k)) ?_)
        refine lv_istore_n hx hb d_M_count_59 rfl hl (by decide) rfl (fun ls hl => ?_)
        have hl : lv_has ls 5 [(2, .int (nI (n + (x.units k)))), (3, .int (nI k)), (1, .int 8), (0, .ref h)] := hl
        refine lv_iinc (k := 1) (v := nI (k + 1)) hx hb d_M_count_60 hl rfl (iincN (k) 1 1 (by decide)) (by decide) rfl (fun ls hl => ?_)
        have hl : lv_has ls 5 [(3, .int (nI (k + 1))), (2, .int (nI (n + (x.units k)))), (1, .int 8), (0, .ref h)] := hl
        refine lv_goto hx hb d_M_count_63 (tgt := 43) rfl ?_
        exact ih43 _ (by omega) (k + 1) (n + (x.units k)) (by omega) (by rw [i2]; rfl) rfl H _ ls hP hD hS (lv_sub hl [0, 1, 2, 3] rfl)
  exact L43 _ 0 0 (by omega) rfl rfl H _ ls hP hD hS (lv_sub hl [0, 1, 3, 2] rfl)
end
