/-! Tables without names joined. -/
theorem rs2C (f g : Nat → Option Nat) : (f 0 = none ∧ g 0 = none) ∨ (∃ a, f 0 = some a ∧ g 0 = none) ∨ (∃ b, f 0 = none ∧ g 0 = some b) ∨ ∃ a b, f 0 = some a ∧ g 0 = some b := by
  cases h1 : f 0 with
  | none =>
    cases h2 : g 0 with
    | none => exact Or.inl ⟨rfl, rfl⟩
    | some b => exact Or.inr (Or.inr (Or.inl ⟨b, rfl, rfl⟩))
  | some a =>
    cases h2 : g 0 with
    | none => exact Or.inr (Or.inl ⟨a, rfl, rfl⟩)
    | some b => exact Or.inr (Or.inr (Or.inr ⟨a, b, rfl, rfl⟩))
/-- both have no names: a row each at most -/
def TB.j0 (sg : Int32) (t u : TB) : TB := if t.rc = 1 ∧ u.rc = 1 then TB.de (TB.s_rc (TB.jrl sg (t.mv 0 0) u 0 0 0) 1) else TB.de (TB.s_rc t 0)
theorem j0_1 {sg : Int32} {t u : TB} (h1 : t.rc = 1) (h2 : u.rc = 1) : TB.j0 sg t u = TB.de (TB.s_rc (TB.jrl sg (t.mv 0 0) u 0 0 0) 1) := if_pos ⟨h1, h2⟩
theorem j0_0 {sg : Int32} {t u : TB} (h : ¬ (t.rc = 1 ∧ u.rc = 1)) : TB.j0 sg t u = TB.de (TB.s_rc t 0) := if_neg h
set_option maxHeartbeats 4000000 in
set_option maxRecDepth 100000 in
theorem v_TcompareTexts_zz (l : Launch) (D : va_G) (dA : Nat → ClassId) (sz : Nat) (ws : va_W) (ta : Nat → Nat) (t : TB) (h0 : t.nc = 0) : Met l ⟨"SeriesVault$Table", "compareTexts", "(LSeriesVault$Series;LSeriesVault$Series;)I"⟩ [Cond.code ⟨"SeriesVault$Table", "compareTexts", "(LSeriesVault$Series;LSeriesVault$Series;)I"⟩ prog_11_method_7_code 5 (some FieldType.int)] { frames := 1, cells := 0, slots := 0, locals := 0 } (pC D dA [.ref (ta 0), .null, .null] (TbW dA ta t ++ (ws)) sz) (va_Qi (fun (r9 : Int32) (u9 : Unit) => r9 = 0) (fun (u9 : Unit) t9 => bW D (va_A (TbW dA ta t ++ (ws)) sz) (TbW dA ta t ++ (ws)) t9) (va_A (TbW dA ta t ++ (ws)) sz)) 0 0 (va_A (TbW dA ta t ++ (ws)) sz) := by
  refine mkC (y := ⟨"SeriesVault$Table", "compareTexts", "(LSeriesVault$Series;LSeriesVault$Series;)I"⟩) (cc := prog_11_method_7_code) (maxL := 5) (av := [.ref (ta 0), .null, .null]) (ws := TbW dA ta t ++ (ws)) (sz := sz) (Qc := fun A => va_Qi (fun (r9 : Int32) (u9 : Unit) => r9 = 0) (fun (u9 : Unit) t9 => bW D A (TbW dA ta t ++ (ws)) t9) A) (by decide) (Nat.le_of_ble_eq_true rfl) ?_
  intro A p e s m below meth c ls hsz hB
  obtain ⟨hx, hb, hr, hml, hown, hin, hlk, hE, hK, hP, hD, hS, hA, hN, hl⟩ := hB
  have hown : s.vm.findClass "SeriesVault$Table" = some m.cls := hown
  have hl : lv_has ls 5 [(0, .ref (ta 0)), (1, .null), (2, .null)] := hl
  obtain ⟨H, hH⟩ : ∃ z, z = s.heap := ⟨_, rfl⟩
  have hP : va_P D vwCl (TbW dA ta t ++ (ws)) H := by rw [hH]; exact hP
  have hS : va_S A s.heap H [] := by rw [hH]; exact hS
  rw [← hH]
  refine lv_iconst (v := 0) hx hb d_T_compareTexts_0 (by decide) ?_
  refine lv_istore_n hx hb d_T_compareTexts_1 rfl hl (by decide) rfl (fun ls hl => ?_)
  have hl : lv_has ls 5 [(3, .int 0), (0, .ref (ta 0)), (1, .null), (2, .null)] := hl
  refine lv_iload_n hx hb d_T_compareTexts_2 rfl (lv_at hl 0 rfl) ?_
  refine lv_aload_n hx hb d_T_compareTexts_3 rfl (lv_at hl 1 rfl) ?_
  refine gF (v := .int (nI t.nc)) hx hb hown hE hK hP 0 rfl rfl layT 1 (by decide) w1376 rfl d_T_compareTexts_4 ?_
  refine lv_icmp_ge hx hb d_T_compareTexts_7 (tgt := 49) rfl (fun g1 => ?_) (fun g1 => ?_)
  rotate_left
  · have g1 := mt (nI_leI (a := t.nc) (b := 0) (by omega) (by omega)).mpr g1; exfalso; omega
  have g1 := (nI_leI (a := t.nc) (b := 0) (by omega) (by omega)).mp g1
  refine lv_iconst (v := 0) hx hb d_T_compareTexts_49 (by decide) ?_
  exact rfI hx hb hr hlk hS () rfl hP hD (Nat.le_of_ble_eq_true rfl) (Nat.le_of_ble_eq_true rfl) d_T_compareTexts_50
set_option maxHeartbeats 4000000 in
set_option maxRecDepth 100000 in
theorem v_TcompareTexts_zr (l : Launch) (D : va_G) (dA : Nat → ClassId) (sz : Nat) (ws : va_W) (ta : Nat → Nat) (t : TB) (b : Nat) (h0 : t.nc = 0) : Met l ⟨"SeriesVault$Table", "compareTexts", "(LSeriesVault$Series;LSeriesVault$Series;)I"⟩ [Cond.code ⟨"SeriesVault$Table", "compareTexts", "(LSeriesVault$Series;LSeriesVault$Series;)I"⟩ prog_11_method_7_code 5 (some FieldType.int)] { frames := 1, cells := 0, slots := 0, locals := 0 } (pC D dA [.ref (ta 0), .null, .ref b] (TbW dA ta t ++ (ws)) sz) (va_Qi (fun (r9 : Int32) (u9 : Unit) => r9 = 0) (fun (u9 : Unit) t9 => bW D (va_A (TbW dA ta t ++ (ws)) sz) (TbW dA ta t ++ (ws)) t9) (va_A (TbW dA ta t ++ (ws)) sz)) 0 0 (va_A (TbW dA ta t ++ (ws)) sz) := by
  refine mkC (y := ⟨"SeriesVault$Table", "compareTexts", "(LSeriesVault$Series;LSeriesVault$Series;)I"⟩) (cc := prog_11_method_7_code) (maxL := 5) (av := [.ref (ta 0), .null, .ref b]) (ws := TbW dA ta t ++ (ws)) (sz := sz) (Qc := fun A => va_Qi (fun (r9 : Int32) (u9 : Unit) => r9 = 0) (fun (u9 : Unit) t9 => bW D A (TbW dA ta t ++ (ws)) t9) A) (by decide) (Nat.le_of_ble_eq_true rfl) ?_
  intro A p e s m below meth c ls hsz hB
  obtain ⟨hx, hb, hr, hml, hown, hin, hlk, hE, hK, hP, hD, hS, hA, hN, hl⟩ := hB
  have hown : s.vm.findClass "SeriesVault$Table" = some m.cls := hown
  have hl : lv_has ls 5 [(0, .ref (ta 0)), (1, .null), (2, .ref b)] := hl
  obtain ⟨H, hH⟩ : ∃ z, z = s.heap := ⟨_, rfl⟩
  have hP : va_P D vwCl (TbW dA ta t ++ (ws)) H := by rw [hH]; exact hP
  have hS : va_S A s.heap H [] := by rw [hH]; exact hS
  rw [← hH]
  refine lv_iconst (v := 0) hx hb d_T_compareTexts_0 (by decide) ?_
  refine lv_istore_n hx hb d_T_compareTexts_1 rfl hl (by decide) rfl (fun ls hl => ?_)
  have hl : lv_has ls 5 [(3, .int 0), (0, .ref (ta 0)), (1, .null), (2, .ref b)] := hl
  refine lv_iload_n hx hb d_T_compareTexts_2 rfl (lv_at hl 0 rfl) ?_
  refine lv_aload_n hx hb d_T_compareTexts_3 rfl (lv_at hl 1 rfl) ?_
  refine gF (v := .int (nI t.nc)) hx hb hown hE hK hP 0 rfl rfl layT 1 (by decide) w1376 rfl d_T_compareTexts_4 ?_
  refine lv_icmp_ge hx hb d_T_compareTexts_7 (tgt := 49) rfl (fun g1 => ?_) (fun g1 => ?_)
  rotate_left
  · have g1 := mt (nI_leI (a := t.nc) (b := 0) (by omega) (by omega)).mpr g1; exfalso; omega
  have g1 := (nI_leI (a := t.nc) (b := 0) (by omega) (by omega)).mp g1
  refine lv_iconst (v := 0) hx hb d_T_compareTexts_49 (by decide) ?_
  exact rfI hx hb hr hlk hS () rfl hP hD (Nat.le_of_ble_eq_true rfl) (Nat.le_of_ble_eq_true rfl) d_T_compareTexts_50
set_option maxHeartbeats 4000000 in
set_option maxRecDepth 100000 in
theorem v_TcompareTexts_rz (l : Launch) (D : va_G) (dA : Nat → ClassId) (sz : Nat) (ws : va_W) (ta : Nat → Nat) (t : TB) (a : Nat) (h0 : t.nc = 0) : Met l ⟨"SeriesVault$Table", "compareTexts", "(LSeriesVault$Series;LSeriesVault$Series;)I"⟩ [Cond.code ⟨"SeriesVault$Table", "compareTexts", "(LSeriesVault$Series;LSeriesVault$Series;)I"⟩ prog_11_method_7_code 5 (some FieldType.int)] { frames := 1, cells := 0, slots := 0, locals := 0 } (pC D dA [.ref (ta 0), .ref a, .null] (TbW dA ta t ++ (ws)) sz) (va_Qi (fun (r9 : Int32) (u9 : Unit) => r9 = 0) (fun (u9 : Unit) t9 => bW D (va_A (TbW dA ta t ++ (ws)) sz) (TbW dA ta t ++ (ws)) t9) (va_A (TbW dA ta t ++ (ws)) sz)) 0 0 (va_A (TbW dA ta t ++ (ws)) sz) := by
  refine mkC (y := ⟨"SeriesVault$Table", "compareTexts", "(LSeriesVault$Series;LSeriesVault$Series;)I"⟩) (cc := prog_11_method_7_code) (maxL := 5) (av := [.ref (ta 0), .ref a, .null]) (ws := TbW dA ta t ++ (ws)) (sz := sz) (Qc := fun A => va_Qi (fun (r9 : Int32) (u9 : Unit) => r9 = 0) (fun (u9 : Unit) t9 => bW D A (TbW dA ta t ++ (ws)) t9) A) (by decide) (Nat.le_of_ble_eq_true rfl) ?_
  intro A p e s m below meth c ls hsz hB
  obtain ⟨hx, hb, hr, hml, hown, hin, hlk, hE, hK, hP, hD, hS, hA, hN, hl⟩ := hB
  have hown : s.vm.findClass "SeriesVault$Table" = some m.cls := hown
  have hl : lv_has ls 5 [(0, .ref (ta 0)), (1, .ref a), (2, .null)] := hl
  obtain ⟨H, hH⟩ : ∃ z, z = s.heap := ⟨_, rfl⟩
  have hP : va_P D vwCl (TbW dA ta t ++ (ws)) H := by rw [hH]; exact hP
  have hS : va_S A s.heap H [] := by rw [hH]; exact hS
  rw [← hH]
  refine lv_iconst (v := 0) hx hb d_T_compareTexts_0 (by decide) ?_
  refine lv_istore_n hx hb d_T_compareTexts_1 rfl hl (by decide) rfl (fun ls hl => ?_)
  have hl : lv_has ls 5 [(3, .int 0), (0, .ref (ta 0)), (1, .ref a), (2, .null)] := hl
  refine lv_iload_n hx hb d_T_compareTexts_2 rfl (lv_at hl 0 rfl) ?_
  refine lv_aload_n hx hb d_T_compareTexts_3 rfl (lv_at hl 1 rfl) ?_
  refine gF (v := .int (nI t.nc)) hx hb hown hE hK hP 0 rfl rfl layT 1 (by decide) w1376 rfl d_T_compareTexts_4 ?_
  refine lv_icmp_ge hx hb d_T_compareTexts_7 (tgt := 49) rfl (fun g1 => ?_) (fun g1 => ?_)
  rotate_left
  · have g1 := mt (nI_leI (a := t.nc) (b := 0) (by omega) (by omega)).mpr g1; exfalso; omega
  have g1 := (nI_leI (a := t.nc) (b := 0) (by omega) (by omega)).mp g1
  refine lv_iconst (v := 0) hx hb d_T_compareTexts_49 (by decide) ?_
  exact rfI hx hb hr hlk hS () rfl hP hD (Nat.le_of_ble_eq_true rfl) (Nat.le_of_ble_eq_true rfl) d_T_compareTexts_50
set_option maxHeartbeats 4000000 in
set_option maxRecDepth 100000 in
theorem v_TcompareTexts_rr (l : Launch) (D : va_G) (dA : Nat → ClassId) (sz : Nat) (ws : va_W) (ta : Nat → Nat) (t : TB) (a : Nat) (b : Nat) (h0 : t.nc = 0) : Met l ⟨"SeriesVault$Table", "compareTexts", "(LSeriesVault$Series;LSeriesVault$Series;)I"⟩ [Cond.code ⟨"SeriesVault$Table", "compareTexts", "(LSeriesVault$Series;LSeriesVault$Series;)I"⟩ prog_11_method_7_code 5 (some FieldType.int)] { frames := 1, cells := 0, slots := 0, locals := 0 } (pC D dA [.ref (ta 0), .ref a, .ref b] (TbW dA ta t ++ (ws)) sz) (va_Qi (fun (r9 : Int32) (u9 : Unit) => r9 = 0) (fun (u9 : Unit) t9 => bW D (va_A (TbW dA ta t ++ (ws)) sz) (TbW dA ta t ++ (ws)) t9) (va_A (TbW dA ta t ++ (ws)) sz)) 0 0 (va_A (TbW dA ta t ++ (ws)) sz) := by
  refine mkC (y := ⟨"SeriesVault$Table", "compareTexts", "(LSeriesVault$Series;LSeriesVault$Series;)I"⟩) (cc := prog_11_method_7_code) (maxL := 5) (av := [.ref (ta 0), .ref a, .ref b]) (ws := TbW dA ta t ++ (ws)) (sz := sz) (Qc := fun A => va_Qi (fun (r9 : Int32) (u9 : Unit) => r9 = 0) (fun (u9 : Unit) t9 => bW D A (TbW dA ta t ++ (ws)) t9) A) (by decide) (Nat.le_of_ble_eq_true rfl) ?_
  intro A p e s m below meth c ls hsz hB
  obtain ⟨hx, hb, hr, hml, hown, hin, hlk, hE, hK, hP, hD, hS, hA, hN, hl⟩ := hB
  have hown : s.vm.findClass "SeriesVault$Table" = some m.cls := hown
  have hl : lv_has ls 5 [(0, .ref (ta 0)), (1, .ref a), (2, .ref b)] := hl
  obtain ⟨H, hH⟩ : ∃ z, z = s.heap := ⟨_, rfl⟩
  have hP : va_P D vwCl (TbW dA ta t ++ (ws)) H := by rw [hH]; exact hP
  have hS : va_S A s.heap H [] := by rw [hH]; exact hS
  rw [← hH]
  refine lv_iconst (v := 0) hx hb d_T_compareTexts_0 (by decide) ?_
  refine lv_istore_n hx hb d_T_compareTexts_1 rfl hl (by decide) rfl (fun ls hl => ?_)
  have hl : lv_has ls 5 [(3, .int 0), (0, .ref (ta 0)), (1, .ref a), (2, .ref b)] := hl
  refine lv_iload_n hx hb d_T_compareTexts_2 rfl (lv_at hl 0 rfl) ?_
  refine lv_aload_n hx hb d_T_compareTexts_3 rfl (lv_at hl 1 rfl) ?_
  refine gF (v := .int (nI t.nc)) hx hb hown hE hK hP 0 rfl rfl layT 1 (by decide) w1376 rfl d_T_compareTexts_4 ?_
  refine lv_icmp_ge hx hb d_T_compareTexts_7 (tgt := 49) rfl (fun g1 => ?_) (fun g1 => ?_)
  rotate_left
  · have g1 := mt (nI_leI (a := t.nc) (b := 0) (by omega) (by omega)).mpr g1; exfalso; omega
  have g1 := (nI_leI (a := t.nc) (b := 0) (by omega) (by omega)).mp g1
  refine lv_iconst (v := 0) hx hb d_T_compareTexts_49 (by decide) ?_
  exact rfI hx hb hr hlk hS () rfl hP hD (Nat.le_of_ble_eq_true rfl) (Nat.le_of_ble_eq_true rfl) d_T_compareTexts_50
set_option maxHeartbeats 4000000 in
set_option maxRecDepth 100000 in
theorem v_TjoinRows_a (l : Launch) (D : va_G) (dA : Nat → ClassId) (sz : Nat) (ws : va_W) (ta : Nat → Nat) (t : TB) (tb : Nat → Nat) (u : TB) (sg : Int32) (hcN : t.cN ≤ 65536) (hra : rsAll dA ws t.rs) (h0 : t.rc = 0) : Met l ⟨"SeriesVault$Table", "joinRows", "(ILSeriesVault$Table;)V"⟩ [Cond.code ⟨"SeriesVault$Table", "joinRows", "(ILSeriesVault$Table;)V"⟩ prog_11_method_17_code 6 none] { frames := 3, cells := 0, slots := 0, locals := 84 } (pC D dA [.ref (ta 0), .int sg, .ref (tb 0)] (TbW dA ta t ++ (TbW dA tb u ++ (ws))) sz) (va_Qv (fun (u9 : TB) => u9 = TB.j0 sg t u) (fun (u9 : TB) t9 => bW D (va_A (TbW dA ta t ++ (TbW dA tb u ++ (ws))) sz) (TbW dA ta u9 ++ (TbW dA tb u ++ (ws))) t9) (va_A (TbW dA ta t ++ (TbW dA tb u ++ (ws))) sz)) 0 0 (va_A (TbW dA ta t ++ (TbW dA tb u ++ (ws))) sz) := by
  refine mkC (y := ⟨"SeriesVault$Table", "joinRows", "(ILSeriesVault$Table;)V"⟩) (cc := prog_11_method_17_code) (maxL := 6) (av := [.ref (ta 0), .int sg, .ref (tb 0)]) (ws := TbW dA ta t ++ (TbW dA tb u ++ (ws))) (sz := sz) (Qc := fun A => va_Qv (fun (u9 : TB) => u9 = TB.j0 sg t u) (fun (u9 : TB) t9 => bW D A (TbW dA ta u9 ++ (TbW dA tb u ++ (ws))) t9) A) (by decide) (Nat.le_of_ble_eq_true rfl) ?_
  intro A p e s m below meth c ls hsz hB
  obtain ⟨hx, hb, hr, hml, hown, hin, hlk, hE, hK, hP, hD, hS, hA, hN, hl⟩ := hB
  have hown : s.vm.findClass "SeriesVault$Table" = some m.cls := hown
  have hl : lv_has ls 6 [(0, .ref (ta 0)), (1, .int sg), (2, .ref (tb 0))] := hl
  obtain ⟨H, hH⟩ : ∃ z, z = s.heap := ⟨_, rfl⟩
  have hP : va_P D vwCl (TbW dA ta t ++ (TbW dA tb u ++ (ws))) H := by rw [hH]; exact hP
  have hS : va_S A s.heap H [] := by rw [hH]; exact hS
  rw [← hH]
  refine lv_iconst (v := 0) hx hb d_T_joinRows_0 (by decide) ?_
  refine lv_istore_n hx hb d_T_joinRows_1 rfl hl (by decide) rfl (fun ls hl => ?_)
  have hl : lv_has ls 6 [(3, .int 0), (0, .ref (ta 0)), (1, .int sg), (2, .ref (tb 0))] := hl
  refine lv_iconst (v := 0) hx hb d_T_joinRows_2 (by decide) ?_
  refine lv_istore hx hb d_T_joinRows_3 hl (by decide) rfl (fun ls hl => ?_)
  have hl : lv_has ls 6 [(4, .int 0), (3, .int 0), (0, .ref (ta 0)), (1, .int sg), (2, .ref (tb 0))] := hl
  refine lv_iconst (v := 0) hx hb d_T_joinRows_5 (by decide) ?_
  refine lv_istore hx hb d_T_joinRows_6 hl (by decide) rfl (fun ls hl => ?_)
  have hl : lv_has ls 6 [(5, .int 0), (4, .int 0), (3, .int 0), (0, .ref (ta 0)), (1, .int sg), (2, .ref (tb 0))] := hl
  refine lv_iload hx hb d_T_joinRows_8 (lv_at hl 0 rfl) ?_
  refine lv_aload_n hx hb d_T_joinRows_10 rfl (lv_at hl 3 rfl) ?_
  refine gF (v := .int (nI t.rc)) hx hb hown hE hK hP 0 rfl rfl layT 3 (by decide) w1368 rfl d_T_joinRows_11 ?_
  refine lv_icmp_ge hx hb d_T_joinRows_14 (tgt := 110) rfl (fun g1 => ?_) (fun g1 => ?_)
  rotate_left
  · have g1 := mt (nI_leI (a := t.rc) (b := 0) (by omega) (by omega)).mpr g1; exfalso; omega
  have g1 := (nI_leI (a := t.rc) (b := 0) (by omega) (by omega)).mp g1
  refine lv_aload_n hx hb d_T_joinRows_110 rfl (lv_at hl 3 rfl) ?_
  refine lv_iload_n hx hb d_T_joinRows_111 rfl (lv_at hl 2 rfl) ?_
  refine pF (v := .int (nI 0)) hx hb hown hE hK hP hD hS 0 rfl rfl layT tyT tokT nmT 3 (by decide) w1368 rfl rfl rfl (Nat.le_of_ble_eq_true rfl) d_T_joinRows_112 (fun H locs hP hD hS => ?_)
  have hP : va_P D vwCl (TbW dA ta (TB.s_rc t 0) ++ (TbW dA tb u ++ (ws))) H := hP
  have hD : va_D A (TbW dA ta (TB.s_rc t 0) ++ (TbW dA tb u ++ (ws))) := hD
  refine lv_aload_n hx hb d_T_joinRows_115 rfl (lv_at hl 3 rfl) ?_
  refine jkV (wr := []) (rnV (As := []) (rest := []) hx hb hml hown hE hK (hN _ _ hS) hP hD (v_TdropEmptyRows l D dA H.size (TbW dA tb u ++ (ws)) ta (TB.s_rc t 0) hcN (rsAll_m (fun _ hm => (List.mem_append_right _ hm)) hra) (by show 0 * t.wi ≤ t.cN; rw [Nat.zero_mul]; exact Nat.zero_le _) (Nat.zero_le _)) (q0 := 0) rfl rfl w1437 w1436 w1438 w1439 w807 rfl rfl ⟨⟨by decide, by decide⟩, rfl⟩ ⟨(Nat.le_of_ble_eq_true rfl), (Nat.le_of_ble_eq_true rfl)⟩ rfl hl.1 rfl (Nat.le_of_ble_eq_true rfl) d_T_joinRows_116 ⟨(Nat.le_of_ble_eq_true rfl), (Nat.le_of_ble_eq_true rfl)⟩) hP hD hS hA (fun u3 H locs hp9 hP hD hS => ?_)
  obtain ⟨y4, h9u⟩ : ∃ z9, z9 = u3 := ⟨_, rfl⟩
  subst h9u
  have hP : va_P D vwCl (TbW dA ta y4 ++ (TbW dA tb u ++ (ws))) H := hP
  have hD : va_D A (TbW dA ta y4 ++ (TbW dA tb u ++ (ws))) := hD
  have f_e_5 := hp9
  exact rfV hx hb hr hlk hS y4 (by rw [f_e_5, j0_0 (by omega)]) hP hD (Nat.le_of_ble_eq_true rfl) (Nat.le_of_ble_eq_true rfl) d_T_joinRows_119
set_option maxHeartbeats 4000000 in
set_option maxRecDepth 100000 in
theorem v_TjoinRows_b (l : Launch) (D : va_G) (dA : Nat → ClassId) (sz : Nat) (ws : va_W) (ta : Nat → Nat) (t : TB) (tb : Nat → Nat) (u : TB) (sg : Int32) (hcN : t.cN ≤ 65536) (hra : rsAll dA ws t.rs) (h0 : t.rc = 1) (hu : u.rc = 0) : Met l ⟨"SeriesVault$Table", "joinRows", "(ILSeriesVault$Table;)V"⟩ [Cond.code ⟨"SeriesVault$Table", "joinRows", "(ILSeriesVault$Table;)V"⟩ prog_11_method_17_code 6 none] { frames := 3, cells := 0, slots := 0, locals := 84 } (pC D dA [.ref (ta 0), .int sg, .ref (tb 0)] (TbW dA ta t ++ (TbW dA tb u ++ (ws))) sz) (va_Qv (fun (u9 : TB) => u9 = TB.j0 sg t u) (fun (u9 : TB) t9 => bW D (va_A (TbW dA ta t ++ (TbW dA tb u ++ (ws))) sz) (TbW dA ta u9 ++ (TbW dA tb u ++ (ws))) t9) (va_A (TbW dA ta t ++ (TbW dA tb u ++ (ws))) sz)) 0 0 (va_A (TbW dA ta t ++ (TbW dA tb u ++ (ws))) sz) := by
  refine mkC (y := ⟨"SeriesVault$Table", "joinRows", "(ILSeriesVault$Table;)V"⟩) (cc := prog_11_method_17_code) (maxL := 6) (av := [.ref (ta 0), .int sg, .ref (tb 0)]) (ws := TbW dA ta t ++ (TbW dA tb u ++ (ws))) (sz := sz) (Qc := fun A => va_Qv (fun (u9 : TB) => u9 = TB.j0 sg t u) (fun (u9 : TB) t9 => bW D A (TbW dA ta u9 ++ (TbW dA tb u ++ (ws))) t9) A) (by decide) (Nat.le_of_ble_eq_true rfl) ?_
  intro A p e s m below meth c ls hsz hB
  obtain ⟨hx, hb, hr, hml, hown, hin, hlk, hE, hK, hP, hD, hS, hA, hN, hl⟩ := hB
  have hown : s.vm.findClass "SeriesVault$Table" = some m.cls := hown
  have hl : lv_has ls 6 [(0, .ref (ta 0)), (1, .int sg), (2, .ref (tb 0))] := hl
  obtain ⟨H, hH⟩ : ∃ z, z = s.heap := ⟨_, rfl⟩
  have hP : va_P D vwCl (TbW dA ta t ++ (TbW dA tb u ++ (ws))) H := by rw [hH]; exact hP
  have hS : va_S A s.heap H [] := by rw [hH]; exact hS
  rw [← hH]
  refine lv_iconst (v := 0) hx hb d_T_joinRows_0 (by decide) ?_
  refine lv_istore_n hx hb d_T_joinRows_1 rfl hl (by decide) rfl (fun ls hl => ?_)
  have hl : lv_has ls 6 [(3, .int 0), (0, .ref (ta 0)), (1, .int sg), (2, .ref (tb 0))] := hl
  refine lv_iconst (v := 0) hx hb d_T_joinRows_2 (by decide) ?_
  refine lv_istore hx hb d_T_joinRows_3 hl (by decide) rfl (fun ls hl => ?_)
  have hl : lv_has ls 6 [(4, .int 0), (3, .int 0), (0, .ref (ta 0)), (1, .int sg), (2, .ref (tb 0))] := hl
  refine lv_iconst (v := 0) hx hb d_T_joinRows_5 (by decide) ?_
  refine lv_istore hx hb d_T_joinRows_6 hl (by decide) rfl (fun ls hl => ?_)
  have hl : lv_has ls 6 [(5, .int 0), (4, .int 0), (3, .int 0), (0, .ref (ta 0)), (1, .int sg), (2, .ref (tb 0))] := hl
  refine lv_iload hx hb d_T_joinRows_8 (lv_at hl 0 rfl) ?_
  refine lv_aload_n hx hb d_T_joinRows_10 rfl (lv_at hl 3 rfl) ?_
  refine gF (v := .int (nI t.rc)) hx hb hown hE hK hP 0 rfl rfl layT 3 (by decide) w1368 rfl d_T_joinRows_11 ?_
  refine lv_icmp_ge hx hb d_T_joinRows_14 (tgt := 110) rfl (fun g1 => ?_) (fun g1 => ?_)
  · have g1 := (nI_leI (a := t.rc) (b := 0) (by omega) (by omega)).mp g1; exfalso; omega
  have g1 := mt (nI_leI (a := t.rc) (b := 0) (by omega) (by omega)).mpr g1
  refine lv_iload hx hb d_T_joinRows_17 (lv_at hl 1 rfl) ?_
  refine lv_aload_n hx hb d_T_joinRows_19 rfl (lv_at hl 5 rfl) ?_
  refine gF (v := .int (nI u.rc)) hx hb hown hE hK hP 5 rfl rfl layT 3 (by decide) w1368 rfl d_T_joinRows_20 ?_
  refine lv_icmp_ge hx hb d_T_joinRows_23 (tgt := 53) rfl (fun g2 => ?_) (fun g2 => ?_)
  rotate_left
  · have g2 := mt (nI_leI (a := u.rc) (b := 0) (by omega) (by omega)).mpr g2; exfalso; omega
  have g2 := (nI_leI (a := u.rc) (b := 0) (by omega) (by omega)).mp g2
  refine lv_iload hx hb d_T_joinRows_53 (lv_at hl 1 rfl) ?_
  refine lv_aload_n hx hb d_T_joinRows_55 rfl (lv_at hl 5 rfl) ?_
  refine gF (v := .int (nI u.rc)) hx hb hown hE hK hP 5 rfl rfl layT 3 (by decide) w1368 rfl d_T_joinRows_56 ?_
  refine lv_icmp_ge hx hb d_T_joinRows_59 (tgt := 104) rfl (fun g3 => ?_) (fun g3 => ?_)
  rotate_left
  · have g3 := mt (nI_leI (a := u.rc) (b := 0) (by omega) (by omega)).mpr g3; exfalso; omega
  have g3 := (nI_leI (a := u.rc) (b := 0) (by omega) (by omega)).mp g3
  refine lv_iinc (k := 0) (v := 1) hx hb d_T_joinRows_104 hl rfl (by decide) (by decide) rfl (fun ls hl => ?_)
  have hl : lv_has ls 6 [(5, .int 1), (4, .int 0), (3, .int 0), (0, .ref (ta 0)), (1, .int sg), (2, .ref (tb 0))] := hl
  refine lv_goto hx hb d_T_joinRows_107 (tgt := 8) rfl ?_
  refine lv_iload hx hb d_T_joinRows_8 (lv_at hl 0 rfl) ?_
  refine lv_aload_n hx hb d_T_joinRows_10 rfl (lv_at hl 3 rfl) ?_
  refine gF (v := .int (nI t.rc)) hx hb hown hE hK hP 0 rfl rfl layT 3 (by decide) w1368 rfl d_T_joinRows_11 ?_
  refine lv_icmp_ge hx hb d_T_joinRows_14 (tgt := 110) rfl (fun g4 => ?_) (fun g4 => ?_)
  rotate_left
  · have g4 := mt (nI_leI (a := t.rc) (b := 1) (by omega) (by omega)).mpr g4; exfalso; omega
  have g4 := (nI_leI (a := t.rc) (b := 1) (by omega) (by omega)).mp g4
  refine lv_aload_n hx hb d_T_joinRows_110 rfl (lv_at hl 3 rfl) ?_
  refine lv_iload_n hx hb d_T_joinRows_111 rfl (lv_at hl 2 rfl) ?_
  refine pF (v := .int (nI 0)) hx hb hown hE hK hP hD hS 0 rfl rfl layT tyT tokT nmT 3 (by decide) w1368 rfl rfl rfl (Nat.le_of_ble_eq_true rfl) d_T_joinRows_112 (fun H locs hP hD hS => ?_)
  have hP : va_P D vwCl (TbW dA ta (TB.s_rc t 0) ++ (TbW dA tb u ++ (ws))) H := hP
  have hD : va_D A (TbW dA ta (TB.s_rc t 0) ++ (TbW dA tb u ++ (ws))) := hD
  refine lv_aload_n hx hb d_T_joinRows_115 rfl (lv_at hl 3 rfl) ?_
  refine jkV (wr := []) (rnV (As := []) (rest := []) hx hb hml hown hE hK (hN _ _ hS) hP hD (v_TdropEmptyRows l D dA H.size (TbW dA tb u ++ (ws)) ta (TB.s_rc t 0) hcN (rsAll_m (fun _ hm => (List.mem_append_right _ hm)) hra) (by show 0 * t.wi ≤ t.cN; rw [Nat.zero_mul]; exact Nat.zero_le _) (Nat.zero_le _)) (q0 := 0) rfl rfl w1437 w1436 w1438 w1439 w807 rfl rfl ⟨⟨by decide, by decide⟩, rfl⟩ ⟨(Nat.le_of_ble_eq_true rfl), (Nat.le_of_ble_eq_true rfl)⟩ rfl hl.1 rfl (Nat.le_of_ble_eq_true rfl) d_T_joinRows_116 ⟨(Nat.le_of_ble_eq_true rfl), (Nat.le_of_ble_eq_true rfl)⟩) hP hD hS hA (fun u6 H locs hp9 hP hD hS => ?_)
  obtain ⟨y7, h9u⟩ : ∃ z9, z9 = u6 := ⟨_, rfl⟩
  subst h9u
  have hP : va_P D vwCl (TbW dA ta y7 ++ (TbW dA tb u ++ (ws))) H := hP
  have hD : va_D A (TbW dA ta y7 ++ (TbW dA tb u ++ (ws))) := hD
  have f_e_8 := hp9
  exact rfV hx hb hr hlk hS y7 (by rw [f_e_8, j0_0 (by omega)]) hP hD (Nat.le_of_ble_eq_true rfl) (Nat.le_of_ble_eq_true rfl) d_T_joinRows_119
set_option maxHeartbeats 4000000 in
set_option maxRecDepth 100000 in
theorem v_TjoinRows_c (l : Launch) (D : va_G) (dA : Nat → ClassId) (sz : Nat) (ws : va_W) (ta : Nat → Nat) (t : TB) (tb : Nat → Nat) (u : TB) (sg : Int32) (hop : isOp sg) (hcN : t.cN ≤ 65536) (hcM : u.cN ≤ 65536) (hra : rsAll dA ws t.rs) (hn0 : t.nc = 0) (h0 : t.rc = 1) (hu : u.rc = 1) (k1 : t.wi ≤ t.cN) (k3 : t.wi ≤ u.cN) (hw : u.wi = t.wi) : Met l ⟨"SeriesVault$Table", "joinRows", "(ILSeriesVault$Table;)V"⟩ [Cond.code ⟨"SeriesVault$Table", "joinRows", "(ILSeriesVault$Table;)V"⟩ prog_11_method_17_code 6 none] { frames := 3, cells := 0, slots := 0, locals := 84 } (pC D dA [.ref (ta 0), .int sg, .ref (tb 0)] (TbW dA ta t ++ (TbW dA tb u ++ (ws))) sz) (va_Qv (fun (u9 : TB) => u9 = TB.j0 sg t u) (fun (u9 : TB) t9 => bW D (va_A (TbW dA ta t ++ (TbW dA tb u ++ (ws))) sz) (TbW dA ta u9 ++ (TbW dA tb u ++ (ws))) t9) (va_A (TbW dA ta t ++ (TbW dA tb u ++ (ws))) sz)) 0 0 (va_A (TbW dA ta t ++ (TbW dA tb u ++ (ws))) sz) := by
  refine mkC (y := ⟨"SeriesVault$Table", "joinRows", "(ILSeriesVault$Table;)V"⟩) (cc := prog_11_method_17_code) (maxL := 6) (av := [.ref (ta 0), .int sg, .ref (tb 0)]) (ws := TbW dA ta t ++ (TbW dA tb u ++ (ws))) (sz := sz) (Qc := fun A => va_Qv (fun (u9 : TB) => u9 = TB.j0 sg t u) (fun (u9 : TB) t9 => bW D A (TbW dA ta u9 ++ (TbW dA tb u ++ (ws))) t9) A) (by decide) (Nat.le_of_ble_eq_true rfl) ?_
  intro A p e s m below meth c ls hsz hB
  obtain ⟨hx, hb, hr, hml, hown, hin, hlk, hE, hK, hP, hD, hS, hA, hN, hl⟩ := hB
  have hown : s.vm.findClass "SeriesVault$Table" = some m.cls := hown
  have hl : lv_has ls 6 [(0, .ref (ta 0)), (1, .int sg), (2, .ref (tb 0))] := hl
  obtain ⟨H, hH⟩ : ∃ z, z = s.heap := ⟨_, rfl⟩
  have hP : va_P D vwCl (TbW dA ta t ++ (TbW dA tb u ++ (ws))) H := by rw [hH]; exact hP
  have hS : va_S A s.heap H [] := by rw [hH]; exact hS
  rw [← hH]
  rcases rs2C t.rs u.rs with ⟨e1, e2⟩ | ⟨a, e1, e2⟩ | ⟨b, e1, e2⟩ | ⟨a, b, e1, e2⟩
  · refine lv_iconst (v := 0) hx hb d_T_joinRows_0 (by decide) ?_
    refine lv_istore_n hx hb d_T_joinRows_1 rfl hl (by decide) rfl (fun ls hl => ?_)
    have hl : lv_has ls 6 [(3, .int 0), (0, .ref (ta 0)), (1, .int sg), (2, .ref (tb 0))] := hl
    refine lv_iconst (v := 0) hx hb d_T_joinRows_2 (by decide) ?_
    refine lv_istore hx hb d_T_joinRows_3 hl (by decide) rfl (fun ls hl => ?_)
    have hl : lv_has ls 6 [(4, .int 0), (3, .int 0), (0, .ref (ta 0)), (1, .int sg), (2, .ref (tb 0))] := hl
    refine lv_iconst (v := 0) hx hb d_T_joinRows_5 (by decide) ?_
    refine lv_istore hx hb d_T_joinRows_6 hl (by decide) rfl (fun ls hl => ?_)
    have hl : lv_has ls 6 [(5, .int 0), (4, .int 0), (3, .int 0), (0, .ref (ta 0)), (1, .int sg), (2, .ref (tb 0))] := hl
    refine lv_iload hx hb d_T_joinRows_8 (lv_at hl 0 rfl) ?_
    refine lv_aload_n hx hb d_T_joinRows_10 rfl (lv_at hl 3 rfl) ?_
    refine gF (v := .int (nI t.rc)) hx hb hown hE hK hP 0 rfl rfl layT 3 (by decide) w1368 rfl d_T_joinRows_11 ?_
    refine lv_icmp_ge hx hb d_T_joinRows_14 (tgt := 110) rfl (fun g1 => ?_) (fun g1 => ?_)
    · have g1 := (nI_leI (a := t.rc) (b := 0) (by omega) (by omega)).mp g1; exfalso; omega
    have g1 := mt (nI_leI (a := t.rc) (b := 0) (by omega) (by omega)).mpr g1
    refine lv_iload hx hb d_T_joinRows_17 (lv_at hl 1 rfl) ?_
    refine lv_aload_n hx hb d_T_joinRows_19 rfl (lv_at hl 5 rfl) ?_
    refine gF (v := .int (nI u.rc)) hx hb hown hE hK hP 5 rfl rfl layT 3 (by decide) w1368 rfl d_T_joinRows_20 ?_
    refine lv_icmp_ge hx hb d_T_joinRows_23 (tgt := 53) rfl (fun g2 => ?_) (fun g2 => ?_)
    · have g2 := (nI_leI (a := u.rc) (b := 0) (by omega) (by omega)).mp g2; exfalso; omega
    have g2 := mt (nI_leI (a := u.rc) (b := 0) (by omega) (by omega)).mpr g2
    refine lv_aload_n hx hb d_T_joinRows_26 rfl (lv_at hl 3 rfl) ?_
    refine lv_aload_n hx hb d_T_joinRows_27 rfl (lv_at hl 5 rfl) ?_
    refine gF (v := .ref (tb 2)) hx hb hown hE hK hP 5 rfl rfl layT 4 (by decide) w787 rfl d_T_joinRows_28 ?_
    refine lv_iload hx hb d_T_joinRows_31 (lv_at hl 1 rfl) ?_
    refine nqldN (f := u.rs) (n := 256) hx hb hK hP (7) 5 rfl rfl (0) (by omega) (by decide) e2 d_T_joinRows_33 ?_
    refine lv_aload_n hx hb d_T_joinRows_34 rfl (lv_at hl 3 rfl) ?_
    refine gF (v := .ref (ta 2)) hx hb hown hE hK hP 0 rfl rfl layT 4 (by decide) w787 rfl d_T_joinRows_35 ?_
    refine lv_iload hx hb d_T_joinRows_38 (lv_at hl 0 rfl) ?_
    refine nqldN (f := t.rs) (n := 256) hx hb hK hP (2) 5 rfl rfl (0) (by omega) (by decide) e1 d_T_joinRows_40 ?_
    refine jkI (wr := []) (rnV (As := [.null, .null]) (rest := []) hx hb hml hown hE hK (hN _ _ hS) hP hD (v_TcompareTexts_zz l D dA H.size (TbW dA tb u ++ (ws)) ta t hn0) (q0 := 0) rfl rfl w1421 w1420 w1422 w1423 w807 rfl rfl ⟨⟨by decide, by decide⟩, rfl⟩ ⟨(Nat.le_of_ble_eq_true rfl), (Nat.le_of_ble_eq_true rfl)⟩ rfl hl.1 rfl (Nat.le_of_ble_eq_true rfl) d_T_joinRows_41 ⟨(Nat.le_of_ble_eq_true rfl), (Nat.le_of_ble_eq_true rfl)⟩) hP hD hS hA (fun r3 u4 H locs hp9 hP hD hS => ?_)
    have hP : va_P D vwCl (TbW dA ta t ++ (TbW dA tb u ++ (ws))) H := hP
    have hD : va_D A (TbW dA ta t ++ (TbW dA tb u ++ (ws))) := hD
    replace hp9 : 0 = r3 := Eq.symm hp9
    subst hp9
    refine lv_if_ge hx hb d_T_joinRows_44 (tgt := 53) rfl (fun _ => ?_) (fun h9 => absurd (by decide) h9)
    refine lv_iload hx hb d_T_joinRows_53 (lv_at hl 1 rfl) ?_
    refine lv_aload_n hx hb d_T_joinRows_55 rfl (lv_at hl 5 rfl) ?_
    refine gF (v := .int (nI u.rc)) hx hb hown hE hK hP 5 rfl rfl layT 3 (by decide) w1368 rfl d_T_joinRows_56 ?_
    refine lv_icmp_ge hx hb d_T_joinRows_59 (tgt := 104) rfl (fun g5 => ?_) (fun g5 => ?_)
    · have g5 := (nI_leI (a := u.rc) (b := 0) (by omega) (by omega)).mp g5; exfalso; omega
    have g5 := mt (nI_leI (a := u.rc) (b := 0) (by omega) (by omega)).mpr g5
    refine lv_aload_n hx hb d_T_joinRows_62 rfl (lv_at hl 3 rfl) ?_
    refine lv_aload_n hx hb d_T_joinRows_63 rfl (lv_at hl 5 rfl) ?_
    refine gF (v := .ref (tb 2)) hx hb hown hE hK hP 5 rfl rfl layT 4 (by decide) w787 rfl d_T_joinRows_64 ?_
    refine lv_iload hx hb d_T_joinRows_67 (lv_at hl 1 rfl) ?_
    refine nqldN (f := u.rs) (n := 256) hx hb hK hP (7) 5 rfl rfl (0) (by omega) (by decide) e2 d_T_joinRows_69 ?_
    refine lv_aload_n hx hb d_T_joinRows_70 rfl (lv_at hl 3 rfl) ?_
    refine gF (v := .ref (ta 2)) hx hb hown hE hK hP 0 rfl rfl layT 4 (by decide) w787 rfl d_T_joinRows_71 ?_
    refine lv_iload hx hb d_T_joinRows_74 (lv_at hl 0 rfl) ?_
    refine nqldN (f := t.rs) (n := 256) hx hb hK hP (2) 5 rfl rfl (0) (by omega) (by decide) e1 d_T_joinRows_76 ?_
    refine jkI (wr := []) (rnV (As := [.null, .null]) (rest := []) hx hb hml hown hE hK (hN _ _ hS) hP hD (v_TcompareTexts_zz l D dA H.size (TbW dA tb u ++ (ws)) ta t hn0) (q0 := 0) rfl rfl w1421 w1420 w1422 w1423 w807 rfl rfl ⟨⟨by decide, by decide⟩, rfl⟩ ⟨(Nat.le_of_ble_eq_true rfl), (Nat.le_of_ble_eq_true rfl)⟩ rfl hl.1 rfl (Nat.le_of_ble_eq_true rfl) d_T_joinRows_77 ⟨(Nat.le_of_ble_eq_true rfl), (Nat.le_of_ble_eq_true rfl)⟩) hP hD hS hA (fun r6 u7 H locs hp9 hP hD hS => ?_)
    have hP : va_P D vwCl (TbW dA ta t ++ (TbW dA tb u ++ (ws))) H := hP
    have hD : va_D A (TbW dA ta t ++ (TbW dA tb u ++ (ws))) := hD
    replace hp9 : 0 = r6 := Eq.symm hp9
    subst hp9
    refine lv_if_ne hx hb d_T_joinRows_80 (tgt := 104) rfl (fun h9 => absurd (by decide) h9) (fun _ => ?_)
    refine lv_aload_n hx hb d_T_joinRows_83 rfl (lv_at hl 3 rfl) ?_
    refine lv_iload hx hb d_T_joinRows_84 (lv_at hl 0 rfl) ?_
    refine lv_iload_n hx hb d_T_joinRows_86 rfl (lv_at hl 2 rfl) ?_
    refine jkV (wr := []) (rnV (As := [.int 0, .int 0]) (rest := []) hx hb hml hown hE hK (hN _ _ hS) hP hD (v_TmoveRow l D dA H.size (TbW dA tb u ++ (ws)) ta t 0 0 hcN (rsAll_m (fun _ hm => (List.mem_append_right _ hm)) hra) (show 0 < 256 from by omega) (show 0 < 256 from by omega) (show 0 * t.wi + t.wi ≤ t.cN from by omega) (show 0 * t.wi + t.wi ≤ t.cN from by omega)) (q0 := 0) rfl rfl w1409 w1408 w1410 w1411 w807 rfl rfl ⟨⟨by decide, by decide⟩, rfl⟩ ⟨(Nat.le_of_ble_eq_true rfl), (Nat.le_of_ble_eq_true rfl)⟩ rfl hl.1 rfl (Nat.le_of_ble_eq_true rfl) d_T_joinRows_87 ⟨(Nat.le_of_ble_eq_true rfl), (Nat.le_of_ble_eq_true rfl)⟩) hP hD hS hA (fun u9 H locs hp9 hP hD hS => ?_)
    have hP : va_P D vwCl (TbW dA ta (TB.s_ce (TB.s_th (TB.s_rs t (va_up t.rs 0 (t.rs 0))) (va_up t.th 0 (t.th 0))) (va_cpy t.ce t.ce (0 * t.wi) (0 * t.wi) t.wi)) ++ (TbW dA tb u ++ (ws))) H := hP
    have hD : va_D A (TbW dA ta (TB.s_ce (TB.s_th (TB.s_rs t (va_up t.rs 0 (t.rs 0))) (va_up t.th 0 (t.th 0))) (va_cpy t.ce t.ce (0 * t.wi) (0 * t.wi) t.wi)) ++ (TbW dA tb u ++ (ws))) := hD
    refine lv_aload_n hx hb d_T_joinRows_90 rfl (lv_at hl 3 rfl) ?_
    refine lv_iload_n hx hb d_T_joinRows_91 rfl (lv_at hl 4 rfl) ?_
    refine lv_aload_n hx hb d_T_joinRows_92 rfl (lv_at hl 3 rfl) ?_
    refine lv_iload_n hx hb d_T_joinRows_93 rfl (lv_at hl 2 rfl) ?_
    refine lv_aload_n hx hb d_T_joinRows_94 rfl (lv_at hl 5 rfl) ?_
    refine lv_iload hx hb d_T_joinRows_95 (lv_at hl 1 rfl) ?_
    refine lv_iload_n hx hb d_T_joinRows_97 rfl (lv_at hl 2 rfl) ?_
    refine jkV (wr := []) (rnV (As := [.int sg, .ref (ta 0), .int 0, .ref (tb 0), .int 0, .int 0]) (rest := []) hx hb hml hown hE hK (hN _ _ hS) hP hD (v_TjoinRow_l l D dA H.size ws ta (TB.s_ce (TB.s_th (TB.s_rs t (va_up t.rs 0 (t.rs 0))) (va_up t.th 0 (t.th 0))) (va_cpy t.ce t.ce (0 * t.wi) (0 * t.wi) t.wi)) tb u sg 0 0 0 hop hcN hcM (show 0 < 256 from by omega) (show 0 < 256 from by omega) (show 0 < 256 from by omega) (by show 0 * t.wi + t.wi ≤ t.cN; omega) (by show 0 * t.wi + t.wi ≤ t.cN; omega) (by show 0 * u.wi + t.wi ≤ u.cN; rw [Nat.zero_mul]; omega) (Nat.le_refl _)) (q0 := 0) rfl rfl w1441 w1440 w1442 w1443 w807 rfl rfl ⟨⟨by decide, by decide⟩, rfl⟩ ⟨(Nat.le_of_ble_eq_true rfl), (Nat.le_of_ble_eq_true rfl)⟩ rfl hl.1 rfl (Nat.le_of_ble_eq_true rfl) d_T_joinRows_98 ⟨(Nat.le_of_ble_eq_true rfl), (Nat.le_of_ble_eq_true rfl)⟩) hP hD hS hA (fun u11 H locs hp9 hP hD hS => ?_)
    have hP : va_P D vwCl (TbW dA ta (TB.s_ce (TB.s_th (TB.s_rs t (va_up t.rs 0 (t.rs 0))) (va_up (va_up t.th 0 (t.th 0)) 0 (jrW sg (((va_up t.th 0 (t.th 0)) 0) &&& (u.th 0)) (fun w => (va_cpy t.ce t.ce (0 * t.wi) (0 * t.wi) t.wi) (0 * t.wi + w)) (fun w => u.ce (0 * u.wi + w)) (va_cpy t.ce t.ce (0 * t.wi) (0 * t.wi) t.wi) (0 * t.wi) t.wi).1)) ((jrW sg (((va_up t.th 0 (t.th 0)) 0) &&& (u.th 0)) (fun w => (va_cpy t.ce t.ce (0 * t.wi) (0 * t.wi) t.wi) (0 * t.wi + w)) (fun w => u.ce (0 * u.wi + w)) (va_cpy t.ce t.ce (0 * t.wi) (0 * t.wi) t.wi) (0 * t.wi) t.wi).2)) ++ (TbW dA tb u ++ (ws))) H := hP
    have hD : va_D A (TbW dA ta (TB.s_ce (TB.s_th (TB.s_rs t (va_up t.rs 0 (t.rs 0))) (va_up (va_up t.th 0 (t.th 0)) 0 (jrW sg (((va_up t.th 0 (t.th 0)) 0) &&& (u.th 0)) (fun w => (va_cpy t.ce t.ce (0 * t.wi) (0 * t.wi) t.wi) (0 * t.wi + w)) (fun w => u.ce (0 * u.wi + w)) (va_cpy t.ce t.ce (0 * t.wi) (0 * t.wi) t.wi) (0 * t.wi) t.wi).1)) ((jrW sg (((va_up t.th 0 (t.th 0)) 0) &&& (u.th 0)) (fun w => (va_cpy t.ce t.ce (0 * t.wi) (0 * t.wi) t.wi) (0 * t.wi + w)) (fun w => u.ce (0 * u.wi + w)) (va_cpy t.ce t.ce (0 * t.wi) (0 * t.wi) t.wi) (0 * t.wi) t.wi).2)) ++ (TbW dA tb u ++ (ws))) := hD
    refine lv_iinc (k := 2) (v := 1) hx hb d_T_joinRows_101 hl rfl (by decide) (by decide) rfl (fun ls hl => ?_)
    have hl : lv_has ls 6 [(3, .int 1), (5, .int 0), (4, .int 0), (0, .ref (ta 0)), (1, .int sg), (2, .ref (tb 0))] := hl
    refine lv_iinc (k := 1) (v := 1) hx hb d_T_joinRows_104 hl rfl (by decide) (by decide) rfl (fun ls hl => ?_)
    have hl : lv_has ls 6 [(5, .int 1), (3, .int 1), (4, .int 0), (0, .ref (ta 0)), (1, .int sg), (2, .ref (tb 0))] := hl
    refine lv_goto hx hb d_T_joinRows_107 (tgt := 8) rfl ?_
    refine lv_iload hx hb d_T_joinRows_8 (lv_at hl 0 rfl) ?_
    refine lv_aload_n hx hb d_T_joinRows_10 rfl (lv_at hl 3 rfl) ?_
    refine gF (v := .int (nI t.rc)) hx hb hown hE hK hP 0 rfl rfl layT 3 (by decide) w1368 rfl d_T_joinRows_11 ?_
    refine lv_icmp_ge hx hb d_T_joinRows_14 (tgt := 110) rfl (fun g12 => ?_) (fun g12 => ?_)
    rotate_left
    · have g12 := mt (nI_leI (a := t.rc) (b := 1) (by omega) (by omega)).mpr g12; exfalso; omega
    have g12 := (nI_leI (a := t.rc) (b := 1) (by omega) (by omega)).mp g12
    refine lv_aload_n hx hb d_T_joinRows_110 rfl (lv_at hl 3 rfl) ?_
    refine lv_iload_n hx hb d_T_joinRows_111 rfl (lv_at hl 1 rfl) ?_
    refine pF (v := .int (nI 1)) hx hb hown hE hK hP hD hS 0 rfl rfl layT tyT tokT nmT 3 (by decide) w1368 rfl rfl rfl (Nat.le_of_ble_eq_true rfl) d_T_joinRows_112 (fun H locs hP hD hS => ?_)
    have hP : va_P D vwCl (TbW dA ta (TB.s_ce (TB.s_th (TB.s_rs (TB.s_rc t 1) (va_up t.rs 0 (t.rs 0))) (va_up (va_up t.th 0 (t.th 0)) 0 (jrW sg (((va_up t.th 0 (t.th 0)) 0) &&& (u.th 0)) (fun w => (va_cpy t.ce t.ce (0 * t.wi) (0 * t.wi) t.wi) (0 * t.wi + w)) (fun w => u.ce (0 * u.wi + w)) (va_cpy t.ce t.ce (0 * t.wi) (0 * t.wi) t.wi) (0 * t.wi) t.wi).1)) ((jrW sg (((va_up t.th 0 (t.th 0)) 0) &&& (u.th 0)) (fun w => (va_cpy t.ce t.ce (0 * t.wi) (0 * t.wi) t.wi) (0 * t.wi + w)) (fun w => u.ce (0 * u.wi + w)) (va_cpy t.ce t.ce (0 * t.wi) (0 * t.wi) t.wi) (0 * t.wi) t.wi).2)) ++ (TbW dA tb u ++ (ws))) H := hP
    have hD : va_D A (TbW dA ta (TB.s_ce (TB.s_th (TB.s_rs (TB.s_rc t 1) (va_up t.rs 0 (t.rs 0))) (va_up (va_up t.th 0 (t.th 0)) 0 (jrW sg (((va_up t.th 0 (t.th 0)) 0) &&& (u.th 0)) (fun w => (va_cpy t.ce t.ce (0 * t.wi) (0 * t.wi) t.wi) (0 * t.wi + w)) (fun w => u.ce (0 * u.wi + w)) (va_cpy t.ce t.ce (0 * t.wi) (0 * t.wi) t.wi) (0 * t.wi) t.wi).1)) ((jrW sg (((va_up t.th 0 (t.th 0)) 0) &&& (u.th 0)) (fun w => (va_cpy t.ce t.ce (0 * t.wi) (0 * t.wi) t.wi) (0 * t.wi + w)) (fun w => u.ce (0 * u.wi + w)) (va_cpy t.ce t.ce (0 * t.wi) (0 * t.wi) t.wi) (0 * t.wi) t.wi).2)) ++ (TbW dA tb u ++ (ws))) := hD
    refine lv_aload_n hx hb d_T_joinRows_115 rfl (lv_at hl 3 rfl) ?_
    refine jkV (wr := []) (rnV (As := []) (rest := []) hx hb hml hown hE hK (hN _ _ hS) hP hD (v_TdropEmptyRows l D dA H.size (TbW dA tb u ++ (ws)) ta (TB.s_ce (TB.s_th (TB.s_rs (TB.s_rc t 1) (va_up t.rs 0 (t.rs 0))) (va_up (va_up t.th 0 (t.th 0)) 0 (jrW sg (((va_up t.th 0 (t.th 0)) 0) &&& (u.th 0)) (fun w => (va_cpy t.ce t.ce (0 * t.wi) (0 * t.wi) t.wi) (0 * t.wi + w)) (fun w => u.ce (0 * u.wi + w)) (va_cpy t.ce t.ce (0 * t.wi) (0 * t.wi) t.wi) (0 * t.wi) t.wi).1)) ((jrW sg (((va_up t.th 0 (t.th 0)) 0) &&& (u.th 0)) (fun w => (va_cpy t.ce t.ce (0 * t.wi) (0 * t.wi) t.wi) (0 * t.wi + w)) (fun w => u.ce (0 * u.wi + w)) (va_cpy t.ce t.ce (0 * t.wi) (0 * t.wi) t.wi) (0 * t.wi) t.wi).2)) hcN (rsAll_m (fun _ hm => (List.mem_append_right _ hm)) (rsAll_mv (r := 0) (n := 0) hra)) (by show 1 * t.wi ≤ t.cN; omega) (by show 1 ≤ 256; omega)) (q0 := 0) rfl rfl w1437 w1436 w1438 w1439 w807 rfl rfl ⟨⟨by decide, by decide⟩, rfl⟩ ⟨(Nat.le_of_ble_eq_true rfl), (Nat.le_of_ble_eq_true rfl)⟩ rfl hl.1 rfl (Nat.le_of_ble_eq_true rfl) d_T_joinRows_116 ⟨(Nat.le_of_ble_eq_true rfl), (Nat.le_of_ble_eq_true rfl)⟩) hP hD hS hA (fun u14 H locs hp9 hP hD hS => ?_)
    obtain ⟨y15, h9u⟩ : ∃ z9, z9 = u14 := ⟨_, rfl⟩
    subst h9u
    have hP : va_P D vwCl (TbW dA ta y15 ++ (TbW dA tb u ++ (ws))) H := hP
    have hD : va_D A (TbW dA ta y15 ++ (TbW dA tb u ++ (ws))) := hD
    have f_e_16 := hp9
    exact rfV hx hb hr hlk hS y15 (by rw [f_e_16, j0_1 h0 hu]; rfl) hP hD (Nat.le_of_ble_eq_true rfl) (Nat.le_of_ble_eq_true rfl) d_T_joinRows_119
  · refine lv_iconst (v := 0) hx hb d_T_joinRows_0 (by decide) ?_
    refine lv_istore_n hx hb d_T_joinRows_1 rfl hl (by decide) rfl (fun ls hl => ?_)
    have hl : lv_has ls 6 [(3, .int 0), (0, .ref (ta 0)), (1, .int sg), (2, .ref (tb 0))] := hl
    refine lv_iconst (v := 0) hx hb d_T_joinRows_2 (by decide) ?_
    refine lv_istore hx hb d_T_joinRows_3 hl (by decide) rfl (fun ls hl => ?_)
    have hl : lv_has ls 6 [(4, .int 0), (3, .int 0), (0, .ref (ta 0)), (1, .int sg), (2, .ref (tb 0))] := hl
    refine lv_iconst (v := 0) hx hb d_T_joinRows_5 (by decide) ?_
    refine lv_istore hx hb d_T_joinRows_6 hl (by decide) rfl (fun ls hl => ?_)
    have hl : lv_has ls 6 [(5, .int 0), (4, .int 0), (3, .int 0), (0, .ref (ta 0)), (1, .int sg), (2, .ref (tb 0))] := hl
    refine lv_iload hx hb d_T_joinRows_8 (lv_at hl 0 rfl) ?_
    refine lv_aload_n hx hb d_T_joinRows_10 rfl (lv_at hl 3 rfl) ?_
    refine gF (v := .int (nI t.rc)) hx hb hown hE hK hP 0 rfl rfl layT 3 (by decide) w1368 rfl d_T_joinRows_11 ?_
    refine lv_icmp_ge hx hb d_T_joinRows_14 (tgt := 110) rfl (fun g17 => ?_) (fun g17 => ?_)
    · have g17 := (nI_leI (a := t.rc) (b := 0) (by omega) (by omega)).mp g17; exfalso; omega
    have g17 := mt (nI_leI (a := t.rc) (b := 0) (by omega) (by omega)).mpr g17
    refine lv_iload hx hb d_T_joinRows_17 (lv_at hl 1 rfl) ?_
    refine lv_aload_n hx hb d_T_joinRows_19 rfl (lv_at hl 5 rfl) ?_
    refine gF (v := .int (nI u.rc)) hx hb hown hE hK hP 5 rfl rfl layT 3 (by decide) w1368 rfl d_T_joinRows_20 ?_
    refine lv_icmp_ge hx hb d_T_joinRows_23 (tgt := 53) rfl (fun g18 => ?_) (fun g18 => ?_)
    · have g18 := (nI_leI (a := u.rc) (b := 0) (by omega) (by omega)).mp g18; exfalso; omega
    have g18 := mt (nI_leI (a := u.rc) (b := 0) (by omega) (by omega)).mpr g18
    refine lv_aload_n hx hb d_T_joinRows_26 rfl (lv_at hl 3 rfl) ?_
    refine lv_aload_n hx hb d_T_joinRows_27 rfl (lv_at hl 5 rfl) ?_
    refine gF (v := .ref (tb 2)) hx hb hown hE hK hP 5 rfl rfl layT 4 (by decide) w787 rfl d_T_joinRows_28 ?_
    refine lv_iload hx hb d_T_joinRows_31 (lv_at hl 1 rfl) ?_
    refine nqldN (f := u.rs) (n := 256) hx hb hK hP (7) 5 rfl rfl (0) (by omega) (by decide) e2 d_T_joinRows_33 ?_
    refine lv_aload_n hx hb d_T_joinRows_34 rfl (lv_at hl 3 rfl) ?_
    refine gF (v := .ref (ta 2)) hx hb hown hE hK hP 0 rfl rfl layT 4 (by decide) w787 rfl d_T_joinRows_35 ?_
    refine lv_iload hx hb d_T_joinRows_38 (lv_at hl 0 rfl) ?_
    refine nqld (f := t.rs) (n := 256) hx hb hK hP (2) 5 rfl rfl (0) (by omega) (by decide) e1 d_T_joinRows_40 ?_
    refine jkI (wr := []) (rnV (As := [.null, .ref a]) (rest := []) hx hb hml hown hE hK (hN _ _ hS) hP hD (v_TcompareTexts_zr l D dA H.size (TbW dA tb u ++ (ws)) ta t a hn0) (q0 := 0) rfl rfl w1421 w1420 w1422 w1423 w807 rfl rfl ⟨⟨by decide, by decide⟩, rfl⟩ ⟨(Nat.le_of_ble_eq_true rfl), (Nat.le_of_ble_eq_true rfl)⟩ rfl hl.1 rfl (Nat.le_of_ble_eq_true rfl) d_T_joinRows_41 ⟨(Nat.le_of_ble_eq_true rfl), (Nat.le_of_ble_eq_true rfl)⟩) hP hD hS hA (fun r19 u20 H locs hp9 hP hD hS => ?_)
    have hP : va_P D vwCl (TbW dA ta t ++ (TbW dA tb u ++ (ws))) H := hP
    have hD : va_D A (TbW dA ta t ++ (TbW dA tb u ++ (ws))) := hD
    replace hp9 : 0 = r19 := Eq.symm hp9
    subst hp9
    refine lv_if_ge hx hb d_T_joinRows_44 (tgt := 53) rfl (fun _ => ?_) (fun h9 => absurd (by decide) h9)
    refine lv_iload hx hb d_T_joinRows_53 (lv_at hl 1 rfl) ?_
    refine lv_aload_n hx hb d_T_joinRows_55 rfl (lv_at hl 5 rfl) ?_
    refine gF (v := .int (nI u.rc)) hx hb hown hE hK hP 5 rfl rfl layT 3 (by decide) w1368 rfl d_T_joinRows_56 ?_
    refine lv_icmp_ge hx hb d_T_joinRows_59 (tgt := 104) rfl (fun g21 => ?_) (fun g21 => ?_)
    · have g21 := (nI_leI (a := u.rc) (b := 0) (by omega) (by omega)).mp g21; exfalso; omega
    have g21 := mt (nI_leI (a := u.rc) (b := 0) (by omega) (by omega)).mpr g21
    refine lv_aload_n hx hb d_T_joinRows_62 rfl (lv_at hl 3 rfl) ?_
    refine lv_aload_n hx hb d_T_joinRows_63 rfl (lv_at hl 5 rfl) ?_
    refine gF (v := .ref (tb 2)) hx hb hown hE hK hP 5 rfl rfl layT 4 (by decide) w787 rfl d_T_joinRows_64 ?_
    refine lv_iload hx hb d_T_joinRows_67 (lv_at hl 1 rfl) ?_
    refine nqldN (f := u.rs) (n := 256) hx hb hK hP (7) 5 rfl rfl (0) (by omega) (by decide) e2 d_T_joinRows_69 ?_
    refine lv_aload_n hx hb d_T_joinRows_70 rfl (lv_at hl 3 rfl) ?_
    refine gF (v := .ref (ta 2)) hx hb hown hE hK hP 0 rfl rfl layT 4 (by decide) w787 rfl d_T_joinRows_71 ?_
    refine lv_iload hx hb d_T_joinRows_74 (lv_at hl 0 rfl) ?_
    refine nqld (f := t.rs) (n := 256) hx hb hK hP (2) 5 rfl rfl (0) (by omega) (by decide) e1 d_T_joinRows_76 ?_
    refine jkI (wr := []) (rnV (As := [.null, .ref a]) (rest := []) hx hb hml hown hE hK (hN _ _ hS) hP hD (v_TcompareTexts_zr l D dA H.size (TbW dA tb u ++ (ws)) ta t a hn0) (q0 := 0) rfl rfl w1421 w1420 w1422 w1423 w807 rfl rfl ⟨⟨by decide, by decide⟩, rfl⟩ ⟨(Nat.le_of_ble_eq_true rfl), (Nat.le_of_ble_eq_true rfl)⟩ rfl hl.1 rfl (Nat.le_of_ble_eq_true rfl) d_T_joinRows_77 ⟨(Nat.le_of_ble_eq_true rfl), (Nat.le_of_ble_eq_true rfl)⟩) hP hD hS hA (fun r22 u23 H locs hp9 hP hD hS => ?_)
    have hP : va_P D vwCl (TbW dA ta t ++ (TbW dA tb u ++ (ws))) H := hP
    have hD : va_D A (TbW dA ta t ++ (TbW dA tb u ++ (ws))) := hD
    replace hp9 : 0 = r22 := Eq.symm hp9
    subst hp9
    refine lv_if_ne hx hb d_T_joinRows_80 (tgt := 104) rfl (fun h9 => absurd (by decide) h9) (fun _ => ?_)
    refine lv_aload_n hx hb d_T_joinRows_83 rfl (lv_at hl 3 rfl) ?_
    refine lv_iload hx hb d_T_joinRows_84 (lv_at hl 0 rfl) ?_
    refine lv_iload_n hx hb d_T_joinRows_86 rfl (lv_at hl 2 rfl) ?_
    refine jkV (wr := []) (rnV (As := [.int 0, .int 0]) (rest := []) hx hb hml hown hE hK (hN _ _ hS) hP hD (v_TmoveRow l D dA H.size (TbW dA tb u ++ (ws)) ta t 0 0 hcN (rsAll_m (fun _ hm => (List.mem_append_right _ hm)) hra) (show 0 < 256 from by omega) (show 0 < 256 from by omega) (show 0 * t.wi + t.wi ≤ t.cN from by omega) (show 0 * t.wi + t.wi ≤ t.cN from by omega)) (q0 := 0) rfl rfl w1409 w1408 w1410 w1411 w807 rfl rfl ⟨⟨by decide, by decide⟩, rfl⟩ ⟨(Nat.le_of_ble_eq_true rfl), (Nat.le_of_ble_eq_true rfl)⟩ rfl hl.1 rfl (Nat.le_of_ble_eq_true rfl) d_T_joinRows_87 ⟨(Nat.le_of_ble_eq_true rfl), (Nat.le_of_ble_eq_true rfl)⟩) hP hD hS hA (fun u25 H locs hp9 hP hD hS => ?_)
    have hP : va_P D vwCl (TbW dA ta (TB.s_ce (TB.s_th (TB.s_rs t (va_up t.rs 0 (t.rs 0))) (va_up t.th 0 (t.th 0))) (va_cpy t.ce t.ce (0 * t.wi) (0 * t.wi) t.wi)) ++ (TbW dA tb u ++ (ws))) H := hP
    have hD : va_D A (TbW dA ta (TB.s_ce (TB.s_th (TB.s_rs t (va_up t.rs 0 (t.rs 0))) (va_up t.th 0 (t.th 0))) (va_cpy t.ce t.ce (0 * t.wi) (0 * t.wi) t.wi)) ++ (TbW dA tb u ++ (ws))) := hD
    refine lv_aload_n hx hb d_T_joinRows_90 rfl (lv_at hl 3 rfl) ?_
    refine lv_iload_n hx hb d_T_joinRows_91 rfl (lv_at hl 4 rfl) ?_
    refine lv_aload_n hx hb d_T_joinRows_92 rfl (lv_at hl 3 rfl) ?_
    refine lv_iload_n hx hb d_T_joinRows_93 rfl (lv_at hl 2 rfl) ?_
    refine lv_aload_n hx hb d_T_joinRows_94 rfl (lv_at hl 5 rfl) ?_
    refine lv_iload hx hb d_T_joinRows_95 (lv_at hl 1 rfl) ?_
    refine lv_iload_n hx hb d_T_joinRows_97 rfl (lv_at hl 2 rfl) ?_
    refine jkV (wr := []) (rnV (As := [.int sg, .ref (ta 0), .int 0, .ref (tb 0), .int 0, .int 0]) (rest := []) hx hb hml hown hE hK (hN _ _ hS) hP hD (v_TjoinRow_l l D dA H.size ws ta (TB.s_ce (TB.s_th (TB.s_rs t (va_up t.rs 0 (t.rs 0))) (va_up t.th 0 (t.th 0))) (va_cpy t.ce t.ce (0 * t.wi) (0 * t.wi) t.wi)) tb u sg 0 0 0 hop hcN hcM (show 0 < 256 from by omega) (show 0 < 256 from by omega) (show 0 < 256 from by omega) (by show 0 * t.wi + t.wi ≤ t.cN; omega) (by show 0 * t.wi + t.wi ≤ t.cN; omega) (by show 0 * u.wi + t.wi ≤ u.cN; rw [Nat.zero_mul]; omega) (Nat.le_refl _)) (q0 := 0) rfl rfl w1441 w1440 w1442 w1443 w807 rfl rfl ⟨⟨by decide, by decide⟩, rfl⟩ ⟨(Nat.le_of_ble_eq_true rfl), (Nat.le_of_ble_eq_true rfl)⟩ rfl hl.1 rfl (Nat.le_of_ble_eq_true rfl) d_T_joinRows_98 ⟨(Nat.le_of_ble_eq_true rfl), (Nat.le_of_ble_eq_true rfl)⟩) hP hD hS hA (fun u27 H locs hp9 hP hD hS => ?_)
    have hP : va_P D vwCl (TbW dA ta (TB.s_ce (TB.s_th (TB.s_rs t (va_up t.rs 0 (t.rs 0))) (va_up (va_up t.th 0 (t.th 0)) 0 (jrW sg (((va_up t.th 0 (t.th 0)) 0) &&& (u.th 0)) (fun w => (va_cpy t.ce t.ce (0 * t.wi) (0 * t.wi) t.wi) (0 * t.wi + w)) (fun w => u.ce (0 * u.wi + w)) (va_cpy t.ce t.ce (0 * t.wi) (0 * t.wi) t.wi) (0 * t.wi) t.wi).1)) ((jrW sg (((va_up t.th 0 (t.th 0)) 0) &&& (u.th 0)) (fun w => (va_cpy t.ce t.ce (0 * t.wi) (0 * t.wi) t.wi) (0 * t.wi + w)) (fun w => u.ce (0 * u.wi + w)) (va_cpy t.ce t.ce (0 * t.wi) (0 * t.wi) t.wi) (0 * t.wi) t.wi).2)) ++ (TbW dA tb u ++ (ws))) H := hP
    have hD : va_D A (TbW dA ta (TB.s_ce (TB.s_th (TB.s_rs t (va_up t.rs 0 (t.rs 0))) (va_up (va_up t.th 0 (t.th 0)) 0 (jrW sg (((va_up t.th 0 (t.th 0)) 0) &&& (u.th 0)) (fun w => (va_cpy t.ce t.ce (0 * t.wi) (0 * t.wi) t.wi) (0 * t.wi + w)) (fun w => u.ce (0 * u.wi + w)) (va_cpy t.ce t.ce (0 * t.wi) (0 * t.wi) t.wi) (0 * t.wi) t.wi).1)) ((jrW sg (((va_up t.th 0 (t.th 0)) 0) &&& (u.th 0)) (fun w => (va_cpy t.ce t.ce (0 * t.wi) (0 * t.wi) t.wi) (0 * t.wi + w)) (fun w => u.ce (0 * u.wi + w)) (va_cpy t.ce t.ce (0 * t.wi) (0 * t.wi) t.wi) (0 * t.wi) t.wi).2)) ++ (TbW dA tb u ++ (ws))) := hD
    refine lv_iinc (k := 2) (v := 1) hx hb d_T_joinRows_101 hl rfl (by decide) (by decide) rfl (fun ls hl => ?_)
    have hl : lv_has ls 6 [(3, .int 1), (5, .int 0), (4, .int 0), (0, .ref (ta 0)), (1, .int sg), (2, .ref (tb 0))] := hl
    refine lv_iinc (k := 1) (v := 1) hx hb d_T_joinRows_104 hl rfl (by decide) (by decide) rfl (fun ls hl => ?_)
    have hl : lv_has ls 6 [(5, .int 1), (3, .int 1), (4, .int 0), (0, .ref (ta 0)), (1, .int sg), (2, .ref (tb 0))] := hl
    refine lv_goto hx hb d_T_joinRows_107 (tgt := 8) rfl ?_
    refine lv_iload hx hb d_T_joinRows_8 (lv_at hl 0 rfl) ?_
    refine lv_aload_n hx hb d_T_joinRows_10 rfl (lv_at hl 3 rfl) ?_
    refine gF (v := .int (nI t.rc)) hx hb hown hE hK hP 0 rfl rfl layT 3 (by decide) w1368 rfl d_T_joinRows_11 ?_
    refine lv_icmp_ge hx hb d_T_joinRows_14 (tgt := 110) rfl (fun g28 => ?_) (fun g28 => ?_)
    rotate_left
    · have g28 := mt (nI_leI (a := t.rc) (b := 1) (by omega) (by omega)).mpr g28; exfalso; omega
    have g28 := (nI_leI (a := t.rc) (b := 1) (by omega) (by omega)).mp g28
    refine lv_aload_n hx hb d_T_joinRows_110 rfl (lv_at hl 3 rfl) ?_
    refine lv_iload_n hx hb d_T_joinRows_111 rfl (lv_at hl 1 rfl) ?_
    refine pF (v := .int (nI 1)) hx hb hown hE hK hP hD hS 0 rfl rfl layT tyT tokT nmT 3 (by decide) w1368 rfl rfl rfl (Nat.le_of_ble_eq_true rfl) d_T_joinRows_112 (fun H locs hP hD hS => ?_)
    have hP : va_P D vwCl (TbW dA ta (TB.s_ce (TB.s_th (TB.s_rs (TB.s_rc t 1) (va_up t.rs 0 (t.rs 0))) (va_up (va_up t.th 0 (t.th 0)) 0 (jrW sg (((va_up t.th 0 (t.th 0)) 0) &&& (u.th 0)) (fun w => (va_cpy t.ce t.ce (0 * t.wi) (0 * t.wi) t.wi) (0 * t.wi + w)) (fun w => u.ce (0 * u.wi + w)) (va_cpy t.ce t.ce (0 * t.wi) (0 * t.wi) t.wi) (0 * t.wi) t.wi).1)) ((jrW sg (((va_up t.th 0 (t.th 0)) 0) &&& (u.th 0)) (fun w => (va_cpy t.ce t.ce (0 * t.wi) (0 * t.wi) t.wi) (0 * t.wi + w)) (fun w => u.ce (0 * u.wi + w)) (va_cpy t.ce t.ce (0 * t.wi) (0 * t.wi) t.wi) (0 * t.wi) t.wi).2)) ++ (TbW dA tb u ++ (ws))) H := hP
    have hD : va_D A (TbW dA ta (TB.s_ce (TB.s_th (TB.s_rs (TB.s_rc t 1) (va_up t.rs 0 (t.rs 0))) (va_up (va_up t.th 0 (t.th 0)) 0 (jrW sg (((va_up t.th 0 (t.th 0)) 0) &&& (u.th 0)) (fun w => (va_cpy t.ce t.ce (0 * t.wi) (0 * t.wi) t.wi) (0 * t.wi + w)) (fun w => u.ce (0 * u.wi + w)) (va_cpy t.ce t.ce (0 * t.wi) (0 * t.wi) t.wi) (0 * t.wi) t.wi).1)) ((jrW sg (((va_up t.th 0 (t.th 0)) 0) &&& (u.th 0)) (fun w => (va_cpy t.ce t.ce (0 * t.wi) (0 * t.wi) t.wi) (0 * t.wi + w)) (fun w => u.ce (0 * u.wi + w)) (va_cpy t.ce t.ce (0 * t.wi) (0 * t.wi) t.wi) (0 * t.wi) t.wi).2)) ++ (TbW dA tb u ++ (ws))) := hD
    refine lv_aload_n hx hb d_T_joinRows_115 rfl (lv_at hl 3 rfl) ?_
    refine jkV (wr := []) (rnV (As := []) (rest := []) hx hb hml hown hE hK (hN _ _ hS) hP hD (v_TdropEmptyRows l D dA H.size (TbW dA tb u ++ (ws)) ta (TB.s_ce (TB.s_th (TB.s_rs (TB.s_rc t 1) (va_up t.rs 0 (t.rs 0))) (va_up (va_up t.th 0 (t.th 0)) 0 (jrW sg (((va_up t.th 0 (t.th 0)) 0) &&& (u.th 0)) (fun w => (va_cpy t.ce t.ce (0 * t.wi) (0 * t.wi) t.wi) (0 * t.wi + w)) (fun w => u.ce (0 * u.wi + w)) (va_cpy t.ce t.ce (0 * t.wi) (0 * t.wi) t.wi) (0 * t.wi) t.wi).1)) ((jrW sg (((va_up t.th 0 (t.th 0)) 0) &&& (u.th 0)) (fun w => (va_cpy t.ce t.ce (0 * t.wi) (0 * t.wi) t.wi) (0 * t.wi + w)) (fun w => u.ce (0 * u.wi + w)) (va_cpy t.ce t.ce (0 * t.wi) (0 * t.wi) t.wi) (0 * t.wi) t.wi).2)) hcN (rsAll_m (fun _ hm => (List.mem_append_right _ hm)) (rsAll_mv (r := 0) (n := 0) hra)) (by show 1 * t.wi ≤ t.cN; omega) (by show 1 ≤ 256; omega)) (q0 := 0) rfl rfl w1437 w1436 w1438 w1439 w807 rfl rfl ⟨⟨by decide, by decide⟩, rfl⟩ ⟨(Nat.le_of_ble_eq_true rfl), (Nat.le_of_ble_eq_true rfl)⟩ rfl hl.1 rfl (Nat.le_of_ble_eq_true rfl) d_T_joinRows_116 ⟨(Nat.le_of_ble_eq_true rfl), (Nat.le_of_ble_eq_true rfl)⟩) hP hD hS hA (fun u30 H locs hp9 hP hD hS => ?_)
    obtain ⟨y31, h9u⟩ : ∃ z9, z9 = u30 := ⟨_, rfl⟩
    subst h9u
    have hP : va_P D vwCl (TbW dA ta y31 ++ (TbW dA tb u ++ (ws))) H := hP
    have hD : va_D A (TbW dA ta y31 ++ (TbW dA tb u ++ (ws))) := hD
    have f_e_32 := hp9
    exact rfV hx hb hr hlk hS y31 (by rw [f_e_32, j0_1 h0 hu]; rfl) hP hD (Nat.le_of_ble_eq_true rfl) (Nat.le_of_ble_eq_true rfl) d_T_joinRows_119
  · refine lv_iconst (v := 0) hx hb d_T_joinRows_0 (by decide) ?_
    refine lv_istore_n hx hb d_T_joinRows_1 rfl hl (by decide) rfl (fun ls hl => ?_)
    have hl : lv_has ls 6 [(3, .int 0), (0, .ref (ta 0)), (1, .int sg), (2, .ref (tb 0))] := hl
    refine lv_iconst (v := 0) hx hb d_T_joinRows_2 (by decide) ?_
    refine lv_istore hx hb d_T_joinRows_3 hl (by decide) rfl (fun ls hl => ?_)
    have hl : lv_has ls 6 [(4, .int 0), (3, .int 0), (0, .ref (ta 0)), (1, .int sg), (2, .ref (tb 0))] := hl
    refine lv_iconst (v := 0) hx hb d_T_joinRows_5 (by decide) ?_
    refine lv_istore hx hb d_T_joinRows_6 hl (by decide) rfl (fun ls hl => ?_)
    have hl : lv_has ls 6 [(5, .int 0), (4, .int 0), (3, .int 0), (0, .ref (ta 0)), (1, .int sg), (2, .ref (tb 0))] := hl
    refine lv_iload hx hb d_T_joinRows_8 (lv_at hl 0 rfl) ?_
    refine lv_aload_n hx hb d_T_joinRows_10 rfl (lv_at hl 3 rfl) ?_
    refine gF (v := .int (nI t.rc)) hx hb hown hE hK hP 0 rfl rfl layT 3 (by decide) w1368 rfl d_T_joinRows_11 ?_
    refine lv_icmp_ge hx hb d_T_joinRows_14 (tgt := 110) rfl (fun g33 => ?_) (fun g33 => ?_)
    · have g33 := (nI_leI (a := t.rc) (b := 0) (by omega) (by omega)).mp g33; exfalso; omega
    have g33 := mt (nI_leI (a := t.rc) (b := 0) (by omega) (by omega)).mpr g33
    refine lv_iload hx hb d_T_joinRows_17 (lv_at hl 1 rfl) ?_
    refine lv_aload_n hx hb d_T_joinRows_19 rfl (lv_at hl 5 rfl) ?_
    refine gF (v := .int (nI u.rc)) hx hb hown hE hK hP 5 rfl rfl layT 3 (by decide) w1368 rfl d_T_joinRows_20 ?_
    refine lv_icmp_ge hx hb d_T_joinRows_23 (tgt := 53) rfl (fun g34 => ?_) (fun g34 => ?_)
    · have g34 := (nI_leI (a := u.rc) (b := 0) (by omega) (by omega)).mp g34; exfalso; omega
    have g34 := mt (nI_leI (a := u.rc) (b := 0) (by omega) (by omega)).mpr g34
    refine lv_aload_n hx hb d_T_joinRows_26 rfl (lv_at hl 3 rfl) ?_
    refine lv_aload_n hx hb d_T_joinRows_27 rfl (lv_at hl 5 rfl) ?_
    refine gF (v := .ref (tb 2)) hx hb hown hE hK hP 5 rfl rfl layT 4 (by decide) w787 rfl d_T_joinRows_28 ?_
    refine lv_iload hx hb d_T_joinRows_31 (lv_at hl 1 rfl) ?_
    refine nqld (f := u.rs) (n := 256) hx hb hK hP (7) 5 rfl rfl (0) (by omega) (by decide) e2 d_T_joinRows_33 ?_
    refine lv_aload_n hx hb d_T_joinRows_34 rfl (lv_at hl 3 rfl) ?_
    refine gF (v := .ref (ta 2)) hx hb hown hE hK hP 0 rfl rfl layT 4 (by decide) w787 rfl d_T_joinRows_35 ?_
    refine lv_iload hx hb d_T_joinRows_38 (lv_at hl 0 rfl) ?_
    refine nqldN (f := t.rs) (n := 256) hx hb hK hP (2) 5 rfl rfl (0) (by omega) (by decide) e1 d_T_joinRows_40 ?_
    refine jkI (wr := []) (rnV (As := [.ref b, .null]) (rest := []) hx hb hml hown hE hK (hN _ _ hS) hP hD (v_TcompareTexts_rz l D dA H.size (TbW dA tb u ++ (ws)) ta t b hn0) (q0 := 0) rfl rfl w1421 w1420 w1422 w1423 w807 rfl rfl ⟨⟨by decide, by decide⟩, rfl⟩ ⟨(Nat.le_of_ble_eq_true rfl), (Nat.le_of_ble_eq_true rfl)⟩ rfl hl.1 rfl (Nat.le_of_ble_eq_true rfl) d_T_joinRows_41 ⟨(Nat.le_of_ble_eq_true rfl), (Nat.le_of_ble_eq_true rfl)⟩) hP hD hS hA (fun r35 u36 H locs hp9 hP hD hS => ?_)
    have hP : va_P D vwCl (TbW dA ta t ++ (TbW dA tb u ++ (ws))) H := hP
    have hD : va_D A (TbW dA ta t ++ (TbW dA tb u ++ (ws))) := hD
    replace hp9 : 0 = r35 := Eq.symm hp9
    subst hp9
    refine lv_if_ge hx hb d_T_joinRows_44 (tgt := 53) rfl (fun _ => ?_) (fun h9 => absurd (by decide) h9)
    refine lv_iload hx hb d_T_joinRows_53 (lv_at hl 1 rfl) ?_
    refine lv_aload_n hx hb d_T_joinRows_55 rfl (lv_at hl 5 rfl) ?_
    refine gF (v := .int (nI u.rc)) hx hb hown hE hK hP 5 rfl rfl layT 3 (by decide) w1368 rfl d_T_joinRows_56 ?_
    refine lv_icmp_ge hx hb d_T_joinRows_59 (tgt := 104) rfl (fun g37 => ?_) (fun g37 => ?_)
    · have g37 := (nI_leI (a := u.rc) (b := 0) (by omega) (by omega)).mp g37; exfalso; omega
    have g37 := mt (nI_leI (a := u.rc) (b := 0) (by omega) (by omega)).mpr g37
    refine lv_aload_n hx hb d_T_joinRows_62 rfl (lv_at hl 3 rfl) ?_
    refine lv_aload_n hx hb d_T_joinRows_63 rfl (lv_at hl 5 rfl) ?_
    refine gF (v := .ref (tb 2)) hx hb hown hE hK hP 5 rfl rfl layT 4 (by decide) w787 rfl d_T_joinRows_64 ?_
    refine lv_iload hx hb d_T_joinRows_67 (lv_at hl 1 rfl) ?_
    refine nqld (f := u.rs) (n := 256) hx hb hK hP (7) 5 rfl rfl (0) (by omega) (by decide) e2 d_T_joinRows_69 ?_
    refine lv_aload_n hx hb d_T_joinRows_70 rfl (lv_at hl 3 rfl) ?_
    refine gF (v := .ref (ta 2)) hx hb hown hE hK hP 0 rfl rfl layT 4 (by decide) w787 rfl d_T_joinRows_71 ?_
    refine lv_iload hx hb d_T_joinRows_74 (lv_at hl 0 rfl) ?_
    refine nqldN (f := t.rs) (n := 256) hx hb hK hP (2) 5 rfl rfl (0) (by omega) (by decide) e1 d_T_joinRows_76 ?_
    refine jkI (wr := []) (rnV (As := [.ref b, .null]) (rest := []) hx hb hml hown hE hK (hN _ _ hS) hP hD (v_TcompareTexts_rz l D dA H.size (TbW dA tb u ++ (ws)) ta t b hn0) (q0 := 0) rfl rfl w1421 w1420 w1422 w1423 w807 rfl rfl ⟨⟨by decide, by decide⟩, rfl⟩ ⟨(Nat.le_of_ble_eq_true rfl), (Nat.le_of_ble_eq_true rfl)⟩ rfl hl.1 rfl (Nat.le_of_ble_eq_true rfl) d_T_joinRows_77 ⟨(Nat.le_of_ble_eq_true rfl), (Nat.le_of_ble_eq_true rfl)⟩) hP hD hS hA (fun r38 u39 H locs hp9 hP hD hS => ?_)
    have hP : va_P D vwCl (TbW dA ta t ++ (TbW dA tb u ++ (ws))) H := hP
    have hD : va_D A (TbW dA ta t ++ (TbW dA tb u ++ (ws))) := hD
    replace hp9 : 0 = r38 := Eq.symm hp9
    subst hp9
    refine lv_if_ne hx hb d_T_joinRows_80 (tgt := 104) rfl (fun h9 => absurd (by decide) h9) (fun _ => ?_)
    refine lv_aload_n hx hb d_T_joinRows_83 rfl (lv_at hl 3 rfl) ?_
    refine lv_iload hx hb d_T_joinRows_84 (lv_at hl 0 rfl) ?_
    refine lv_iload_n hx hb d_T_joinRows_86 rfl (lv_at hl 2 rfl) ?_
    refine jkV (wr := []) (rnV (As := [.int 0, .int 0]) (rest := []) hx hb hml hown hE hK (hN _ _ hS) hP hD (v_TmoveRow l D dA H.size (TbW dA tb u ++ (ws)) ta t 0 0 hcN (rsAll_m (fun _ hm => (List.mem_append_right _ hm)) hra) (show 0 < 256 from by omega) (show 0 < 256 from by omega) (show 0 * t.wi + t.wi ≤ t.cN from by omega) (show 0 * t.wi + t.wi ≤ t.cN from by omega)) (q0 := 0) rfl rfl w1409 w1408 w1410 w1411 w807 rfl rfl ⟨⟨by decide, by decide⟩, rfl⟩ ⟨(Nat.le_of_ble_eq_true rfl), (Nat.le_of_ble_eq_true rfl)⟩ rfl hl.1 rfl (Nat.le_of_ble_eq_true rfl) d_T_joinRows_87 ⟨(Nat.le_of_ble_eq_true rfl), (Nat.le_of_ble_eq_true rfl)⟩) hP hD hS hA (fun u41 H locs hp9 hP hD hS => ?_)
    have hP : va_P D vwCl (TbW dA ta (TB.s_ce (TB.s_th (TB.s_rs t (va_up t.rs 0 (t.rs 0))) (va_up t.th 0 (t.th 0))) (va_cpy t.ce t.ce (0 * t.wi) (0 * t.wi) t.wi)) ++ (TbW dA tb u ++ (ws))) H := hP
    have hD : va_D A (TbW dA ta (TB.s_ce (TB.s_th (TB.s_rs t (va_up t.rs 0 (t.rs 0))) (va_up t.th 0 (t.th 0))) (va_cpy t.ce t.ce (0 * t.wi) (0 * t.wi) t.wi)) ++ (TbW dA tb u ++ (ws))) := hD
    refine lv_aload_n hx hb d_T_joinRows_90 rfl (lv_at hl 3 rfl) ?_
    refine lv_iload_n hx hb d_T_joinRows_91 rfl (lv_at hl 4 rfl) ?_
    refine lv_aload_n hx hb d_T_joinRows_92 rfl (lv_at hl 3 rfl) ?_
    refine lv_iload_n hx hb d_T_joinRows_93 rfl (lv_at hl 2 rfl) ?_
    refine lv_aload_n hx hb d_T_joinRows_94 rfl (lv_at hl 5 rfl) ?_
    refine lv_iload hx hb d_T_joinRows_95 (lv_at hl 1 rfl) ?_
    refine lv_iload_n hx hb d_T_joinRows_97 rfl (lv_at hl 2 rfl) ?_
    refine jkV (wr := []) (rnV (As := [.int sg, .ref (ta 0), .int 0, .ref (tb 0), .int 0, .int 0]) (rest := []) hx hb hml hown hE hK (hN _ _ hS) hP hD (v_TjoinRow_l l D dA H.size ws ta (TB.s_ce (TB.s_th (TB.s_rs t (va_up t.rs 0 (t.rs 0))) (va_up t.th 0 (t.th 0))) (va_cpy t.ce t.ce (0 * t.wi) (0 * t.wi) t.wi)) tb u sg 0 0 0 hop hcN hcM (show 0 < 256 from by omega) (show 0 < 256 from by omega) (show 0 < 256 from by omega) (by show 0 * t.wi + t.wi ≤ t.cN; omega) (by show 0 * t.wi + t.wi ≤ t.cN; omega) (by show 0 * u.wi + t.wi ≤ u.cN; rw [Nat.zero_mul]; omega) (Nat.le_refl _)) (q0 := 0) rfl rfl w1441 w1440 w1442 w1443 w807 rfl rfl ⟨⟨by decide, by decide⟩, rfl⟩ ⟨(Nat.le_of_ble_eq_true rfl), (Nat.le_of_ble_eq_true rfl)⟩ rfl hl.1 rfl (Nat.le_of_ble_eq_true rfl) d_T_joinRows_98 ⟨(Nat.le_of_ble_eq_true rfl), (Nat.le_of_ble_eq_true rfl)⟩) hP hD hS hA (fun u43 H locs hp9 hP hD hS => ?_)
    have hP : va_P D vwCl (TbW dA ta (TB.s_ce (TB.s_th (TB.s_rs t (va_up t.rs 0 (t.rs 0))) (va_up (va_up t.th 0 (t.th 0)) 0 (jrW sg (((va_up t.th 0 (t.th 0)) 0) &&& (u.th 0)) (fun w => (va_cpy t.ce t.ce (0 * t.wi) (0 * t.wi) t.wi) (0 * t.wi + w)) (fun w => u.ce (0 * u.wi + w)) (va_cpy t.ce t.ce (0 * t.wi) (0 * t.wi) t.wi) (0 * t.wi) t.wi).1)) ((jrW sg (((va_up t.th 0 (t.th 0)) 0) &&& (u.th 0)) (fun w => (va_cpy t.ce t.ce (0 * t.wi) (0 * t.wi) t.wi) (0 * t.wi + w)) (fun w => u.ce (0 * u.wi + w)) (va_cpy t.ce t.ce (0 * t.wi) (0 * t.wi) t.wi) (0 * t.wi) t.wi).2)) ++ (TbW dA tb u ++ (ws))) H := hP
    have hD : va_D A (TbW dA ta (TB.s_ce (TB.s_th (TB.s_rs t (va_up t.rs 0 (t.rs 0))) (va_up (va_up t.th 0 (t.th 0)) 0 (jrW sg (((va_up t.th 0 (t.th 0)) 0) &&& (u.th 0)) (fun w => (va_cpy t.ce t.ce (0 * t.wi) (0 * t.wi) t.wi) (0 * t.wi + w)) (fun w => u.ce (0 * u.wi + w)) (va_cpy t.ce t.ce (0 * t.wi) (0 * t.wi) t.wi) (0 * t.wi) t.wi).1)) ((jrW sg (((va_up t.th 0 (t.th 0)) 0) &&& (u.th 0)) (fun w => (va_cpy t.ce t.ce (0 * t.wi) (0 * t.wi) t.wi) (0 * t.wi + w)) (fun w => u.ce (0 * u.wi + w)) (va_cpy t.ce t.ce (0 * t.wi) (0 * t.wi) t.wi) (0 * t.wi) t.wi).2)) ++ (TbW dA tb u ++ (ws))) := hD
    refine lv_iinc (k := 2) (v := 1) hx hb d_T_joinRows_101 hl rfl (by decide) (by decide) rfl (fun ls hl => ?_)
    have hl : lv_has ls 6 [(3, .int 1), (5, .int 0), (4, .int 0), (0, .ref (ta 0)), (1, .int sg), (2, .ref (tb 0))] := hl
    refine lv_iinc (k := 1) (v := 1) hx hb d_T_joinRows_104 hl rfl (by decide) (by decide) rfl (fun ls hl => ?_)
    have hl : lv_has ls 6 [(5, .int 1), (3, .int 1), (4, .int 0), (0, .ref (ta 0)), (1, .int sg), (2, .ref (tb 0))] := hl
    refine lv_goto hx hb d_T_joinRows_107 (tgt := 8) rfl ?_
    refine lv_iload hx hb d_T_joinRows_8 (lv_at hl 0 rfl) ?_
    refine lv_aload_n hx hb d_T_joinRows_10 rfl (lv_at hl 3 rfl) ?_
    refine gF (v := .int (nI t.rc)) hx hb hown hE hK hP 0 rfl rfl layT 3 (by decide) w1368 rfl d_T_joinRows_11 ?_
    refine lv_icmp_ge hx hb d_T_joinRows_14 (tgt := 110) rfl (fun g44 => ?_) (fun g44 => ?_)
    rotate_left
    · have g44 := mt (nI_leI (a := t.rc) (b := 1) (by omega) (by omega)).mpr g44; exfalso; omega
    have g44 := (nI_leI (a := t.rc) (b := 1) (by omega) (by omega)).mp g44
    refine lv_aload_n hx hb d_T_joinRows_110 rfl (lv_at hl 3 rfl) ?_
    refine lv_iload_n hx hb d_T_joinRows_111 rfl (lv_at hl 1 rfl) ?_
    refine pF (v := .int (nI 1)) hx hb hown hE hK hP hD hS 0 rfl rfl layT tyT tokT nmT 3 (by decide) w1368 rfl rfl rfl (Nat.le_of_ble_eq_true rfl) d_T_joinRows_112 (fun H locs hP hD hS => ?_)
    have hP : va_P D vwCl (TbW dA ta (TB.s_ce (TB.s_th (TB.s_rs (TB.s_rc t 1) (va_up t.rs 0 (t.rs 0))) (va_up (va_up t.th 0 (t.th 0)) 0 (jrW sg (((va_up t.th 0 (t.th 0)) 0) &&& (u.th 0)) (fun w => (va_cpy t.ce t.ce (0 * t.wi) (0 * t.wi) t.wi) (0 * t.wi + w)) (fun w => u.ce (0 * u.wi + w)) (va_cpy t.ce t.ce (0 * t.wi) (0 * t.wi) t.wi) (0 * t.wi) t.wi).1)) ((jrW sg (((va_up t.th 0 (t.th 0)) 0) &&& (u.th 0)) (fun w => (va_cpy t.ce t.ce (0 * t.wi) (0 * t.wi) t.wi) (0 * t.wi + w)) (fun w => u.ce (0 * u.wi + w)) (va_cpy t.ce t.ce (0 * t.wi) (0 * t.wi) t.wi) (0 * t.wi) t.wi).2)) ++ (TbW dA tb u ++ (ws))) H := hP
    have hD : va_D A (TbW dA ta (TB.s_ce (TB.s_th (TB.s_rs (TB.s_rc t 1) (va_up t.rs 0 (t.rs 0))) (va_up (va_up t.th 0 (t.th 0)) 0 (jrW sg (((va_up t.th 0 (t.th 0)) 0) &&& (u.th 0)) (fun w => (va_cpy t.ce t.ce (0 * t.wi) (0 * t.wi) t.wi) (0 * t.wi + w)) (fun w => u.ce (0 * u.wi + w)) (va_cpy t.ce t.ce (0 * t.wi) (0 * t.wi) t.wi) (0 * t.wi) t.wi).1)) ((jrW sg (((va_up t.th 0 (t.th 0)) 0) &&& (u.th 0)) (fun w => (va_cpy t.ce t.ce (0 * t.wi) (0 * t.wi) t.wi) (0 * t.wi + w)) (fun w => u.ce (0 * u.wi + w)) (va_cpy t.ce t.ce (0 * t.wi) (0 * t.wi) t.wi) (0 * t.wi) t.wi).2)) ++ (TbW dA tb u ++ (ws))) := hD
    refine lv_aload_n hx hb d_T_joinRows_115 rfl (lv_at hl 3 rfl) ?_
    refine jkV (wr := []) (rnV (As := []) (rest := []) hx hb hml hown hE hK (hN _ _ hS) hP hD (v_TdropEmptyRows l D dA H.size (TbW dA tb u ++ (ws)) ta (TB.s_ce (TB.s_th (TB.s_rs (TB.s_rc t 1) (va_up t.rs 0 (t.rs 0))) (va_up (va_up t.th 0 (t.th 0)) 0 (jrW sg (((va_up t.th 0 (t.th 0)) 0) &&& (u.th 0)) (fun w => (va_cpy t.ce t.ce (0 * t.wi) (0 * t.wi) t.wi) (0 * t.wi + w)) (fun w => u.ce (0 * u.wi + w)) (va_cpy t.ce t.ce (0 * t.wi) (0 * t.wi) t.wi) (0 * t.wi) t.wi).1)) ((jrW sg (((va_up t.th 0 (t.th 0)) 0) &&& (u.th 0)) (fun w => (va_cpy t.ce t.ce (0 * t.wi) (0 * t.wi) t.wi) (0 * t.wi + w)) (fun w => u.ce (0 * u.wi + w)) (va_cpy t.ce t.ce (0 * t.wi) (0 * t.wi) t.wi) (0 * t.wi) t.wi).2)) hcN (rsAll_m (fun _ hm => (List.mem_append_right _ hm)) (rsAll_mv (r := 0) (n := 0) hra)) (by show 1 * t.wi ≤ t.cN; omega) (by show 1 ≤ 256; omega)) (q0 := 0) rfl rfl w1437 w1436 w1438 w1439 w807 rfl rfl ⟨⟨by decide, by decide⟩, rfl⟩ ⟨(Nat.le_of_ble_eq_true rfl), (Nat.le_of_ble_eq_true rfl)⟩ rfl hl.1 rfl (Nat.le_of_ble_eq_true rfl) d_T_joinRows_116 ⟨(Nat.le_of_ble_eq_true rfl), (Nat.le_of_ble_eq_true rfl)⟩) hP hD hS hA (fun u46 H locs hp9 hP hD hS => ?_)
    obtain ⟨y47, h9u⟩ : ∃ z9, z9 = u46 := ⟨_, rfl⟩
    subst h9u
    have hP : va_P D vwCl (TbW dA ta y47 ++ (TbW dA tb u ++ (ws))) H := hP
    have hD : va_D A (TbW dA ta y47 ++ (TbW dA tb u ++ (ws))) := hD
    have f_e_48 := hp9
    exact rfV hx hb hr hlk hS y47 (by rw [f_e_48, j0_1 h0 hu]; rfl) hP hD (Nat.le_of_ble_eq_true rfl) (Nat.le_of_ble_eq_true rfl) d_T_joinRows_119
  · refine lv_iconst (v := 0) hx hb d_T_joinRows_0 (by decide) ?_
    refine lv_istore_n hx hb d_T_joinRows_1 rfl hl (by decide) rfl (fun ls hl => ?_)
    have hl : lv_has ls 6 [(3, .int 0), (0, .ref (ta 0)), (1, .int sg), (2, .ref (tb 0))] := hl
    refine lv_iconst (v := 0) hx hb d_T_joinRows_2 (by decide) ?_
    refine lv_istore hx hb d_T_joinRows_3 hl (by decide) rfl (fun ls hl => ?_)
    have hl : lv_has ls 6 [(4, .int 0), (3, .int 0), (0, .ref (ta 0)), (1, .int sg), (2, .ref (tb 0))] := hl
    refine lv_iconst (v := 0) hx hb d_T_joinRows_5 (by decide) ?_
    refine lv_istore hx hb d_T_joinRows_6 hl (by decide) rfl (fun ls hl => ?_)
    have hl : lv_has ls 6 [(5, .int 0), (4, .int 0), (3, .int 0), (0, .ref (ta 0)), (1, .int sg), (2, .ref (tb 0))] := hl
    refine lv_iload hx hb d_T_joinRows_8 (lv_at hl 0 rfl) ?_
    refine lv_aload_n hx hb d_T_joinRows_10 rfl (lv_at hl 3 rfl) ?_
    refine gF (v := .int (nI t.rc)) hx hb hown hE hK hP 0 rfl rfl layT 3 (by decide) w1368 rfl d_T_joinRows_11 ?_
    refine lv_icmp_ge hx hb d_T_joinRows_14 (tgt := 110) rfl (fun g49 => ?_) (fun g49 => ?_)
    · have g49 := (nI_leI (a := t.rc) (b := 0) (by omega) (by omega)).mp g49; exfalso; omega
    have g49 := mt (nI_leI (a := t.rc) (b := 0) (by omega) (by omega)).mpr g49
    refine lv_iload hx hb d_T_joinRows_17 (lv_at hl 1 rfl) ?_
    refine lv_aload_n hx hb d_T_joinRows_19 rfl (lv_at hl 5 rfl) ?_
    refine gF (v := .int (nI u.rc)) hx hb hown hE hK hP 5 rfl rfl layT 3 (by decide) w1368 rfl d_T_joinRows_20 ?_
    refine lv_icmp_ge hx hb d_T_joinRows_23 (tgt := 53) rfl (fun g50 => ?_) (fun g50 => ?_)
    · have g50 := (nI_leI (a := u.rc) (b := 0) (by omega) (by omega)).mp g50; exfalso; omega
    have g50 := mt (nI_leI (a := u.rc) (b := 0) (by omega) (by omega)).mpr g50
    refine lv_aload_n hx hb d_T_joinRows_26 rfl (lv_at hl 3 rfl) ?_
    refine lv_aload_n hx hb d_T_joinRows_27 rfl (lv_at hl 5 rfl) ?_
    refine gF (v := .ref (tb 2)) hx hb hown hE hK hP 5 rfl rfl layT 4 (by decide) w787 rfl d_T_joinRows_28 ?_
    refine lv_iload hx hb d_T_joinRows_31 (lv_at hl 1 rfl) ?_
    refine nqld (f := u.rs) (n := 256) hx hb hK hP (7) 5 rfl rfl (0) (by omega) (by decide) e2 d_T_joinRows_33 ?_
    refine lv_aload_n hx hb d_T_joinRows_34 rfl (lv_at hl 3 rfl) ?_
    refine gF (v := .ref (ta 2)) hx hb hown hE hK hP 0 rfl rfl layT 4 (by decide) w787 rfl d_T_joinRows_35 ?_
    refine lv_iload hx hb d_T_joinRows_38 (lv_at hl 0 rfl) ?_
    refine nqld (f := t.rs) (n := 256) hx hb hK hP (2) 5 rfl rfl (0) (by omega) (by decide) e1 d_T_joinRows_40 ?_
    refine jkI (wr := []) (rnV (As := [.ref b, .ref a]) (rest := []) hx hb hml hown hE hK (hN _ _ hS) hP hD (v_TcompareTexts_rr l D dA H.size (TbW dA tb u ++ (ws)) ta t b a hn0) (q0 := 0) rfl rfl w1421 w1420 w1422 w1423 w807 rfl rfl ⟨⟨by decide, by decide⟩, rfl⟩ ⟨(Nat.le_of_ble_eq_true rfl), (Nat.le_of_ble_eq_true rfl)⟩ rfl hl.1 rfl (Nat.le_of_ble_eq_true rfl) d_T_joinRows_41 ⟨(Nat.le_of_ble_eq_true rfl), (Nat.le_of_ble_eq_true rfl)⟩) hP hD hS hA (fun r51 u52 H locs hp9 hP hD hS => ?_)
    have hP : va_P D vwCl (TbW dA ta t ++ (TbW dA tb u ++ (ws))) H := hP
    have hD : va_D A (TbW dA ta t ++ (TbW dA tb u ++ (ws))) := hD
    replace hp9 : 0 = r51 := Eq.symm hp9
    subst hp9
    refine lv_if_ge hx hb d_T_joinRows_44 (tgt := 53) rfl (fun _ => ?_) (fun h9 => absurd (by decide) h9)
    refine lv_iload hx hb d_T_joinRows_53 (lv_at hl 1 rfl) ?_
    refine lv_aload_n hx hb d_T_joinRows_55 rfl (lv_at hl 5 rfl) ?_
    refine gF (v := .int (nI u.rc)) hx hb hown hE hK hP 5 rfl rfl layT 3 (by decide) w1368 rfl d_T_joinRows_56 ?_
    refine lv_icmp_ge hx hb d_T_joinRows_59 (tgt := 104) rfl (fun g53 => ?_) (fun g53 => ?_)
    · have g53 := (nI_leI (a := u.rc) (b := 0) (by omega) (by omega)).mp g53; exfalso; omega
    have g53 := mt (nI_leI (a := u.rc) (b := 0) (by omega) (by omega)).mpr g53
    refine lv_aload_n hx hb d_T_joinRows_62 rfl (lv_at hl 3 rfl) ?_
    refine lv_aload_n hx hb d_T_joinRows_63 rfl (lv_at hl 5 rfl) ?_
    refine gF (v := .ref (tb 2)) hx hb hown hE hK hP 5 rfl rfl layT 4 (by decide) w787 rfl d_T_joinRows_64 ?_
    refine lv_iload hx hb d_T_joinRows_67 (lv_at hl 1 rfl) ?_
    refine nqld (f := u.rs) (n := 256) hx hb hK hP (7) 5 rfl rfl (0) (by omega) (by decide) e2 d_T_joinRows_69 ?_
    refine lv_aload_n hx hb d_T_joinRows_70 rfl (lv_at hl 3 rfl) ?_
    refine gF (v := .ref (ta 2)) hx hb hown hE hK hP 0 rfl rfl layT 4 (by decide) w787 rfl d_T_joinRows_71 ?_
    refine lv_iload hx hb d_T_joinRows_74 (lv_at hl 0 rfl) ?_
    refine nqld (f := t.rs) (n := 256) hx hb hK hP (2) 5 rfl rfl (0) (by omega) (by decide) e1 d_T_joinRows_76 ?_
    refine jkI (wr := []) (rnV (As := [.ref b, .ref a]) (rest := []) hx hb hml hown hE hK (hN _ _ hS) hP hD (v_TcompareTexts_rr l D dA H.size (TbW dA tb u ++ (ws)) ta t b a hn0) (q0 := 0) rfl rfl w1421 w1420 w1422 w1423 w807 rfl rfl ⟨⟨by decide, by decide⟩, rfl⟩ ⟨(Nat.le_of_ble_eq_true rfl), (Nat.le_of_ble_eq_true rfl)⟩ rfl hl.1 rfl (Nat.le_of_ble_eq_true rfl) d_T_joinRows_77 ⟨(Nat.le_of_ble_eq_true rfl), (Nat.le_of_ble_eq_true rfl)⟩) hP hD hS hA (fun r54 u55 H locs hp9 hP hD hS => ?_)
    have hP : va_P D vwCl (TbW dA ta t ++ (TbW dA tb u ++ (ws))) H := hP
    have hD : va_D A (TbW dA ta t ++ (TbW dA tb u ++ (ws))) := hD
    replace hp9 : 0 = r54 := Eq.symm hp9
    subst hp9
    refine lv_if_ne hx hb d_T_joinRows_80 (tgt := 104) rfl (fun h9 => absurd (by decide) h9) (fun _ => ?_)
    refine lv_aload_n hx hb d_T_joinRows_83 rfl (lv_at hl 3 rfl) ?_
    refine lv_iload hx hb d_T_joinRows_84 (lv_at hl 0 rfl) ?_
    refine lv_iload_n hx hb d_T_joinRows_86 rfl (lv_at hl 2 rfl) ?_
    refine jkV (wr := []) (rnV (As := [.int 0, .int 0]) (rest := []) hx hb hml hown hE hK (hN _ _ hS) hP hD (v_TmoveRow l D dA H.size (TbW dA tb u ++ (ws)) ta t 0 0 hcN (rsAll_m (fun _ hm => (List.mem_append_right _ hm)) hra) (show 0 < 256 from by omega) (show 0 < 256 from by omega) (show 0 * t.wi + t.wi ≤ t.cN from by omega) (show 0 * t.wi + t.wi ≤ t.cN from by omega)) (q0 := 0) rfl rfl w1409 w1408 w1410 w1411 w807 rfl rfl ⟨⟨by decide, by decide⟩, rfl⟩ ⟨(Nat.le_of_ble_eq_true rfl), (Nat.le_of_ble_eq_true rfl)⟩ rfl hl.1 rfl (Nat.le_of_ble_eq_true rfl) d_T_joinRows_87 ⟨(Nat.le_of_ble_eq_true rfl), (Nat.le_of_ble_eq_true rfl)⟩) hP hD hS hA (fun u57 H locs hp9 hP hD hS => ?_)
    have hP : va_P D vwCl (TbW dA ta (TB.s_ce (TB.s_th (TB.s_rs t (va_up t.rs 0 (t.rs 0))) (va_up t.th 0 (t.th 0))) (va_cpy t.ce t.ce (0 * t.wi) (0 * t.wi) t.wi)) ++ (TbW dA tb u ++ (ws))) H := hP
    have hD : va_D A (TbW dA ta (TB.s_ce (TB.s_th (TB.s_rs t (va_up t.rs 0 (t.rs 0))) (va_up t.th 0 (t.th 0))) (va_cpy t.ce t.ce (0 * t.wi) (0 * t.wi) t.wi)) ++ (TbW dA tb u ++ (ws))) := hD
    refine lv_aload_n hx hb d_T_joinRows_90 rfl (lv_at hl 3 rfl) ?_
    refine lv_iload_n hx hb d_T_joinRows_91 rfl (lv_at hl 4 rfl) ?_
    refine lv_aload_n hx hb d_T_joinRows_92 rfl (lv_at hl 3 rfl) ?_
    refine lv_iload_n hx hb d_T_joinRows_93 rfl (lv_at hl 2 rfl) ?_
    refine lv_aload_n hx hb d_T_joinRows_94 rfl (lv_at hl 5 rfl) ?_
    refine lv_iload hx hb d_T_joinRows_95 (lv_at hl 1 rfl) ?_
    refine lv_iload_n hx hb d_T_joinRows_97 rfl (lv_at hl 2 rfl) ?_
    refine jkV (wr := []) (rnV (As := [.int sg, .ref (ta 0), .int 0, .ref (tb 0), .int 0, .int 0]) (rest := []) hx hb hml hown hE hK (hN _ _ hS) hP hD (v_TjoinRow_l l D dA H.size ws ta (TB.s_ce (TB.s_th (TB.s_rs t (va_up t.rs 0 (t.rs 0))) (va_up t.th 0 (t.th 0))) (va_cpy t.ce t.ce (0 * t.wi) (0 * t.wi) t.wi)) tb u sg 0 0 0 hop hcN hcM (show 0 < 256 from by omega) (show 0 < 256 from by omega) (show 0 < 256 from by omega) (by show 0 * t.wi + t.wi ≤ t.cN; omega) (by show 0 * t.wi + t.wi ≤ t.cN; omega) (by show 0 * u.wi + t.wi ≤ u.cN; rw [Nat.zero_mul]; omega) (Nat.le_refl _)) (q0 := 0) rfl rfl w1441 w1440 w1442 w1443 w807 rfl rfl ⟨⟨by decide, by decide⟩, rfl⟩ ⟨(Nat.le_of_ble_eq_true rfl), (Nat.le_of_ble_eq_true rfl)⟩ rfl hl.1 rfl (Nat.le_of_ble_eq_true rfl) d_T_joinRows_98 ⟨(Nat.le_of_ble_eq_true rfl), (Nat.le_of_ble_eq_true rfl)⟩) hP hD hS hA (fun u59 H locs hp9 hP hD hS => ?_)
    have hP : va_P D vwCl (TbW dA ta (TB.s_ce (TB.s_th (TB.s_rs t (va_up t.rs 0 (t.rs 0))) (va_up (va_up t.th 0 (t.th 0)) 0 (jrW sg (((va_up t.th 0 (t.th 0)) 0) &&& (u.th 0)) (fun w => (va_cpy t.ce t.ce (0 * t.wi) (0 * t.wi) t.wi) (0 * t.wi + w)) (fun w => u.ce (0 * u.wi + w)) (va_cpy t.ce t.ce (0 * t.wi) (0 * t.wi) t.wi) (0 * t.wi) t.wi).1)) ((jrW sg (((va_up t.th 0 (t.th 0)) 0) &&& (u.th 0)) (fun w => (va_cpy t.ce t.ce (0 * t.wi) (0 * t.wi) t.wi) (0 * t.wi + w)) (fun w => u.ce (0 * u.wi + w)) (va_cpy t.ce t.ce (0 * t.wi) (0 * t.wi) t.wi) (0 * t.wi) t.wi).2)) ++ (TbW dA tb u ++ (ws))) H := hP
    have hD : va_D A (TbW dA ta (TB.s_ce (TB.s_th (TB.s_rs t (va_up t.rs 0 (t.rs 0))) (va_up (va_up t.th 0 (t.th 0)) 0 (jrW sg (((va_up t.th 0 (t.th 0)) 0) &&& (u.th 0)) (fun w => (va_cpy t.ce t.ce (0 * t.wi) (0 * t.wi) t.wi) (0 * t.wi + w)) (fun w => u.ce (0 * u.wi + w)) (va_cpy t.ce t.ce (0 * t.wi) (0 * t.wi) t.wi) (0 * t.wi) t.wi).1)) ((jrW sg (((va_up t.th 0 (t.th 0)) 0) &&& (u.th 0)) (fun w => (va_cpy t.ce t.ce (0 * t.wi) (0 * t.wi) t.wi) (0 * t.wi + w)) (fun w => u.ce (0 * u.wi + w)) (va_cpy t.ce t.ce (0 * t.wi) (0 * t.wi) t.wi) (0 * t.wi) t.wi).2)) ++ (TbW dA tb u ++ (ws))) := hD
    refine lv_iinc (k := 2) (v := 1) hx hb d_T_joinRows_101 hl rfl (by decide) (by decide) rfl (fun ls hl => ?_)
    have hl : lv_has ls 6 [(3, .int 1), (5, .int 0), (4, .int 0), (0, .ref (ta 0)), (1, .int sg), (2, .ref (tb 0))] := hl
    refine lv_iinc (k := 1) (v := 1) hx hb d_T_joinRows_104 hl rfl (by decide) (by decide) rfl (fun ls hl => ?_)
    have hl : lv_has ls 6 [(5, .int 1), (3, .int 1), (4, .int 0), (0, .ref (ta 0)), (1, .int sg), (2, .ref (tb 0))] := hl
    refine lv_goto hx hb d_T_joinRows_107 (tgt := 8) rfl ?_
    refine lv_iload hx hb d_T_joinRows_8 (lv_at hl 0 rfl) ?_
    refine lv_aload_n hx hb d_T_joinRows_10 rfl (lv_at hl 3 rfl) ?_
    refine gF (v := .int (nI t.rc)) hx hb hown hE hK hP 0 rfl rfl layT 3 (by decide) w1368 rfl d_T_joinRows_11 ?_
    refine lv_icmp_ge hx hb d_T_joinRows_14 (tgt := 110) rfl (fun g60 => ?_) (fun g60 => ?_)
    rotate_left
    · have g60 := mt (nI_leI (a := t.rc) (b := 1) (by omega) (by omega)).mpr g60; exfalso; omega
    have g60 := (nI_leI (a := t.rc) (b := 1) (by omega) (by omega)).mp g60
    refine lv_aload_n hx hb d_T_joinRows_110 rfl (lv_at hl 3 rfl) ?_
    refine lv_iload_n hx hb d_T_joinRows_111 rfl (lv_at hl 1 rfl) ?_
    refine pF (v := .int (nI 1)) hx hb hown hE hK hP hD hS 0 rfl rfl layT tyT tokT nmT 3 (by decide) w1368 rfl rfl rfl (Nat.le_of_ble_eq_true rfl) d_T_joinRows_112 (fun H locs hP hD hS => ?_)
    have hP : va_P D vwCl (TbW dA ta (TB.s_ce (TB.s_th (TB.s_rs (TB.s_rc t 1) (va_up t.rs 0 (t.rs 0))) (va_up (va_up t.th 0 (t.th 0)) 0 (jrW sg (((va_up t.th 0 (t.th 0)) 0) &&& (u.th 0)) (fun w => (va_cpy t.ce t.ce (0 * t.wi) (0 * t.wi) t.wi) (0 * t.wi + w)) (fun w => u.ce (0 * u.wi + w)) (va_cpy t.ce t.ce (0 * t.wi) (0 * t.wi) t.wi) (0 * t.wi) t.wi).1)) ((jrW sg (((va_up t.th 0 (t.th 0)) 0) &&& (u.th 0)) (fun w => (va_cpy t.ce t.ce (0 * t.wi) (0 * t.wi) t.wi) (0 * t.wi + w)) (fun w => u.ce (0 * u.wi + w)) (va_cpy t.ce t.ce (0 * t.wi) (0 * t.wi) t.wi) (0 * t.wi) t.wi).2)) ++ (TbW dA tb u ++ (ws))) H := hP
    have hD : va_D A (TbW dA ta (TB.s_ce (TB.s_th (TB.s_rs (TB.s_rc t 1) (va_up t.rs 0 (t.rs 0))) (va_up (va_up t.th 0 (t.th 0)) 0 (jrW sg (((va_up t.th 0 (t.th 0)) 0) &&& (u.th 0)) (fun w => (va_cpy t.ce t.ce (0 * t.wi) (0 * t.wi) t.wi) (0 * t.wi + w)) (fun w => u.ce (0 * u.wi + w)) (va_cpy t.ce t.ce (0 * t.wi) (0 * t.wi) t.wi) (0 * t.wi) t.wi).1)) ((jrW sg (((va_up t.th 0 (t.th 0)) 0) &&& (u.th 0)) (fun w => (va_cpy t.ce t.ce (0 * t.wi) (0 * t.wi) t.wi) (0 * t.wi + w)) (fun w => u.ce (0 * u.wi + w)) (va_cpy t.ce t.ce (0 * t.wi) (0 * t.wi) t.wi) (0 * t.wi) t.wi).2)) ++ (TbW dA tb u ++ (ws))) := hD
    refine lv_aload_n hx hb d_T_joinRows_115 rfl (lv_at hl 3 rfl) ?_
    refine jkV (wr := []) (rnV (As := []) (rest := []) hx hb hml hown hE hK (hN _ _ hS) hP hD (v_TdropEmptyRows l D dA H.size (TbW dA tb u ++ (ws)) ta (TB.s_ce (TB.s_th (TB.s_rs (TB.s_rc t 1) (va_up t.rs 0 (t.rs 0))) (va_up (va_up t.th 0 (t.th 0)) 0 (jrW sg (((va_up t.th 0 (t.th 0)) 0) &&& (u.th 0)) (fun w => (va_cpy t.ce t.ce (0 * t.wi) (0 * t.wi) t.wi) (0 * t.wi + w)) (fun w => u.ce (0 * u.wi + w)) (va_cpy t.ce t.ce (0 * t.wi) (0 * t.wi) t.wi) (0 * t.wi) t.wi).1)) ((jrW sg (((va_up t.th 0 (t.th 0)) 0) &&& (u.th 0)) (fun w => (va_cpy t.ce t.ce (0 * t.wi) (0 * t.wi) t.wi) (0 * t.wi + w)) (fun w => u.ce (0 * u.wi + w)) (va_cpy t.ce t.ce (0 * t.wi) (0 * t.wi) t.wi) (0 * t.wi) t.wi).2)) hcN (rsAll_m (fun _ hm => (List.mem_append_right _ hm)) (rsAll_mv (r := 0) (n := 0) hra)) (by show 1 * t.wi ≤ t.cN; omega) (by show 1 ≤ 256; omega)) (q0 := 0) rfl rfl w1437 w1436 w1438 w1439 w807 rfl rfl ⟨⟨by decide, by decide⟩, rfl⟩ ⟨(Nat.le_of_ble_eq_true rfl), (Nat.le_of_ble_eq_true rfl)⟩ rfl hl.1 rfl (Nat.le_of_ble_eq_true rfl) d_T_joinRows_116 ⟨(Nat.le_of_ble_eq_true rfl), (Nat.le_of_ble_eq_true rfl)⟩) hP hD hS hA (fun u62 H locs hp9 hP hD hS => ?_)
    obtain ⟨y63, h9u⟩ : ∃ z9, z9 = u62 := ⟨_, rfl⟩
    subst h9u
    have hP : va_P D vwCl (TbW dA ta y63 ++ (TbW dA tb u ++ (ws))) H := hP
    have hD : va_D A (TbW dA ta y63 ++ (TbW dA tb u ++ (ws))) := hD
    have f_e_64 := hp9
    exact rfV hx hb hr hlk hS y63 (by rw [f_e_64, j0_1 h0 hu]; rfl) hP hD (Nat.le_of_ble_eq_true rfl) (Nat.le_of_ble_eq_true rfl) d_T_joinRows_119
