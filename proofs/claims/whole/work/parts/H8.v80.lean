set_option maxHeartbeats 4000000 in
set_option maxRecDepth 100000 in
theorem v_TrowText2 (l : Launch) (D : va_G) (dA : Nat → ClassId) (sz : Nat) (ws : va_W) (ta : Nat → Nat) (t : TB) (NL : Nat → List Int32) (RS : Nat → List LB) (r : Nat) (k : Nat) (w0 : va_W) (hsub : ∀ c, c ∈ w0 → c ∈ ws) (hnm : nmOk dA w0 t.nm t.nc NL) (hnc : t.nc ≤ 6) (hrs : rsOk dA w0 t.rs t.rc RS) (h1 : t.rc ≤ 256) (h2 : r < t.rc) (h3 : k < t.nc) : Met l ⟨"SeriesVault$Table", "rowText", "(II)LSeriesVault$Word;"⟩ [Cond.code ⟨"SeriesVault$Table", "rowText", "(II)LSeriesVault$Word;"⟩ prog_11_method_12_code 3 (some (FieldType.object "SeriesVault$Word"))] { frames := 3, cells := 0, slots := 0, locals := 44 } (pC D dA [.ref (ta 0), .int (nI r), .int (nI k)] (TbW dA ta t ++ (ws)) sz) (va_Qr (fun (_ : Unit) => True) (fun (u9 : Unit) (r9 : Nat) t9 => (isWo dA w0 r9 (valS (RS r) (NL k))) ∧ bW D (va_A (TbW dA ta t ++ (ws)) sz) (TbW dA ta t ++ (ws)) t9) (va_A (TbW dA ta t ++ (ws)) sz)) 0 0 (va_A (TbW dA ta t ++ (ws)) sz) := by
  refine mkC (y := ⟨"SeriesVault$Table", "rowText", "(II)LSeriesVault$Word;"⟩) (cc := prog_11_method_12_code) (maxL := 3) (av := [.ref (ta 0), .int (nI r), .int (nI k)]) (ws := TbW dA ta t ++ (ws)) (sz := sz) (Qc := fun A => va_Qr (fun (_ : Unit) => True) (fun (u9 : Unit) (r9 : Nat) t9 => (isWo dA w0 r9 (valS (RS r) (NL k))) ∧ bW D A (TbW dA ta t ++ (ws)) t9) A) (by decide) (Nat.le_of_ble_eq_true rfl) ?_
  intro A p e s m below meth c ls hsz hB
  obtain ⟨hx, hb, hr, hml, hown, hin, hlk, hE, hK, hP, hD, hS, hA, hN, hl⟩ := hB
  have hown : s.vm.findClass "SeriesVault$Table" = some m.cls := hown
  have hl : lv_has ls 3 [(0, .ref (ta 0)), (1, .int (nI r)), (2, .int (nI k))] := hl
  obtain ⟨H, hH⟩ : ∃ z, z = s.heap := ⟨_, rfl⟩
  have hP : va_P D vwCl (TbW dA ta t ++ (ws)) H := by rw [hH]; exact hP
  have hS : va_S A s.heap H [] := by rw [hH]; exact hS
  rw [← hH]
  refine lv_aload_n hx hb d_T_rowText_0 rfl (lv_at hl 0 rfl) ?_
  refine gF (v := .ref (ta 2)) hx hb hown hE hK hP 0 rfl rfl layT 4 (by decide) w787 rfl d_T_rowText_1 ?_
  obtain ⟨a1, er1, hs1, ho1⟩ := hrs r (by omega)
  have hs1c := hs1
  obtain ⟨na1, va1, no1, tx1, fn1, fv1, j1, -⟩ := hs1c
  have j1b := hsub _ j1
  obtain ⟨p1, ep1, wp1, lp1⟩ := hnm k h3
  refine lv_iload_n hx hb d_T_rowText_4 rfl (lv_at hl 1 rfl) ?_
  refine nqld (f := t.rs) (n := 256) hx hb hK hP (2) 5 rfl rfl (r) (by omega) (by decide) er1 d_T_rowText_5 ?_
  refine lv_aload_n hx hb d_T_rowText_6 rfl (lv_at hl 0 rfl) ?_
  refine gF (v := .ref (ta 1)) hx hb hown hE hK hP 0 rfl rfl layT 0 (by decide) w784 rfl d_T_rowText_7 ?_
  refine lv_iload_n hx hb d_T_rowText_10 rfl (lv_at hl 2 rfl) ?_
  refine nqld (f := t.nm) (n := 6) hx hb hK hP (1) 6 rfl rfl (k) (by omega) (by decide) ep1 d_T_rowText_11 ?_
  obtain ⟨qp1, ep2⟩ := List.getElem?_of_mem (show ((a1, .inr (11, [.ref na1, .ref va1, .ref no1, .ref tx1])) : Nat × va_E) ∈ TbW dA ta t ++ (ws) from (List.mem_append_right _ j1b))
  refine jkR (wr := []) (rnV (As := [.ref p1]) (rest := []) hx hb hml hown hE hK (hN _ _ hS) hP hD (v_SvalueOf2 l D dA H.size (TbW dA ta t ++ (ws)) w0 a1 (RS r) p1 (NL k) (fun c hc => (fun _ hm => (List.mem_append_right _ hm)) c (hsub c hc)) hs1 ho1 (isWo_m (fun c hc => (fun _ hm => (List.mem_append_right _ hm)) c (hsub c hc)) wp1) lp1) (q0 := qp1) ep2 rfl w1378 w1377 w1379 w1380 w1288 rfl rfl ⟨⟨by decide, by decide⟩, rfl⟩ ⟨(Nat.le_of_ble_eq_true rfl), (Nat.le_of_ble_eq_true rfl)⟩ rfl hl.1 rfl (Nat.le_of_ble_eq_true rfl) d_T_rowText_12 ⟨(Nat.le_of_ble_eq_true rfl), (Nat.le_of_ble_eq_true rfl)⟩) hP hD hS hA (fun u4 r3 H locs hp9 hP hD hS => ?_)
  have hP : va_P D vwCl (TbW dA ta t ++ (ws)) H := hP
  have hD : va_D A (TbW dA ta t ++ (ws)) := hD
  have f_w_5 := hp9
  exact rkR hx hb hr (Or.inl ⟨_, rfl⟩) hlk hS () f_w_5 hP hD (Nat.le_of_ble_eq_true rfl) (Nat.le_of_ble_eq_true rfl) d_T_rowText_15
theorem d_V_text_5 : decode prog_1_method_47_code 5 = .ok (.aload_n 0, 1) := by decide +kernel
theorem d_V_text_6 : decode prog_1_method_47_code 6 = .ok (.getfield 63, 3) := by decide +kernel
theorem d_V_text_9 : decode prog_1_method_47_code 9 = .ok (.invokevirtual 386, 3) := by decide +kernel
theorem d_V_text_12 : decode prog_1_method_47_code 12 = .ok (.astore 4, 2) := by decide +kernel
theorem d_V_text_14 : decode prog_1_method_47_code 14 = .ok (.iload_n 2, 1) := by decide +kernel
theorem d_V_text_15 : decode prog_1_method_47_code 15 = .ok (.ifCond .lt 12, 3) := by decide +kernel
theorem d_V_text_27 : decode prog_1_method_47_code 27 = .ok (.iconst (-1), 1) := by decide +kernel
theorem d_V_text_28 : decode prog_1_method_47_code 28 = .ok (.goto 14, 3) := by decide +kernel
theorem d_V_text_42 : decode prog_1_method_47_code 42 = .ok (.ireturn, 1) := by decide +kernel
theorem d_V_text_18 : decode prog_1_method_47_code 18 = .ok (.iload_n 2, 1) := by decide +kernel
theorem d_V_text_19 : decode prog_1_method_47_code 19 = .ok (.aload 4, 2) := by decide +kernel
theorem d_V_text_21 : decode prog_1_method_47_code 21 = .ok (.getfield 395, 3) := by decide +kernel
theorem d_V_text_24 : decode prog_1_method_47_code 24 = .ok (.if_icmp .lt 7, 3) := by decide +kernel
set_option maxHeartbeats 4000000 in
set_option maxRecDepth 100000 in
theorem v_text_n (l : Launch) (D : va_G) (dA : Nat → ClassId) (sz : Nat) (h : Nat) (ad : Nat → Nat) (ta : Nat → Nat) (t : TB) (la : Nat → Nat) (g : LI) (x : VS) (r : Nat) (k : Int32) (i : Int32) (hla : la 0 = ad 25) (hs : g.sz ≤ g.eN) (hn : g.eN ≤ 65536) (h1 : 0 < g.sz) (hel : g.el 0 = some (ta 0)) (ht : x.hasTable = true) (hr1 : r < t.rc) (hr2 : t.rc ≤ 256) (hnc : t.nc ≤ 6) (h0 : k < 0 ∨ nI t.nc ≤ k) : Met l ⟨"SeriesVault", "text", "(III)I"⟩ [Cond.code ⟨"SeriesVault", "text", "(III)I"⟩ prog_1_method_47_code 5 (some FieldType.int)] { frames := 6, cells := 0, slots := 0, locals := 105 } (pC D dA [.ref h, .int (nI r), .int k, .int i] (TbW dA ta t ++ (LiW dA la g ++ (VW dA h ad x))) sz) (va_Qi (fun (r9 : Int32) (u9 : Unit) => r9 = (-1)) (fun (u9 : Unit) t9 => bW D (va_A (TbW dA ta t ++ (LiW dA la g ++ (VW dA h ad x))) sz) (TbW dA ta t ++ (LiW dA la g ++ (VW dA h ad x))) t9) (va_A (TbW dA ta t ++ (LiW dA la g ++ (VW dA h ad x))) sz)) 0 0 (va_A (TbW dA ta t ++ (LiW dA la g ++ (VW dA h ad x))) sz) := by
  refine mkC (y := ⟨"SeriesVault", "text", "(III)I"⟩) (cc := prog_1_method_47_code) (maxL := 5) (av := [.ref h, .int (nI r), .int k, .int i]) (ws := TbW dA ta t ++ (LiW dA la g ++ (VW dA h ad x))) (sz := sz) (Qc := fun A => va_Qi (fun (r9 : Int32) (u9 : Unit) => r9 = (-1)) (fun (u9 : Unit) t9 => bW D A (TbW dA ta t ++ (LiW dA la g ++ (VW dA h ad x))) t9) A) (by decide) (Nat.le_of_ble_eq_true rfl) ?_
  intro A p e s m below meth c ls hsz hB
  obtain ⟨hx, hb, hr, hml, hown, hin, hlk, hE, hK, hP, hD, hS, hA, hN, hl⟩ := hB
  have hown : s.vm.findClass "SeriesVault" = some m.cls := hown
  have hl : lv_has ls 5 [(0, .ref h), (1, .int (nI r)), (2, .int k), (3, .int i)] := hl
  obtain ⟨H, hH⟩ : ∃ z, z = s.heap := ⟨_, rfl⟩
  have hP : va_P D vwCl (TbW dA ta t ++ (LiW dA la g ++ (VW dA h ad x))) H := by rw [hH]; exact hP
  have hS : va_S A s.heap H [] := by rw [hH]; exact hS
  rw [← hH]
  refine lv_aload_n hx hb d_V_text_0 rfl (lv_at hl 0 rfl) ?_
  refine lv_iload_n hx hb d_V_text_1 rfl (lv_at hl 1 rfl) ?_
  refine jkV (wr := []) (rnV (As := [.int (nI r)]) (rest := []) hx hb hml hown hE hK (hN _ _ hS) hP hD (v_checkRow_1 l D dA H.size h ad ta t la g x r hla hs hn h1 hel ht (show r < t.rc from by omega) (show t.rc ≤ 256 from by omega)) (q0 := 7) rfl rfl w305 w304 w306 w307 w277 rfl rfl ⟨⟨by decide, by decide⟩, rfl⟩ ⟨(Nat.le_of_ble_eq_true rfl), (Nat.le_of_ble_eq_true rfl)⟩ rfl hl.1 rfl (Nat.le_of_ble_eq_true rfl) d_V_text_2 ⟨(Nat.le_of_ble_eq_true rfl), (Nat.le_of_ble_eq_true rfl)⟩) hP hD hS hA (fun u2 H locs hp9 hP hD hS => ?_)
  have hP : va_P D vwCl (TbW dA ta t ++ (LiW dA la g ++ (VW dA h ad x))) H := hP
  have hD : va_D A (TbW dA ta t ++ (LiW dA la g ++ (VW dA h ad x))) := hD
  refine lv_aload_n hx hb d_V_text_5 rfl (lv_at hl 0 rfl) ?_
  refine gF (v := .ref (ad 24)) hx hb hown hE hK hP 7 rfl rfl layV 16 (by decide) w850 rfl d_V_text_6 ?_
  refine jkR (wr := []) (rnV (As := []) (rest := []) hx hb hml hown hE hK (hN _ _ hS) hP hD (v_Atable l D dA H.size h ad ta t la g x hla hs hn h1 hel) (q0 := 44) rfl rfl w1722 w1721 w1723 w1724 w846 rfl rfl ⟨⟨by decide, by decide⟩, rfl⟩ ⟨(Nat.le_of_ble_eq_true rfl), (Nat.le_of_ble_eq_true rfl)⟩ rfl hl.1 rfl (Nat.le_of_ble_eq_true rfl) d_V_text_9 ⟨(Nat.le_of_ble_eq_true rfl), (Nat.le_of_ble_eq_true rfl)⟩) hP hD hS hA (fun u4 r3 H locs hp9 hP hD hS => ?_)
  have hP : va_P D vwCl (TbW dA ta t ++ (LiW dA la g ++ (VW dA h ad x))) H := hP
  have hD : va_D A (TbW dA ta t ++ (LiW dA la g ++ (VW dA h ad x))) := hD
  have f_e_5 := hp9
  refine lv_astore hx hb d_V_text_12 hl (by decide) rfl (fun ls hl => ?_)
  have hl : lv_has ls 5 [(4, .ref r3), (0, .ref h), (1, .int (nI r)), (2, .int k), (3, .int i)] := hl
  refine lv_iload_n hx hb d_V_text_14 rfl (lv_at hl 3 rfl) ?_
  refine lv_if_lt hx hb d_V_text_15 (tgt := 27) rfl (fun g6 => ?_) (fun g6 => ?_)
  · have g6 := g6
    refine lv_iconst (v := (-1)) hx hb d_V_text_27 (by decide) ?_
    refine lv_goto hx hb d_V_text_28 (tgt := 42) rfl ?_
    exact rfI hx hb hr hlk hS () rfl hP hD (Nat.le_of_ble_eq_true rfl) (Nat.le_of_ble_eq_true rfl) d_V_text_42
  · have g6 := g6
    refine lv_iload_n hx hb d_V_text_18 rfl (lv_at hl 3 rfl) ?_
    refine lv_aload hx hb d_V_text_19 (lv_at hl 0 rfl) ?_
    have e9 := f_e_5
    subst e9
    refine gFN (v := .int (nI t.nc)) hx hb hown hE hK hP 0 rfl rfl layT 1 (by decide) w1725 rfl d_V_text_21 ?_
    refine lv_icmp_lt hx hb d_V_text_24 (tgt := 31) rfl (fun h9 => absurd h9 (Int32.not_lt.mpr (h0.resolve_left g6))) (fun _ => ?_)
    refine lv_iconst (v := (-1)) hx hb d_V_text_27 (by decide) ?_
    refine lv_goto hx hb d_V_text_28 (tgt := 42) rfl ?_
    exact rfI hx hb hr hlk hS () rfl hP hD (Nat.le_of_ble_eq_true rfl) (Nat.le_of_ble_eq_true rfl) d_V_text_42
theorem d_V_text_31 : decode prog_1_method_47_code 31 = .ok (.aload 4, 2) := by decide +kernel
theorem d_V_text_33 : decode prog_1_method_47_code 33 = .ok (.iload_n 1, 1) := by decide +kernel
theorem d_V_text_34 : decode prog_1_method_47_code 34 = .ok (.iload_n 2, 1) := by decide +kernel
theorem d_V_text_35 : decode prog_1_method_47_code 35 = .ok (.invokevirtual 401, 3) := by decide +kernel
theorem d_V_text_38 : decode prog_1_method_47_code 38 = .ok (.iload_n 3, 1) := by decide +kernel
theorem d_V_text_39 : decode prog_1_method_47_code 39 = .ok (.invokevirtual 247, 3) := by decide +kernel
theorem w1730 : Cond.methodLink "SeriesVault" 401 ⟨"SeriesVault$Table", "rowText", "(II)LSeriesVault$Word;"⟩ ∈ aW := aw_of (tb_8 (List.mem_of_getElem? (i := 82) rfl)) rfl
theorem w1731 : Cond.code ⟨"SeriesVault$Table", "rowText", "(II)LSeriesVault$Word;"⟩ prog_11_method_12_code 3 (some (FieldType.object "SeriesVault$Word")) ∈ aW := aw_of (tb_8 (List.mem_of_getElem? (i := 85) rfl)) rfl
theorem w1732 : Cond.instanceMethod ⟨"SeriesVault$Table", "rowText", "(II)LSeriesVault$Word;"⟩ ∈ aW := aw_of (tb_8 (List.mem_of_getElem? (i := 83) rfl)) rfl
theorem w1733 : Cond.selects "SeriesVault$Table" ⟨"SeriesVault$Table", "rowText", "(II)LSeriesVault$Word;"⟩ ⟨"SeriesVault$Table", "rowText", "(II)LSeriesVault$Word;"⟩ ∈ aW := aw_of (tb_8 (List.mem_of_getElem? (i := 84) rfl)) rfl
set_option maxHeartbeats 4000000 in
set_option maxRecDepth 100000 in
theorem v_text_1 (l : Launch) (D : va_G) (dA : Nat → ClassId) (sz : Nat) (h : Nat) (ad : Nat → Nat) (ta : Nat → Nat) (t : TB) (la : Nat → Nat) (g : LI) (x : VS) (r : Nat) (NL : Nat → List Int32) (RS : Nat → List LB) (k : Nat) (i : Nat) (hla : la 0 = ad 25) (hs : g.sz ≤ g.eN) (hn : g.eN ≤ 65536) (h1 : 0 < g.sz) (hel : g.el 0 = some (ta 0)) (ht : x.hasTable = true) (hr1 : r < t.rc) (hr2 : t.rc ≤ 256) (hnc : t.nc ≤ 6) (hnm : nmOk dA x.pl t.nm t.nc NL) (hrs : rsOk dA x.pl t.rs t.rc RS) (hk : k < t.nc) (hi : i < (valS (RS r) (NL k)).length) : Met l ⟨"SeriesVault", "text", "(III)I"⟩ [Cond.code ⟨"SeriesVault", "text", "(III)I"⟩ prog_1_method_47_code 5 (some FieldType.int)] { frames := 6, cells := 0, slots := 0, locals := 105 } (pC D dA [.ref h, .int (nI r), .int (nI k), .int (nI i)] (TbW dA ta t ++ (LiW dA la g ++ (VW dA h ad x))) sz) (va_Qi (fun (r9 : Int32) (u9 : Unit) => r9 = (valS (RS r) (NL k)).getD i 0 &&& 255) (fun (u9 : Unit) t9 => bW D (va_A (TbW dA ta t ++ (LiW dA la g ++ (VW dA h ad x))) sz) (TbW dA ta t ++ (LiW dA la g ++ (VW dA h ad x))) t9) (va_A (TbW dA ta t ++ (LiW dA la g ++ (VW dA h ad x))) sz)) 0 0 (va_A (TbW dA ta t ++ (LiW dA la g ++ (VW dA h ad x))) sz) := by
  refine mkC (y := ⟨"SeriesVault", "text", "(III)I"⟩) (cc := prog_1_method_47_code) (maxL := 5) (av := [.ref h, .int (nI r), .int (nI k), .int (nI i)]) (ws := TbW dA ta t ++ (LiW dA la g ++ (VW dA h ad x))) (sz := sz) (Qc := fun A => va_Qi (fun (r9 : Int32) (u9 : Unit) => r9 = (valS (RS r) (NL k)).getD i 0 &&& 255) (fun (u9 : Unit) t9 => bW D A (TbW dA ta t ++ (LiW dA la g ++ (VW dA h ad x))) t9) A) (by decide) (Nat.le_of_ble_eq_true rfl) ?_
  intro A p e s m below meth c ls hsz hB
  obtain ⟨hx, hb, hr, hml, hown, hin, hlk, hE, hK, hP, hD, hS, hA, hN, hl⟩ := hB
  have hown : s.vm.findClass "SeriesVault" = some m.cls := hown
  have hl : lv_has ls 5 [(0, .ref h), (1, .int (nI r)), (2, .int (nI k)), (3, .int (nI i))] := hl
  obtain ⟨H, hH⟩ : ∃ z, z = s.heap := ⟨_, rfl⟩
  have hP : va_P D vwCl (TbW dA ta t ++ (LiW dA la g ++ (VW dA h ad x))) H := by rw [hH]; exact hP
  have hS : va_S A s.heap H [] := by rw [hH]; exact hS
  rw [← hH]
  refine lv_aload_n hx hb d_V_text_0 rfl (lv_at hl 0 rfl) ?_
  refine lv_iload_n hx hb d_V_text_1 rfl (lv_at hl 1 rfl) ?_
  refine jkV (wr := []) (rnV (As := [.int (nI r)]) (rest := []) hx hb hml hown hE hK (hN _ _ hS) hP hD (v_checkRow_1 l D dA H.size h ad ta t la g x r hla hs hn h1 hel ht (show r < t.rc from by omega) (show t.rc ≤ 256 from by omega)) (q0 := 7) rfl rfl w305 w304 w306 w307 w277 rfl rfl ⟨⟨by decide, by decide⟩, rfl⟩ ⟨(Nat.le_of_ble_eq_true rfl), (Nat.le_of_ble_eq_true rfl)⟩ rfl hl.1 rfl (Nat.le_of_ble_eq_true rfl) d_V_text_2 ⟨(Nat.le_of_ble_eq_true rfl), (Nat.le_of_ble_eq_true rfl)⟩) hP hD hS hA (fun u2 H locs hp9 hP hD hS => ?_)
  have hP : va_P D vwCl (TbW dA ta t ++ (LiW dA la g ++ (VW dA h ad x))) H := hP
  have hD : va_D A (TbW dA ta t ++ (LiW dA la g ++ (VW dA h ad x))) := hD
  refine lv_aload_n hx hb d_V_text_5 rfl (lv_at hl 0 rfl) ?_
  refine gF (v := .ref (ad 24)) hx hb hown hE hK hP 7 rfl rfl layV 16 (by decide) w850 rfl d_V_text_6 ?_
  refine jkR (wr := []) (rnV (As := []) (rest := []) hx hb hml hown hE hK (hN _ _ hS) hP hD (v_Atable l D dA H.size h ad ta t la g x hla hs hn h1 hel) (q0 := 44) rfl rfl w1722 w1721 w1723 w1724 w846 rfl rfl ⟨⟨by decide, by decide⟩, rfl⟩ ⟨(Nat.le_of_ble_eq_true rfl), (Nat.le_of_ble_eq_true rfl)⟩ rfl hl.1 rfl (Nat.le_of_ble_eq_true rfl) d_V_text_9 ⟨(Nat.le_of_ble_eq_true rfl), (Nat.le_of_ble_eq_true rfl)⟩) hP hD hS hA (fun u4 r3 H locs hp9 hP hD hS => ?_)
  have hP : va_P D vwCl (TbW dA ta t ++ (LiW dA la g ++ (VW dA h ad x))) H := hP
  have hD : va_D A (TbW dA ta t ++ (LiW dA la g ++ (VW dA h ad x))) := hD
  have f_e_5 := hp9
  refine lv_astore hx hb d_V_text_12 hl (by decide) rfl (fun ls hl => ?_)
  have hl : lv_has ls 5 [(4, .ref r3), (0, .ref h), (1, .int (nI r)), (2, .int (nI k)), (3, .int (nI i))] := hl
  refine lv_iload_n hx hb d_V_text_14 rfl (lv_at hl 3 rfl) ?_
  refine lv_if_lt hx hb d_V_text_15 (tgt := 27) rfl (fun h9 => absurd h9 (nI_pos (n := k) (by omega))) (fun _ => ?_)
  refine lv_iload_n hx hb d_V_text_18 rfl (lv_at hl 3 rfl) ?_
  refine lv_aload hx hb d_V_text_19 (lv_at hl 0 rfl) ?_
  have e9 := f_e_5
  subst e9
  refine gFN (v := .int (nI t.nc)) hx hb hown hE hK hP 0 rfl rfl layT 1 (by decide) w1725 rfl d_V_text_21 ?_
  refine lv_icmp_lt hx hb d_V_text_24 (tgt := 31) rfl (fun _ => ?_) (fun h9 => absurd ((nI_ltI (a := k) (b := t.nc) (by omega) (by omega)).mpr hk) h9)
  refine lv_aload hx hb d_V_text_31 (lv_at hl 0 rfl) ?_
  refine lv_iload_n hx hb d_V_text_33 rfl (lv_at hl 2 rfl) ?_
  refine lv_iload_n hx hb d_V_text_34 rfl (lv_at hl 3 rfl) ?_
  refine jkR (wr := []) (rnV (As := [.int (nI r), .int (nI k)]) (rest := []) hx hb hml hown hE hK (hN _ _ hS) hP hD (v_TrowText2 l D dA H.size (LiW dA la g ++ (VW dA h ad x)) ta t NL RS r k x.pl (fun _ hm => (List.mem_append_right _ (plm hm))) hnm hnc hrs hr2 (show r < t.rc from by omega) (show k < t.nc from by omega)) (q0 := 0) rfl rfl w1731 w1730 w1732 w1733 w807 rfl rfl ⟨⟨by decide, by decide⟩, rfl⟩ ⟨(Nat.le_of_ble_eq_true rfl), (Nat.le_of_ble_eq_true rfl)⟩ rfl hl.1 rfl (Nat.le_of_ble_eq_true rfl) d_V_text_35 ⟨(Nat.le_of_ble_eq_true rfl), (Nat.le_of_ble_eq_true rfl)⟩) hP hD hS hA (fun u6 wq H locs hp9 hP hD hS => ?_)
  have hP : va_P D vwCl (TbW dA ta t ++ (LiW dA la g ++ (VW dA h ad x))) H := hP
  have hD : va_D A (TbW dA ta t ++ (LiW dA la g ++ (VW dA h ad x))) := hD
  have f_w_7 := hp9
  refine lv_iload_n hx hb d_V_text_38 rfl (lv_at hl 4 rfl) ?_
  have w9 := f_w_7
  have w9c := w9
  obtain ⟨bq, fq9, kq9, -⟩ := w9c
  have vl9 := valS_le (M := NL k) (S := RS r) (by obtain ⟨a1, -, -, ho1⟩ := hrs r hr1; exact ho1)
  obtain ⟨qp8, ep9⟩ := List.getElem?_of_mem (show ((wq, .inr (10, [.ref bq])) : Nat × va_E) ∈ TbW dA ta t ++ (LiW dA la g ++ (VW dA h ad x)) from (List.mem_append_right _ (List.mem_append_right _ (plm kq9))))
  refine jkI (wr := []) (rnV (As := [.int (nI i)]) (rest := []) hx hb hml hown hE hK (hN _ _ hS) hP hD (v_Wat l D dA H.size (TbW dA ta t ++ (LiW dA la g ++ (VW dA h ad x))) wq (valS (RS r) (NL k)) i (isWo_m (fun _ hm => (List.mem_append_right _ (List.mem_append_right _ (plm hm)))) w9) (show (valS (RS r) (NL k)).length ≤ 65536 by omega) hi) (q0 := qp8) ep9 rfl w1328 w1327 w1329 w1330 w1281 rfl rfl ⟨⟨by decide, by decide⟩, rfl⟩ ⟨(Nat.le_of_ble_eq_true rfl), (Nat.le_of_ble_eq_true rfl)⟩ rfl hl.1 rfl (Nat.le_of_ble_eq_true rfl) d_V_text_39 ⟨(Nat.le_of_ble_eq_true rfl), (Nat.le_of_ble_eq_true rfl)⟩) hP hD hS hA (fun r10 u11 H locs hp9 hP hD hS => ?_)
  have hP : va_P D vwCl (TbW dA ta t ++ (LiW dA la g ++ (VW dA h ad x))) H := hP
  have hD : va_D A (TbW dA ta t ++ (LiW dA la g ++ (VW dA h ad x))) := hD
  replace hp9 : (valS (RS r) (NL k)).getD i 0 &&& 255 = r10 := Eq.symm hp9
  subst hp9
  exact rfI hx hb hr hlk hS () rfl hP hD (Nat.le_of_ble_eq_true rfl) (Nat.le_of_ble_eq_true rfl) d_V_text_42
set_option maxHeartbeats 4000000 in
set_option maxRecDepth 100000 in
theorem v_text_0 (l : Launch) (D : va_G) (dA : Nat → ClassId) (sz : Nat) (h : Nat) (ad : Nat → Nat) (ta : Nat → Nat) (t : TB) (la : Nat → Nat) (g : LI) (x : VS) (r : Nat) (NL : Nat → List Int32) (RS : Nat → List LB) (k : Nat) (i : Int32) (hla : la 0 = ad 25) (hs : g.sz ≤ g.eN) (hn : g.eN ≤ 65536) (h1 : 0 < g.sz) (hel : g.el 0 = some (ta 0)) (ht : x.hasTable = true) (hr1 : r < t.rc) (hr2 : t.rc ≤ 256) (hnc : t.nc ≤ 6) (hnm : nmOk dA x.pl t.nm t.nc NL) (hrs : rsOk dA x.pl t.rs t.rc RS) (hk : k < t.nc) (hi : i < 0 ∨ nI (valS (RS r) (NL k)).length ≤ i) : Met l ⟨"SeriesVault", "text", "(III)I"⟩ [Cond.code ⟨"SeriesVault", "text", "(III)I"⟩ prog_1_method_47_code 5 (some FieldType.int)] { frames := 6, cells := 0, slots := 0, locals := 105 } (pC D dA [.ref h, .int (nI r), .int (nI k), .int i] (TbW dA ta t ++ (LiW dA la g ++ (VW dA h ad x))) sz) (va_Qi (fun (r9 : Int32) (u9 : Unit) => r9 = (-1)) (fun (u9 : Unit) t9 => bW D (va_A (TbW dA ta t ++ (LiW dA la g ++ (VW dA h ad x))) sz) (TbW dA ta t ++ (LiW dA la g ++ (VW dA h ad x))) t9) (va_A (TbW dA ta t ++ (LiW dA la g ++ (VW dA h ad x))) sz)) 0 0 (va_A (TbW dA ta t ++ (LiW dA la g ++ (VW dA h ad x))) sz) := by
  refine mkC (y := ⟨"SeriesVault", "text", "(III)I"⟩) (cc := prog_1_method_47_code) (maxL := 5) (av := [.ref h, .int (nI r), .int (nI k), .int i]) (ws := TbW dA ta t ++ (LiW dA la g ++ (VW dA h ad x))) (sz := sz) (Qc := fun A => va_Qi (fun (r9 : Int32) (u9 : Unit) => r9 = (-1)) (fun (u9 : Unit) t9 => bW D A (TbW dA ta t ++ (LiW dA la g ++ (VW dA h ad x))) t9) A) (by decide) (Nat.le_of_ble_eq_true rfl) ?_
  intro A p e s m below meth c ls hsz hB
  obtain ⟨hx, hb, hr, hml, hown, hin, hlk, hE, hK, hP, hD, hS, hA, hN, hl⟩ := hB
  have hown : s.vm.findClass "SeriesVault" = some m.cls := hown
  have hl : lv_has ls 5 [(0, .ref h), (1, .int (nI r)), (2, .int (nI k)), (3, .int i)] := hl
  obtain ⟨H, hH⟩ : ∃ z, z = s.heap := ⟨_, rfl⟩
  have hP : va_P D vwCl (TbW dA ta t ++ (LiW dA la g ++ (VW dA h ad x))) H := by rw [hH]; exact hP
  have hS : va_S A s.heap H [] := by rw [hH]; exact hS
  rw [← hH]
  refine lv_aload_n hx hb d_V_text_0 rfl (lv_at hl 0 rfl) ?_
  refine lv_iload_n hx hb d_V_text_1 rfl (lv_at hl 1 rfl) ?_
  refine jkV (wr := []) (rnV (As := [.int (nI r)]) (rest := []) hx hb hml hown hE hK (hN _ _ hS) hP hD (v_checkRow_1 l D dA H.size h ad ta t la g x r hla hs hn h1 hel ht (show r < t.rc from by omega) (show t.rc ≤ 256 from by omega)) (q0 := 7) rfl rfl w305 w304 w306 w307 w277 rfl rfl ⟨⟨by decide, by decide⟩, rfl⟩ ⟨(Nat.le_of_ble_eq_true rfl), (Nat.le_of_ble_eq_true rfl)⟩ rfl hl.1 rfl (Nat.le_of_ble_eq_true rfl) d_V_text_2 ⟨(Nat.le_of_ble_eq_true rfl), (Nat.le_of_ble_eq_true rfl)⟩) hP hD hS hA (fun u2 H locs hp9 hP hD hS => ?_)
  have hP : va_P D vwCl (TbW dA ta t ++ (LiW dA la g ++ (VW dA h ad x))) H := hP
  have hD : va_D A (TbW dA ta t ++ (LiW dA la g ++ (VW dA h ad x))) := hD
  refine lv_aload_n hx hb d_V_text_5 rfl (lv_at hl 0 rfl) ?_
  refine gF (v := .ref (ad 24)) hx hb hown hE hK hP 7 rfl rfl layV 16 (by decide) w850 rfl d_V_text_6 ?_
  refine jkR (wr := []) (rnV (As := []) (rest := []) hx hb hml hown hE hK (hN _ _ hS) hP hD (v_Atable l D dA H.size h ad ta t la g x hla hs hn h1 hel) (q0 := 44) rfl rfl w1722 w1721 w1723 w1724 w846 rfl rfl ⟨⟨by decide, by decide⟩, rfl⟩ ⟨(Nat.le_of_ble_eq_true rfl), (Nat.le_of_ble_eq_true rfl)⟩ rfl hl.1 rfl (Nat.le_of_ble_eq_true rfl) d_V_text_9 ⟨(Nat.le_of_ble_eq_true rfl), (Nat.le_of_ble_eq_true rfl)⟩) hP hD hS hA (fun u4 r3 H locs hp9 hP hD hS => ?_)
  have hP : va_P D vwCl (TbW dA ta t ++ (LiW dA la g ++ (VW dA h ad x))) H := hP
  have hD : va_D A (TbW dA ta t ++ (LiW dA la g ++ (VW dA h ad x))) := hD
  have f_e_5 := hp9
  refine lv_astore hx hb d_V_text_12 hl (by decide) rfl (fun ls hl => ?_)
  have hl : lv_has ls 5 [(4, .ref r3), (0, .ref h), (1, .int (nI r)), (2, .int (nI k)), (3, .int i)] := hl
  refine lv_iload_n hx hb d_V_text_14 rfl (lv_at hl 3 rfl) ?_
  refine lv_if_lt hx hb d_V_text_15 (tgt := 27) rfl (fun h9 => absurd h9 (nI_pos (n := k) (by omega))) (fun _ => ?_)
  refine lv_iload_n hx hb d_V_text_18 rfl (lv_at hl 3 rfl) ?_
  refine lv_aload hx hb d_V_text_19 (lv_at hl 0 rfl) ?_
  have e9 := f_e_5
  subst e9
  refine gFN (v := .int (nI t.nc)) hx hb hown hE hK hP 0 rfl rfl layT 1 (by decide) w1725 rfl d_V_text_21 ?_
  refine lv_icmp_lt hx hb d_V_text_24 (tgt := 31) rfl (fun _ => ?_) (fun h9 => absurd ((nI_ltI (a := k) (b := t.nc) (by omega) (by omega)).mpr hk) h9)
  refine lv_aload hx hb d_V_text_31 (lv_at hl 0 rfl) ?_
  refine lv_iload_n hx hb d_V_text_33 rfl (lv_at hl 2 rfl) ?_
  refine lv_iload_n hx hb d_V_text_34 rfl (lv_at hl 3 rfl) ?_
  refine jkR (wr := []) (rnV (As := [.int (nI r), .int (nI k)]) (rest := []) hx hb hml hown hE hK (hN _ _ hS) hP hD (v_TrowText2 l D dA H.size (LiW dA la g ++ (VW dA h ad x)) ta t NL RS r k x.pl (fun _ hm => (List.mem_append_right _ (plm hm))) hnm hnc hrs hr2 (show r < t.rc from by omega) (show k < t.nc from by omega)) (q0 := 0) rfl rfl w1731 w1730 w1732 w1733 w807 rfl rfl ⟨⟨by decide, by decide⟩, rfl⟩ ⟨(Nat.le_of_ble_eq_true rfl), (Nat.le_of_ble_eq_true rfl)⟩ rfl hl.1 rfl (Nat.le_of_ble_eq_true rfl) d_V_text_35 ⟨(Nat.le_of_ble_eq_true rfl), (Nat.le_of_ble_eq_true rfl)⟩) hP hD hS hA (fun u6 wq H locs hp9 hP hD hS => ?_)
  have hP : va_P D vwCl (TbW dA ta t ++ (LiW dA la g ++ (VW dA h ad x))) H := hP
  have hD : va_D A (TbW dA ta t ++ (LiW dA la g ++ (VW dA h ad x))) := hD
  have f_w_7 := hp9
  refine lv_iload_n hx hb d_V_text_38 rfl (lv_at hl 4 rfl) ?_
  have w9 := f_w_7
  have w9c := w9
  obtain ⟨bq, fq9, kq9, -⟩ := w9c
  have vl9 := valS_le (M := NL k) (S := RS r) (by obtain ⟨a1, -, -, ho1⟩ := hrs r hr1; exact ho1)
  obtain ⟨qp8, ep9⟩ := List.getElem?_of_mem (show ((wq, .inr (10, [.ref bq])) : Nat × va_E) ∈ TbW dA ta t ++ (LiW dA la g ++ (VW dA h ad x)) from (List.mem_append_right _ (List.mem_append_right _ (plm kq9))))
  refine jkI (wr := []) (rnV (As := [.int i]) (rest := []) hx hb hml hown hE hK (hN _ _ hS) hP hD (v_Wat_n l D dA H.size (TbW dA ta t ++ (LiW dA la g ++ (VW dA h ad x))) wq (valS (RS r) (NL k)) i (isWo_m (fun _ hm => (List.mem_append_right _ (List.mem_append_right _ (plm hm)))) w9) (show (valS (RS r) (NL k)).length ≤ 65536 by omega) hi) (q0 := qp8) ep9 rfl w1328 w1327 w1329 w1330 w1281 rfl rfl ⟨⟨by decide, by decide⟩, rfl⟩ ⟨(Nat.le_of_ble_eq_true rfl), (Nat.le_of_ble_eq_true rfl)⟩ rfl hl.1 rfl (Nat.le_of_ble_eq_true rfl) d_V_text_39 ⟨(Nat.le_of_ble_eq_true rfl), (Nat.le_of_ble_eq_true rfl)⟩) hP hD hS hA (fun r10 u11 H locs hp9 hP hD hS => ?_)
  have hP : va_P D vwCl (TbW dA ta t ++ (LiW dA la g ++ (VW dA h ad x))) H := hP
  have hD : va_D A (TbW dA ta t ++ (LiW dA la g ++ (VW dA h ad x))) := hD
  replace hp9 : (-1) = r10 := Eq.symm hp9
  subst hp9
  exact rfI hx hb hr hlk hS () rfl hP hD (Nat.le_of_ble_eq_true rfl) (Nat.le_of_ble_eq_true rfl) d_V_text_42
