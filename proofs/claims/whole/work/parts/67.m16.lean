def MS.rdS (x : MS) (c : Nat) (g : Nat → Nat) : MS := MS.s_labelCount (MS.s_labels (MS.s_faultPlace (MS.s_faultCode (MS.s_cod x 0) 0) 0) g) c
theorem nI_nm {w : Nat} (h : w < 2 ^ 31) : ¬ nI w = -1 := fun z => by
  have h1 := congrArg Int32.toInt z
  rw [nI_toInt h] at h1
  have h2 : (-1 : Int32).toInt = -1 := by decide
  omega
def MS.lyS (x : MS) : MS := x.s_texts (x.layT x.labelCount).1
theorem d_M_series_12 : decode prog_14_method_29_code 12 = .ok (.iconst 1, 1) := by decide +kernel
theorem d_M_series_23 : decode prog_14_method_29_code 23 = .ok (.iconst 0, 1) := by decide +kernel
theorem d_M_series_24 : decode prog_14_method_29_code 24 = .ok (.ireturn, 1) := by decide +kernel
set_option maxHeartbeats 4000000 in
set_option maxRecDepth 100000 in
theorem k_series_1 (l : Launch) (D : va_G) (dA : Nat → ClassId) (sz : Nat) (h : Nat) (ad : Nat → Nat) (x : MS) (ho : x.on = false) : Met l ⟨"SeriesVaultModel", "series", "()I"⟩ [Cond.code ⟨"SeriesVaultModel", "series", "()I"⟩ prog_14_method_29_code 5 (some FieldType.int)] { frames := 1, cells := 0, slots := 0, locals := 0 } (pC D dA [.ref h] (MW dA h ad x) sz) (va_Qi (fun (r9 : Int32) (u9 : Unit) => r9 = 0) (fun (u9 : Unit) t9 => bW D (va_A (MW dA h ad x) sz) (MW dA h ad (MS.s_cod x 1)) t9) (va_A (MW dA h ad x) sz)) 0 0 (va_A (MW dA h ad x) sz) := by
  refine mkC (y := ⟨"SeriesVaultModel", "series", "()I"⟩) (cc := prog_14_method_29_code) (maxL := 5) (av := [.ref h]) (ws := MW dA h ad x) (sz := sz) (Qc := fun A => va_Qi (fun (r9 : Int32) (u9 : Unit) => r9 = 0) (fun (u9 : Unit) t9 => bW D A (MW dA h ad (MS.s_cod x 1)) t9) A) (by decide) (Nat.le_of_ble_eq_true rfl) ?_
  intro A p e s m below meth c ls hsz hB
  obtain ⟨hx, hb, hr, hml, hown, hin, hlk, hE, hK, hP, hD, hS, hA, hN, hl⟩ := hB
  have hown : s.vm.findClass "SeriesVaultModel" = some m.cls := hown
  have hl : lv_has ls 5 [(0, .ref h)] := hl
  obtain ⟨H, hH⟩ : ∃ z, z = s.heap := ⟨_, rfl⟩
  have hP : va_P D vwCl (MW dA h ad x) H := by rw [hH]; exact hP
  have hS : va_S A s.heap H [] := by rw [hH]; exact hS
  rw [← hH]
  refine lv_aload_n hx hb d_M_series_0 rfl (lv_at hl 0 rfl) ?_
  refine lv_aload_n hx hb d_M_series_1 rfl (lv_at hl 0 rfl) ?_
  refine gF (v := .int (bI x.on)) hx hb hown hE hK hP 0 rfl rfl layM 7 (by decide) w324 rfl d_M_series_2 ?_
  refine lv_if_eq hx hb d_M_series_5 (tgt := 12) rfl (fun _ => ?_) (fun h9 => absurd (by rw [ho]; decide) h9)
  refine lv_iconst (v := 1) hx hb d_M_series_12 (by decide) ?_
  refine pF (v := .int 1) hx hb hown hE hK hP hD hS 0 rfl rfl layM tyM tokM nmM 0 (by decide) w319 rfl rfl rfl (Nat.le_of_ble_eq_true rfl) d_M_series_13 (fun H locs hP hD hS => ?_)
  have hP : va_P D vwCl (MW dA h ad (MS.s_cod x 1)) H := hP
  have hD : va_D A (MW dA h ad (MS.s_cod x 1)) := hD
  refine lv_aload_n hx hb d_M_series_16 rfl (lv_at hl 0 rfl) ?_
  refine gF (v := .int 1) hx hb hown hE hK hP 0 rfl rfl layM 0 (by decide) w319 rfl d_M_series_17 ?_
  refine lv_if_le hx hb d_M_series_20 (tgt := 25) rfl (fun h9 => absurd h9 (by decide)) (fun _ => ?_)
  refine lv_iconst (v := 0) hx hb d_M_series_23 (by decide) ?_
  exact rfI hx hb hr hlk hS () rfl hP hD (Nat.le_of_ble_eq_true rfl) (Nat.le_of_ble_eq_true rfl) d_M_series_24
set_option maxHeartbeats 4000000 in
set_option maxRecDepth 100000 in
theorem k_series_x (l : Launch) (D : va_G) (dA : Nat → ClassId) (sz : Nat) (h : Nat) (ad : Nat → Nat) (x : MS) (kf : Int32) (pf : Nat) (ho : x.on = true) (hl1 : x.length ≤ 65536) (hrd : rdM x.tape x.length 7 0 0 x.labels = .inl (kf, pf)) : Met l ⟨"SeriesVaultModel", "series", "()I"⟩ [Cond.code ⟨"SeriesVaultModel", "series", "()I"⟩ prog_14_method_29_code 5 (some FieldType.int)] { frames := 4, cells := 0, slots := 0, locals := 67 } (pC D dA [.ref h] (MW dA h ad x) sz) (va_Qi (fun (r9 : Int32) (u9 : MS) => r9 = (-1) ∧ ∃ (a1 : Nat → Nat) (a2 : Nat), u9 = (((((x.s_cod 0).s_length 0).s_faultCode kf).s_faultPlace (nI pf)).s_labels a1).s_labelCount a2) (fun (u9 : MS) t9 => bW D (va_A (MW dA h ad x) sz) (MW dA h ad u9) t9) (va_A (MW dA h ad x) sz)) 0 0 (va_A (MW dA h ad x) sz) := by
  refine mkC (y := ⟨"SeriesVaultModel", "series", "()I"⟩) (cc := prog_14_method_29_code) (maxL := 5) (av := [.ref h]) (ws := MW dA h ad x) (sz := sz) (Qc := fun A => va_Qi (fun (r9 : Int32) (u9 : MS) => r9 = (-1) ∧ ∃ (a1 : Nat → Nat) (a2 : Nat), u9 = (((((x.s_cod 0).s_length 0).s_faultCode kf).s_faultPlace (nI pf)).s_labels a1).s_labelCount a2) (fun (u9 : MS) t9 => bW D A (MW dA h ad u9) t9) A) (by decide) (Nat.le_of_ble_eq_true rfl) ?_
  intro A p e s m below meth c ls hsz hB
  obtain ⟨hx, hb, hr, hml, hown, hin, hlk, hE, hK, hP, hD, hS, hA, hN, hl⟩ := hB
  have hown : s.vm.findClass "SeriesVaultModel" = some m.cls := hown
  have hl : lv_has ls 5 [(0, .ref h)] := hl
  obtain ⟨H, hH⟩ : ∃ z, z = s.heap := ⟨_, rfl⟩
  have hP : va_P D vwCl (MW dA h ad x) H := by rw [hH]; exact hP
  have hS : va_S A s.heap H [] := by rw [hH]; exact hS
  rw [← hH]
  refine lv_aload_n hx hb d_M_series_0 rfl (lv_at hl 0 rfl) ?_
  refine lv_aload_n hx hb d_M_series_1 rfl (lv_at hl 0 rfl) ?_
  refine gF (v := .int (bI x.on)) hx hb hown hE hK hP 0 rfl rfl layM 7 (by decide) w324 rfl d_M_series_2 ?_
  refine lv_if_eq hx hb d_M_series_5 (tgt := 12) rfl (fun h9 => absurd h9 (by rw [ho]; decide)) (fun _ => ?_)
  refine lv_iconst (v := 0) hx hb d_M_series_8 (by decide) ?_
  refine lv_goto hx hb d_M_series_9 (tgt := 13) rfl ?_
  refine pF (v := .int 0) hx hb hown hE hK hP hD hS 0 rfl rfl layM tyM tokM nmM 0 (by decide) w319 rfl rfl rfl (Nat.le_of_ble_eq_true rfl) d_M_series_13 (fun H locs hP hD hS => ?_)
  have hP : va_P D vwCl (MW dA h ad (MS.s_cod x 0)) H := hP
  have hD : va_D A (MW dA h ad (MS.s_cod x 0)) := hD
  refine lv_aload_n hx hb d_M_series_16 rfl (lv_at hl 0 rfl) ?_
  refine gF (v := .int 0) hx hb hown hE hK hP 0 rfl rfl layM 0 (by decide) w319 rfl d_M_series_17 ?_
  refine lv_if_le hx hb d_M_series_20 (tgt := 25) rfl (fun _ => ?_) (fun h9 => absurd (by decide) h9)
  refine lv_aload_n hx hb d_M_series_25 rfl (lv_at hl 0 rfl) ?_
  refine gF (v := .int x.faultCode) hx hb hown hE hK hP 0 rfl rfl layM 3 (by decide) w321 rfl d_M_series_26 ?_
  refine lv_istore_n hx hb d_M_series_29 rfl hl (by decide) rfl (fun ls hl => ?_)
  have hl : lv_has ls 5 [(1, .int x.faultCode), (0, .ref h)] := hl
  refine lv_aload_n hx hb d_M_series_30 rfl (lv_at hl 1 rfl) ?_
  refine gF (v := .int x.faultPlace) hx hb hown hE hK hP 0 rfl rfl layM 4 (by decide) w322 rfl d_M_series_31 ?_
  refine lv_istore_n hx hb d_M_series_34 rfl hl (by decide) rfl (fun ls hl => ?_)
  have hl : lv_has ls 5 [(2, .int x.faultPlace), (1, .int x.faultCode), (0, .ref h)] := hl
  refine lv_aload_n hx hb d_M_series_35 rfl (lv_at hl 2 rfl) ?_
  refine lv_iconst (v := 0) hx hb d_M_series_36 (by decide) ?_
  refine pF (v := .int 0) hx hb hown hE hK hP hD hS 0 rfl rfl layM tyM tokM nmM 3 (by decide) w321 rfl rfl rfl (Nat.le_of_ble_eq_true rfl) d_M_series_37 (fun H locs hP hD hS => ?_)
  have hP : va_P D vwCl (MW dA h ad (MS.s_faultCode (MS.s_cod x 0) 0)) H := hP
  have hD : va_D A (MW dA h ad (MS.s_faultCode (MS.s_cod x 0) 0)) := hD
  refine lv_aload_n hx hb d_M_series_40 rfl (lv_at hl 2 rfl) ?_
  refine lv_iconst (v := 0) hx hb d_M_series_41 (by decide) ?_
  refine pF (v := .int 0) hx hb hown hE hK hP hD hS 0 rfl rfl layM tyM tokM nmM 4 (by decide) w322 rfl rfl rfl (Nat.le_of_ble_eq_true rfl) d_M_series_42 (fun H locs hP hD hS => ?_)
  have hP : va_P D vwCl (MW dA h ad (MS.s_faultPlace (MS.s_faultCode (MS.s_cod x 0) 0) 0)) H := hP
  have hD : va_D A (MW dA h ad (MS.s_faultPlace (MS.s_faultCode (MS.s_cod x 0) 0) 0)) := hD
  refine lv_aload_n hx hb d_M_series_45 rfl (lv_at hl 2 rfl) ?_
  refine jfI (rnV (As := []) (rest := []) hx hb hml hown hE hK (hN _ _ hS) hP hD (k_readLabels_x l D dA H.size h ad (MS.s_faultPlace (MS.s_faultCode (MS.s_cod x 0) 0) 0) kf pf (show x.length ≤ 65536 from by omega) rfl hrd) (q0 := 0) rfl rfl w435 w434 w436 w437 w328 rfl rfl ⟨⟨by decide, by decide⟩, rfl⟩ ⟨(Nat.le_of_ble_eq_true rfl), (Nat.le_of_ble_eq_true rfl)⟩ rfl hl.1 rfl (Nat.le_of_ble_eq_true rfl) d_M_series_46 ⟨(Nat.le_of_ble_eq_true rfl), (Nat.le_of_ble_eq_true rfl)⟩) hP hD hS hA (fun r1 u2 H locs hp9 hP hD hS => ?_)
  obtain ⟨y3, h9u⟩ : ∃ z9, z9 = u2 := ⟨_, rfl⟩
  subst h9u
  have hP : va_P D vwCl (MW dA h ad y3) H := hP
  have hD : va_D A (MW dA h ad y3) := hD
  obtain ⟨hp9, f_e_4⟩ := hp9
  replace hp9 : bI false = r1 := Eq.symm hp9
  subst hp9
  refine lv_if_ne hx hb d_M_series_49 (tgt := 59) rfl (fun h9 => absurd (by decide) h9) (fun _ => ?_)
  refine lv_aload_n hx hb d_M_series_52 rfl (lv_at hl 2 rfl) ?_
  refine lv_iconst (v := 0) hx hb d_M_series_53 (by decide) ?_
  refine pF (v := .int (nI 0)) hx hb hown hE hK hP hD hS 0 rfl rfl layM tyM tokM nmM 2 (by decide) w320 rfl rfl rfl (Nat.le_of_ble_eq_true rfl) d_M_series_54 (fun H locs hP hD hS => ?_)
  have hP : va_P D vwCl (MW dA h ad (MS.s_length y3 0)) H := hP
  have hD : va_D A (MW dA h ad (MS.s_length y3 0)) := hD
  refine lv_iconst (v := (-1)) hx hb d_M_series_57 (by decide) ?_
  exact rfI hx hb hr hlk hS (MS.s_length y3 0) ⟨rfl, by obtain ⟨a1, a2, h9⟩ := f_e_4; exact ⟨a1, a2, by rw [h9]⟩⟩ hP hD (Nat.le_of_ble_eq_true rfl) (Nat.le_of_ble_eq_true rfl) d_M_series_58
theorem d_M_series_64 : decode prog_14_method_29_code 64 = .ok (.aload_n 0, 1) := by decide +kernel
theorem d_M_series_65 : decode prog_14_method_29_code 65 = .ok (.iload_n 3, 1) := by decide +kernel
theorem d_M_series_66 : decode prog_14_method_29_code 66 = .ok (.invokevirtual 241, 3) := by decide +kernel
theorem d_M_series_69 : decode prog_14_method_29_code 69 = .ok (.istore 4, 2) := by decide +kernel
theorem d_M_series_71 : decode prog_14_method_29_code 71 = .ok (.iload 4, 2) := by decide +kernel
theorem d_M_series_73 : decode prog_14_method_29_code 73 = .ok (.iconst (-1), 1) := by decide +kernel
theorem d_M_series_74 : decode prog_14_method_29_code 74 = .ok (.if_icmp .ne 41, 3) := by decide +kernel
theorem d_M_series_115 : decode prog_14_method_29_code 115 = .ok (.iload 4, 2) := by decide +kernel
theorem d_M_series_117 : decode prog_14_method_29_code 117 = .ok (.iconst (-1), 1) := by decide +kernel
theorem d_M_series_118 : decode prog_14_method_29_code 118 = .ok (.if_icmp .ne 50, 3) := by decide +kernel
theorem d_M_series_168 : decode prog_14_method_29_code 168 = .ok (.aload_n 0, 1) := by decide +kernel
theorem d_M_series_169 : decode prog_14_method_29_code 169 = .ok (.iconst 0, 1) := by decide +kernel
theorem d_M_series_170 : decode prog_14_method_29_code 170 = .ok (.putfield 148, 3) := by decide +kernel
theorem d_M_series_173 : decode prog_14_method_29_code 173 = .ok (.iload 4, 2) := by decide +kernel
theorem d_M_series_175 : decode prog_14_method_29_code 175 = .ok (.ireturn, 1) := by decide +kernel
theorem d_M_series_59 : decode prog_14_method_29_code 59 = .ok (.aload_n 0, 1) := by decide +kernel
theorem d_M_series_60 : decode prog_14_method_29_code 60 = .ok (.invokevirtual 237, 3) := by decide +kernel
theorem d_M_series_63 : decode prog_14_method_29_code 63 = .ok (.istore_n 3, 1) := by decide +kernel
theorem w942 : Cond.methodLink "SeriesVaultModel" 241 ⟨"SeriesVaultModel", "find", "(I)I"⟩ ∈ aW := aw_of (tb_9 (List.mem_of_getElem? (i := 219) rfl)) rfl
theorem w943 : Cond.code ⟨"SeriesVaultModel", "find", "(I)I"⟩ prog_14_method_26_code 5 (some FieldType.int) ∈ aW := aw_of (tb_9 (List.mem_of_getElem? (i := 222) rfl)) rfl
theorem w944 : Cond.instanceMethod ⟨"SeriesVaultModel", "find", "(I)I"⟩ ∈ aW := aw_of (tb_9 (List.mem_of_getElem? (i := 221) rfl)) rfl
theorem w945 : Cond.selects "SeriesVaultModel" ⟨"SeriesVaultModel", "find", "(I)I"⟩ ⟨"SeriesVaultModel", "find", "(I)I"⟩ ∈ aW := aw_pr (List.mem_map.mpr ⟨_, pv_5 (List.mem_of_getElem? (i := 8) rfl), rfl⟩) rfl
theorem w946 : Cond.methodLink "SeriesVaultModel" 237 ⟨"SeriesVaultModel", "layText", "()I"⟩ ∈ aW := aw_of (tb_9 (List.mem_of_getElem? (i := 215) rfl)) rfl
theorem w947 : Cond.code ⟨"SeriesVaultModel", "layText", "()I"⟩ prog_14_method_25_code 8 (some FieldType.int) ∈ aW := aw_of (tb_9 (List.mem_of_getElem? (i := 218) rfl)) rfl
theorem w948 : Cond.instanceMethod ⟨"SeriesVaultModel", "layText", "()I"⟩ ∈ aW := aw_of (tb_9 (List.mem_of_getElem? (i := 217) rfl)) rfl
theorem w949 : Cond.selects "SeriesVaultModel" ⟨"SeriesVaultModel", "layText", "()I"⟩ ⟨"SeriesVaultModel", "layText", "()I"⟩ ∈ aW := aw_pr (List.mem_map.mpr ⟨_, pv_5 (List.mem_of_getElem? (i := 7) rfl), rfl⟩) rfl
set_option maxHeartbeats 4000000 in
set_option maxRecDepth 100000 in
theorem k_series_f (l : Launch) (D : va_G) (dA : Nat → ClassId) (sz : Nat) (h : Nat) (ad : Nat → Nat) (x : MS) (c7 : Nat) (g7 : Nat → Nat) (n : Nat) (w : Nat) (ho : x.on = true) (hl1 : x.length ≤ 65536) (hrd : rdM x.tape x.length 7 0 0 x.labels = .inr (c7, g7)) (h1 : x.seriesCount ≤ 256) (hc6 : c7 ≤ 6) (hlb : labOk g7 x.length c7) (hby : byteF x.tape) (hn : ((x.rdS c7 g7).layT c7).2 = n) (hn3 : n ≤ 304) (ht : ∀ q : Nat, q < x.seriesCount → x.textLengths q ≤ 304) (hfd : ((x.rdS c7 g7).lyS).fnd n = nI w) (hw : w < 256) : Met l ⟨"SeriesVaultModel", "series", "()I"⟩ [Cond.code ⟨"SeriesVaultModel", "series", "()I"⟩ prog_14_method_29_code 5 (some FieldType.int)] { frames := 4, cells := 0, slots := 0, locals := 67 } (pC D dA [.ref h] (MW dA h ad x) sz) (va_Qi (fun (r9 : Int32) (u9 : MS) => r9 = nI w ∧ u9 = ((x.rdS c7 g7).lyS).s_length 0) (fun (u9 : MS) t9 => bW D (va_A (MW dA h ad x) sz) (MW dA h ad u9) t9) (va_A (MW dA h ad x) sz)) 0 0 (va_A (MW dA h ad x) sz) := by
  refine mkC (y := ⟨"SeriesVaultModel", "series", "()I"⟩) (cc := prog_14_method_29_code) (maxL := 5) (av := [.ref h]) (ws := MW dA h ad x) (sz := sz) (Qc := fun A => va_Qi (fun (r9 : Int32) (u9 : MS) => r9 = nI w ∧ u9 = ((x.rdS c7 g7).lyS).s_length 0) (fun (u9 : MS) t9 => bW D A (MW dA h ad u9) t9) A) (by decide) (Nat.le_of_ble_eq_true rfl) ?_
  intro A p e s m below meth c ls hsz hB
  obtain ⟨hx, hb, hr, hml, hown, hin, hlk, hE, hK, hP, hD, hS, hA, hN, hl⟩ := hB
  have hown : s.vm.findClass "SeriesVaultModel" = some m.cls := hown
  have hl : lv_has ls 5 [(0, .ref h)] := hl
  obtain ⟨H, hH⟩ : ∃ z, z = s.heap := ⟨_, rfl⟩
  have hP : va_P D vwCl (MW dA h ad x) H := by rw [hH]; exact hP
  have hS : va_S A s.heap H [] := by rw [hH]; exact hS
  rw [← hH]
  refine lv_aload_n hx hb d_M_series_0 rfl (lv_at hl 0 rfl) ?_
  refine lv_aload_n hx hb d_M_series_1 rfl (lv_at hl 0 rfl) ?_
  refine gF (v := .int (bI x.on)) hx hb hown hE hK hP 0 rfl rfl layM 7 (by decide) w324 rfl d_M_series_2 ?_
  refine lv_if_eq hx hb d_M_series_5 (tgt := 12) rfl (fun h9 => absurd h9 (by rw [ho]; decide)) (fun _ => ?_)
  refine lv_iconst (v := 0) hx hb d_M_series_8 (by decide) ?_
  refine lv_goto hx hb d_M_series_9 (tgt := 13) rfl ?_
  refine pF (v := .int 0) hx hb hown hE hK hP hD hS 0 rfl rfl layM tyM tokM nmM 0 (by decide) w319 rfl rfl rfl (Nat.le_of_ble_eq_true rfl) d_M_series_13 (fun H locs hP hD hS => ?_)
  have hP : va_P D vwCl (MW dA h ad (MS.s_cod x 0)) H := hP
  have hD : va_D A (MW dA h ad (MS.s_cod x 0)) := hD
  refine lv_aload_n hx hb d_M_series_16 rfl (lv_at hl 0 rfl) ?_
  refine gF (v := .int 0) hx hb hown hE hK hP 0 rfl rfl layM 0 (by decide) w319 rfl d_M_series_17 ?_
  refine lv_if_le hx hb d_M_series_20 (tgt := 25) rfl (fun _ => ?_) (fun h9 => absurd (by decide) h9)
  refine lv_aload_n hx hb d_M_series_25 rfl (lv_at hl 0 rfl) ?_
  refine gF (v := .int x.faultCode) hx hb hown hE hK hP 0 rfl rfl layM 3 (by decide) w321 rfl d_M_series_26 ?_
  refine lv_istore_n hx hb d_M_series_29 rfl hl (by decide) rfl (fun ls hl => ?_)
  have hl : lv_has ls 5 [(1, .int x.faultCode), (0, .ref h)] := hl
  refine lv_aload_n hx hb d_M_series_30 rfl (lv_at hl 1 rfl) ?_
  refine gF (v := .int x.faultPlace) hx hb hown hE hK hP 0 rfl rfl layM 4 (by decide) w322 rfl d_M_series_31 ?_
  refine lv_istore_n hx hb d_M_series_34 rfl hl (by decide) rfl (fun ls hl => ?_)
  have hl : lv_has ls 5 [(2, .int x.faultPlace), (1, .int x.faultCode), (0, .ref h)] := hl
  refine lv_aload_n hx hb d_M_series_35 rfl (lv_at hl 2 rfl) ?_
  refine lv_iconst (v := 0) hx hb d_M_series_36 (by decide) ?_
  refine pF (v := .int 0) hx hb hown hE hK hP hD hS 0 rfl rfl layM tyM tokM nmM 3 (by decide) w321 rfl rfl rfl (Nat.le_of_ble_eq_true rfl) d_M_series_37 (fun H locs hP hD hS => ?_)
  have hP : va_P D vwCl (MW dA h ad (MS.s_faultCode (MS.s_cod x 0) 0)) H := hP
  have hD : va_D A (MW dA h ad (MS.s_faultCode (MS.s_cod x 0) 0)) := hD
  refine lv_aload_n hx hb d_M_series_40 rfl (lv_at hl 2 rfl) ?_
  refine lv_iconst (v := 0) hx hb d_M_series_41 (by decide) ?_
  refine pF (v := .int 0) hx hb hown hE hK hP hD hS 0 rfl rfl layM tyM tokM nmM 4 (by decide) w322 rfl rfl rfl (Nat.le_of_ble_eq_true rfl) d_M_series_42 (fun H locs hP hD hS => ?_)
  have hP : va_P D vwCl (MW dA h ad (MS.s_faultPlace (MS.s_faultCode (MS.s_cod x 0) 0) 0)) H := hP
  have hD : va_D A (MW dA h ad (MS.s_faultPlace (MS.s_faultCode (MS.s_cod x 0) 0) 0)) := hD
  have J59 : ∀ (z : MS) (ez : z = x.rdS c7 g7), ∀ (H : Heap) (locs : List Loc) (ls : Array Slot) (hP : va_P D vwCl (MW dA h ad z) H) (hD : va_D A (MW dA h ad z)) (hS : va_S A s.heap H locs) (hl : lv_has ls 5 [(2, .int x.faultPlace), (1, .int x.faultCode), (0, .ref h)]), W p l e ({ frames := 4, cells := 0, slots := 0, locals := 67 } : Room) s m ([.ref h] : List Value).toArray below meth c H locs 0 0 (MQ below (va_Qi (fun (r9 : Int32) (u9 : MS) => r9 = nI w ∧ u9 = ((x.rdS c7 g7).lyS).s_length 0) (fun (u9 : MS) t9 => bW D A (MW dA h ad u9) t9) A) ([.ref h] : List Value).toArray s 0 0 A) (F0 m 59 ls []) := by
    intro z ez H locs ls hP hD hS hl
    have J64 : ∀ (r : MS) (er : r = (x.rdS c7 g7).lyS) (r1 : r.seriesCount = x.seriesCount) (r2 : r.textLengths = x.textLengths) (r3 : r.used = x.used) (r4 : r.block = x.block) (r5 : r.journal = x.journal) (r6 : r.records = x.records) (r7 : r.fresh = x.fresh) (r8 : r.cutLeft = x.cutLeft), ∀ (H : Heap) (locs : List Loc) (ls : Array Slot) (hP : va_P D vwCl (MW dA h ad r) H) (hD : va_D A (MW dA h ad r)) (hS : va_S A s.heap H locs) (hl : lv_has ls 5 [(3, .int (nI n)), (2, .int x.faultPlace), (1, .int x.faultCode), (0, .ref h)]), W p l e ({ frames := 4, cells := 0, slots := 0, locals := 67 } : Room) s m ([.ref h] : List Value).toArray below meth c H locs 0 0 (MQ below (va_Qi (fun (r9 : Int32) (u9 : MS) => r9 = nI w ∧ u9 = ((x.rdS c7 g7).lyS).s_length 0) (fun (u9 : MS) t9 => bW D A (MW dA h ad u9) t9) A) ([.ref h] : List Value).toArray s 0 0 A) (F0 m 64 ls []) := by
      intro r er r1 r2 r3 r4 r5 r6 r7 r8 H locs ls hP hD hS hl
      refine lv_aload_n hx hb d_M_series_64 rfl (lv_at hl 3 rfl) ?_
      refine lv_iload_n hx hb d_M_series_65 rfl (lv_at hl 0 rfl) ?_
      refine jfI (rnV (As := [.int (nI n)]) (rest := []) hx hb hml hown hE hK (hN _ _ hS) hP hD (k_find l D dA H.size h ad r n (show r.seriesCount ≤ 256 from by omega) (show n ≤ 304 from by omega) (by rw [r1, r2]; exact ht)) (q0 := 0) rfl rfl w943 w942 w944 w945 w328 rfl rfl ⟨⟨by decide, by decide⟩, rfl⟩ ⟨(Nat.le_of_ble_eq_true rfl), (Nat.le_of_ble_eq_true rfl)⟩ rfl hl.1 rfl (Nat.le_of_ble_eq_true rfl) d_M_series_66 ⟨(Nat.le_of_ble_eq_true rfl), (Nat.le_of_ble_eq_true rfl)⟩) hP hD hS hA (fun r1 u2 H locs hp9 hP hD hS => ?_)
      have hP : va_P D vwCl (MW dA h ad r) H := hP
      have hD : va_D A (MW dA h ad r) := hD
      replace hp9 : r.fnd n = r1 := Eq.symm hp9
      subst hp9
      refine tpi (y := nI w) (by rw [er]; exact hfd) ?_
      refine lv_istore hx hb d_M_series_69 hl (by decide) rfl (fun ls hl => ?_)
      have hl : lv_has ls 5 [(4, .int (nI w)), (3, .int (nI n)), (2, .int x.faultPlace), (1, .int x.faultCode), (0, .ref h)] := hl
      refine lv_iload hx hb d_M_series_71 (lv_at hl 0 rfl) ?_
      refine lv_iconst (v := (-1)) hx hb d_M_series_73 (by decide) ?_
      refine lv_icmp_ne hx hb d_M_series_74 (tgt := 115) rfl (fun _ => ?_) (fun h9 => absurd h9 (nI_nm (by omega)))
      refine lv_iload hx hb d_M_series_115 (lv_at hl 0 rfl) ?_
      refine lv_iconst (v := (-1)) hx hb d_M_series_117 (by decide) ?_
      refine lv_icmp_ne hx hb d_M_series_118 (tgt := 168) rfl (fun _ => ?_) (fun h9 => absurd h9 (nI_nm (by omega)))
      refine lv_aload_n hx hb d_M_series_168 rfl (lv_at hl 4 rfl) ?_
      refine lv_iconst (v := 0) hx hb d_M_series_169 (by decide) ?_
      refine pF (v := .int (nI 0)) hx hb hown hE hK hP hD hS 0 rfl rfl layM tyM tokM nmM 2 (by decide) w320 rfl rfl rfl (Nat.le_of_ble_eq_true rfl) d_M_series_170 (fun H locs hP hD hS => ?_)
      have hP : va_P D vwCl (MW dA h ad (MS.s_length r 0)) H := hP
      have hD : va_D A (MW dA h ad (MS.s_length r 0)) := hD
      refine lv_iload hx hb d_M_series_173 (lv_at hl 0 rfl) ?_
      exact rfI hx hb hr hlk hS (MS.s_length r 0) ⟨rfl, by rw [er]⟩ hP hD (Nat.le_of_ble_eq_true rfl) (Nat.le_of_ble_eq_true rfl) d_M_series_175
    refine lv_aload_n hx hb d_M_series_59 rfl (lv_at hl 2 rfl) ?_
    refine jfI (rnV (As := []) (rest := []) hx hb hml hown hE hK (hN _ _ hS) hP hD (k_layText l D dA H.size h ad z (by rw [ez]; exact h1) (by rw [ez]; exact hc6) (by rw [ez]; exact hlb) (by rw [ez]; exact hl1) (by rw [ez]; exact hby)) (q0 := 0) rfl rfl w947 w946 w948 w949 w328 rfl rfl ⟨⟨by decide, by decide⟩, rfl⟩ ⟨(Nat.le_of_ble_eq_true rfl), (Nat.le_of_ble_eq_true rfl)⟩ rfl hl.1 rfl (Nat.le_of_ble_eq_true rfl) d_M_series_60 ⟨(Nat.le_of_ble_eq_true rfl), (Nat.le_of_ble_eq_true rfl)⟩) hP hD hS hA (fun r3 u4 H locs hp9 hP hD hS => ?_)
    have hP : va_P D vwCl (MW dA h ad (MS.s_texts z ((z.layT z.labelCount).1))) H := hP
    have hD : va_D A (MW dA h ad (MS.s_texts z ((z.layT z.labelCount).1))) := hD
    replace hp9 : nI (z.layT z.labelCount).2 = r3 := Eq.symm hp9
    subst hp9
    refine tpi (y := nI n) (congrArg nI (by rw [ez]; exact hn)) ?_
    refine lv_istore_n hx hb d_M_series_63 rfl hl (by decide) rfl (fun ls hl => ?_)
    have hl : lv_has ls 5 [(3, .int (nI n)), (2, .int x.faultPlace), (1, .int x.faultCode), (0, .ref h)] := hl
    exact J64 (MS.s_texts z ((z.layT z.labelCount).1)) (by rw [ez]; rfl) (by rw [ez]; rfl) (by rw [ez]; rfl) (by rw [ez]; rfl) (by rw [ez]; rfl) (by rw [ez]; rfl) (by rw [ez]; rfl) (by rw [ez]; rfl) (by rw [ez]; rfl) H _ ls hP hD hS (lv_sub hl [0, 1, 2, 3] rfl)
  refine lv_aload_n hx hb d_M_series_45 rfl (lv_at hl 2 rfl) ?_
  refine jfI (rnV (As := []) (rest := []) hx hb hml hown hE hK (hN _ _ hS) hP hD (k_readLabels_0 l D dA H.size h ad (MS.s_faultPlace (MS.s_faultCode (MS.s_cod x 0) 0) 0) c7 g7 (show x.length ≤ 65536 from by omega) rfl hrd) (q0 := 0) rfl rfl w435 w434 w436 w437 w328 rfl rfl ⟨⟨by decide, by decide⟩, rfl⟩ ⟨(Nat.le_of_ble_eq_true rfl), (Nat.le_of_ble_eq_true rfl)⟩ rfl hl.1 rfl (Nat.le_of_ble_eq_true rfl) d_M_series_46 ⟨(Nat.le_of_ble_eq_true rfl), (Nat.le_of_ble_eq_true rfl)⟩) hP hD hS hA (fun r5 u6 H locs hp9 hP hD hS => ?_)
  obtain ⟨y7, h9u⟩ : ∃ z9, z9 = u6 := ⟨_, rfl⟩
  subst h9u
  have hP : va_P D vwCl (MW dA h ad y7) H := hP
  have hD : va_D A (MW dA h ad y7) := hD
  obtain ⟨hp9, f_e_8⟩ := hp9
  replace hp9 : bI true = r5 := Eq.symm hp9
  subst hp9
  refine lv_if_ne hx hb d_M_series_49 (tgt := 59) rfl (fun _ => ?_) (fun h9 => absurd h9 (by decide))
  exact J59 y7 f_e_8 H _ ls hP hD hS (lv_sub hl [0, 1, 2] rfl)
theorem d_M_series_77 : decode prog_14_method_29_code 77 = .ok (.aload_n 0, 1) := by decide +kernel
theorem d_M_series_78 : decode prog_14_method_29_code 78 = .ok (.getfield 160, 3) := by decide +kernel
theorem d_M_series_81 : decode prog_14_method_29_code 81 = .ok (.sipush 256, 3) := by decide +kernel
theorem d_M_series_84 : decode prog_14_method_29_code 84 = .ok (.if_icmp .eq 14, 3) := by decide +kernel
theorem d_M_series_98 : decode prog_14_method_29_code 98 = .ok (.aload_n 0, 1) := by decide +kernel
theorem d_M_series_99 : decode prog_14_method_29_code 99 = .ok (.iconst 2, 1) := by decide +kernel
theorem d_M_series_100 : decode prog_14_method_29_code 100 = .ok (.putfield 145, 3) := by decide +kernel
theorem d_M_series_103 : decode prog_14_method_29_code 103 = .ok (.aload_n 0, 1) := by decide +kernel
theorem d_M_series_104 : decode prog_14_method_29_code 104 = .ok (.iload_n 1, 1) := by decide +kernel
theorem d_M_series_105 : decode prog_14_method_29_code 105 = .ok (.putfield 151, 3) := by decide +kernel
theorem d_M_series_108 : decode prog_14_method_29_code 108 = .ok (.aload_n 0, 1) := by decide +kernel
theorem d_M_series_109 : decode prog_14_method_29_code 109 = .ok (.iload_n 2, 1) := by decide +kernel
theorem d_M_series_110 : decode prog_14_method_29_code 110 = .ok (.putfield 154, 3) := by decide +kernel
theorem d_M_series_113 : decode prog_14_method_29_code 113 = .ok (.iconst 0, 1) := by decide +kernel
theorem d_M_series_114 : decode prog_14_method_29_code 114 = .ok (.ireturn, 1) := by decide +kernel
theorem d_M_series_87 : decode prog_14_method_29_code 87 = .ok (.aload_n 0, 1) := by decide +kernel
theorem d_M_series_88 : decode prog_14_method_29_code 88 = .ok (.iload_n 3, 1) := by decide +kernel
theorem d_M_series_89 : decode prog_14_method_29_code 89 = .ok (.invokestatic 244, 3) := by decide +kernel
theorem d_M_series_92 : decode prog_14_method_29_code 92 = .ok (.invokevirtual 247, 3) := by decide +kernel
theorem d_M_series_95 : decode prog_14_method_29_code 95 = .ok (.ifCond .ne 20, 3) := by decide +kernel
set_option maxHeartbeats 4000000 in
set_option maxRecDepth 100000 in
theorem k_series_2 (l : Launch) (D : va_G) (dA : Nat → ClassId) (sz : Nat) (h : Nat) (ad : Nat → Nat) (x : MS) (c7 : Nat) (g7 : Nat → Nat) (n : Nat) (ho : x.on = true) (hl1 : x.length ≤ 65536) (hrd : rdM x.tape x.length 7 0 0 x.labels = .inr (c7, g7)) (h1 : x.seriesCount ≤ 256) (hc6 : c7 ≤ 6) (hlb : labOk g7 x.length c7) (hby : byteF x.tape) (hn : ((x.rdS c7 g7).layT c7).2 = n) (hn3 : n ≤ 304) (ht : ∀ q : Nat, q < x.seriesCount → x.textLengths q ≤ 304) (hfd : ((x.rdS c7 g7).lyS).fnd n = -1) (u1 : x.used ≤ 126) (u2 : x.block < 2 ^ 20) (u3 : x.journal ≤ 256) (h0 : x.seriesCount = 256 ∨ x.room (1 + (n + 31) / 32) = false) : Met l ⟨"SeriesVaultModel", "series", "()I"⟩ [Cond.code ⟨"SeriesVaultModel", "series", "()I"⟩ prog_14_method_29_code 5 (some FieldType.int)] { frames := 4, cells := 0, slots := 0, locals := 67 } (pC D dA [.ref h] (MW dA h ad x) sz) (va_Qi (fun (r9 : Int32) (u9 : MS) => r9 = 0 ∧ u9 = ((((x.rdS c7 g7).lyS).s_cod 2).s_faultCode x.faultCode).s_faultPlace x.faultPlace) (fun (u9 : MS) t9 => bW D (va_A (MW dA h ad x) sz) (MW dA h ad u9) t9) (va_A (MW dA h ad x) sz)) 0 0 (va_A (MW dA h ad x) sz) := by
  refine mkC (y := ⟨"SeriesVaultModel", "series", "()I"⟩) (cc := prog_14_method_29_code) (maxL := 5) (av := [.ref h]) (ws := MW dA h ad x) (sz := sz) (Qc := fun A => va_Qi (fun (r9 : Int32) (u9 : MS) => r9 = 0 ∧ u9 = ((((x.rdS c7 g7).lyS).s_cod 2).s_faultCode x.faultCode).s_faultPlace x.faultPlace) (fun (u9 : MS) t9 => bW D A (MW dA h ad u9) t9) A) (by decide) (Nat.le_of_ble_eq_true rfl) ?_
  intro A p e s m below meth c ls hsz hB
  obtain ⟨hx, hb, hr, hml, hown, hin, hlk, hE, hK, hP, hD, hS, hA, hN, hl⟩ := hB
  have hown : s.vm.findClass "SeriesVaultModel" = some m.cls := hown
  have hl : lv_has ls 5 [(0, .ref h)] := hl
  obtain ⟨H, hH⟩ : ∃ z, z = s.heap := ⟨_, rfl⟩
  have hP : va_P D vwCl (MW dA h ad x) H := by rw [hH]; exact hP
  have hS : va_S A s.heap H [] := by rw [hH]; exact hS
  rw [← hH]
  refine lv_aload_n hx hb d_M_series_0 rfl (lv_at hl 0 rfl) ?_
  refine lv_aload_n hx hb d_M_series_1 rfl (lv_at hl 0 rfl) ?_
  refine gF (v := .int (bI x.on)) hx hb hown hE hK hP 0 rfl rfl layM 7 (by decide) w324 rfl d_M_series_2 ?_
  refine lv_if_eq hx hb d_M_series_5 (tgt := 12) rfl (fun h9 => absurd h9 (by rw [ho]; decide)) (fun _ => ?_)
  refine lv_iconst (v := 0) hx hb d_M_series_8 (by decide) ?_
  refine lv_goto hx hb d_M_series_9 (tgt := 13) rfl ?_
  refine pF (v := .int 0) hx hb hown hE hK hP hD hS 0 rfl rfl layM tyM tokM nmM 0 (by decide) w319 rfl rfl rfl (Nat.le_of_ble_eq_true rfl) d_M_series_13 (fun H locs hP hD hS => ?_)
  have hP : va_P D vwCl (MW dA h ad (MS.s_cod x 0)) H := hP
  have hD : va_D A (MW dA h ad (MS.s_cod x 0)) := hD
  refine lv_aload_n hx hb d_M_series_16 rfl (lv_at hl 0 rfl) ?_
  refine gF (v := .int 0) hx hb hown hE hK hP 0 rfl rfl layM 0 (by decide) w319 rfl d_M_series_17 ?_
  refine lv_if_le hx hb d_M_series_20 (tgt := 25) rfl (fun _ => ?_) (fun h9 => absurd (by decide) h9)
  refine lv_aload_n hx hb d_M_series_25 rfl (lv_at hl 0 rfl) ?_
  refine gF (v := .int x.faultCode) hx hb hown hE hK hP 0 rfl rfl layM 3 (by decide) w321 rfl d_M_series_26 ?_
  refine lv_istore_n hx hb d_M_series_29 rfl hl (by decide) rfl (fun ls hl => ?_)
  have hl : lv_has ls 5 [(1, .int x.faultCode), (0, .ref h)] := hl
  refine lv_aload_n hx hb d_M_series_30 rfl (lv_at hl 1 rfl) ?_
  refine gF (v := .int x.faultPlace) hx hb hown hE hK hP 0 rfl rfl layM 4 (by decide) w322 rfl d_M_series_31 ?_
  refine lv_istore_n hx hb d_M_series_34 rfl hl (by decide) rfl (fun ls hl => ?_)
  have hl : lv_has ls 5 [(2, .int x.faultPlace), (1, .int x.faultCode), (0, .ref h)] := hl
  refine lv_aload_n hx hb d_M_series_35 rfl (lv_at hl 2 rfl) ?_
  refine lv_iconst (v := 0) hx hb d_M_series_36 (by decide) ?_
  refine pF (v := .int 0) hx hb hown hE hK hP hD hS 0 rfl rfl layM tyM tokM nmM 3 (by decide) w321 rfl rfl rfl (Nat.le_of_ble_eq_true rfl) d_M_series_37 (fun H locs hP hD hS => ?_)
  have hP : va_P D vwCl (MW dA h ad (MS.s_faultCode (MS.s_cod x 0) 0)) H := hP
  have hD : va_D A (MW dA h ad (MS.s_faultCode (MS.s_cod x 0) 0)) := hD
  refine lv_aload_n hx hb d_M_series_40 rfl (lv_at hl 2 rfl) ?_
  refine lv_iconst (v := 0) hx hb d_M_series_41 (by decide) ?_
  refine pF (v := .int 0) hx hb hown hE hK hP hD hS 0 rfl rfl layM tyM tokM nmM 4 (by decide) w322 rfl rfl rfl (Nat.le_of_ble_eq_true rfl) d_M_series_42 (fun H locs hP hD hS => ?_)
  have hP : va_P D vwCl (MW dA h ad (MS.s_faultPlace (MS.s_faultCode (MS.s_cod x 0) 0) 0)) H := hP
  have hD : va_D A (MW dA h ad (MS.s_faultPlace (MS.s_faultCode (MS.s_cod x 0) 0) 0)) := hD
  have J59 : ∀ (z : MS) (ez : z = x.rdS c7 g7), ∀ (H : Heap) (locs : List Loc) (ls : Array Slot) (hP : va_P D vwCl (MW dA h ad z) H) (hD : va_D A (MW dA h ad z)) (hS : va_S A s.heap H locs) (hl : lv_has ls 5 [(2, .int x.faultPlace), (1, .int x.faultCode), (0, .ref h)]), W p l e ({ frames := 4, cells := 0, slots := 0, locals := 67 } : Room) s m ([.ref h] : List Value).toArray below meth c H locs 0 0 (MQ below (va_Qi (fun (r9 : Int32) (u9 : MS) => r9 = 0 ∧ u9 = ((((x.rdS c7 g7).lyS).s_cod 2).s_faultCode x.faultCode).s_faultPlace x.faultPlace) (fun (u9 : MS) t9 => bW D A (MW dA h ad u9) t9) A) ([.ref h] : List Value).toArray s 0 0 A) (F0 m 59 ls []) := by
    intro z ez H locs ls hP hD hS hl
    have J64 : ∀ (r : MS) (er : r = (x.rdS c7 g7).lyS) (r1 : r.seriesCount = x.seriesCount) (r2 : r.textLengths = x.textLengths) (r3 : r.used = x.used) (r4 : r.block = x.block) (r5 : r.journal = x.journal) (r6 : r.records = x.records) (r7 : r.fresh = x.fresh) (r8 : r.cutLeft = x.cutLeft), ∀ (H : Heap) (locs : List Loc) (ls : Array Slot) (hP : va_P D vwCl (MW dA h ad r) H) (hD : va_D A (MW dA h ad r)) (hS : va_S A s.heap H locs) (hl : lv_has ls 5 [(3, .int (nI n)), (2, .int x.faultPlace), (1, .int x.faultCode), (0, .ref h)]), W p l e ({ frames := 4, cells := 0, slots := 0, locals := 67 } : Room) s m ([.ref h] : List Value).toArray below meth c H locs 0 0 (MQ below (va_Qi (fun (r9 : Int32) (u9 : MS) => r9 = 0 ∧ u9 = ((((x.rdS c7 g7).lyS).s_cod 2).s_faultCode x.faultCode).s_faultPlace x.faultPlace) (fun (u9 : MS) t9 => bW D A (MW dA h ad u9) t9) A) ([.ref h] : List Value).toArray s 0 0 A) (F0 m 64 ls []) := by
      intro r er r1 r2 r3 r4 r5 r6 r7 r8 H locs ls hP hD hS hl
      refine lv_aload_n hx hb d_M_series_64 rfl (lv_at hl 3 rfl) ?_
      refine lv_iload_n hx hb d_M_series_65 rfl (lv_at hl 0 rfl) ?_
      refine jfI (rnV (As := [.int (nI n)]) (rest := []) hx hb hml hown hE hK (hN _ _ hS) hP hD (k_find l D dA H.size h ad r n (show r.seriesCount ≤ 256 from by omega) (show n ≤ 304 from by omega) (by rw [r1, r2]; exact ht)) (q0 := 0) rfl rfl w943 w942 w944 w945 w328 rfl rfl ⟨⟨by decide, by decide⟩, rfl⟩ ⟨(Nat.le_of_ble_eq_true rfl), (Nat.le_of_ble_eq_true rfl)⟩ rfl hl.1 rfl (Nat.le_of_ble_eq_true rfl) d_M_series_66 ⟨(Nat.le_of_ble_eq_true rfl), (Nat.le_of_ble_eq_true rfl)⟩) hP hD hS hA (fun r1 u2 H locs hp9 hP hD hS => ?_)
      have hP : va_P D vwCl (MW dA h ad r) H := hP
      have hD : va_D A (MW dA h ad r) := hD
      replace hp9 : r.fnd n = r1 := Eq.symm hp9
      subst hp9
      refine tpi (y := (-1)) (by rw [er]; exact hfd) ?_
      refine lv_istore hx hb d_M_series_69 hl (by decide) rfl (fun ls hl => ?_)
      have hl : lv_has ls 5 [(4, .int (-1)), (3, .int (nI n)), (2, .int x.faultPlace), (1, .int x.faultCode), (0, .ref h)] := hl
      refine lv_iload hx hb d_M_series_71 (lv_at hl 0 rfl) ?_
      refine lv_iconst (v := (-1)) hx hb d_M_series_73 (by decide) ?_
      refine lv_icmp_ne hx hb d_M_series_74 (tgt := 115) rfl (fun h9 => absurd (by decide) h9) (fun _ => ?_)
      refine lv_aload_n hx hb d_M_series_77 rfl (lv_at hl 4 rfl) ?_
      refine gF (v := .int (nI r.seriesCount)) hx hb hown hE hK hP 0 rfl rfl layM 12 (by decide) w332 rfl d_M_series_78 ?_
      refine lv_sipush (v := 256) hx hb d_M_series_81 (by decide) ?_
      refine lv_icmp_eq hx hb d_M_series_84 (tgt := 98) rfl (fun g3 => ?_) (fun g3 => ?_)
      · have g3 := (nI_eq (a := r.seriesCount) (b := 256) (by omega) (by omega)).mp g3
        refine lv_aload_n hx hb d_M_series_98 rfl (lv_at hl 4 rfl) ?_
        refine lv_iconst (v := 2) hx hb d_M_series_99 (by decide) ?_
        refine pF (v := .int 2) hx hb hown hE hK hP hD hS 0 rfl rfl layM tyM tokM nmM 0 (by decide) w319 rfl rfl rfl (Nat.le_of_ble_eq_true rfl) d_M_series_100 (fun H locs hP hD hS => ?_)
        have hP : va_P D vwCl (MW dA h ad (MS.s_cod r 2)) H := hP
        have hD : va_D A (MW dA h ad (MS.s_cod r 2)) := hD
        refine lv_aload_n hx hb d_M_series_103 rfl (lv_at hl 4 rfl) ?_
        refine lv_iload_n hx hb d_M_series_104 rfl (lv_at hl 3 rfl) ?_
        refine pF (v := .int x.faultCode) hx hb hown hE hK hP hD hS 0 rfl rfl layM tyM tokM nmM 3 (by decide) w321 rfl rfl rfl (Nat.le_of_ble_eq_true rfl) d_M_series_105 (fun H locs hP hD hS => ?_)
        have hP : va_P D vwCl (MW dA h ad (MS.s_faultCode (MS.s_cod r 2) x.faultCode)) H := hP
        have hD : va_D A (MW dA h ad (MS.s_faultCode (MS.s_cod r 2) x.faultCode)) := hD
        refine lv_aload_n hx hb d_M_series_108 rfl (lv_at hl 4 rfl) ?_
        refine lv_iload_n hx hb d_M_series_109 rfl (lv_at hl 2 rfl) ?_
        refine pF (v := .int x.faultPlace) hx hb hown hE hK hP hD hS 0 rfl rfl layM tyM tokM nmM 4 (by decide) w322 rfl rfl rfl (Nat.le_of_ble_eq_true rfl) d_M_series_110 (fun H locs hP hD hS => ?_)
        have hP : va_P D vwCl (MW dA h ad (MS.s_faultPlace (MS.s_faultCode (MS.s_cod r 2) x.faultCode) x.faultPlace)) H := hP
        have hD : va_D A (MW dA h ad (MS.s_faultPlace (MS.s_faultCode (MS.s_cod r 2) x.faultCode) x.faultPlace)) := hD
        refine lv_iconst (v := 0) hx hb d_M_series_113 (by decide) ?_
        exact rfI hx hb hr hlk hS (MS.s_faultPlace (MS.s_faultCode (MS.s_cod r 2) x.faultCode) x.faultPlace) ⟨rfl, by rw [er] <;> rfl⟩ hP hD (Nat.le_of_ble_eq_true rfl) (Nat.le_of_ble_eq_true rfl) d_M_series_114
      · have g3 := mt (nI_eq (a := r.seriesCount) (b := 256) (by omega) (by omega)).mpr g3
        refine lv_aload_n hx hb d_M_series_87 rfl (lv_at hl 4 rfl) ?_
        refine lv_iload_n hx hb d_M_series_88 rfl (lv_at hl 1 rfl) ?_
        have hPc := hP.sub (ws' := []) [] rfl
        have hDc := hD.sub (ws' := []) [] (by decide) rfl
        refine jnI (rnS (As := [.int (nI n)]) (rest := [.ref h]) hx hb hml hown hE hK (hN _ _ hS) hPc hDc (k_unitsOf l D dA H.size n (show n ≤ 65536 from by omega)) w882 w881 w883 w328 rfl rfl ⟨⟨by decide, by decide⟩, rfl⟩ ⟨(Nat.le_of_ble_eq_true rfl), (Nat.le_of_ble_eq_true rfl)⟩ rfl hl.1 rfl (Nat.le_of_ble_eq_true rfl) d_M_series_89 ⟨(Nat.le_of_ble_eq_true rfl), (Nat.le_of_ble_eq_true rfl)⟩) hP hD hS hA [] [0, 1, 2, 3, 4, 5, 6, 7, 8, 9, 10, 11, 12, 13, 14, 15, 16, 17, 18, 19, 20, 21, 22, 23, 24, 25, 26, 27, 28, 29, 30, 31, 32, 33, 34, 35, 36, 37, 38] (wr := MW dA h ad r) rfl rfl (by decide) (by decide) (fun r4 u9 H locs hp9 hP hD hS => ?_)
        have hP : va_P D vwCl (MW dA h ad r) H := hP
        have hD : va_D A (MW dA h ad r) := hD
        replace hp9 : nI (1 + (n + 31) / 32) = r4 := Eq.symm hp9
        subst hp9
        refine jfI (rnV (As := [.int (nI (1 + (n + 31) / 32))]) (rest := []) hx hb hml hown hE hK (hN _ _ hS) hP hD (k_hasRoom l D dA H.size h ad r (1 + (n + 31) / 32) (show r.used + (1 + (n + 31) / 32) < 2 ^ 31 from by omega) (show r.block + 1 < 2 ^ 31 from by omega) (show r.journal < 2 ^ 31 from by omega)) (q0 := 0) rfl rfl w867 w866 w868 w869 w328 rfl rfl ⟨⟨by decide, by decide⟩, rfl⟩ ⟨(Nat.le_of_ble_eq_true rfl), (Nat.le_of_ble_eq_true rfl)⟩ rfl hl.1 rfl (Nat.le_of_ble_eq_true rfl) d_M_series_92 ⟨(Nat.le_of_ble_eq_true rfl), (Nat.le_of_ble_eq_true rfl)⟩) hP hD hS hA (fun r6 u7 H locs hp9 hP hD hS => ?_)
        have hP : va_P D vwCl (MW dA h ad r) H := hP
        have hD : va_D A (MW dA h ad r) := hD
        replace hp9 : bI (r.room (1 + (n + 31) / 32)) = r6 := Eq.symm hp9
        subst hp9
        refine lv_if_ne hx hb d_M_series_95 (tgt := 115) rfl (fun h9 => absurd (by rw [show r.room (1 + (n + 31) / 32) = false from (by show (decide _ || decide _) = false; rw [r3, r4, r5]; exact h0.resolve_left (by omega))]; decide) h9) (fun _ => ?_)
        refine lv_aload_n hx hb d_M_series_98 rfl (lv_at hl 4 rfl) ?_
        refine lv_iconst (v := 2) hx hb d_M_series_99 (by decide) ?_
        refine pF (v := .int 2) hx hb hown hE hK hP hD hS 0 rfl rfl layM tyM tokM nmM 0 (by decide) w319 rfl rfl rfl (Nat.le_of_ble_eq_true rfl) d_M_series_100 (fun H locs hP hD hS => ?_)
        have hP : va_P D vwCl (MW dA h ad (MS.s_cod r 2)) H := hP
        have hD : va_D A (MW dA h ad (MS.s_cod r 2)) := hD
        refine lv_aload_n hx hb d_M_series_103 rfl (lv_at hl 4 rfl) ?_
        refine lv_iload_n hx hb d_M_series_104 rfl (lv_at hl 3 rfl) ?_
        refine pF (v := .int x.faultCode) hx hb hown hE hK hP hD hS 0 rfl rfl layM tyM tokM nmM 3 (by decide) w321 rfl rfl rfl (Nat.le_of_ble_eq_true rfl) d_M_series_105 (fun H locs hP hD hS => ?_)
        have hP : va_P D vwCl (MW dA h ad (MS.s_faultCode (MS.s_cod r 2) x.faultCode)) H := hP
        have hD : va_D A (MW dA h ad (MS.s_faultCode (MS.s_cod r 2) x.faultCode)) := hD
        refine lv_aload_n hx hb d_M_series_108 rfl (lv_at hl 4 rfl) ?_
        refine lv_iload_n hx hb d_M_series_109 rfl (lv_at hl 2 rfl) ?_
        refine pF (v := .int x.faultPlace) hx hb hown hE hK hP hD hS 0 rfl rfl layM tyM tokM nmM 4 (by decide) w322 rfl rfl rfl (Nat.le_of_ble_eq_true rfl) d_M_series_110 (fun H locs hP hD hS => ?_)
        have hP : va_P D vwCl (MW dA h ad (MS.s_faultPlace (MS.s_faultCode (MS.s_cod r 2) x.faultCode) x.faultPlace)) H := hP
        have hD : va_D A (MW dA h ad (MS.s_faultPlace (MS.s_faultCode (MS.s_cod r 2) x.faultCode) x.faultPlace)) := hD
        refine lv_iconst (v := 0) hx hb d_M_series_113 (by decide) ?_
        exact rfI hx hb hr hlk hS (MS.s_faultPlace (MS.s_faultCode (MS.s_cod r 2) x.faultCode) x.faultPlace) ⟨rfl, by rw [er] <;> rfl⟩ hP hD (Nat.le_of_ble_eq_true rfl) (Nat.le_of_ble_eq_true rfl) d_M_series_114
    refine lv_aload_n hx hb d_M_series_59 rfl (lv_at hl 2 rfl) ?_
    refine jfI (rnV (As := []) (rest := []) hx hb hml hown hE hK (hN _ _ hS) hP hD (k_layText l D dA H.size h ad z (by rw [ez]; exact h1) (by rw [ez]; exact hc6) (by rw [ez]; exact hlb) (by rw [ez]; exact hl1) (by rw [ez]; exact hby)) (q0 := 0) rfl rfl w947 w946 w948 w949 w328 rfl rfl ⟨⟨by decide, by decide⟩, rfl⟩ ⟨(Nat.le_of_ble_eq_true rfl), (Nat.le_of_ble_eq_true rfl)⟩ rfl hl.1 rfl (Nat.le_of_ble_eq_true rfl) d_M_series_60 ⟨(Nat.le_of_ble_eq_true rfl), (Nat.le_of_ble_eq_true rfl)⟩) hP hD hS hA (fun r8 u9 H locs hp9 hP hD hS => ?_)
    have hP : va_P D vwCl (MW dA h ad (MS.s_texts z ((z.layT z.labelCount).1))) H := hP
    have hD : va_D A (MW dA h ad (MS.s_texts z ((z.layT z.labelCount).1))) := hD
    replace hp9 : nI (z.layT z.labelCount).2 = r8 := Eq.symm hp9
    subst hp9
    refine tpi (y := nI n) (congrArg nI (by rw [ez]; exact hn)) ?_
    refine lv_istore_n hx hb d_M_series_63 rfl hl (by decide) rfl (fun ls hl => ?_)
    have hl : lv_has ls 5 [(3, .int (nI n)), (2, .int x.faultPlace), (1, .int x.faultCode), (0, .ref h)] := hl
    exact J64 (MS.s_texts z ((z.layT z.labelCount).1)) (by rw [ez]; rfl) (by rw [ez]; rfl) (by rw [ez]; rfl) (by rw [ez]; rfl) (by rw [ez]; rfl) (by rw [ez]; rfl) (by rw [ez]; rfl) (by rw [ez]; rfl) (by rw [ez]; rfl) H _ ls hP hD hS (lv_sub hl [0, 1, 2, 3] rfl)
  refine lv_aload_n hx hb d_M_series_45 rfl (lv_at hl 2 rfl) ?_
  refine jfI (rnV (As := []) (rest := []) hx hb hml hown hE hK (hN _ _ hS) hP hD (k_readLabels_0 l D dA H.size h ad (MS.s_faultPlace (MS.s_faultCode (MS.s_cod x 0) 0) 0) c7 g7 (show x.length ≤ 65536 from by omega) rfl hrd) (q0 := 0) rfl rfl w435 w434 w436 w437 w328 rfl rfl ⟨⟨by decide, by decide⟩, rfl⟩ ⟨(Nat.le_of_ble_eq_true rfl), (Nat.le_of_ble_eq_true rfl)⟩ rfl hl.1 rfl (Nat.le_of_ble_eq_true rfl) d_M_series_46 ⟨(Nat.le_of_ble_eq_true rfl), (Nat.le_of_ble_eq_true rfl)⟩) hP hD hS hA (fun r10 u11 H locs hp9 hP hD hS => ?_)
  obtain ⟨y12, h9u⟩ : ∃ z9, z9 = u11 := ⟨_, rfl⟩
  subst h9u
  have hP : va_P D vwCl (MW dA h ad y12) H := hP
  have hD : va_D A (MW dA h ad y12) := hD
  obtain ⟨hp9, f_e_13⟩ := hp9
  replace hp9 : bI true = r10 := Eq.symm hp9
  subst hp9
  refine lv_if_ne hx hb d_M_series_49 (tgt := 59) rfl (fun _ => ?_) (fun h9 => absurd h9 (by decide))
  exact J59 y12 f_e_13 H _ ls hP hD hS (lv_sub hl [0, 1, 2] rfl)
theorem d_M_series_121 : decode prog_14_method_29_code 121 = .ok (.aload_n 0, 1) := by decide +kernel
theorem d_M_series_122 : decode prog_14_method_29_code 122 = .ok (.getfield 160, 3) := by decide +kernel
theorem d_M_series_125 : decode prog_14_method_29_code 125 = .ok (.istore 4, 2) := by decide +kernel
theorem d_M_series_127 : decode prog_14_method_29_code 127 = .ok (.aload_n 0, 1) := by decide +kernel
theorem d_M_series_128 : decode prog_14_method_29_code 128 = .ok (.iconst 0, 1) := by decide +kernel
theorem d_M_series_129 : decode prog_14_method_29_code 129 = .ok (.iload 4, 2) := by decide +kernel
theorem d_M_series_131 : decode prog_14_method_29_code 131 = .ok (.iload_n 3, 1) := by decide +kernel
theorem d_M_series_132 : decode prog_14_method_29_code 132 = .ok (.i2l, 1) := by decide +kernel
theorem d_M_series_133 : decode prog_14_method_29_code 133 = .ok (.lconst 0, 1) := by decide +kernel
theorem d_M_series_134 : decode prog_14_method_29_code 134 = .ok (.iload_n 3, 1) := by decide +kernel
theorem d_M_series_135 : decode prog_14_method_29_code 135 = .ok (.invokestatic 244, 3) := by decide +kernel
theorem d_M_series_138 : decode prog_14_method_29_code 138 = .ok (.invokevirtual 250, 3) := by decide +kernel
theorem d_M_series_141 : decode prog_14_method_29_code 141 = .ok (.ifCond .ne 20, 3) := by decide +kernel
theorem d_M_series_144 : decode prog_14_method_29_code 144 = .ok (.aload_n 0, 1) := by decide +kernel
theorem d_M_series_145 : decode prog_14_method_29_code 145 = .ok (.iconst 1, 1) := by decide +kernel
theorem d_M_series_146 : decode prog_14_method_29_code 146 = .ok (.putfield 145, 3) := by decide +kernel
theorem d_M_series_149 : decode prog_14_method_29_code 149 = .ok (.aload_n 0, 1) := by decide +kernel
theorem d_M_series_150 : decode prog_14_method_29_code 150 = .ok (.iload_n 1, 1) := by decide +kernel
theorem d_M_series_151 : decode prog_14_method_29_code 151 = .ok (.putfield 151, 3) := by decide +kernel
theorem d_M_series_154 : decode prog_14_method_29_code 154 = .ok (.aload_n 0, 1) := by decide +kernel
theorem d_M_series_155 : decode prog_14_method_29_code 155 = .ok (.iload_n 2, 1) := by decide +kernel
theorem d_M_series_156 : decode prog_14_method_29_code 156 = .ok (.putfield 154, 3) := by decide +kernel
theorem d_M_series_159 : decode prog_14_method_29_code 159 = .ok (.iconst 0, 1) := by decide +kernel
theorem d_M_series_160 : decode prog_14_method_29_code 160 = .ok (.ireturn, 1) := by decide +kernel
set_option maxHeartbeats 4000000 in
set_option maxRecDepth 100000 in
theorem k_series_5 (l : Launch) (D : va_G) (dA : Nat → ClassId) (sz : Nat) (h : Nat) (ad : Nat → Nat) (x : MS) (c7 : Nat) (g7 : Nat → Nat) (n : Nat) (ho : x.on = true) (hl1 : x.length ≤ 65536) (hrd : rdM x.tape x.length 7 0 0 x.labels = .inr (c7, g7)) (h1 : x.seriesCount ≤ 256) (hc6 : c7 ≤ 6) (hlb : labOk g7 x.length c7) (hby : byteF x.tape) (hn : ((x.rdS c7 g7).layT c7).2 = n) (hn3 : n ≤ 304) (ht : ∀ q : Nat, q < x.seriesCount → x.textLengths q ≤ 304) (hfd : ((x.rdS c7 g7).lyS).fnd n = -1) (u1 : x.used ≤ 126) (u2 : x.block < 2 ^ 20) (u3 : x.journal ≤ 256) (h0 : ¬ x.seriesCount = 256) (hro : x.room (1 + (n + 31) / 32) = true) (c1 : 126 < x.used + (1 + (n + 31) / 32)) (hf : x.fresh = true) (hcu : x.cutLeft = 0) : Met l ⟨"SeriesVaultModel", "series", "()I"⟩ [Cond.code ⟨"SeriesVaultModel", "series", "()I"⟩ prog_14_method_29_code 5 (some FieldType.int)] { frames := 4, cells := 0, slots := 0, locals := 67 } (pC D dA [.ref h] (MW dA h ad x) sz) (va_Qi (fun (r9 : Int32) (u9 : MS) => r9 = 0 ∧ u9 = ((((((x.rdS c7 g7).lyS).s_cod 1).s_faultCode x.faultCode).s_faultPlace x.faultPlace).s_on false).s_cutLeft (-1)) (fun (u9 : MS) t9 => bW D (va_A (MW dA h ad x) sz) (MW dA h ad u9) t9) (va_A (MW dA h ad x) sz)) 0 0 (va_A (MW dA h ad x) sz) := by
  refine mkC (y := ⟨"SeriesVaultModel", "series", "()I"⟩) (cc := prog_14_method_29_code) (maxL := 5) (av := [.ref h]) (ws := MW dA h ad x) (sz := sz) (Qc := fun A => va_Qi (fun (r9 : Int32) (u9 : MS) => r9 = 0 ∧ u9 = ((((((x.rdS c7 g7).lyS).s_cod 1).s_faultCode x.faultCode).s_faultPlace x.faultPlace).s_on false).s_cutLeft (-1)) (fun (u9 : MS) t9 => bW D A (MW dA h ad u9) t9) A) (by decide) (Nat.le_of_ble_eq_true rfl) ?_
  intro A p e s m below meth c ls hsz hB
  obtain ⟨hx, hb, hr, hml, hown, hin, hlk, hE, hK, hP, hD, hS, hA, hN, hl⟩ := hB
  have hown : s.vm.findClass "SeriesVaultModel" = some m.cls := hown
  have hl : lv_has ls 5 [(0, .ref h)] := hl
  obtain ⟨H, hH⟩ : ∃ z, z = s.heap := ⟨_, rfl⟩
  have hP : va_P D vwCl (MW dA h ad x) H := by rw [hH]; exact hP
  have hS : va_S A s.heap H [] := by rw [hH]; exact hS
  rw [← hH]
  refine lv_aload_n hx hb d_M_series_0 rfl (lv_at hl 0 rfl) ?_
  refine lv_aload_n hx hb d_M_series_1 rfl (lv_at hl 0 rfl) ?_
  refine gF (v := .int (bI x.on)) hx hb hown hE hK hP 0 rfl rfl layM 7 (by decide) w324 rfl d_M_series_2 ?_
  refine lv_if_eq hx hb d_M_series_5 (tgt := 12) rfl (fun h9 => absurd h9 (by rw [ho]; decide)) (fun _ => ?_)
  refine lv_iconst (v := 0) hx hb d_M_series_8 (by decide) ?_
  refine lv_goto hx hb d_M_series_9 (tgt := 13) rfl ?_
  refine pF (v := .int 0) hx hb hown hE hK hP hD hS 0 rfl rfl layM tyM tokM nmM 0 (by decide) w319 rfl rfl rfl (Nat.le_of_ble_eq_true rfl) d_M_series_13 (fun H locs hP hD hS => ?_)
  have hP : va_P D vwCl (MW dA h ad (MS.s_cod x 0)) H := hP
  have hD : va_D A (MW dA h ad (MS.s_cod x 0)) := hD
  refine lv_aload_n hx hb d_M_series_16 rfl (lv_at hl 0 rfl) ?_
  refine gF (v := .int 0) hx hb hown hE hK hP 0 rfl rfl layM 0 (by decide) w319 rfl d_M_series_17 ?_
  refine lv_if_le hx hb d_M_series_20 (tgt := 25) rfl (fun _ => ?_) (fun h9 => absurd (by decide) h9)
  refine lv_aload_n hx hb d_M_series_25 rfl (lv_at hl 0 rfl) ?_
  refine gF (v := .int x.faultCode) hx hb hown hE hK hP 0 rfl rfl layM 3 (by decide) w321 rfl d_M_series_26 ?_
  refine lv_istore_n hx hb d_M_series_29 rfl hl (by decide) rfl (fun ls hl => ?_)
  have hl : lv_has ls 5 [(1, .int x.faultCode), (0, .ref h)] := hl
  refine lv_aload_n hx hb d_M_series_30 rfl (lv_at hl 1 rfl) ?_
  refine gF (v := .int x.faultPlace) hx hb hown hE hK hP 0 rfl rfl layM 4 (by decide) w322 rfl d_M_series_31 ?_
  refine lv_istore_n hx hb d_M_series_34 rfl hl (by decide) rfl (fun ls hl => ?_)
  have hl : lv_has ls 5 [(2, .int x.faultPlace), (1, .int x.faultCode), (0, .ref h)] := hl
  refine lv_aload_n hx hb d_M_series_35 rfl (lv_at hl 2 rfl) ?_
  refine lv_iconst (v := 0) hx hb d_M_series_36 (by decide) ?_
  refine pF (v := .int 0) hx hb hown hE hK hP hD hS 0 rfl rfl layM tyM tokM nmM 3 (by decide) w321 rfl rfl rfl (Nat.le_of_ble_eq_true rfl) d_M_series_37 (fun H locs hP hD hS => ?_)
  have hP : va_P D vwCl (MW dA h ad (MS.s_faultCode (MS.s_cod x 0) 0)) H := hP
  have hD : va_D A (MW dA h ad (MS.s_faultCode (MS.s_cod x 0) 0)) := hD
  refine lv_aload_n hx hb d_M_series_40 rfl (lv_at hl 2 rfl) ?_
  refine lv_iconst (v := 0) hx hb d_M_series_41 (by decide) ?_
  refine pF (v := .int 0) hx hb hown hE hK hP hD hS 0 rfl rfl layM tyM tokM nmM 4 (by decide) w322 rfl rfl rfl (Nat.le_of_ble_eq_true rfl) d_M_series_42 (fun H locs hP hD hS => ?_)
  have hP : va_P D vwCl (MW dA h ad (MS.s_faultPlace (MS.s_faultCode (MS.s_cod x 0) 0) 0)) H := hP
  have hD : va_D A (MW dA h ad (MS.s_faultPlace (MS.s_faultCode (MS.s_cod x 0) 0) 0)) := hD
  have J59 : ∀ (z : MS) (ez : z = x.rdS c7 g7), ∀ (H : Heap) (locs : List Loc) (ls : Array Slot) (hP : va_P D vwCl (MW dA h ad z) H) (hD : va_D A (MW dA h ad z)) (hS : va_S A s.heap H locs) (hl : lv_has ls 5 [(2, .int x.faultPlace), (1, .int x.faultCode), (0, .ref h)]), W p l e ({ frames := 4, cells := 0, slots := 0, locals := 67 } : Room) s m ([.ref h] : List Value).toArray below meth c H locs 0 0 (MQ below (va_Qi (fun (r9 : Int32) (u9 : MS) => r9 = 0 ∧ u9 = ((((((x.rdS c7 g7).lyS).s_cod 1).s_faultCode x.faultCode).s_faultPlace x.faultPlace).s_on false).s_cutLeft (-1)) (fun (u9 : MS) t9 => bW D A (MW dA h ad u9) t9) A) ([.ref h] : List Value).toArray s 0 0 A) (F0 m 59 ls []) := by
    intro z ez H locs ls hP hD hS hl
    have J64 : ∀ (r : MS) (er : r = (x.rdS c7 g7).lyS) (r1 : r.seriesCount = x.seriesCount) (r2 : r.textLengths = x.textLengths) (r3 : r.used = x.used) (r4 : r.block = x.block) (r5 : r.journal = x.journal) (r6 : r.records = x.records) (r7 : r.fresh = x.fresh) (r8 : r.cutLeft = x.cutLeft), ∀ (H : Heap) (locs : List Loc) (ls : Array Slot) (hP : va_P D vwCl (MW dA h ad r) H) (hD : va_D A (MW dA h ad r)) (hS : va_S A s.heap H locs) (hl : lv_has ls 5 [(3, .int (nI n)), (2, .int x.faultPlace), (1, .int x.faultCode), (0, .ref h)]), W p l e ({ frames := 4, cells := 0, slots := 0, locals := 67 } : Room) s m ([.ref h] : List Value).toArray below meth c H locs 0 0 (MQ below (va_Qi (fun (r9 : Int32) (u9 : MS) => r9 = 0 ∧ u9 = ((((((x.rdS c7 g7).lyS).s_cod 1).s_faultCode x.faultCode).s_faultPlace x.faultPlace).s_on false).s_cutLeft (-1)) (fun (u9 : MS) t9 => bW D A (MW dA h ad u9) t9) A) ([.ref h] : List Value).toArray s 0 0 A) (F0 m 64 ls []) := by
      intro r er r1 r2 r3 r4 r5 r6 r7 r8 H locs ls hP hD hS hl
      refine lv_aload_n hx hb d_M_series_64 rfl (lv_at hl 3 rfl) ?_
      refine lv_iload_n hx hb d_M_series_65 rfl (lv_at hl 0 rfl) ?_
      refine jfI (rnV (As := [.int (nI n)]) (rest := []) hx hb hml hown hE hK (hN _ _ hS) hP hD (k_find l D dA H.size h ad r n (show r.seriesCount ≤ 256 from by omega) (show n ≤ 304 from by omega) (by rw [r1, r2]; exact ht)) (q0 := 0) rfl rfl w943 w942 w944 w945 w328 rfl rfl ⟨⟨by decide, by decide⟩, rfl⟩ ⟨(Nat.le_of_ble_eq_true rfl), (Nat.le_of_ble_eq_true rfl)⟩ rfl hl.1 rfl (Nat.le_of_ble_eq_true rfl) d_M_series_66 ⟨(Nat.le_of_ble_eq_true rfl), (Nat.le_of_ble_eq_true rfl)⟩) hP hD hS hA (fun r1 u2 H locs hp9 hP hD hS => ?_)
      have hP : va_P D vwCl (MW dA h ad r) H := hP
      have hD : va_D A (MW dA h ad r) := hD
      replace hp9 : r.fnd n = r1 := Eq.symm hp9
      subst hp9
      refine tpi (y := (-1)) (by rw [er]; exact hfd) ?_
      refine lv_istore hx hb d_M_series_69 hl (by decide) rfl (fun ls hl => ?_)
      have hl : lv_has ls 5 [(4, .int (-1)), (3, .int (nI n)), (2, .int x.faultPlace), (1, .int x.faultCode), (0, .ref h)] := hl
      refine lv_iload hx hb d_M_series_71 (lv_at hl 0 rfl) ?_
      refine lv_iconst (v := (-1)) hx hb d_M_series_73 (by decide) ?_
      refine lv_icmp_ne hx hb d_M_series_74 (tgt := 115) rfl (fun h9 => absurd (by decide) h9) (fun _ => ?_)
      refine lv_aload_n hx hb d_M_series_77 rfl (lv_at hl 4 rfl) ?_
      refine gF (v := .int (nI r.seriesCount)) hx hb hown hE hK hP 0 rfl rfl layM 12 (by decide) w332 rfl d_M_series_78 ?_
      refine lv_sipush (v := 256) hx hb d_M_series_81 (by decide) ?_
      refine lv_icmp_eq hx hb d_M_series_84 (tgt := 98) rfl (fun g3 => ?_) (fun g3 => ?_)
      · have g3 := (nI_eq (a := r.seriesCount) (b := 256) (by omega) (by omega)).mp g3; exfalso; omega
      have g3 := mt (nI_eq (a := r.seriesCount) (b := 256) (by omega) (by omega)).mpr g3
      refine lv_aload_n hx hb d_M_series_87 rfl (lv_at hl 4 rfl) ?_
      refine lv_iload_n hx hb d_M_series_88 rfl (lv_at hl 1 rfl) ?_
      have hPc := hP.sub (ws' := []) [] rfl
      have hDc := hD.sub (ws' := []) [] (by decide) rfl
      refine jnI (rnS (As := [.int (nI n)]) (rest := [.ref h]) hx hb hml hown hE hK (hN _ _ hS) hPc hDc (k_unitsOf l D dA H.size n (show n ≤ 65536 from by omega)) w882 w881 w883 w328 rfl rfl ⟨⟨by decide, by decide⟩, rfl⟩ ⟨(Nat.le_of_ble_eq_true rfl), (Nat.le_of_ble_eq_true rfl)⟩ rfl hl.1 rfl (Nat.le_of_ble_eq_true rfl) d_M_series_89 ⟨(Nat.le_of_ble_eq_true rfl), (Nat.le_of_ble_eq_true rfl)⟩) hP hD hS hA [] [0, 1, 2, 3, 4, 5, 6, 7, 8, 9, 10, 11, 12, 13, 14, 15, 16, 17, 18, 19, 20, 21, 22, 23, 24, 25, 26, 27, 28, 29, 30, 31, 32, 33, 34, 35, 36, 37, 38] (wr := MW dA h ad r) rfl rfl (by decide) (by decide) (fun r4 u9 H locs hp9 hP hD hS => ?_)
      have hP : va_P D vwCl (MW dA h ad r) H := hP
      have hD : va_D A (MW dA h ad r) := hD
      replace hp9 : nI (1 + (n + 31) / 32) = r4 := Eq.symm hp9
      subst hp9
      refine jfI (rnV (As := [.int (nI (1 + (n + 31) / 32))]) (rest := []) hx hb hml hown hE hK (hN _ _ hS) hP hD (k_hasRoom l D dA H.size h ad r (1 + (n + 31) / 32) (show r.used + (1 + (n + 31) / 32) < 2 ^ 31 from by omega) (show r.block + 1 < 2 ^ 31 from by omega) (show r.journal < 2 ^ 31 from by omega)) (q0 := 0) rfl rfl w867 w866 w868 w869 w328 rfl rfl ⟨⟨by decide, by decide⟩, rfl⟩ ⟨(Nat.le_of_ble_eq_true rfl), (Nat.le_of_ble_eq_true rfl)⟩ rfl hl.1 rfl (Nat.le_of_ble_eq_true rfl) d_M_series_92 ⟨(Nat.le_of_ble_eq_true rfl), (Nat.le_of_ble_eq_true rfl)⟩) hP hD hS hA (fun r6 u7 H locs hp9 hP hD hS => ?_)
      have hP : va_P D vwCl (MW dA h ad r) H := hP
      have hD : va_D A (MW dA h ad r) := hD
      replace hp9 : bI (r.room (1 + (n + 31) / 32)) = r6 := Eq.symm hp9
      subst hp9
      refine lv_if_ne hx hb d_M_series_95 (tgt := 115) rfl (fun _ => ?_) (fun h9 => absurd h9 (by rw [show r.room (1 + (n + 31) / 32) = true from (by show (decide _ || decide _) = true; rw [r3, r4, r5]; exact hro)]; decide))
      refine lv_iload hx hb d_M_series_115 (lv_at hl 0 rfl) ?_
      refine lv_iconst (v := (-1)) hx hb d_M_series_117 (by decide) ?_
      refine lv_icmp_ne hx hb d_M_series_118 (tgt := 168) rfl (fun h9 => absurd (by decide) h9) (fun _ => ?_)
      refine lv_aload_n hx hb d_M_series_121 rfl (lv_at hl 4 rfl) ?_
      refine gF (v := .int (nI r.seriesCount)) hx hb hown hE hK hP 0 rfl rfl layM 12 (by decide) w332 rfl d_M_series_122 ?_
      refine lv_istore hx hb d_M_series_125 hl (by decide) rfl (fun ls hl => ?_)
      have hl : lv_has ls 5 [(4, .int (nI r.seriesCount)), (3, .int (nI n)), (2, .int x.faultPlace), (1, .int x.faultCode), (0, .ref h)] := hl
      refine lv_aload_n hx hb d_M_series_127 rfl (lv_at hl 4 rfl) ?_
      refine lv_iconst (v := 0) hx hb d_M_series_128 (by decide) ?_
      refine lv_iload hx hb d_M_series_129 (lv_at hl 0 rfl) ?_
      refine lv_iload_n hx hb d_M_series_131 rfl (lv_at hl 1 rfl) ?_
      refine lv_i2l (v := lN (n)) hx hb d_M_series_132 (nI_l (by omega)) ?_
      refine lv_lconst (v := 0) hx hb d_M_series_133 (by decide) ?_
      refine lv_iload_n hx hb d_M_series_134 rfl (lv_at hl 1 rfl) ?_
      have hPc := hP.sub (ws' := []) [] rfl
      have hDc := hD.sub (ws' := []) [] (by decide) rfl
      refine jnI (rnS (As := [.int (nI n)]) (rest := [.long 0, .long (lN (n)), .int (nI r.seriesCount), .int 0, .ref h]) hx hb hml hown hE hK (hN _ _ hS) hPc hDc (k_unitsOf l D dA H.size n (show n ≤ 65536 from by omega)) w882 w881 w883 w328 rfl rfl ⟨⟨by decide, by decide⟩, rfl⟩ ⟨(Nat.le_of_ble_eq_true rfl), (Nat.le_of_ble_eq_true rfl)⟩ rfl hl.1 rfl (Nat.le_of_ble_eq_true rfl) d_M_series_135 ⟨(Nat.le_of_ble_eq_true rfl), (Nat.le_of_ble_eq_true rfl)⟩) hP hD hS hA [] [0, 1, 2, 3, 4, 5, 6, 7, 8, 9, 10, 11, 12, 13, 14, 15, 16, 17, 18, 19, 20, 21, 22, 23, 24, 25, 26, 27, 28, 29, 30, 31, 32, 33, 34, 35, 36, 37, 38] (wr := MW dA h ad r) rfl rfl (by decide) (by decide) (fun r8 u9 H locs hp9 hP hD hS => ?_)
      have hP : va_P D vwCl (MW dA h ad r) H := hP
      have hD : va_D A (MW dA h ad r) := hD
      replace hp9 : nI (1 + (n + 31) / 32) = r8 := Eq.symm hp9
      subst hp9
      refine jfI (rnV (As := [.int 0, .int (nI r.seriesCount), .long (lN (n)), .long 0, .int (nI (1 + (n + 31) / 32))]) (rest := []) hx hb hml hown hE hK (hN _ _ hS) hP hD (k_record_x l D dA H.size h ad r 0 r.seriesCount (lN (n)) 0 (1 + (n + 31) / 32) (show r.used + (1 + (n + 31) / 32) < 2 ^ 31 from by omega) (show 126 < r.used + (1 + (n + 31) / 32) from by omega) (by rw [r7]; exact hf) (by rw [r8]; exact hcu)) (q0 := 0) rfl rfl w889 w888 w890 w891 w328 rfl rfl ⟨⟨by decide, by decide⟩, rfl⟩ ⟨(Nat.le_of_ble_eq_true rfl), (Nat.le_of_ble_eq_true rfl)⟩ rfl hl.1 rfl (Nat.le_of_ble_eq_true rfl) d_M_series_138 ⟨(Nat.le_of_ble_eq_true rfl), (Nat.le_of_ble_eq_true rfl)⟩) hP hD hS hA (fun r10 u11 H locs hp9 hP hD hS => ?_)
      have hP : va_P D vwCl (MW dA h ad (MS.s_cutLeft (MS.s_on r false) (-1))) H := hP
      have hD : va_D A (MW dA h ad (MS.s_cutLeft (MS.s_on r false) (-1))) := hD
      replace hp9 : bI false = r10 := Eq.symm hp9
      subst hp9
      refine lv_if_ne hx hb d_M_series_141 (tgt := 161) rfl (fun h9 => absurd (by decide) h9) (fun _ => ?_)
      refine lv_aload_n hx hb d_M_series_144 rfl (lv_at hl 4 rfl) ?_
      refine lv_iconst (v := 1) hx hb d_M_series_145 (by decide) ?_
      refine pF (v := .int 1) hx hb hown hE hK hP hD hS 0 rfl rfl layM tyM tokM nmM 0 (by decide) w319 rfl rfl rfl (Nat.le_of_ble_eq_true rfl) d_M_series_146 (fun H locs hP hD hS => ?_)
      have hP : va_P D vwCl (MW dA h ad (MS.s_cutLeft (MS.s_on (MS.s_cod r 1) false) (-1))) H := hP
      have hD : va_D A (MW dA h ad (MS.s_cutLeft (MS.s_on (MS.s_cod r 1) false) (-1))) := hD
      refine lv_aload_n hx hb d_M_series_149 rfl (lv_at hl 4 rfl) ?_
      refine lv_iload_n hx hb d_M_series_150 rfl (lv_at hl 3 rfl) ?_
      refine pF (v := .int x.faultCode) hx hb hown hE hK hP hD hS 0 rfl rfl layM tyM tokM nmM 3 (by decide) w321 rfl rfl rfl (Nat.le_of_ble_eq_true rfl) d_M_series_151 (fun H locs hP hD hS => ?_)
      have hP : va_P D vwCl (MW dA h ad (MS.s_cutLeft (MS.s_on (MS.s_faultCode (MS.s_cod r 1) x.faultCode) false) (-1))) H := hP
      have hD : va_D A (MW dA h ad (MS.s_cutLeft (MS.s_on (MS.s_faultCode (MS.s_cod r 1) x.faultCode) false) (-1))) := hD
      refine lv_aload_n hx hb d_M_series_154 rfl (lv_at hl 4 rfl) ?_
      refine lv_iload_n hx hb d_M_series_155 rfl (lv_at hl 2 rfl) ?_
      refine pF (v := .int x.faultPlace) hx hb hown hE hK hP hD hS 0 rfl rfl layM tyM tokM nmM 4 (by decide) w322 rfl rfl rfl (Nat.le_of_ble_eq_true rfl) d_M_series_156 (fun H locs hP hD hS => ?_)
      have hP : va_P D vwCl (MW dA h ad (MS.s_cutLeft (MS.s_on (MS.s_faultPlace (MS.s_faultCode (MS.s_cod r 1) x.faultCode) x.faultPlace) false) (-1))) H := hP
      have hD : va_D A (MW dA h ad (MS.s_cutLeft (MS.s_on (MS.s_faultPlace (MS.s_faultCode (MS.s_cod r 1) x.faultCode) x.faultPlace) false) (-1))) := hD
      refine lv_iconst (v := 0) hx hb d_M_series_159 (by decide) ?_
      exact rfI hx hb hr hlk hS (MS.s_cutLeft (MS.s_on (MS.s_faultPlace (MS.s_faultCode (MS.s_cod r 1) x.faultCode) x.faultPlace) false) (-1)) ⟨rfl, by rw [er] <;> rfl⟩ hP hD (Nat.le_of_ble_eq_true rfl) (Nat.le_of_ble_eq_true rfl) d_M_series_160
    refine lv_aload_n hx hb d_M_series_59 rfl (lv_at hl 2 rfl) ?_
    refine jfI (rnV (As := []) (rest := []) hx hb hml hown hE hK (hN _ _ hS) hP hD (k_layText l D dA H.size h ad z (by rw [ez]; exact h1) (by rw [ez]; exact hc6) (by rw [ez]; exact hlb) (by rw [ez]; exact hl1) (by rw [ez]; exact hby)) (q0 := 0) rfl rfl w947 w946 w948 w949 w328 rfl rfl ⟨⟨by decide, by decide⟩, rfl⟩ ⟨(Nat.le_of_ble_eq_true rfl), (Nat.le_of_ble_eq_true rfl)⟩ rfl hl.1 rfl (Nat.le_of_ble_eq_true rfl) d_M_series_60 ⟨(Nat.le_of_ble_eq_true rfl), (Nat.le_of_ble_eq_true rfl)⟩) hP hD hS hA (fun r12 u13 H locs hp9 hP hD hS => ?_)
    have hP : va_P D vwCl (MW dA h ad (MS.s_texts z ((z.layT z.labelCount).1))) H := hP
    have hD : va_D A (MW dA h ad (MS.s_texts z ((z.layT z.labelCount).1))) := hD
    replace hp9 : nI (z.layT z.labelCount).2 = r12 := Eq.symm hp9
    subst hp9
    refine tpi (y := nI n) (congrArg nI (by rw [ez]; exact hn)) ?_
    refine lv_istore_n hx hb d_M_series_63 rfl hl (by decide) rfl (fun ls hl => ?_)
    have hl : lv_has ls 5 [(3, .int (nI n)), (2, .int x.faultPlace), (1, .int x.faultCode), (0, .ref h)] := hl
    exact J64 (MS.s_texts z ((z.layT z.labelCount).1)) (by rw [ez]; rfl) (by rw [ez]; rfl) (by rw [ez]; rfl) (by rw [ez]; rfl) (by rw [ez]; rfl) (by rw [ez]; rfl) (by rw [ez]; rfl) (by rw [ez]; rfl) (by rw [ez]; rfl) H _ ls hP hD hS (lv_sub hl [0, 1, 2, 3] rfl)
  refine lv_aload_n hx hb d_M_series_45 rfl (lv_at hl 2 rfl) ?_
  refine jfI (rnV (As := []) (rest := []) hx hb hml hown hE hK (hN _ _ hS) hP hD (k_readLabels_0 l D dA H.size h ad (MS.s_faultPlace (MS.s_faultCode (MS.s_cod x 0) 0) 0) c7 g7 (show x.length ≤ 65536 from by omega) rfl hrd) (q0 := 0) rfl rfl w435 w434 w436 w437 w328 rfl rfl ⟨⟨by decide, by decide⟩, rfl⟩ ⟨(Nat.le_of_ble_eq_true rfl), (Nat.le_of_ble_eq_true rfl)⟩ rfl hl.1 rfl (Nat.le_of_ble_eq_true rfl) d_M_series_46 ⟨(Nat.le_of_ble_eq_true rfl), (Nat.le_of_ble_eq_true rfl)⟩) hP hD hS hA (fun r14 u15 H locs hp9 hP hD hS => ?_)
  obtain ⟨y16, h9u⟩ : ∃ z9, z9 = u15 := ⟨_, rfl⟩
  subst h9u
  have hP : va_P D vwCl (MW dA h ad y16) H := hP
  have hD : va_D A (MW dA h ad y16) := hD
  obtain ⟨hp9, f_e_17⟩ := hp9
  replace hp9 : bI true = r14 := Eq.symm hp9
  subst hp9
  refine lv_if_ne hx hb d_M_series_49 (tgt := 59) rfl (fun _ => ?_) (fun h9 => absurd h9 (by decide))
  exact J59 y16 f_e_17 H _ ls hP hD hS (lv_sub hl [0, 1, 2] rfl)
theorem d_M_series_161 : decode prog_14_method_29_code 161 = .ok (.aload_n 0, 1) := by decide +kernel
theorem d_M_series_162 : decode prog_14_method_29_code 162 = .ok (.iload 4, 2) := by decide +kernel
theorem d_M_series_164 : decode prog_14_method_29_code 164 = .ok (.iload_n 3, 1) := by decide +kernel
theorem d_M_series_165 : decode prog_14_method_29_code 165 = .ok (.invokevirtual 254, 3) := by decide +kernel
set_option maxHeartbeats 4000000 in
set_option maxRecDepth 100000 in
theorem k_series_0 (l : Launch) (D : va_G) (dA : Nat → ClassId) (sz : Nat) (h : Nat) (ad : Nat → Nat) (x : MS) (c7 : Nat) (g7 : Nat → Nat) (n : Nat) (ho : x.on = true) (hl1 : x.length ≤ 65536) (hrd : rdM x.tape x.length 7 0 0 x.labels = .inr (c7, g7)) (h1 : x.seriesCount ≤ 256) (hc6 : c7 ≤ 6) (hlb : labOk g7 x.length c7) (hby : byteF x.tape) (hn : ((x.rdS c7 g7).layT c7).2 = n) (hn3 : n ≤ 304) (ht : ∀ q : Nat, q < x.seriesCount → x.textLengths q ≤ 304) (hfd : ((x.rdS c7 g7).lyS).fnd n = -1) (u1 : x.used ≤ 126) (u2 : x.block < 2 ^ 20) (u3 : x.journal ≤ 256) (h0 : ¬ x.seriesCount = 256) (hro : x.room (1 + (n + 31) / 32) = true) (r9a : x.records < 32000) (hcr : x.canR (1 + (n + 31) / 32)) : Met l ⟨"SeriesVaultModel", "series", "()I"⟩ [Cond.code ⟨"SeriesVaultModel", "series", "()I"⟩ prog_14_method_29_code 5 (some FieldType.int)] { frames := 4, cells := 0, slots := 0, locals := 67 } (pC D dA [.ref h] (MW dA h ad x) sz) (va_Qi (fun (r9 : Int32) (u9 : MS) => r9 = nI x.seriesCount ∧ u9 = ((((x.rdS c7 g7).lyS).recS 0 x.seriesCount (lN n) 0 (1 + (n + 31) / 32)).nwS x.seriesCount n).s_length 0) (fun (u9 : MS) t9 => bW D (va_A (MW dA h ad x) sz) (MW dA h ad u9) t9) (va_A (MW dA h ad x) sz)) 0 0 (va_A (MW dA h ad x) sz) := by
  refine mkC (y := ⟨"SeriesVaultModel", "series", "()I"⟩) (cc := prog_14_method_29_code) (maxL := 5) (av := [.ref h]) (ws := MW dA h ad x) (sz := sz) (Qc := fun A => va_Qi (fun (r9 : Int32) (u9 : MS) => r9 = nI x.seriesCount ∧ u9 = ((((x.rdS c7 g7).lyS).recS 0 x.seriesCount (lN n) 0 (1 + (n + 31) / 32)).nwS x.seriesCount n).s_length 0) (fun (u9 : MS) t9 => bW D A (MW dA h ad u9) t9) A) (by decide) (Nat.le_of_ble_eq_true rfl) ?_
  intro A p e s m below meth c ls hsz hB
  obtain ⟨hx, hb, hr, hml, hown, hin, hlk, hE, hK, hP, hD, hS, hA, hN, hl⟩ := hB
  have hown : s.vm.findClass "SeriesVaultModel" = some m.cls := hown
  have hl : lv_has ls 5 [(0, .ref h)] := hl
  obtain ⟨H, hH⟩ : ∃ z, z = s.heap := ⟨_, rfl⟩
  have hP : va_P D vwCl (MW dA h ad x) H := by rw [hH]; exact hP
  have hS : va_S A s.heap H [] := by rw [hH]; exact hS
  rw [← hH]
  refine lv_aload_n hx hb d_M_series_0 rfl (lv_at hl 0 rfl) ?_
  refine lv_aload_n hx hb d_M_series_1 rfl (lv_at hl 0 rfl) ?_
  refine gF (v := .int (bI x.on)) hx hb hown hE hK hP 0 rfl rfl layM 7 (by decide) w324 rfl d_M_series_2 ?_
  refine lv_if_eq hx hb d_M_series_5 (tgt := 12) rfl (fun h9 => absurd h9 (by rw [ho]; decide)) (fun _ => ?_)
  refine lv_iconst (v := 0) hx hb d_M_series_8 (by decide) ?_
  refine lv_goto hx hb d_M_series_9 (tgt := 13) rfl ?_
  refine pF (v := .int 0) hx hb hown hE hK hP hD hS 0 rfl rfl layM tyM tokM nmM 0 (by decide) w319 rfl rfl rfl (Nat.le_of_ble_eq_true rfl) d_M_series_13 (fun H locs hP hD hS => ?_)
  have hP : va_P D vwCl (MW dA h ad (MS.s_cod x 0)) H := hP
  have hD : va_D A (MW dA h ad (MS.s_cod x 0)) := hD
  refine lv_aload_n hx hb d_M_series_16 rfl (lv_at hl 0 rfl) ?_
  refine gF (v := .int 0) hx hb hown hE hK hP 0 rfl rfl layM 0 (by decide) w319 rfl d_M_series_17 ?_
  refine lv_if_le hx hb d_M_series_20 (tgt := 25) rfl (fun _ => ?_) (fun h9 => absurd (by decide) h9)
  refine lv_aload_n hx hb d_M_series_25 rfl (lv_at hl 0 rfl) ?_
  refine gF (v := .int x.faultCode) hx hb hown hE hK hP 0 rfl rfl layM 3 (by decide) w321 rfl d_M_series_26 ?_
  refine lv_istore_n hx hb d_M_series_29 rfl hl (by decide) rfl (fun ls hl => ?_)
  have hl : lv_has ls 5 [(1, .int x.faultCode), (0, .ref h)] := hl
  refine lv_aload_n hx hb d_M_series_30 rfl (lv_at hl 1 rfl) ?_
  refine gF (v := .int x.faultPlace) hx hb hown hE hK hP 0 rfl rfl layM 4 (by decide) w322 rfl d_M_series_31 ?_
  refine lv_istore_n hx hb d_M_series_34 rfl hl (by decide) rfl (fun ls hl => ?_)
  have hl : lv_has ls 5 [(2, .int x.faultPlace), (1, .int x.faultCode), (0, .ref h)] := hl
  refine lv_aload_n hx hb d_M_series_35 rfl (lv_at hl 2 rfl) ?_
  refine lv_iconst (v := 0) hx hb d_M_series_36 (by decide) ?_
  refine pF (v := .int 0) hx hb hown hE hK hP hD hS 0 rfl rfl layM tyM tokM nmM 3 (by decide) w321 rfl rfl rfl (Nat.le_of_ble_eq_true rfl) d_M_series_37 (fun H locs hP hD hS => ?_)
  have hP : va_P D vwCl (MW dA h ad (MS.s_faultCode (MS.s_cod x 0) 0)) H := hP
  have hD : va_D A (MW dA h ad (MS.s_faultCode (MS.s_cod x 0) 0)) := hD
  refine lv_aload_n hx hb d_M_series_40 rfl (lv_at hl 2 rfl) ?_
  refine lv_iconst (v := 0) hx hb d_M_series_41 (by decide) ?_
  refine pF (v := .int 0) hx hb hown hE hK hP hD hS 0 rfl rfl layM tyM tokM nmM 4 (by decide) w322 rfl rfl rfl (Nat.le_of_ble_eq_true rfl) d_M_series_42 (fun H locs hP hD hS => ?_)
  have hP : va_P D vwCl (MW dA h ad (MS.s_faultPlace (MS.s_faultCode (MS.s_cod x 0) 0) 0)) H := hP
  have hD : va_D A (MW dA h ad (MS.s_faultPlace (MS.s_faultCode (MS.s_cod x 0) 0) 0)) := hD
  have J59 : ∀ (z : MS) (ez : z = x.rdS c7 g7), ∀ (H : Heap) (locs : List Loc) (ls : Array Slot) (hP : va_P D vwCl (MW dA h ad z) H) (hD : va_D A (MW dA h ad z)) (hS : va_S A s.heap H locs) (hl : lv_has ls 5 [(2, .int x.faultPlace), (1, .int x.faultCode), (0, .ref h)]), W p l e ({ frames := 4, cells := 0, slots := 0, locals := 67 } : Room) s m ([.ref h] : List Value).toArray below meth c H locs 0 0 (MQ below (va_Qi (fun (r9 : Int32) (u9 : MS) => r9 = nI x.seriesCount ∧ u9 = ((((x.rdS c7 g7).lyS).recS 0 x.seriesCount (lN n) 0 (1 + (n + 31) / 32)).nwS x.seriesCount n).s_length 0) (fun (u9 : MS) t9 => bW D A (MW dA h ad u9) t9) A) ([.ref h] : List Value).toArray s 0 0 A) (F0 m 59 ls []) := by
    intro z ez H locs ls hP hD hS hl
    have J64 : ∀ (r : MS) (er : r = (x.rdS c7 g7).lyS) (r1 : r.seriesCount = x.seriesCount) (r2 : r.textLengths = x.textLengths) (r3 : r.used = x.used) (r4 : r.block = x.block) (r5 : r.journal = x.journal) (r6 : r.records = x.records) (r7 : r.fresh = x.fresh) (r8 : r.cutLeft = x.cutLeft), ∀ (H : Heap) (locs : List Loc) (ls : Array Slot) (hP : va_P D vwCl (MW dA h ad r) H) (hD : va_D A (MW dA h ad r)) (hS : va_S A s.heap H locs) (hl : lv_has ls 5 [(3, .int (nI n)), (2, .int x.faultPlace), (1, .int x.faultCode), (0, .ref h)]), W p l e ({ frames := 4, cells := 0, slots := 0, locals := 67 } : Room) s m ([.ref h] : List Value).toArray below meth c H locs 0 0 (MQ below (va_Qi (fun (r9 : Int32) (u9 : MS) => r9 = nI x.seriesCount ∧ u9 = ((((x.rdS c7 g7).lyS).recS 0 x.seriesCount (lN n) 0 (1 + (n + 31) / 32)).nwS x.seriesCount n).s_length 0) (fun (u9 : MS) t9 => bW D A (MW dA h ad u9) t9) A) ([.ref h] : List Value).toArray s 0 0 A) (F0 m 64 ls []) := by
      intro r er r1 r2 r3 r4 r5 r6 r7 r8 H locs ls hP hD hS hl
      refine lv_aload_n hx hb d_M_series_64 rfl (lv_at hl 3 rfl) ?_
      refine lv_iload_n hx hb d_M_series_65 rfl (lv_at hl 0 rfl) ?_
      refine jfI (rnV (As := [.int (nI n)]) (rest := []) hx hb hml hown hE hK (hN _ _ hS) hP hD (k_find l D dA H.size h ad r n (show r.seriesCount ≤ 256 from by omega) (show n ≤ 304 from by omega) (by rw [r1, r2]; exact ht)) (q0 := 0) rfl rfl w943 w942 w944 w945 w328 rfl rfl ⟨⟨by decide, by decide⟩, rfl⟩ ⟨(Nat.le_of_ble_eq_true rfl), (Nat.le_of_ble_eq_true rfl)⟩ rfl hl.1 rfl (Nat.le_of_ble_eq_true rfl) d_M_series_66 ⟨(Nat.le_of_ble_eq_true rfl), (Nat.le_of_ble_eq_true rfl)⟩) hP hD hS hA (fun r1 u2 H locs hp9 hP hD hS => ?_)
      have hP : va_P D vwCl (MW dA h ad r) H := hP
      have hD : va_D A (MW dA h ad r) := hD
      replace hp9 : r.fnd n = r1 := Eq.symm hp9
      subst hp9
      refine tpi (y := (-1)) (by rw [er]; exact hfd) ?_
      refine lv_istore hx hb d_M_series_69 hl (by decide) rfl (fun ls hl => ?_)
      have hl : lv_has ls 5 [(4, .int (-1)), (3, .int (nI n)), (2, .int x.faultPlace), (1, .int x.faultCode), (0, .ref h)] := hl
      refine lv_iload hx hb d_M_series_71 (lv_at hl 0 rfl) ?_
      refine lv_iconst (v := (-1)) hx hb d_M_series_73 (by decide) ?_
      refine lv_icmp_ne hx hb d_M_series_74 (tgt := 115) rfl (fun h9 => absurd (by decide) h9) (fun _ => ?_)
      refine lv_aload_n hx hb d_M_series_77 rfl (lv_at hl 4 rfl) ?_
      refine gF (v := .int (nI r.seriesCount)) hx hb hown hE hK hP 0 rfl rfl layM 12 (by decide) w332 rfl d_M_series_78 ?_
      refine lv_sipush (v := 256) hx hb d_M_series_81 (by decide) ?_
      refine lv_icmp_eq hx hb d_M_series_84 (tgt := 98) rfl (fun g3 => ?_) (fun g3 => ?_)
      · have g3 := (nI_eq (a := r.seriesCount) (b := 256) (by omega) (by omega)).mp g3; exfalso; omega
      have g3 := mt (nI_eq (a := r.seriesCount) (b := 256) (by omega) (by omega)).mpr g3
      refine lv_aload_n hx hb d_M_series_87 rfl (lv_at hl 4 rfl) ?_
      refine lv_iload_n hx hb d_M_series_88 rfl (lv_at hl 1 rfl) ?_
      have hPc := hP.sub (ws' := []) [] rfl
      have hDc := hD.sub (ws' := []) [] (by decide) rfl
      refine jnI (rnS (As := [.int (nI n)]) (rest := [.ref h]) hx hb hml hown hE hK (hN _ _ hS) hPc hDc (k_unitsOf l D dA H.size n (show n ≤ 65536 from by omega)) w882 w881 w883 w328 rfl rfl ⟨⟨by decide, by decide⟩, rfl⟩ ⟨(Nat.le_of_ble_eq_true rfl), (Nat.le_of_ble_eq_true rfl)⟩ rfl hl.1 rfl (Nat.le_of_ble_eq_true rfl) d_M_series_89 ⟨(Nat.le_of_ble_eq_true rfl), (Nat.le_of_ble_eq_true rfl)⟩) hP hD hS hA [] [0, 1, 2, 3, 4, 5, 6, 7, 8, 9, 10, 11, 12, 13, 14, 15, 16, 17, 18, 19, 20, 21, 22, 23, 24, 25, 26, 27, 28, 29, 30, 31, 32, 33, 34, 35, 36, 37, 38] (wr := MW dA h ad r) rfl rfl (by decide) (by decide) (fun r4 u9 H locs hp9 hP hD hS => ?_)
      have hP : va_P D vwCl (MW dA h ad r) H := hP
      have hD : va_D A (MW dA h ad r) := hD
      replace hp9 : nI (1 + (n + 31) / 32) = r4 := Eq.symm hp9
      subst hp9
      refine jfI (rnV (As := [.int (nI (1 + (n + 31) / 32))]) (rest := []) hx hb hml hown hE hK (hN _ _ hS) hP hD (k_hasRoom l D dA H.size h ad r (1 + (n + 31) / 32) (show r.used + (1 + (n + 31) / 32) < 2 ^ 31 from by omega) (show r.block + 1 < 2 ^ 31 from by omega) (show r.journal < 2 ^ 31 from by omega)) (q0 := 0) rfl rfl w867 w866 w868 w869 w328 rfl rfl ⟨⟨by decide, by decide⟩, rfl⟩ ⟨(Nat.le_of_ble_eq_true rfl), (Nat.le_of_ble_eq_true rfl)⟩ rfl hl.1 rfl (Nat.le_of_ble_eq_true rfl) d_M_series_92 ⟨(Nat.le_of_ble_eq_true rfl), (Nat.le_of_ble_eq_true rfl)⟩) hP hD hS hA (fun r6 u7 H locs hp9 hP hD hS => ?_)
      have hP : va_P D vwCl (MW dA h ad r) H := hP
      have hD : va_D A (MW dA h ad r) := hD
      replace hp9 : bI (r.room (1 + (n + 31) / 32)) = r6 := Eq.symm hp9
      subst hp9
      refine lv_if_ne hx hb d_M_series_95 (tgt := 115) rfl (fun _ => ?_) (fun h9 => absurd h9 (by rw [show r.room (1 + (n + 31) / 32) = true from (by show (decide _ || decide _) = true; rw [r3, r4, r5]; exact hro)]; decide))
      refine lv_iload hx hb d_M_series_115 (lv_at hl 0 rfl) ?_
      refine lv_iconst (v := (-1)) hx hb d_M_series_117 (by decide) ?_
      refine lv_icmp_ne hx hb d_M_series_118 (tgt := 168) rfl (fun h9 => absurd (by decide) h9) (fun _ => ?_)
      refine lv_aload_n hx hb d_M_series_121 rfl (lv_at hl 4 rfl) ?_
      refine gF (v := .int (nI r.seriesCount)) hx hb hown hE hK hP 0 rfl rfl layM 12 (by decide) w332 rfl d_M_series_122 ?_
      refine lv_istore hx hb d_M_series_125 hl (by decide) rfl (fun ls hl => ?_)
      have hl : lv_has ls 5 [(4, .int (nI r.seriesCount)), (3, .int (nI n)), (2, .int x.faultPlace), (1, .int x.faultCode), (0, .ref h)] := hl
      refine lv_aload_n hx hb d_M_series_127 rfl (lv_at hl 4 rfl) ?_
      refine lv_iconst (v := 0) hx hb d_M_series_128 (by decide) ?_
      refine lv_iload hx hb d_M_series_129 (lv_at hl 0 rfl) ?_
      refine lv_iload_n hx hb d_M_series_131 rfl (lv_at hl 1 rfl) ?_
      refine lv_i2l (v := lN (n)) hx hb d_M_series_132 (nI_l (by omega)) ?_
      refine lv_lconst (v := 0) hx hb d_M_series_133 (by decide) ?_
      refine lv_iload_n hx hb d_M_series_134 rfl (lv_at hl 1 rfl) ?_
      have hPc := hP.sub (ws' := []) [] rfl
      have hDc := hD.sub (ws' := []) [] (by decide) rfl
      refine jnI (rnS (As := [.int (nI n)]) (rest := [.long 0, .long (lN (n)), .int (nI r.seriesCount), .int 0, .ref h]) hx hb hml hown hE hK (hN _ _ hS) hPc hDc (k_unitsOf l D dA H.size n (show n ≤ 65536 from by omega)) w882 w881 w883 w328 rfl rfl ⟨⟨by decide, by decide⟩, rfl⟩ ⟨(Nat.le_of_ble_eq_true rfl), (Nat.le_of_ble_eq_true rfl)⟩ rfl hl.1 rfl (Nat.le_of_ble_eq_true rfl) d_M_series_135 ⟨(Nat.le_of_ble_eq_true rfl), (Nat.le_of_ble_eq_true rfl)⟩) hP hD hS hA [] [0, 1, 2, 3, 4, 5, 6, 7, 8, 9, 10, 11, 12, 13, 14, 15, 16, 17, 18, 19, 20, 21, 22, 23, 24, 25, 26, 27, 28, 29, 30, 31, 32, 33, 34, 35, 36, 37, 38] (wr := MW dA h ad r) rfl rfl (by decide) (by decide) (fun r8 u9 H locs hp9 hP hD hS => ?_)
      have hP : va_P D vwCl (MW dA h ad r) H := hP
      have hD : va_D A (MW dA h ad r) := hD
      replace hp9 : nI (1 + (n + 31) / 32) = r8 := Eq.symm hp9
      subst hp9
      refine jfI (rnV (As := [.int 0, .int (nI r.seriesCount), .long (lN (n)), .long 0, .int (nI (1 + (n + 31) / 32))]) (rest := []) hx hb hml hown hE hK (hN _ _ hS) hP hD (k_record l D dA H.size h ad r 0 r.seriesCount (lN (n)) 0 (1 + (n + 31) / 32) (by decide) (show r.records < 32000 from by omega) (show r.used + (1 + (n + 31) / 32) < 2 ^ 31 from by omega) (show r.block < 2 ^ 30 from by omega) (by rw [r3, r7, r8]; exact hcr)) (q0 := 0) rfl rfl w889 w888 w890 w891 w328 rfl rfl ⟨⟨by decide, by decide⟩, rfl⟩ ⟨(Nat.le_of_ble_eq_true rfl), (Nat.le_of_ble_eq_true rfl)⟩ rfl hl.1 rfl (Nat.le_of_ble_eq_true rfl) d_M_series_138 ⟨(Nat.le_of_ble_eq_true rfl), (Nat.le_of_ble_eq_true rfl)⟩) hP hD hS hA (fun r10 u11 H locs hp9 hP hD hS => ?_)
      have hP : va_P D vwCl (MW dA h ad (MS.s_fresh (MS.s_used (MS.s_block (MS.s_kept (MS.s_records (MS.s_recordBlocks (MS.s_units (MS.s_seconds (MS.s_firsts (MS.s_recordSeries (MS.s_kinds (MS.s_written (MS.s_cutLeft r (r.rCut (1 + (n + 31) / 32))) (r.rWr (1 + (n + 31) / 32))) (va_up r.kinds r.records 0)) (va_up r.recordSeries r.records r.seriesCount)) (va_up r.firsts r.records (lN (n)))) (va_up r.seconds r.records 0)) (va_up r.units r.records (1 + (n + 31) / 32))) (va_up r.recordBlocks r.records (r.rBlock (1 + (n + 31) / 32)))) (r.records + 1)) (r.rKept (1 + (n + 31) / 32))) (r.rBlock (1 + (n + 31) / 32))) (r.rUsed (1 + (n + 31) / 32))) true)) H := hP
      have hD : va_D A (MW dA h ad (MS.s_fresh (MS.s_used (MS.s_block (MS.s_kept (MS.s_records (MS.s_recordBlocks (MS.s_units (MS.s_seconds (MS.s_firsts (MS.s_recordSeries (MS.s_kinds (MS.s_written (MS.s_cutLeft r (r.rCut (1 + (n + 31) / 32))) (r.rWr (1 + (n + 31) / 32))) (va_up r.kinds r.records 0)) (va_up r.recordSeries r.records r.seriesCount)) (va_up r.firsts r.records (lN (n)))) (va_up r.seconds r.records 0)) (va_up r.units r.records (1 + (n + 31) / 32))) (va_up r.recordBlocks r.records (r.rBlock (1 + (n + 31) / 32)))) (r.records + 1)) (r.rKept (1 + (n + 31) / 32))) (r.rBlock (1 + (n + 31) / 32))) (r.rUsed (1 + (n + 31) / 32))) true)) := hD
      replace hp9 : bI true = r10 := Eq.symm hp9
      subst hp9
      refine lv_if_ne hx hb d_M_series_141 (tgt := 161) rfl (fun _ => ?_) (fun h9 => absurd h9 (by decide))
      refine lv_aload_n hx hb d_M_series_161 rfl (lv_at hl 4 rfl) ?_
      refine lv_iload hx hb d_M_series_162 (lv_at hl 0 rfl) ?_
      refine lv_iload_n hx hb d_M_series_164 rfl (lv_at hl 1 rfl) ?_
      refine jfV (rnV (As := [.int (nI r.seriesCount), .int (nI n)]) (rest := []) hx hb hml hown hE hK (hN _ _ hS) hP hD (k_newSeries l D dA H.size h ad (MS.s_fresh (MS.s_used (MS.s_block (MS.s_kept (MS.s_records (MS.s_recordBlocks (MS.s_units (MS.s_seconds (MS.s_firsts (MS.s_recordSeries (MS.s_kinds (MS.s_written (MS.s_cutLeft r (r.rCut (1 + (n + 31) / 32))) (r.rWr (1 + (n + 31) / 32))) (va_up r.kinds r.records 0)) (va_up r.recordSeries r.records r.seriesCount)) (va_up r.firsts r.records (lN (n)))) (va_up r.seconds r.records 0)) (va_up r.units r.records (1 + (n + 31) / 32))) (va_up r.recordBlocks r.records (r.rBlock (1 + (n + 31) / 32)))) (r.records + 1)) (r.rKept (1 + (n + 31) / 32))) (r.rBlock (1 + (n + 31) / 32))) (r.rUsed (1 + (n + 31) / 32))) true) r.seriesCount n (show r.seriesCount < 256 from by omega)) (q0 := 0) rfl rfl w935 w934 w936 w937 w328 rfl rfl ⟨⟨by decide, by decide⟩, rfl⟩ ⟨(Nat.le_of_ble_eq_true rfl), (Nat.le_of_ble_eq_true rfl)⟩ rfl hl.1 rfl (Nat.le_of_ble_eq_true rfl) d_M_series_165 ⟨(Nat.le_of_ble_eq_true rfl), (Nat.le_of_ble_eq_true rfl)⟩) hP hD hS hA (fun u13 H locs hp9 hP hD hS => ?_)
      have hP : va_P D vwCl (MW dA h ad (MS.s_fresh (MS.s_used (MS.s_block (MS.s_kept (MS.s_records (MS.s_recordBlocks (MS.s_units (MS.s_seconds (MS.s_firsts (MS.s_recordSeries (MS.s_kinds (MS.s_lasts (MS.s_seriesCount (MS.s_textLengths (MS.s_written (MS.s_cutLeft r (r.rCut (1 + (n + 31) / 32))) (r.rWr (1 + (n + 31) / 32))) (va_up r.textLengths r.seriesCount n)) (r.seriesCount + 1)) (va_up r.lasts r.seriesCount (-1))) (va_up r.kinds r.records 0)) (va_up r.recordSeries r.records r.seriesCount)) (va_up r.firsts r.records (lN (n)))) (va_up r.seconds r.records 0)) (va_up r.units r.records (1 + (n + 31) / 32))) (va_up r.recordBlocks r.records (r.rBlock (1 + (n + 31) / 32)))) (r.records + 1)) (r.rKept (1 + (n + 31) / 32))) (r.rBlock (1 + (n + 31) / 32))) (r.rUsed (1 + (n + 31) / 32))) true)) H := hP
      have hD : va_D A (MW dA h ad (MS.s_fresh (MS.s_used (MS.s_block (MS.s_kept (MS.s_records (MS.s_recordBlocks (MS.s_units (MS.s_seconds (MS.s_firsts (MS.s_recordSeries (MS.s_kinds (MS.s_lasts (MS.s_seriesCount (MS.s_textLengths (MS.s_written (MS.s_cutLeft r (r.rCut (1 + (n + 31) / 32))) (r.rWr (1 + (n + 31) / 32))) (va_up r.textLengths r.seriesCount n)) (r.seriesCount + 1)) (va_up r.lasts r.seriesCount (-1))) (va_up r.kinds r.records 0)) (va_up r.recordSeries r.records r.seriesCount)) (va_up r.firsts r.records (lN (n)))) (va_up r.seconds r.records 0)) (va_up r.units r.records (1 + (n + 31) / 32))) (va_up r.recordBlocks r.records (r.rBlock (1 + (n + 31) / 32)))) (r.records + 1)) (r.rKept (1 + (n + 31) / 32))) (r.rBlock (1 + (n + 31) / 32))) (r.rUsed (1 + (n + 31) / 32))) true)) := hD
      refine lv_aload_n hx hb d_M_series_168 rfl (lv_at hl 4 rfl) ?_
      refine lv_iconst (v := 0) hx hb d_M_series_169 (by decide) ?_
      refine pF (v := .int (nI 0)) hx hb hown hE hK hP hD hS 0 rfl rfl layM tyM tokM nmM 2 (by decide) w320 rfl rfl rfl (Nat.le_of_ble_eq_true rfl) d_M_series_170 (fun H locs hP hD hS => ?_)
      have hP : va_P D vwCl (MW dA h ad (MS.s_fresh (MS.s_used (MS.s_block (MS.s_kept (MS.s_records (MS.s_recordBlocks (MS.s_units (MS.s_seconds (MS.s_firsts (MS.s_recordSeries (MS.s_kinds (MS.s_lasts (MS.s_seriesCount (MS.s_textLengths (MS.s_written (MS.s_cutLeft (MS.s_length r 0) (r.rCut (1 + (n + 31) / 32))) (r.rWr (1 + (n + 31) / 32))) (va_up r.textLengths r.seriesCount n)) (r.seriesCount + 1)) (va_up r.lasts r.seriesCount (-1))) (va_up r.kinds r.records 0)) (va_up r.recordSeries r.records r.seriesCount)) (va_up r.firsts r.records (lN (n)))) (va_up r.seconds r.records 0)) (va_up r.units r.records (1 + (n + 31) / 32))) (va_up r.recordBlocks r.records (r.rBlock (1 + (n + 31) / 32)))) (r.records + 1)) (r.rKept (1 + (n + 31) / 32))) (r.rBlock (1 + (n + 31) / 32))) (r.rUsed (1 + (n + 31) / 32))) true)) H := hP
      have hD : va_D A (MW dA h ad (MS.s_fresh (MS.s_used (MS.s_block (MS.s_kept (MS.s_records (MS.s_recordBlocks (MS.s_units (MS.s_seconds (MS.s_firsts (MS.s_recordSeries (MS.s_kinds (MS.s_lasts (MS.s_seriesCount (MS.s_textLengths (MS.s_written (MS.s_cutLeft (MS.s_length r 0) (r.rCut (1 + (n + 31) / 32))) (r.rWr (1 + (n + 31) / 32))) (va_up r.textLengths r.seriesCount n)) (r.seriesCount + 1)) (va_up r.lasts r.seriesCount (-1))) (va_up r.kinds r.records 0)) (va_up r.recordSeries r.records r.seriesCount)) (va_up r.firsts r.records (lN (n)))) (va_up r.seconds r.records 0)) (va_up r.units r.records (1 + (n + 31) / 32))) (va_up r.recordBlocks r.records (r.rBlock (1 + (n + 31) / 32)))) (r.records + 1)) (r.rKept (1 + (n + 31) / 32))) (r.rBlock (1 + (n + 31) / 32))) (r.rUsed (1 + (n + 31) / 32))) true)) := hD
      refine lv_iload hx hb d_M_series_173 (lv_at hl 0 rfl) ?_
      exact rfI hx hb hr hlk hS (MS.s_fresh (MS.s_used (MS.s_block (MS.s_kept (MS.s_records (MS.s_recordBlocks (MS.s_units (MS.s_seconds (MS.s_firsts (MS.s_recordSeries (MS.s_kinds (MS.s_lasts (MS.s_seriesCount (MS.s_textLengths (MS.s_written (MS.s_cutLeft (MS.s_length r 0) (r.rCut (1 + (n + 31) / 32))) (r.rWr (1 + (n + 31) / 32))) (va_up r.textLengths r.seriesCount n)) (r.seriesCount + 1)) (va_up r.lasts r.seriesCount (-1))) (va_up r.kinds r.records 0)) (va_up r.recordSeries r.records r.seriesCount)) (va_up r.firsts r.records (lN (n)))) (va_up r.seconds r.records 0)) (va_up r.units r.records (1 + (n + 31) / 32))) (va_up r.recordBlocks r.records (r.rBlock (1 + (n + 31) / 32)))) (r.records + 1)) (r.rKept (1 + (n + 31) / 32))) (r.rBlock (1 + (n + 31) / 32))) (r.rUsed (1 + (n + 31) / 32))) true) ⟨by rw [r1], by rw [r1, er] <;> rfl⟩ hP hD (Nat.le_of_ble_eq_true rfl) (Nat.le_of_ble_eq_true rfl) d_M_series_175
    refine lv_aload_n hx hb d_M_series_59 rfl (lv_at hl 2 rfl) ?_
    refine jfI (rnV (As := []) (rest := []) hx hb hml hown hE hK (hN _ _ hS) hP hD (k_layText l D dA H.size h ad z (by rw [ez]; exact h1) (by rw [ez]; exact hc6) (by rw [ez]; exact hlb) (by rw [ez]; exact hl1) (by rw [ez]; exact hby)) (q0 := 0) rfl rfl w947 w946 w948 w949 w328 rfl rfl ⟨⟨by decide, by decide⟩, rfl⟩ ⟨(Nat.le_of_ble_eq_true rfl), (Nat.le_of_ble_eq_true rfl)⟩ rfl hl.1 rfl (Nat.le_of_ble_eq_true rfl) d_M_series_60 ⟨(Nat.le_of_ble_eq_true rfl), (Nat.le_of_ble_eq_true rfl)⟩) hP hD hS hA (fun r14 u15 H locs hp9 hP hD hS => ?_)
    have hP : va_P D vwCl (MW dA h ad (MS.s_texts z ((z.layT z.labelCount).1))) H := hP
    have hD : va_D A (MW dA h ad (MS.s_texts z ((z.layT z.labelCount).1))) := hD
    replace hp9 : nI (z.layT z.labelCount).2 = r14 := Eq.symm hp9
    subst hp9
    refine tpi (y := nI n) (congrArg nI (by rw [ez]; exact hn)) ?_
    refine lv_istore_n hx hb d_M_series_63 rfl hl (by decide) rfl (fun ls hl => ?_)
    have hl : lv_has ls 5 [(3, .int (nI n)), (2, .int x.faultPlace), (1, .int x.faultCode), (0, .ref h)] := hl
    exact J64 (MS.s_texts z ((z.layT z.labelCount).1)) (by rw [ez]; rfl) (by rw [ez]; rfl) (by rw [ez]; rfl) (by rw [ez]; rfl) (by rw [ez]; rfl) (by rw [ez]; rfl) (by rw [ez]; rfl) (by rw [ez]; rfl) (by rw [ez]; rfl) H _ ls hP hD hS (lv_sub hl [0, 1, 2, 3] rfl)
  refine lv_aload_n hx hb d_M_series_45 rfl (lv_at hl 2 rfl) ?_
  refine jfI (rnV (As := []) (rest := []) hx hb hml hown hE hK (hN _ _ hS) hP hD (k_readLabels_0 l D dA H.size h ad (MS.s_faultPlace (MS.s_faultCode (MS.s_cod x 0) 0) 0) c7 g7 (show x.length ≤ 65536 from by omega) rfl hrd) (q0 := 0) rfl rfl w435 w434 w436 w437 w328 rfl rfl ⟨⟨by decide, by decide⟩, rfl⟩ ⟨(Nat.le_of_ble_eq_true rfl), (Nat.le_of_ble_eq_true rfl)⟩ rfl hl.1 rfl (Nat.le_of_ble_eq_true rfl) d_M_series_46 ⟨(Nat.le_of_ble_eq_true rfl), (Nat.le_of_ble_eq_true rfl)⟩) hP hD hS hA (fun r16 u17 H locs hp9 hP hD hS => ?_)
  obtain ⟨y18, h9u⟩ : ∃ z9, z9 = u17 := ⟨_, rfl⟩
  subst h9u
  have hP : va_P D vwCl (MW dA h ad y18) H := hP
  have hD : va_D A (MW dA h ad y18) := hD
  obtain ⟨hp9, f_e_19⟩ := hp9
  replace hp9 : bI true = r16 := Eq.symm hp9
  subst hp9
  refine lv_if_ne hx hb d_M_series_49 (tgt := 59) rfl (fun _ => ?_) (fun h9 => absurd h9 (by decide))
  exact J59 y18 f_e_19 H _ ls hP hD hS (lv_sub hl [0, 1, 2] rfl)
