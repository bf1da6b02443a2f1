section
set_option maxHeartbeats 4000000 in
set_option maxRecDepth 100000 in
theorem v_pclear_h (l : Launch) (D : va_G) (dA : Nat → ClassId) (sz : Nat) (h : Nat) (ad : Nat → Nat) (x : VS) : Met l ⟨"SeriesVault$Points", "clear", "()V"⟩ [Cond.code ⟨"SeriesVault$Points", "clear", "()V"⟩ prog_5_method_2_code 1 none] { frames := 1, cells := 0, slots := 0, locals := 0 } (pC D dA [.ref (ad 1)] (VW dA h ad x) sz) (va_Qv (fun (u9 : Unit) => True) (fun (u9 : Unit) t9 => bW D (va_A (VW dA h ad x) sz) (VW dA h ad (VS.s_hsize x 0)) t9) (va_A (VW dA h ad x) sz)) 0 0 (va_A (VW dA h ad x) sz) := by
  refine mkC (y := ⟨"SeriesVault$Points", "clear", "()V"⟩) (cc := prog_5_method_2_code) (maxL := 1) (av := [.ref (ad 1)]) (ws := VW dA h ad x) (sz := sz) (Qc := fun A => va_Qv (fun (u9 : Unit) => True) (fun (u9 : Unit) t9 => bW D A (VW dA h ad (VS.s_hsize x 0)) t9) A) (by decide) (Nat.le_of_ble_eq_true rfl) ?_
  intro A p e s m below meth c ls hsz hB
  obtain ⟨hx, hb, hr, hml, hown, hin, hlk, hE, hK, hP, hD, hS, hA, hN, hl⟩ := hB
  have hown : s.vm.findClass "SeriesVault$Points" = some m.cls := hown
  have hl : lv_has ls 1 [(0, .ref (ad 1))] := hl
  obtain ⟨H, hH⟩ : ∃ z, z = s.heap := ⟨_, rfl⟩
  have hP : va_P D vwCl (VW dA h ad x) H := by rw [hH]; exact hP
  have hS : va_S A s.heap H [] := by rw [hH]; exact hS
  rw [← hH]
  refine lv_aload_n hx hb d_P_clear_0 rfl (lv_at hl 0 rfl) ?_
  refine lv_iconst (v := 0) hx hb d_P_clear_1 (by decide) ?_
  refine pF (v := .int (nI 0)) hx hb hown hE hK hP hD hS 9 rfl rfl layP tyP tokP nmP 3 (by decide) w565 rfl rfl rfl (Nat.le_of_ble_eq_true rfl) d_P_clear_2 (fun H locs hP hD hS => ?_)
  have hP : va_P D vwCl (VW dA h ad (VS.s_hsize x 0)) H := hP
  have hD : va_D A (VW dA h ad (VS.s_hsize x 0)) := hD
  exact rfV hx hb hr hlk hS () trivial hP hD (Nat.le_of_ble_eq_true rfl) (Nat.le_of_ble_eq_true rfl) d_P_clear_5
theorem d_P_set_0 : decode prog_5_method_4_code 0 = .ok (.aload_n 0, 1) := by decide +kernel
theorem d_P_set_1 : decode prog_5_method_4_code 1 = .ok (.getfield 7, 3) := by decide +kernel
theorem d_P_set_4 : decode prog_5_method_4_code 4 = .ok (.iload_n 1, 1) := by decide +kernel
theorem d_P_set_5 : decode prog_5_method_4_code 5 = .ok (.iload_n 2, 1) := by decide +kernel
theorem d_P_set_6 : decode prog_5_method_4_code 6 = .ok (.iastore, 1) := by decide +kernel
theorem d_P_set_7 : decode prog_5_method_4_code 7 = .ok (.aload_n 0, 1) := by decide +kernel
theorem d_P_set_8 : decode prog_5_method_4_code 8 = .ok (.getfield 13, 3) := by decide +kernel
theorem d_P_set_11 : decode prog_5_method_4_code 11 = .ok (.iload_n 1, 1) := by decide +kernel
theorem d_P_set_12 : decode prog_5_method_4_code 12 = .ok (.lload_n 3, 1) := by decide +kernel
theorem d_P_set_13 : decode prog_5_method_4_code 13 = .ok (.lastore, 1) := by decide +kernel
theorem d_P_set_14 : decode prog_5_method_4_code 14 = .ok (.aload_n 0, 1) := by decide +kernel
theorem d_P_set_15 : decode prog_5_method_4_code 15 = .ok (.getfield 17, 3) := by decide +kernel
theorem d_P_set_18 : decode prog_5_method_4_code 18 = .ok (.iload_n 1, 1) := by decide +kernel
theorem d_P_set_19 : decode prog_5_method_4_code 19 = .ok (.lload 5, 2) := by decide +kernel
theorem d_P_set_21 : decode prog_5_method_4_code 21 = .ok (.lastore, 1) := by decide +kernel
theorem d_P_set_22 : decode prog_5_method_4_code 22 = .ok (.return_, 1) := by decide +kernel
set_option maxHeartbeats 4000000 in
set_option maxRecDepth 100000 in
theorem v_pset_h (l : Launch) (D : va_G) (dA : Nat → ClassId) (sz : Nat) (h : Nat) (ad : Nat → Nat) (x : VS) (q : Nat) (w : Nat) (a : Int64) (b : Int64) (hq : q < x.hN) (h9 : x.hN ≤ 65536) : Met l ⟨"SeriesVault$Points", "set", "(IIJJ)V"⟩ [Cond.code ⟨"SeriesVault$Points", "set", "(IIJJ)V"⟩ prog_5_method_4_code 7 none] { frames := 1, cells := 0, slots := 0, locals := 0 } (pC D dA [.ref (ad 1), .int (nI q), .int (nI w), .long a, .long b] (VW dA h ad x) sz) (va_Qv (fun (u9 : Unit) => True) (fun (u9 : Unit) t9 => bW D (va_A (VW dA h ad x) sz) (VW dA h ad (VS.s_hV (VS.s_hT (VS.s_hO x (va_up x.hO q w)) (va_up x.hT q a)) (va_up x.hV q b))) t9) (va_A (VW dA h ad x) sz)) 0 0 (va_A (VW dA h ad x) sz) := by
  refine mkC (y := ⟨"SeriesVault$Points", "set", "(IIJJ)V"⟩) (cc := prog_5_method_4_code) (maxL := 7) (av := [.ref (ad 1), .int (nI q), .int (nI w), .long a, .long b]) (ws := VW dA h ad x) (sz := sz) (Qc := fun A => va_Qv (fun (u9 : Unit) => True) (fun (u9 : Unit) t9 => bW D A (VW dA h ad (VS.s_hV (VS.s_hT (VS.s_hO x (va_up x.hO q w)) (va_up x.hT q a)) (va_up x.hV q b))) t9) A) (by decide) (Nat.le_of_ble_eq_true rfl) ?_
  intro A p e s m below meth c ls hsz hB
  obtain ⟨hx, hb, hr, hml, hown, hin, hlk, hE, hK, hP, hD, hS, hA, hN, hl⟩ := hB
  have hown : s.vm.findClass "SeriesVault$Points" = some m.cls := hown
  have hl : lv_has ls 7 [(0, .ref (ad 1)), (1, .int (nI q)), (2, .int (nI w)), (3, .long a), (5, .long b)] := hl
  obtain ⟨H, hH⟩ : ∃ z, z = s.heap := ⟨_, rfl⟩
  have hP : va_P D vwCl (VW dA h ad x) H := by rw [hH]; exact hP
  have hS : va_S A s.heap H [] := by rw [hH]; exact hS
  rw [← hH]
  refine lv_aload_n hx hb d_P_set_0 rfl (lv_at hl 0 rfl) ?_
  refine gF (v := .ref (x.hA 0)) hx hb hown hE hK hP 9 rfl rfl layP 0 (by decide) w185 rfl d_P_set_1 ?_
  refine lv_iload_n hx hb d_P_set_4 rfl (lv_at hl 1 rfl) ?_
  refine lv_iload_n hx hb d_P_set_5 rfl (lv_at hl 2 rfl) ?_
  refine nistN (v := w) (n := x.hN) hx hb hK hP hD hS 10 1 rfl rfl (q) (by omega) (by omega) d_P_set_6 (fun H locs hP hD hS => ?_)
  have hP : va_P D vwCl (VW dA h ad (VS.s_hO x (va_up x.hO q w))) H := hP
  have hD : va_D A (VW dA h ad (VS.s_hO x (va_up x.hO q w))) := hD
  refine lv_aload_n hx hb d_P_set_7 rfl (lv_at hl 0 rfl) ?_
  refine gF (v := .ref (x.hA 1)) hx hb hown hE hK hP 9 rfl rfl layP 1 (by decide) w187 rfl d_P_set_8 ?_
  refine lv_iload_n hx hb d_P_set_11 rfl (lv_at hl 1 rfl) ?_
  refine lv_lload_n hx hb d_P_set_12 rfl (lv_at hl 3 rfl) ?_
  refine nlst (n := x.hN) hx hb hK hP hD hS 11 2 rfl rfl (q) (by omega) (by omega) d_P_set_13 (fun H locs hP hD hS => ?_)
  have hP : va_P D vwCl (VW dA h ad (VS.s_hT (VS.s_hO x (va_up x.hO q w)) (va_up x.hT q a))) H := hP
  have hD : va_D A (VW dA h ad (VS.s_hT (VS.s_hO x (va_up x.hO q w)) (va_up x.hT q a))) := hD
  refine lv_aload_n hx hb d_P_set_14 rfl (lv_at hl 0 rfl) ?_
  refine gF (v := .ref (x.hA 2)) hx hb hown hE hK hP 9 rfl rfl layP 2 (by decide) w188 rfl d_P_set_15 ?_
  refine lv_iload_n hx hb d_P_set_18 rfl (lv_at hl 1 rfl) ?_
  refine lv_lload hx hb d_P_set_19 (lv_at hl 4 rfl) ?_
  refine nlst (n := x.hN) hx hb hK hP hD hS 12 2 rfl rfl (q) (by omega) (by omega) d_P_set_21 (fun H locs hP hD hS => ?_)
  have hP : va_P D vwCl (VW dA h ad (VS.s_hV (VS.s_hT (VS.s_hO x (va_up x.hO q w)) (va_up x.hT q a)) (va_up x.hV q b))) H := hP
  have hD : va_D A (VW dA h ad (VS.s_hV (VS.s_hT (VS.s_hO x (va_up x.hO q w)) (va_up x.hT q a)) (va_up x.hV q b))) := hD
  exact rfV hx hb hr hlk hS () trivial hP hD (Nat.le_of_ble_eq_true rfl) (Nat.le_of_ble_eq_true rfl) d_P_set_22
theorem d_P_add_0 : decode prog_5_method_3_code 0 = .ok (.aload_n 0, 1) := by decide +kernel
theorem d_P_add_1 : decode prog_5_method_3_code 1 = .ok (.getfield 20, 3) := by decide +kernel
theorem d_P_add_4 : decode prog_5_method_3_code 4 = .ok (.aload_n 0, 1) := by decide +kernel
theorem d_P_add_5 : decode prog_5_method_3_code 5 = .ok (.getfield 7, 3) := by decide +kernel
theorem d_P_add_8 : decode prog_5_method_3_code 8 = .ok (.arraylength, 1) := by decide +kernel
theorem d_P_add_9 : decode prog_5_method_3_code 9 = .ok (.if_icmp .ne 54, 3) := by decide +kernel
theorem d_P_add_63 : decode prog_5_method_3_code 63 = .ok (.aload_n 0, 1) := by decide +kernel
theorem d_P_add_64 : decode prog_5_method_3_code 64 = .ok (.aload_n 0, 1) := by decide +kernel
theorem d_P_add_65 : decode prog_5_method_3_code 65 = .ok (.getfield 20, 3) := by decide +kernel
theorem d_P_add_68 : decode prog_5_method_3_code 68 = .ok (.iload_n 1, 1) := by decide +kernel
theorem d_P_add_69 : decode prog_5_method_3_code 69 = .ok (.lload_n 2, 1) := by decide +kernel
theorem d_P_add_70 : decode prog_5_method_3_code 70 = .ok (.lload 4, 2) := by decide +kernel
theorem d_P_add_72 : decode prog_5_method_3_code 72 = .ok (.invokevirtual 33, 3) := by decide +kernel
theorem d_P_add_75 : decode prog_5_method_3_code 75 = .ok (.aload_n 0, 1) := by decide +kernel
theorem d_P_add_76 : decode prog_5_method_3_code 76 = .ok (.dup, 1) := by decide +kernel
theorem d_P_add_77 : decode prog_5_method_3_code 77 = .ok (.getfield 20, 3) := by decide +kernel
theorem d_P_add_80 : decode prog_5_method_3_code 80 = .ok (.iconst 1, 1) := by decide +kernel
theorem d_P_add_81 : decode prog_5_method_3_code 81 = .ok (.iadd, 1) := by decide +kernel
theorem d_P_add_82 : decode prog_5_method_3_code 82 = .ok (.putfield 20, 3) := by decide +kernel
theorem d_P_add_85 : decode prog_5_method_3_code 85 = .ok (.return_, 1) := by decide +kernel
theorem w1085 : Cond.methodLink "SeriesVault$Points" 33 ⟨"SeriesVault$Points", "set", "(IIJJ)V"⟩ ∈ aW := aw_of (tb_5 (List.mem_of_getElem? (i := 159) rfl)) rfl
theorem w1086 : Cond.code ⟨"SeriesVault$Points", "set", "(IIJJ)V"⟩ prog_5_method_4_code 7 none ∈ aW := aw_of (tb_5 (List.mem_of_getElem? (i := 162) rfl)) rfl
theorem w1087 : Cond.instanceMethod ⟨"SeriesVault$Points", "set", "(IIJJ)V"⟩ ∈ aW := aw_of (tb_5 (List.mem_of_getElem? (i := 161) rfl)) rfl
theorem w1088 : Cond.selects "SeriesVault$Points" ⟨"SeriesVault$Points", "set", "(IIJJ)V"⟩ ⟨"SeriesVault$Points", "set", "(IIJJ)V"⟩ ∈ aW := aw_pr (List.mem_map.mpr ⟨_, pv_2 (List.mem_of_getElem? (i := 5) rfl), rfl⟩) rfl
set_option maxHeartbeats 4000000 in
set_option maxRecDepth 100000 in
theorem v_padd_h (l : Launch) (D : va_G) (dA : Nat → ClassId) (sz : Nat) (h : Nat) (ad : Nat → Nat) (x : VS) (w : Nat) (a : Int64) (b : Int64) (h0 : x.hsize < x.hN) (h9 : x.hN ≤ 65536) : Met l ⟨"SeriesVault$Points", "add", "(IJJ)V"⟩ [Cond.code ⟨"SeriesVault$Points", "add", "(IJJ)V"⟩ prog_5_method_3_code 6 none] { frames := 2, cells := 0, slots := 0, locals := 26 } (pC D dA [.ref (ad 1), .int (nI w), .long a, .long b] (VW dA h ad x) sz) (va_Qv (fun (u9 : Unit) => True) (fun (u9 : Unit) t9 => bW D (va_A (VW dA h ad x) sz) (VW dA h ad (VS.s_hsize (VS.s_hV (VS.s_hT (VS.s_hO x (va_up x.hO x.hsize w)) (va_up x.hT x.hsize a)) (va_up x.hV x.hsize b)) (x.hsize + 1))) t9) (va_A (VW dA h ad x) sz)) 0 0 (va_A (VW dA h ad x) sz) := by
  refine mkC (y := ⟨"SeriesVault$Points", "add", "(IJJ)V"⟩) (cc := prog_5_method_3_code) (maxL := 6) (av := [.ref (ad 1), .int (nI w), .long a, .long b]) (ws := VW dA h ad x) (sz := sz) (Qc := fun A => va_Qv (fun (u9 : Unit) => True) (fun (u9 : Unit) t9 => bW D A (VW dA h ad (VS.s_hsize (VS.s_hV (VS.s_hT (VS.s_hO x (va_up x.hO x.hsize w)) (va_up x.hT x.hsize a)) (va_up x.hV x.hsize b)) (x.hsize + 1))) t9) A) (by decide) (Nat.le_of_ble_eq_true rfl) ?_
  intro A p e s m below meth c ls hsz hB
  obtain ⟨hx, hb, hr, hml, hown, hin, hlk, hE, hK, hP, hD, hS, hA, hN, hl⟩ := hB
  have hown : s.vm.findClass "SeriesVault$Points" = some m.cls := hown
  have hl : lv_has ls 6 [(0, .ref (ad 1)), (1, .int (nI w)), (2, .long a), (4, .long b)] := hl
  obtain ⟨H, hH⟩ : ∃ z, z = s.heap := ⟨_, rfl⟩
  have hP : va_P D vwCl (VW dA h ad x) H := by rw [hH]; exact hP
  have hS : va_S A s.heap H [] := by rw [hH]; exact hS
  rw [← hH]
  refine lv_aload_n hx hb d_P_add_0 rfl (lv_at hl 0 rfl) ?_
  refine gF (v := .int (nI x.hsize)) hx hb hown hE hK hP 9 rfl rfl layP 3 (by decide) w565 rfl d_P_add_1 ?_
  refine lv_aload_n hx hb d_P_add_4 rfl (lv_at hl 0 rfl) ?_
  refine gF (v := .ref (x.hA 0)) hx hb hown hE hK hP 9 rfl rfl layP 0 (by decide) w185 rfl d_P_add_5 ?_
  refine va_alen (v := nI x.hN) hx hb hK hP 10 1 rfl rfl rfl d_P_add_8 ?_
  refine lv_icmp_ne hx hb d_P_add_9 (tgt := 63) rfl (fun g1 => ?_) (fun g1 => ?_)
  rotate_left
  · have g1 := (nI_eq (a := x.hsize) (b := x.hN) (by omega) (by omega)).mp g1; exfalso; omega
  have g1 := mt (nI_eq (a := x.hsize) (b := x.hN) (by omega) (by omega)).mpr g1
  refine lv_aload_n hx hb d_P_add_63 rfl (lv_at hl 0 rfl) ?_
  refine lv_aload_n hx hb d_P_add_64 rfl (lv_at hl 0 rfl) ?_
  refine gF (v := .int (nI x.hsize)) hx hb hown hE hK hP 9 rfl rfl layP 3 (by decide) w565 rfl d_P_add_65 ?_
  refine lv_iload_n hx hb d_P_add_68 rfl (lv_at hl 1 rfl) ?_
  refine lv_lload_n hx hb d_P_add_69 rfl (lv_at hl 2 rfl) ?_
  refine lv_lload hx hb d_P_add_70 (lv_at hl 3 rfl) ?_
  refine jfV (rnV (As := [.int (nI x.hsize), .int (nI w), .long a, .long b]) (rest := []) hx hb hml hown hE hK (hN _ _ hS) hP hD (v_pset_h l D dA H.size h ad x x.hsize w a b (show x.hsize < x.hN from by omega) (show x.hN ≤ 65536 from by omega)) (q0 := 9) rfl rfl w1086 w1085 w1087 w1088 w578 rfl rfl ⟨⟨by decide, by decide⟩, rfl⟩ ⟨(Nat.le_of_ble_eq_true rfl), (Nat.le_of_ble_eq_true rfl)⟩ rfl hl.1 rfl (Nat.le_of_ble_eq_true rfl) d_P_add_72 ⟨(Nat.le_of_ble_eq_true rfl), (Nat.le_of_ble_eq_true rfl)⟩) hP hD hS hA (fun u3 H locs hp9 hP hD hS => ?_)
  have hP : va_P D vwCl (VW dA h ad (VS.s_hV (VS.s_hT (VS.s_hO x (va_up x.hO x.hsize w)) (va_up x.hT x.hsize a)) (va_up x.hV x.hsize b))) H := hP
  have hD : va_D A (VW dA h ad (VS.s_hV (VS.s_hT (VS.s_hO x (va_up x.hO x.hsize w)) (va_up x.hT x.hsize a)) (va_up x.hV x.hsize b))) := hD
  refine lv_aload_n hx hb d_P_add_75 rfl (lv_at hl 0 rfl) ?_
  refine lv_dup hx hb d_P_add_76 rfl ?_
  refine gF (v := .int (nI x.hsize)) hx hb hown hE hK hP 9 rfl rfl layP 3 (by decide) w565 rfl d_P_add_77 ?_
  refine lv_iconst (v := 1) hx hb d_P_add_80 (by decide) ?_
  refine lv_iadd hx hb d_P_add_81 (tpi (y := nI (x.hsize + 1)) (nI_add (x.hsize) (1)) ?_)
  refine pF (v := .int (nI (x.hsize + 1))) hx hb hown hE hK hP hD hS 9 rfl rfl layP tyP tokP nmP 3 (by decide) w565 rfl rfl rfl (Nat.le_of_ble_eq_true rfl) d_P_add_82 (fun H locs hP hD hS => ?_)
  have hP : va_P D vwCl (VW dA h ad (VS.s_hsize (VS.s_hV (VS.s_hT (VS.s_hO x (va_up x.hO x.hsize w)) (va_up x.hT x.hsize a)) (va_up x.hV x.hsize b)) (x.hsize + 1))) H := hP
  have hD : va_D A (VW dA h ad (VS.s_hsize (VS.s_hV (VS.s_hT (VS.s_hO x (va_up x.hO x.hsize w)) (va_up x.hT x.hsize a)) (va_up x.hV x.hsize b)) (x.hsize + 1))) := hD
  exact rfV hx hb hr hlk hS () trivial hP hD (Nat.le_of_ble_eq_true rfl) (Nat.le_of_ble_eq_true rfl) d_P_add_85
set_option maxHeartbeats 4000000 in
set_option maxRecDepth 100000 in
theorem v_pclear_g (l : Launch) (D : va_G) (dA : Nat → ClassId) (sz : Nat) (h : Nat) (ad : Nat → Nat) (x : VS) : Met l ⟨"SeriesVault$Points", "clear", "()V"⟩ [Cond.code ⟨"SeriesVault$Points", "clear", "()V"⟩ prog_5_method_2_code 1 none] { frames := 1, cells := 0, slots := 0, locals := 0 } (pC D dA [.ref (ad 2)] (VW dA h ad x) sz) (va_Qv (fun (u9 : Unit) => True) (fun (u9 : Unit) t9 => bW D (va_A (VW dA h ad x) sz) (VW dA h ad (VS.s_gsize x 0)) t9) (va_A (VW dA h ad x) sz)) 0 0 (va_A (VW dA h ad x) sz) := by
  refine mkC (y := ⟨"SeriesVault$Points", "clear", "()V"⟩) (cc := prog_5_method_2_code) (maxL := 1) (av := [.ref (ad 2)]) (ws := VW dA h ad x) (sz := sz) (Qc := fun A => va_Qv (fun (u9 : Unit) => True) (fun (u9 : Unit) t9 => bW D A (VW dA h ad (VS.s_gsize x 0)) t9) A) (by decide) (Nat.le_of_ble_eq_true rfl) ?_
  intro A p e s m below meth c ls hsz hB
  obtain ⟨hx, hb, hr, hml, hown, hin, hlk, hE, hK, hP, hD, hS, hA, hN, hl⟩ := hB
  have hown : s.vm.findClass "SeriesVault$Points" = some m.cls := hown
  have hl : lv_has ls 1 [(0, .ref (ad 2))] := hl
  obtain ⟨H, hH⟩ : ∃ z, z = s.heap := ⟨_, rfl⟩
  have hP : va_P D vwCl (VW dA h ad x) H := by rw [hH]; exact hP
  have hS : va_S A s.heap H [] := by rw [hH]; exact hS
  rw [← hH]
  refine lv_aload_n hx hb d_P_clear_0 rfl (lv_at hl 0 rfl) ?_
  refine lv_iconst (v := 0) hx hb d_P_clear_1 (by decide) ?_
  refine pF (v := .int (nI 0)) hx hb hown hE hK hP hD hS 13 rfl rfl layP tyP tokP nmP 3 (by decide) w565 rfl rfl rfl (Nat.le_of_ble_eq_true rfl) d_P_clear_2 (fun H locs hP hD hS => ?_)
  have hP : va_P D vwCl (VW dA h ad (VS.s_gsize x 0)) H := hP
  have hD : va_D A (VW dA h ad (VS.s_gsize x 0)) := hD
  exact rfV hx hb hr hlk hS () trivial hP hD (Nat.le_of_ble_eq_true rfl) (Nat.le_of_ble_eq_true rfl) d_P_clear_5
set_option maxHeartbeats 4000000 in
set_option maxRecDepth 100000 in
theorem v_pset_g (l : Launch) (D : va_G) (dA : Nat → ClassId) (sz : Nat) (h : Nat) (ad : Nat → Nat) (x : VS) (q : Nat) (w : Nat) (a : Int64) (b : Int64) (hq : q < x.gN) (h9 : x.gN ≤ 65536) : Met l ⟨"SeriesVault$Points", "set", "(IIJJ)V"⟩ [Cond.code ⟨"SeriesVault$Points", "set", "(IIJJ)V"⟩ prog_5_method_4_code 7 none] { frames := 1, cells := 0, slots := 0, locals := 0 } (pC D dA [.ref (ad 2), .int (nI q), .int (nI w), .long a, .long b] (VW dA h ad x) sz) (va_Qv (fun (u9 : Unit) => True) (fun (u9 : Unit) t9 => bW D (va_A (VW dA h ad x) sz) (VW dA h ad (VS.s_gV (VS.s_gT (VS.s_gO x (va_up x.gO q w)) (va_up x.gT q a)) (va_up x.gV q b))) t9) (va_A (VW dA h ad x) sz)) 0 0 (va_A (VW dA h ad x) sz) := by
  refine mkC (y := ⟨"SeriesVault$Points", "set", "(IIJJ)V"⟩) (cc := prog_5_method_4_code) (maxL := 7) (av := [.ref (ad 2), .int (nI q), .int (nI w), .long a, .long b]) (ws := VW dA h ad x) (sz := sz) (Qc := fun A => va_Qv (fun (u9 : Unit) => True) (fun (u9 : Unit) t9 => bW D A (VW dA h ad (VS.s_gV (VS.s_gT (VS.s_gO x (va_up x.gO q w)) (va_up x.gT q a)) (va_up x.gV q b))) t9) A) (by decide) (Nat.le_of_ble_eq_true rfl) ?_
  intro A p e s m below meth c ls hsz hB
  obtain ⟨hx, hb, hr, hml, hown, hin, hlk, hE, hK, hP, hD, hS, hA, hN, hl⟩ := hB
  have hown : s.vm.findClass "SeriesVault$Points" = some m.cls := hown
  have hl : lv_has ls 7 [(0, .ref (ad 2)), (1, .int (nI q)), (2, .int (nI w)), (3, .long a), (5, .long b)] := hl
  obtain ⟨H, hH⟩ : ∃ z, z = s.heap := ⟨_, rfl⟩
  have hP : va_P D vwCl (VW dA h ad x) H := by rw [hH]; exact hP
  have hS : va_S A s.heap H [] := by rw [hH]; exact hS
  rw [← hH]
  refine lv_aload_n hx hb d_P_set_0 rfl (lv_at hl 0 rfl) ?_
  refine gF (v := .ref (x.gA 0)) hx hb hown hE hK hP 13 rfl rfl layP 0 (by decide) w185 rfl d_P_set_1 ?_
  refine lv_iload_n hx hb d_P_set_4 rfl (lv_at hl 1 rfl) ?_
  refine lv_iload_n hx hb d_P_set_5 rfl (lv_at hl 2 rfl) ?_
  refine nistN (v := w) (n := x.gN) hx hb hK hP hD hS 14 1 rfl rfl (q) (by omega) (by omega) d_P_set_6 (fun H locs hP hD hS => ?_)
  have hP : va_P D vwCl (VW dA h ad (VS.s_gO x (va_up x.gO q w))) H := hP
  have hD : va_D A (VW dA h ad (VS.s_gO x (va_up x.gO q w))) := hD
  refine lv_aload_n hx hb d_P_set_7 rfl (lv_at hl 0 rfl) ?_
  refine gF (v := .ref (x.gA 1)) hx hb hown hE hK hP 13 rfl rfl layP 1 (by decide) w187 rfl d_P_set_8 ?_
  refine lv_iload_n hx hb d_P_set_11 rfl (lv_at hl 1 rfl) ?_
  refine lv_lload_n hx hb d_P_set_12 rfl (lv_at hl 3 rfl) ?_
  refine nlst (n := x.gN) hx hb hK hP hD hS 15 2 rfl rfl (q) (by omega) (by omega) d_P_set_13 (fun H locs hP hD hS => ?_)
  have hP : va_P D vwCl (VW dA h ad (VS.s_gT (VS.s_gO x (va_up x.gO q w)) (va_up x.gT q a))) H := hP
  have hD : va_D A (VW dA h ad (VS.s_gT (VS.s_gO x (va_up x.gO q w)) (va_up x.gT q a))) := hD
  refine lv_aload_n hx hb d_P_set_14 rfl (lv_at hl 0 rfl) ?_
  refine gF (v := .ref (x.gA 2)) hx hb hown hE hK hP 13 rfl rfl layP 2 (by decide) w188 rfl d_P_set_15 ?_
  refine lv_iload_n hx hb d_P_set_18 rfl (lv_at hl 1 rfl) ?_
  refine lv_lload hx hb d_P_set_19 (lv_at hl 4 rfl) ?_
  refine nlst (n := x.gN) hx hb hK hP hD hS 16 2 rfl rfl (q) (by omega) (by omega) d_P_set_21 (fun H locs hP hD hS => ?_)
  have hP : va_P D vwCl (VW dA h ad (VS.s_gV (VS.s_gT (VS.s_gO x (va_up x.gO q w)) (va_up x.gT q a)) (va_up x.gV q b))) H := hP
  have hD : va_D A (VW dA h ad (VS.s_gV (VS.s_gT (VS.s_gO x (va_up x.gO q w)) (va_up x.gT q a)) (va_up x.gV q b))) := hD
  exact rfV hx hb hr hlk hS () trivial hP hD (Nat.le_of_ble_eq_true rfl) (Nat.le_of_ble_eq_true rfl) d_P_set_22
set_option maxHeartbeats 4000000 in
set_option maxRecDepth 100000 in
theorem v_padd_g (l : Launch) (D : va_G) (dA : Nat → ClassId) (sz : Nat) (h : Nat) (ad : Nat → Nat) (x : VS) (w : Nat) (a : Int64) (b : Int64) (h0 : x.gsize < x.gN) (h9 : x.gN ≤ 65536) : Met l ⟨"SeriesVault$Points", "add", "(IJJ)V"⟩ [Cond.code ⟨"SeriesVault$Points", "add", "(IJJ)V"⟩ prog_5_method_3_code 6 none] { frames := 2, cells := 0, slots := 0, locals := 26 } (pC D dA [.ref (ad 2), .int (nI w), .long a, .long b] (VW dA h ad x) sz) (va_Qv (fun (u9 : Unit) => True) (fun (u9 : Unit) t9 => bW D (va_A (VW dA h ad x) sz) (VW dA h ad (VS.s_gsize (VS.s_gV (VS.s_gT (VS.s_gO x (va_up x.gO x.gsize w)) (va_up x.gT x.gsize a)) (va_up x.gV x.gsize b)) (x.gsize + 1))) t9) (va_A (VW dA h ad x) sz)) 0 0 (va_A (VW dA h ad x) sz) := by
  refine mkC (y := ⟨"SeriesVault$Points", "add", "(IJJ)V"⟩) (cc := prog_5_method_3_code) (maxL := 6) (av := [.ref (ad 2), .int (nI w), .long a, .long b]) (ws := VW dA h ad x) (sz := sz) (Qc := fun A => va_Qv (fun (u9 : Unit) => True) (fun (u9 : Unit) t9 => bW D A (VW dA h ad (VS.s_gsize (VS.s_gV (VS.s_gT (VS.s_gO x (va_up x.gO x.gsize w)) (va_up x.gT x.gsize a)) (va_up x.gV x.gsize b)) (x.gsize + 1))) t9) A) (by decide) (Nat.le_of_ble_eq_true rfl) ?_
  intro A p e s m below meth c ls hsz hB
  obtain ⟨hx, hb, hr, hml, hown, hin, hlk, hE, hK, hP, hD, hS, hA, hN, hl⟩ := hB
  have hown : s.vm.findClass "SeriesVault$Points" = some m.cls := hown
  have hl : lv_has ls 6 [(0, .ref (ad 2)), (1, .int (nI w)), (2, .long a), (4, .long b)] := hl
  obtain ⟨H, hH⟩ : ∃ z, z = s.heap := ⟨_, rfl⟩
  have hP : va_P D vwCl (VW dA h ad x) H := by rw [hH]; exact hP
  have hS : va_S A s.heap H [] := by rw [hH]; exact hS
  rw [← hH]
  refine lv_aload_n hx hb d_P_add_0 rfl (lv_at hl 0 rfl) ?_
  refine gF (v := .int (nI x.gsize)) hx hb hown hE hK hP 13 rfl rfl layP 3 (by decide) w565 rfl d_P_add_1 ?_
  refine lv_aload_n hx hb d_P_add_4 rfl (lv_at hl 0 rfl) ?_
  refine gF (v := .ref (x.gA 0)) hx hb hown hE hK hP 13 rfl rfl layP 0 (by decide) w185 rfl d_P_add_5 ?_
  refine va_alen (v := nI x.gN) hx hb hK hP 14 1 rfl rfl rfl d_P_add_8 ?_
  refine lv_icmp_ne hx hb d_P_add_9 (tgt := 63) rfl (fun g1 => ?_) (fun g1 => ?_)
  rotate_left
  · have g1 := (nI_eq (a := x.gsize) (b := x.gN) (by omega) (by omega)).mp g1; exfalso; omega
  have g1 := mt (nI_eq (a := x.gsize) (b := x.gN) (by omega) (by omega)).mpr g1
  refine lv_aload_n hx hb d_P_add_63 rfl (lv_at hl 0 rfl) ?_
  refine lv_aload_n hx hb d_P_add_64 rfl (lv_at hl 0 rfl) ?_
  refine gF (v := .int (nI x.gsize)) hx hb hown hE hK hP 13 rfl rfl layP 3 (by decide) w565 rfl d_P_add_65 ?_
  refine lv_iload_n hx hb d_P_add_68 rfl (lv_at hl 1 rfl) ?_
  refine lv_lload_n hx hb d_P_add_69 rfl (lv_at hl 2 rfl) ?_
  refine lv_lload hx hb d_P_add_70 (lv_at hl 3 rfl) ?_
  refine jfV (rnV (As := [.int (nI x.gsize), .int (nI w), .long a, .long b]) (rest := []) hx hb hml hown hE hK (hN _ _ hS) hP hD (v_pset_g l D dA H.size h ad x x.gsize w a b (show x.gsize < x.gN from by omega) (show x.gN ≤ 65536 from by omega)) (q0 := 13) rfl rfl w1086 w1085 w1087 w1088 w578 rfl rfl ⟨⟨by decide, by decide⟩, rfl⟩ ⟨(Nat.le_of_ble_eq_true rfl), (Nat.le_of_ble_eq_true rfl)⟩ rfl hl.1 rfl (Nat.le_of_ble_eq_true rfl) d_P_add_72 ⟨(Nat.le_of_ble_eq_true rfl), (Nat.le_of_ble_eq_true rfl)⟩) hP hD hS hA (fun u3 H locs hp9 hP hD hS => ?_)
  have hP : va_P D vwCl (VW dA h ad (VS.s_gV (VS.s_gT (VS.s_gO x (va_up x.gO x.gsize w)) (va_up x.gT x.gsize a)) (va_up x.gV x.gsize b))) H := hP
  have hD : va_D A (VW dA h ad (VS.s_gV (VS.s_gT (VS.s_gO x (va_up x.gO x.gsize w)) (va_up x.gT x.gsize a)) (va_up x.gV x.gsize b))) := hD
  refine lv_aload_n hx hb d_P_add_75 rfl (lv_at hl 0 rfl) ?_
  refine lv_dup hx hb d_P_add_76 rfl ?_
  refine gF (v := .int (nI x.gsize)) hx hb hown hE hK hP 13 rfl rfl layP 3 (by decide) w565 rfl d_P_add_77 ?_
  refine lv_iconst (v := 1) hx hb d_P_add_80 (by decide) ?_
  refine lv_iadd hx hb d_P_add_81 (tpi (y := nI (x.gsize + 1)) (nI_add (x.gsize) (1)) ?_)
  refine pF (v := .int (nI (x.gsize + 1))) hx hb hown hE hK hP hD hS 13 rfl rfl layP tyP tokP nmP 3 (by decide) w565 rfl rfl rfl (Nat.le_of_ble_eq_true rfl) d_P_add_82 (fun H locs hP hD hS => ?_)
  have hP : va_P D vwCl (VW dA h ad (VS.s_gsize (VS.s_gV (VS.s_gT (VS.s_gO x (va_up x.gO x.gsize w)) (va_up x.gT x.gsize a)) (va_up x.gV x.gsize b)) (x.gsize + 1))) H := hP
  have hD : va_D A (VW dA h ad (VS.s_gsize (VS.s_gV (VS.s_gT (VS.s_gO x (va_up x.gO x.gsize w)) (va_up x.gT x.gsize a)) (va_up x.gV x.gsize b)) (x.gsize + 1))) := hD
  exact rfV hx hb hr hlk hS () trivial hP hD (Nat.le_of_ble_eq_true rfl) (Nat.le_of_ble_eq_true rfl) d_P_add_85
/-- is point i of the head within -/
def VS.hW (x : VS) (w : Nat) (a b : Int64) (i : Nat) : Bool := decide (x.hO i = w) && (!decide (x.hT i < a) && !decide (b < x.hT i))
def VS.hWn (x : VS) (w : Nat) (a b : Int64) (i : Nat) : Bool := !x.hW w a b i
def VS.hBl (x : VS) (a : Int64) (i : Nat) : Bool := !decide (a ≤ x.hT i)
def VS.hAb (x : VS) (a : Int64) (i : Nat) : Bool := !decide (x.hT i < a)
theorem d_P_isWithin_0 : decode prog_5_method_5_code 0 = .ok (.aload_n 0, 1) := by decide +kernel
theorem d_P_isWithin_1 : decode prog_5_method_5_code 1 = .ok (.getfield 7, 3) := by decide +kernel
theorem d_P_isWithin_4 : decode prog_5_method_5_code 4 = .ok (.iload_n 1, 1) := by decide +kernel
theorem d_P_isWithin_5 : decode prog_5_method_5_code 5 = .ok (.iaload, 1) := by decide +kernel
theorem d_P_isWithin_6 : decode prog_5_method_5_code 6 = .ok (.iload_n 2, 1) := by decide +kernel
theorem d_P_isWithin_7 : decode prog_5_method_5_code 7 = .ok (.if_icmp .ne 30, 3) := by decide +kernel
theorem d_P_isWithin_37 : decode prog_5_method_5_code 37 = .ok (.iconst 0, 1) := by decide +kernel
theorem d_P_isWithin_38 : decode prog_5_method_5_code 38 = .ok (.ireturn, 1) := by decide +kernel
theorem d_P_isWithin_10 : decode prog_5_method_5_code 10 = .ok (.aload_n 0, 1) := by decide +kernel
theorem d_P_isWithin_11 : decode prog_5_method_5_code 11 = .ok (.getfield 13, 3) := by decide +kernel
theorem d_P_isWithin_14 : decode prog_5_method_5_code 14 = .ok (.iload_n 1, 1) := by decide +kernel
theorem d_P_isWithin_15 : decode prog_5_method_5_code 15 = .ok (.laload, 1) := by decide +kernel
theorem d_P_isWithin_16 : decode prog_5_method_5_code 16 = .ok (.lload_n 3, 1) := by decide +kernel
theorem d_P_isWithin_17 : decode prog_5_method_5_code 17 = .ok (.lcmp, 1) := by decide +kernel
theorem d_P_isWithin_18 : decode prog_5_method_5_code 18 = .ok (.ifCond .lt 19, 3) := by decide +kernel
theorem d_P_isWithin_21 : decode prog_5_method_5_code 21 = .ok (.aload_n 0, 1) := by decide +kernel
theorem d_P_isWithin_22 : decode prog_5_method_5_code 22 = .ok (.getfield 13, 3) := by decide +kernel
theorem d_P_isWithin_25 : decode prog_5_method_5_code 25 = .ok (.iload_n 1, 1) := by decide +kernel
theorem d_P_isWithin_26 : decode prog_5_method_5_code 26 = .ok (.laload, 1) := by decide +kernel
theorem d_P_isWithin_27 : decode prog_5_method_5_code 27 = .ok (.lload 5, 2) := by decide +kernel
theorem d_P_isWithin_29 : decode prog_5_method_5_code 29 = .ok (.lcmp, 1) := by decide +kernel
theorem d_P_isWithin_30 : decode prog_5_method_5_code 30 = .ok (.ifCond .gt 7, 3) := by decide +kernel
theorem d_P_isWithin_33 : decode prog_5_method_5_code 33 = .ok (.iconst 1, 1) := by decide +kernel
theorem d_P_isWithin_34 : decode prog_5_method_5_code 34 = .ok (.goto 4, 3) := by decide +kernel
set_option maxHeartbeats 4000000 in
set_option maxRecDepth 100000 in
theorem v_isWithin (l : Launch) (D : va_G) (dA : Nat → ClassId) (sz : Nat) (h : Nat) (ad : Nat → Nat) (x : VS) (q : Nat) (w : Nat) (a : Int64) (b : Int64) (hq : q < x.hN) (h9 : x.hN ≤ 65536) (h8 : w < 2 ^ 31) (h7 : x.hO q < 2 ^ 31) : Met l ⟨"SeriesVault$Points", "isWithin", "(IIJJ)Z"⟩ [Cond.code ⟨"SeriesVault$Points", "isWithin", "(IIJJ)Z"⟩ prog_5_method_5_code 7 (some FieldType.boolean)] { frames := 1, cells := 0, slots := 0, locals := 0 } (pC D dA [.ref (ad 1), .int (nI q), .int (nI w), .long a, .long b] (VW dA h ad x) sz) (va_Qi (fun (r9 : Int32) (u9 : Unit) => r9 = bI (x.hW w a b q)) (fun (u9 : Unit) t9 => bW D (va_A (VW dA h ad x) sz) (VW dA h ad x) t9) (va_A (VW dA h ad x) sz)) 0 0 (va_A (VW dA h ad x) sz) := by
  refine mkC (y := ⟨"SeriesVault$Points", "isWithin", "(IIJJ)Z"⟩) (cc := prog_5_method_5_code) (maxL := 7) (av := [.ref (ad 1), .int (nI q), .int (nI w), .long a, .long b]) (ws := VW dA h ad x) (sz := sz) (Qc := fun A => va_Qi (fun (r9 : Int32) (u9 : Unit) => r9 = bI (x.hW w a b q)) (fun (u9 : Unit) t9 => bW D A (VW dA h ad x) t9) A) (by decide) (Nat.le_of_ble_eq_true rfl) ?_
  intro A p e s m below meth c ls hsz hB
  obtain ⟨hx, hb, hr, hml, hown, hin, hlk, hE, hK, hP, hD, hS, hA, hN, hl⟩ := hB
  have hown : s.vm.findClass "SeriesVault$Points" = some m.cls := hown
  have hl : lv_has ls 7 [(0, .ref (ad 1)), (1, .int (nI q)), (2, .int (nI w)), (3, .long a), (5, .long b)] := hl
  obtain ⟨H, hH⟩ : ∃ z, z = s.heap := ⟨_, rfl⟩
  have hP : va_P D vwCl (VW dA h ad x) H := by rw [hH]; exact hP
  have hS : va_S A s.heap H [] := by rw [hH]; exact hS
  rw [← hH]
  refine lv_aload_n hx hb d_P_isWithin_0 rfl (lv_at hl 0 rfl) ?_
  refine gF (v := .ref (x.hA 0)) hx hb hown hE hK hP 9 rfl rfl layP 0 (by decide) w185 rfl d_P_isWithin_1 ?_
  refine lv_iload_n hx hb d_P_isWithin_4 rfl (lv_at hl 1 rfl) ?_
  refine nild (f := (fun z9 => nI (x.hO z9))) (n := x.hN) hx hb hK hP 10 1 rfl rfl (q) (by omega) (by omega) d_P_isWithin_5 ?_
  refine lv_iload_n hx hb d_P_isWithin_6 rfl (lv_at hl 2 rfl) ?_
  refine lv_icmp_ne hx hb d_P_isWithin_7 (tgt := 37) rfl (fun g1 => ?_) (fun g1 => ?_)
  · have g1 := mt (nI_eq (a := x.hO q) (b := w) (by omega) (by omega)).mpr g1
    refine lv_iconst (v := 0) hx hb d_P_isWithin_37 (by decide) ?_
    exact rfZ hx hb hr (bI_nar false) hlk hS () (by simp [VS.hW, bI, *]) hP hD (Nat.le_of_ble_eq_true rfl) (Nat.le_of_ble_eq_true rfl) d_P_isWithin_38
  · have g1 := (nI_eq (a := x.hO q) (b := w) (by omega) (by omega)).mp g1
    refine lv_aload_n hx hb d_P_isWithin_10 rfl (lv_at hl 0 rfl) ?_
    refine gF (v := .ref (x.hA 1)) hx hb hown hE hK hP 9 rfl rfl layP 1 (by decide) w187 rfl d_P_isWithin_11 ?_
    refine lv_iload_n hx hb d_P_isWithin_14 rfl (lv_at hl 1 rfl) ?_
    refine nlld (f := x.hT) (n := x.hN) hx hb hK hP 11 2 rfl rfl (q) (by omega) (by omega) d_P_isWithin_15 ?_
    refine lv_lload_n hx hb d_P_isWithin_16 rfl (lv_at hl 3 rfl) ?_
    refine W.lcmp hx hb d_P_isWithin_17 ?_
    refine lv_if_lt hx hb d_P_isWithin_18 (tgt := 37) rfl (fun g2 => ?_) (fun g2 => ?_)
    · have g2 := (lg_cmp_lt _ _).mp g2
      refine lv_iconst (v := 0) hx hb d_P_isWithin_37 (by decide) ?_
      exact rfZ hx hb hr (bI_nar false) hlk hS () (by simp [VS.hW, bI, *]) hP hD (Nat.le_of_ble_eq_true rfl) (Nat.le_of_ble_eq_true rfl) d_P_isWithin_38
    · have g2 := mt (lg_cmp_lt _ _).mpr g2
      refine lv_aload_n hx hb d_P_isWithin_21 rfl (lv_at hl 0 rfl) ?_
      refine gF (v := .ref (x.hA 1)) hx hb hown hE hK hP 9 rfl rfl layP 1 (by decide) w187 rfl d_P_isWithin_22 ?_
      refine lv_iload_n hx hb d_P_isWithin_25 rfl (lv_at hl 1 rfl) ?_
      refine nlld (f := x.hT) (n := x.hN) hx hb hK hP 11 2 rfl rfl (q) (by omega) (by omega) d_P_isWithin_26 ?_
      refine lv_lload hx hb d_P_isWithin_27 (lv_at hl 4 rfl) ?_
      refine W.lcmp hx hb d_P_isWithin_29 ?_
      refine lv_if_gt hx hb d_P_isWithin_30 (tgt := 37) rfl (fun g3 => ?_) (fun g3 => ?_)
      · have g3 := (lg_cmp_gt _ _).mp g3
        refine lv_iconst (v := 0) hx hb d_P_isWithin_37 (by decide) ?_
        exact rfZ hx hb hr (bI_nar false) hlk hS () (by simp [VS.hW, bI, *]) hP hD (Nat.le_of_ble_eq_true rfl) (Nat.le_of_ble_eq_true rfl) d_P_isWithin_38
      · have g3 := mt (lg_cmp_gt _ _).mpr g3
        refine lv_iconst (v := 1) hx hb d_P_isWithin_33 (by decide) ?_
        refine lv_goto hx hb d_P_isWithin_34 (tgt := 38) rfl ?_
        exact rfZ hx hb hr (bI_nar true) hlk hS () (by simp [VS.hW, bI, *]) hP hD (Nat.le_of_ble_eq_true rfl) (Nat.le_of_ble_eq_true rfl) d_P_isWithin_38
theorem d_P_countWithin_0 : decode prog_5_method_6_code 0 = .ok (.iconst 0, 1) := by decide +kernel
theorem d_P_countWithin_1 : decode prog_5_method_6_code 1 = .ok (.istore 6, 2) := by decide +kernel
theorem d_P_countWithin_3 : decode prog_5_method_6_code 3 = .ok (.iconst 0, 1) := by decide +kernel
theorem d_P_countWithin_4 : decode prog_5_method_6_code 4 = .ok (.istore 7, 2) := by decide +kernel
theorem d_P_countWithin_6 : decode prog_5_method_6_code 6 = .ok (.iload 7, 2) := by decide +kernel
theorem d_P_countWithin_8 : decode prog_5_method_6_code 8 = .ok (.aload_n 0, 1) := by decide +kernel
theorem d_P_countWithin_9 : decode prog_5_method_6_code 9 = .ok (.getfield 20, 3) := by decide +kernel
theorem d_P_countWithin_12 : decode prog_5_method_6_code 12 = .ok (.if_icmp .ge 25, 3) := by decide +kernel
theorem d_P_countWithin_37 : decode prog_5_method_6_code 37 = .ok (.iload 6, 2) := by decide +kernel
theorem d_P_countWithin_39 : decode prog_5_method_6_code 39 = .ok (.ireturn, 1) := by decide +kernel
theorem d_P_countWithin_15 : decode prog_5_method_6_code 15 = .ok (.aload_n 0, 1) := by decide +kernel
theorem d_P_countWithin_16 : decode prog_5_method_6_code 16 = .ok (.iload 7, 2) := by decide +kernel
theorem d_P_countWithin_18 : decode prog_5_method_6_code 18 = .ok (.iload_n 1, 1) := by decide +kernel
theorem d_P_countWithin_19 : decode prog_5_method_6_code 19 = .ok (.lload_n 2, 1) := by decide +kernel
theorem d_P_countWithin_20 : decode prog_5_method_6_code 20 = .ok (.lload 4, 2) := by decide +kernel
theorem d_P_countWithin_22 : decode prog_5_method_6_code 22 = .ok (.invokevirtual 37, 3) := by decide +kernel
theorem d_P_countWithin_25 : decode prog_5_method_6_code 25 = .ok (.ifCond .eq 6, 3) := by decide +kernel
theorem d_P_countWithin_31 : decode prog_5_method_6_code 31 = .ok (.iinc 7 1, 3) := by decide +kernel
theorem d_P_countWithin_34 : decode prog_5_method_6_code 34 = .ok (.goto (-28), 3) := by decide +kernel
theorem d_P_countWithin_28 : decode prog_5_method_6_code 28 = .ok (.iinc 6 1, 3) := by decide +kernel
theorem w1089 : Cond.methodLink "SeriesVault$Points" 37 ⟨"SeriesVault$Points", "isWithin", "(IIJJ)Z"⟩ ∈ aW := aw_of (tb_5 (List.mem_of_getElem? (i := 201) rfl)) rfl
theorem w1090 : Cond.code ⟨"SeriesVault$Points", "isWithin", "(IIJJ)Z"⟩ prog_5_method_5_code 7 (some FieldType.boolean) ∈ aW := aw_of (tb_5 (List.mem_of_getElem? (i := 204) rfl)) rfl
theorem w1091 : Cond.instanceMethod ⟨"SeriesVault$Points", "isWithin", "(IIJJ)Z"⟩ ∈ aW := aw_of (tb_5 (List.mem_of_getElem? (i := 203) rfl)) rfl
theorem w1092 : Cond.selects "SeriesVault$Points" ⟨"SeriesVault$Points", "isWithin", "(IIJJ)Z"⟩ ⟨"SeriesVault$Points", "isWithin", "(IIJJ)Z"⟩ ∈ aW := aw_pr (List.mem_map.mpr ⟨_, pv_2 (List.mem_of_getElem? (i := 9) rfl), rfl⟩) rfl
set_option maxHeartbeats 4000000 in
set_option maxRecDepth 100000 in
theorem v_countWithin (l : Launch) (D : va_G) (dA : Nat → ClassId) (sz : Nat) (h : Nat) (ad : Nat → Nat) (x : VS) (w : Nat) (a : Int64) (b : Int64) (h0 : x.hsize ≤ x.hN) (h9 : x.hN ≤ 65536) (h8 : w < 2 ^ 31) (h7 : ∀ q : Nat, q < x.hsize → x.hO q < 2 ^ 31) : Met l ⟨"SeriesVault$Points", "countWithin", "(IJJ)I"⟩ [Cond.code ⟨"SeriesVault$Points", "countWithin", "(IJJ)I"⟩ prog_5_method_6_code 8 (some FieldType.int)] { frames := 2, cells := 0, slots := 0, locals := 26 } (pC D dA [.ref (ad 1), .int (nI w), .long a, .long b] (VW dA h ad x) sz) (va_Qi (fun (r9 : Int32) (u9 : Unit) => r9 = nI (cnt x.hsize (x.hW w a b))) (fun (u9 : Unit) t9 => bW D (va_A (VW dA h ad x) sz) (VW dA h ad x) t9) (va_A (VW dA h ad x) sz)) 0 0 (va_A (VW dA h ad x) sz) := by
  refine mkC (y := ⟨"SeriesVault$Points", "countWithin", "(IJJ)I"⟩) (cc := prog_5_method_6_code) (maxL := 8) (av := [.ref (ad 1), .int (nI w), .long a, .long b]) (ws := VW dA h ad x) (sz := sz) (Qc := fun A => va_Qi (fun (r9 : Int32) (u9 : Unit) => r9 = nI (cnt x.hsize (x.hW w a b))) (fun (u9 : Unit) t9 => bW D A (VW dA h ad x) t9) A) (by decide) (Nat.le_of_ble_eq_true rfl) ?_
  intro A p e s m below meth c ls hsz hB
  obtain ⟨hx, hb, hr, hml, hown, hin, hlk, hE, hK, hP, hD, hS, hA, hN, hl⟩ := hB
  have hown : s.vm.findClass "SeriesVault$Points" = some m.cls := hown
  have hl : lv_has ls 8 [(0, .ref (ad 1)), (1, .int (nI w)), (2, .long a), (4, .long b)] := hl
  obtain ⟨H, hH⟩ : ∃ z, z = s.heap := ⟨_, rfl⟩
  have hP : va_P D vwCl (VW dA h ad x) H := by rw [hH]; exact hP
  have hS : va_S A s.heap H [] := by rw [hH]; exact hS
  rw [← hH]
  refine lv_iconst (v := 0) hx hb d_P_countWithin_0 (by decide) ?_
  refine lv_istore hx hb d_P_countWithin_1 hl (by decide) rfl (fun ls hl => ?_)
  have hl : lv_has ls 8 [(6, .int 0), (0, .ref (ad 1)), (1, .int (nI w)), (2, .long a), (4, .long b)] := hl
  refine lv_iconst (v := 0) hx hb d_P_countWithin_3 (by decide) ?_
  refine lv_istore hx hb d_P_countWithin_4 hl (by decide) rfl (fun ls hl => ?_)
  have hl : lv_has ls 8 [(7, .int 0), (6, .int 0), (0, .ref (ad 1)), (1, .int (nI w)), (2, .long a), (4, .long b)] := hl
  have L6 : ∀ (k9 : Nat) (q : Nat) (n : Nat) (i1 : q ≤ x.hsize) (i2 : n = cnt q (x.hW w a b)) (i3 : n ≤ q) (hk9 : x.hsize - q = k9), ∀ (H : Heap) (locs : List Loc) (ls : Array Slot) (hP : va_P D vwCl (VW dA h ad x) H) (hD : va_D A (VW dA h ad x)) (hS : va_S A s.heap H locs) (hl : lv_has ls 8 [(6, .int (nI n)), (7, .int (nI q)), (1, .int (nI w)), (2, .long a), (4, .long b), (0, .ref (ad 1))]), W p l e ({ frames := 2, cells := 0, slots := 0, locals := 26 } : Room) s m ([.ref (ad 1), .int (nI w), .long a, .long b] : List Value).toArray below meth c H locs 0 0 (MQ below (va_Qi (fun (r9 : Int32) (u9 : Unit) => r9 = nI (cnt x.hsize (x.hW w a b))) (fun (u9 : Unit) t9 => bW D A (VW dA h ad x) t9) A) ([.ref (ad 1), .int (nI w), .long a, .long b] : List Value).toArray s 0 0 A) (F0 m 6 ls []) := by
    intro k9
    induction k9 using Nat.strongRecOn with
    | ind k9 ih6 =>
      intro q n i1 i2 i3 hk9 H locs ls hP hD hS hl
      refine lv_iload hx hb d_P_countWithin_6 (lv_at hl 1 rfl) ?_
      refine lv_aload_n hx hb d_P_countWithin_8 rfl (lv_at hl 5 rfl) ?_
      refine gF (v := .int (nI x.hsize)) hx hb hown hE hK hP 9 rfl rfl layP 3 (by decide) w565 rfl d_P_countWithin_9 ?_
      refine lv_icmp_ge hx hb d_P_countWithin_12 (tgt := 37) rfl (fun g1 => ?_) (fun g1 => ?_)
      · have g1 := (nI_leI (a := x.hsize) (b := q) (by omega) (by omega)).mp g1
        refine lv_iload hx hb d_P_countWithin_37 (lv_at hl 0 rfl) ?_
        exact rfI hx hb hr hlk hS () (by rw [i2, show q = x.hsize by omega]) hP hD (Nat.le_of_ble_eq_true rfl) (Nat.le_of_ble_eq_true rfl) d_P_countWithin_39
      · have g1 := mt (nI_leI (a := x.hsize) (b := q) (by omega) (by omega)).mpr g1
        refine lv_aload_n hx hb d_P_countWithin_15 rfl (lv_at hl 5 rfl) ?_
        refine lv_iload hx hb d_P_countWithin_16 (lv_at hl 1 rfl) ?_
        refine lv_iload_n hx hb d_P_countWithin_18 rfl (lv_at hl 2 rfl) ?_
        refine lv_lload_n hx hb d_P_countWithin_19 rfl (lv_at hl 3 rfl) ?_
        refine lv_lload hx hb d_P_countWithin_20 (lv_at hl 4 rfl) ?_
        refine jfI (rnV (As := [.int (nI q), .int (nI w), .long a, .long b]) (rest := []) hx hb hml hown hE hK (hN _ _ hS) hP hD (v_isWithin l D dA H.size h ad x q w a b (show q < x.hN from by omega) (show x.hN ≤ 65536 from by omega) (show w < 2 ^ 31 from by omega) (h7 q (by omega))) (q0 := 9) rfl rfl w1090 w1089 w1091 w1092 w578 rfl rfl ⟨⟨by decide, by decide⟩, rfl⟩ ⟨(Nat.le_of_ble_eq_true rfl), (Nat.le_of_ble_eq_true rfl)⟩ rfl hl.1 rfl (Nat.le_of_ble_eq_true rfl) d_P_countWithin_22 ⟨(Nat.le_of_ble_eq_true rfl), (Nat.le_of_ble_eq_true rfl)⟩) hP hD hS hA (fun r2 u3 H locs hp9 hP hD hS => ?_)
        have hP : va_P D vwCl (VW dA h ad x) H := hP
        have hD : va_D A (VW dA h ad x) := hD
        replace hp9 : bI (x.hW w a b q) = r2 := Eq.symm hp9
        subst hp9
        refine lv_if_eq hx hb d_P_countWithin_25 (tgt := 31) rfl (fun g4 => ?_) (fun g4 => ?_)
        · have g4 := bI_0 g4
          refine lv_iinc (k := 1) (v := nI (q + 1)) hx hb d_P_countWithin_31 hl rfl (iincN (q) 1 1 (by decide)) (by decide) rfl (fun ls hl => ?_)
          have hl : lv_has ls 8 [(7, .int (nI (q + 1))), (6, .int (nI n)), (1, .int (nI w)), (2, .long a), (4, .long b), (0, .ref (ad 1))] := hl
          refine lv_goto hx hb d_P_countWithin_34 (tgt := 6) rfl ?_
          exact ih6 _ (by omega) (q + 1) n (by omega) (by rw [cnt_f g4, i2]) (by omega) rfl H _ ls hP hD hS (lv_sub hl [1, 0, 2, 3, 4, 5] rfl)
        · have g4 := bI_n0 g4
          refine lv_iinc (k := 0) (v := nI (n + 1)) hx hb d_P_countWithin_28 hl rfl (iincN (n) 1 1 (by decide)) (by decide) rfl (fun ls hl => ?_)
          have hl : lv_has ls 8 [(6, .int (nI (n + 1))), (7, .int (nI q)), (1, .int (nI w)), (2, .long a), (4, .long b), (0, .ref (ad 1))] := hl
          refine lv_iinc (k := 1) (v := nI (q + 1)) hx hb d_P_countWithin_31 hl rfl (iincN (q) 1 1 (by decide)) (by decide) rfl (fun ls hl => ?_)
          have hl : lv_has ls 8 [(7, .int (nI (q + 1))), (6, .int (nI (n + 1))), (1, .int (nI w)), (2, .long a), (4, .long b), (0, .ref (ad 1))] := hl
          refine lv_goto hx hb d_P_countWithin_34 (tgt := 6) rfl ?_
          exact ih6 _ (by omega) (q + 1) (n + 1) (by omega) (by rw [cnt_t g4, i2]) (by omega) rfl H _ ls hP hD hS (lv_sub hl [1, 0, 2, 3, 4, 5] rfl)
  exact L6 _ 0 0 (Nat.zero_le _) rfl (Nat.le_refl _) rfl H _ ls hP hD hS (lv_sub hl [1, 0, 3, 4, 5, 2] rfl)
theorem d_P_dropWithin_0 : decode prog_5_method_7_code 0 = .ok (.iconst 0, 1) := by decide +kernel
theorem d_P_dropWithin_1 : decode prog_5_method_7_code 1 = .ok (.istore 6, 2) := by decide +kernel
theorem d_P_dropWithin_3 : decode prog_5_method_7_code 3 = .ok (.iconst 0, 1) := by decide +kernel
theorem d_P_dropWithin_4 : decode prog_5_method_7_code 4 = .ok (.istore 7, 2) := by decide +kernel
theorem d_P_dropWithin_6 : decode prog_5_method_7_code 6 = .ok (.iload 7, 2) := by decide +kernel
theorem d_P_dropWithin_8 : decode prog_5_method_7_code 8 = .ok (.aload_n 0, 1) := by decide +kernel
theorem d_P_dropWithin_9 : decode prog_5_method_7_code 9 = .ok (.getfield 20, 3) := by decide +kernel
theorem d_P_dropWithin_12 : decode prog_5_method_7_code 12 = .ok (.if_icmp .ge 52, 3) := by decide +kernel
theorem d_P_dropWithin_64 : decode prog_5_method_7_code 64 = .ok (.aload_n 0, 1) := by decide +kernel
theorem d_P_dropWithin_65 : decode prog_5_method_7_code 65 = .ok (.iload 6, 2) := by decide +kernel
theorem d_P_dropWithin_67 : decode prog_5_method_7_code 67 = .ok (.putfield 20, 3) := by decide +kernel
theorem d_P_dropWithin_70 : decode prog_5_method_7_code 70 = .ok (.return_, 1) := by decide +kernel
theorem d_P_dropWithin_15 : decode prog_5_method_7_code 15 = .ok (.aload_n 0, 1) := by decide +kernel
theorem d_P_dropWithin_16 : decode prog_5_method_7_code 16 = .ok (.iload 7, 2) := by decide +kernel
theorem d_P_dropWithin_18 : decode prog_5_method_7_code 18 = .ok (.iload_n 1, 1) := by decide +kernel
theorem d_P_dropWithin_19 : decode prog_5_method_7_code 19 = .ok (.lload_n 2, 1) := by decide +kernel
theorem d_P_dropWithin_20 : decode prog_5_method_7_code 20 = .ok (.lload 4, 2) := by decide +kernel
theorem d_P_dropWithin_22 : decode prog_5_method_7_code 22 = .ok (.invokevirtual 37, 3) := by decide +kernel
theorem d_P_dropWithin_25 : decode prog_5_method_7_code 25 = .ok (.ifCond .ne 33, 3) := by decide +kernel
theorem d_P_dropWithin_58 : decode prog_5_method_7_code 58 = .ok (.iinc 7 1, 3) := by decide +kernel
theorem d_P_dropWithin_61 : decode prog_5_method_7_code 61 = .ok (.goto (-55), 3) := by decide +kernel
theorem d_P_dropWithin_28 : decode prog_5_method_7_code 28 = .ok (.aload_n 0, 1) := by decide +kernel
theorem d_P_dropWithin_29 : decode prog_5_method_7_code 29 = .ok (.iload 6, 2) := by decide +kernel
theorem d_P_dropWithin_31 : decode prog_5_method_7_code 31 = .ok (.aload_n 0, 1) := by decide +kernel
theorem d_P_dropWithin_32 : decode prog_5_method_7_code 32 = .ok (.getfield 7, 3) := by decide +kernel
theorem d_P_dropWithin_35 : decode prog_5_method_7_code 35 = .ok (.iload 7, 2) := by decide +kernel
theorem d_P_dropWithin_37 : decode prog_5_method_7_code 37 = .ok (.iaload, 1) := by decide +kernel
theorem d_P_dropWithin_38 : decode prog_5_method_7_code 38 = .ok (.aload_n 0, 1) := by decide +kernel
theorem d_P_dropWithin_39 : decode prog_5_method_7_code 39 = .ok (.getfield 13, 3) := by decide +kernel
theorem d_P_dropWithin_42 : decode prog_5_method_7_code 42 = .ok (.iload 7, 2) := by decide +kernel
theorem d_P_dropWithin_44 : decode prog_5_method_7_code 44 = .ok (.laload, 1) := by decide +kernel
theorem d_P_dropWithin_45 : decode prog_5_method_7_code 45 = .ok (.aload_n 0, 1) := by decide +kernel
theorem d_P_dropWithin_46 : decode prog_5_method_7_code 46 = .ok (.getfield 17, 3) := by decide +kernel
theorem d_P_dropWithin_49 : decode prog_5_method_7_code 49 = .ok (.iload 7, 2) := by decide +kernel
theorem d_P_dropWithin_51 : decode prog_5_method_7_code 51 = .ok (.laload, 1) := by decide +kernel
theorem d_P_dropWithin_52 : decode prog_5_method_7_code 52 = .ok (.invokevirtual 33, 3) := by decide +kernel
theorem d_P_dropWithin_55 : decode prog_5_method_7_code 55 = .ok (.iinc 6 1, 3) := by decide +kernel
set_option maxHeartbeats 4000000 in
set_option maxRecDepth 100000 in
theorem v_dropWithin (l : Launch) (D : va_G) (dA : Nat → ClassId) (sz : Nat) (h : Nat) (ad : Nat → Nat) (x : VS) (w : Nat) (a : Int64) (b : Int64) (h0 : x.hsize ≤ x.hN) (h9 : x.hN ≤ 65536) (h8 : w < 2 ^ 31) (h7 : ∀ q : Nat, q < x.hsize → x.hO q < 2 ^ 31) : Met l ⟨"SeriesVault$Points", "dropWithin", "(IJJ)V"⟩ [Cond.code ⟨"SeriesVault$Points", "dropWithin", "(IJJ)V"⟩ prog_5_method_7_code 8 none] { frames := 2, cells := 0, slots := 0, locals := 26 } (pC D dA [.ref (ad 1), .int (nI w), .long a, .long b] (VW dA h ad x) sz) (va_Qv (fun (u9 : Unit) => True) (fun (u9 : Unit) t9 => bW D (va_A (VW dA h ad x) sz) (VW dA h ad (VS.s_hsize (VS.s_hV (VS.s_hT (VS.s_hO x (tdT (x.hWn w a b) x.hO x.hsize)) (tdT (x.hWn w a b) x.hT x.hsize)) (tdT (x.hWn w a b) x.hV x.hsize)) (cnt x.hsize (x.hWn w a b)))) t9) (va_A (VW dA h ad x) sz)) 0 0 (va_A (VW dA h ad x) sz) := by
  refine mkC (y := ⟨"SeriesVault$Points", "dropWithin", "(IJJ)V"⟩) (cc := prog_5_method_7_code) (maxL := 8) (av := [.ref (ad 1), .int (nI w), .long a, .long b]) (ws := VW dA h ad x) (sz := sz) (Qc := fun A => va_Qv (fun (u9 : Unit) => True) (fun (u9 : Unit) t9 => bW D A (VW dA h ad (VS.s_hsize (VS.s_hV (VS.s_hT (VS.s_hO x (tdT (x.hWn w a b) x.hO x.hsize)) (tdT (x.hWn w a b) x.hT x.hsize)) (tdT (x.hWn w a b) x.hV x.hsize)) (cnt x.hsize (x.hWn w a b)))) t9) A) (by decide) (Nat.le_of_ble_eq_true rfl) ?_
  intro A p e s m below meth c ls hsz hB
  obtain ⟨hx, hb, hr, hml, hown, hin, hlk, hE, hK, hP, hD, hS, hA, hN, hl⟩ := hB
  have hown : s.vm.findClass "SeriesVault$Points" = some m.cls := hown
  have hl : lv_has ls 8 [(0, .ref (ad 1)), (1, .int (nI w)), (2, .long a), (4, .long b)] := hl
  obtain ⟨H, hH⟩ : ∃ z, z = s.heap := ⟨_, rfl⟩
  have hP : va_P D vwCl (VW dA h ad x) H := by rw [hH]; exact hP
  have hS : va_S A s.heap H [] := by rw [hH]; exact hS
  rw [← hH]
  refine lv_iconst (v := 0) hx hb d_P_dropWithin_0 (by decide) ?_
  refine lv_istore hx hb d_P_dropWithin_1 hl (by decide) rfl (fun ls hl => ?_)
  have hl : lv_has ls 8 [(6, .int 0), (0, .ref (ad 1)), (1, .int (nI w)), (2, .long a), (4, .long b)] := hl
  refine lv_iconst (v := 0) hx hb d_P_dropWithin_3 (by decide) ?_
  refine lv_istore hx hb d_P_dropWithin_4 hl (by decide) rfl (fun ls hl => ?_)
  have hl : lv_has ls 8 [(7, .int 0), (6, .int 0), (0, .ref (ad 1)), (1, .int (nI w)), (2, .long a), (4, .long b)] := hl
  have L6 : ∀ (k9 : Nat) (q : Nat) (n : Nat) (i1 : q ≤ x.hsize) (i2 : n = cnt q (x.hWn w a b)) (i3 : n ≤ q) (hk9 : x.hsize - q = k9), ∀ (H : Heap) (locs : List Loc) (ls : Array Slot) (hP : va_P D vwCl (VW dA h ad (VS.s_hV (VS.s_hT (VS.s_hO x (tdT (x.hWn w a b) x.hO q)) (tdT (x.hWn w a b) x.hT q)) (tdT (x.hWn w a b) x.hV q))) H) (hD : va_D A (VW dA h ad (VS.s_hV (VS.s_hT (VS.s_hO x (tdT (x.hWn w a b) x.hO q)) (tdT (x.hWn w a b) x.hT q)) (tdT (x.hWn w a b) x.hV q)))) (hS : va_S A s.heap H locs) (hl : lv_has ls 8 [(6, .int (nI n)), (7, .int (nI q)), (1, .int (nI w)), (2, .long a), (4, .long b), (0, .ref (ad 1))]), W p l e ({ frames := 2, cells := 0, slots := 0, locals := 26 } : Room) s m ([.ref (ad 1), .int (nI w), .long a, .long b] : List Value).toArray below meth c H locs 0 0 (MQ below (va_Qv (fun (u9 : Unit) => True) (fun (u9 : Unit) t9 => bW D A (VW dA h ad (VS.s_hsize (VS.s_hV (VS.s_hT (VS.s_hO x (tdT (x.hWn w a b) x.hO x.hsize)) (tdT (x.hWn w a b) x.hT x.hsize)) (tdT (x.hWn w a b) x.hV x.hsize)) (cnt x.hsize (x.hWn w a b)))) t9) A) ([.ref (ad 1), .int (nI w), .long a, .long b] : List Value).toArray s 0 0 A) (F0 m 6 ls []) := by
    intro k9
    induction k9 using Nat.strongRecOn with
    | ind k9 ih6 =>
      intro q n i1 i2 i3 hk9 H locs ls hP hD hS hl
      refine lv_iload hx hb d_P_dropWithin_6 (lv_at hl 1 rfl) ?_
      refine lv_aload_n hx hb d_P_dropWithin_8 rfl (lv_at hl 5 rfl) ?_
      refine gF (v := .int (nI x.hsize)) hx hb hown hE hK hP 9 rfl rfl layP 3 (by decide) w565 rfl d_P_dropWithin_9 ?_
      refine lv_icmp_ge hx hb d_P_dropWithin_12 (tgt := 64) rfl (fun g1 => ?_) (fun g1 => ?_)
      · have g1 := (nI_leI (a := x.hsize) (b := q) (by omega) (by omega)).mp g1
        refine lv_aload_n hx hb d_P_dropWithin_64 rfl (lv_at hl 5 rfl) ?_
        refine lv_iload hx hb d_P_dropWithin_65 (lv_at hl 0 rfl) ?_
        refine pF (v := .int (nI n)) hx hb hown hE hK hP hD hS 9 rfl rfl layP tyP tokP nmP 3 (by decide) w565 rfl rfl rfl (Nat.le_of_ble_eq_true rfl) d_P_dropWithin_67 (fun H locs hP hD hS => ?_)
        have hP : va_P D vwCl (VW dA h ad (VS.s_hsize (VS.s_hV (VS.s_hT (VS.s_hO x (tdT (x.hWn w a b) x.hO q)) (tdT (x.hWn w a b) x.hT q)) (tdT (x.hWn w a b) x.hV q)) n)) H := hP
        have hD : va_D A (VW dA h ad (VS.s_hsize (VS.s_hV (VS.s_hT (VS.s_hO x (tdT (x.hWn w a b) x.hO q)) (tdT (x.hWn w a b) x.hT q)) (tdT (x.hWn w a b) x.hV q)) n)) := hD
        have e9 : (VS.s_hsize (VS.s_hV (VS.s_hT (VS.s_hO x (tdT (x.hWn w a b) x.hO q)) (tdT (x.hWn w a b) x.hT q)) (tdT (x.hWn w a b) x.hV q)) n : VS) = VS.s_hsize (VS.s_hV (VS.s_hT (VS.s_hO x (tdT (x.hWn w a b) x.hO x.hsize)) (tdT (x.hWn w a b) x.hT x.hsize)) (tdT (x.hWn w a b) x.hV x.hsize)) (cnt x.hsize (x.hWn w a b)) := by rw [show (tdT (x.hWn w a b) x.hO x.hsize) = (tdT (x.hWn w a b) x.hO q) from by (rw [show x.hsize = q by omega]), show (tdT (x.hWn w a b) x.hT x.hsize) = (tdT (x.hWn w a b) x.hT q) from by (rw [show x.hsize = q by omega]), show (tdT (x.hWn w a b) x.hV x.hsize) = (tdT (x.hWn w a b) x.hV q) from by (rw [show x.hsize = q by omega]), show (cnt x.hsize (x.hWn w a b)) = n from by (rw [i2, show x.hsize = q by omega])] <;> rfl
        exact rfV hx hb hr hlk hS () trivial (cvPv e9 hP) (cvDv e9 hD) (Nat.le_of_ble_eq_true rfl) (Nat.le_of_ble_eq_true rfl) d_P_dropWithin_70
      · have g1 := mt (nI_leI (a := x.hsize) (b := q) (by omega) (by omega)).mpr g1
        refine lv_aload_n hx hb d_P_dropWithin_15 rfl (lv_at hl 5 rfl) ?_
        refine lv_iload hx hb d_P_dropWithin_16 (lv_at hl 1 rfl) ?_
        refine lv_iload_n hx hb d_P_dropWithin_18 rfl (lv_at hl 2 rfl) ?_
        refine lv_lload_n hx hb d_P_dropWithin_19 rfl (lv_at hl 3 rfl) ?_
        refine lv_lload hx hb d_P_dropWithin_20 (lv_at hl 4 rfl) ?_
        refine jfI (rnV (As := [.int (nI q), .int (nI w), .long a, .long b]) (rest := []) hx hb hml hown hE hK (hN _ _ hS) hP hD (v_isWithin l D dA H.size h ad (VS.s_hV (VS.s_hT (VS.s_hO x (tdT (x.hWn w a b) x.hO q)) (tdT (x.hWn w a b) x.hT q)) (tdT (x.hWn w a b) x.hV q)) q w a b (show q < x.hN from by omega) (show x.hN ≤ 65536 from by omega) (show w < 2 ^ 31 from by omega) (show tdT (x.hWn w a b) x.hO q q < 2 ^ 31 by rw [tdT_at (x.hWn w a b) _ (Nat.le_refl q)]; exact h7 q (by omega))) (q0 := 9) rfl rfl w1090 w1089 w1091 w1092 w578 rfl rfl ⟨⟨by decide, by decide⟩, rfl⟩ ⟨(Nat.le_of_ble_eq_true rfl), (Nat.le_of_ble_eq_true rfl)⟩ rfl hl.1 rfl (Nat.le_of_ble_eq_true rfl) d_P_dropWithin_22 ⟨(Nat.le_of_ble_eq_true rfl), (Nat.le_of_ble_eq_true rfl)⟩) hP hD hS hA (fun r2 u3 H locs hp9 hP hD hS => ?_)
        have hP : va_P D vwCl (VW dA h ad (VS.s_hV (VS.s_hT (VS.s_hO x (tdT (x.hWn w a b) x.hO q)) (tdT (x.hWn w a b) x.hT q)) (tdT (x.hWn w a b) x.hV q))) H := hP
        have hD : va_D A (VW dA h ad (VS.s_hV (VS.s_hT (VS.s_hO x (tdT (x.hWn w a b) x.hO q)) (tdT (x.hWn w a b) x.hT q)) (tdT (x.hWn w a b) x.hV q))) := hD
        replace hp9 : bI ((VS.s_hT (VS.s_hO x (tdT (x.hWn w a b) x.hO q)) (tdT (x.hWn w a b) x.hT q)).hW w a b q) = r2 := Eq.symm hp9
        subst hp9
        refine tpi (y := bI (x.hW w a b q)) (congrArg bI (show (decide (tdT (x.hWn w a b) x.hO q q = w) && (!decide (tdT (x.hWn w a b) x.hT q q < a) && !decide (b < tdT (x.hWn w a b) x.hT q q))) = x.hW w a b q by rw [tdT_at (x.hWn w a b) _ (Nat.le_refl q), tdT_at (x.hWn w a b) _ (Nat.le_refl q)]; rfl)) ?_
        refine lv_if_ne hx hb d_P_dropWithin_25 (tgt := 58) rfl (fun g4 => ?_) (fun g4 => ?_)
        · have g4 := bI_n0 g4
          refine lv_iinc (k := 1) (v := nI (q + 1)) hx hb d_P_dropWithin_58 hl rfl (iincN (q) 1 1 (by decide)) (by decide) rfl (fun ls hl => ?_)
          have hl : lv_has ls 8 [(7, .int (nI (q + 1))), (6, .int (nI n)), (1, .int (nI w)), (2, .long a), (4, .long b), (0, .ref (ad 1))] := hl
          refine lv_goto hx hb d_P_dropWithin_61 (tgt := 6) rfl ?_
          have e9 : (VS.s_hV (VS.s_hT (VS.s_hO x (tdT (x.hWn w a b) x.hO q)) (tdT (x.hWn w a b) x.hT q)) (tdT (x.hWn w a b) x.hV q) : VS) = VS.s_hV (VS.s_hT (VS.s_hO x (tdT (x.hWn w a b) x.hO (q + 1))) (tdT (x.hWn w a b) x.hT (q + 1))) (tdT (x.hWn w a b) x.hV (q + 1)) := by rw [show (tdT (x.hWn w a b) x.hO (q + 1)) = (tdT (x.hWn w a b) x.hO q) from (tdT_f (c := x.hWn w a b) (show x.hWn w a b q = false by show (!x.hW w a b q) = false; rw [g4]; rfl)), show (tdT (x.hWn w a b) x.hT (q + 1)) = (tdT (x.hWn w a b) x.hT q) from (tdT_f (c := x.hWn w a b) (show x.hWn w a b q = false by show (!x.hW w a b q) = false; rw [g4]; rfl)), show (tdT (x.hWn w a b) x.hV (q + 1)) = (tdT (x.hWn w a b) x.hV q) from (tdT_f (c := x.hWn w a b) (show x.hWn w a b q = false by show (!x.hW w a b q) = false; rw [g4]; rfl))] <;> rfl
          exact ih6 _ (by omega) (q + 1) n (by omega) (by rw [cnt_f (show x.hWn w a b q = false by show (!x.hW w a b q) = false; rw [g4]; rfl), i2]) (by omega) rfl H _ ls (cvPv e9 hP) (cvDv e9 hD) hS (lv_sub hl [1, 0, 2, 3, 4, 5] rfl)
        · have g4 := bI_0 g4
          refine lv_aload_n hx hb d_P_dropWithin_28 rfl (lv_at hl 5 rfl) ?_
          refine lv_iload hx hb d_P_dropWithin_29 (lv_at hl 0 rfl) ?_
          refine lv_aload_n hx hb d_P_dropWithin_31 rfl (lv_at hl 5 rfl) ?_
          refine gF (v := .ref (x.hA 0)) hx hb hown hE hK hP 9 rfl rfl layP 0 (by decide) w185 rfl d_P_dropWithin_32 ?_
          refine lv_iload hx hb d_P_dropWithin_35 (lv_at hl 1 rfl) ?_
          refine nild (f := (fun z9 => nI ((tdT (x.hWn w a b) x.hO q) z9))) (n := x.hN) hx hb hK hP 10 1 rfl rfl (q) (by omega) (by omega) d_P_dropWithin_37 ?_
          refine tpi (y := nI (x.hO q)) (congrArg nI (tdT_at _ _ (Nat.le_refl q))) ?_
          refine lv_aload_n hx hb d_P_dropWithin_38 rfl (lv_at hl 5 rfl) ?_
          refine gF (v := .ref (x.hA 1)) hx hb hown hE hK hP 9 rfl rfl layP 1 (by decide) w187 rfl d_P_dropWithin_39 ?_
          refine lv_iload hx hb d_P_dropWithin_42 (lv_at hl 1 rfl) ?_
          refine nlld (f := (tdT (x.hWn w a b) x.hT q)) (n := x.hN) hx hb hK hP 11 2 rfl rfl (q) (by omega) (by omega) d_P_dropWithin_44 ?_
          refine tpl (y := (x.hT q)) (tdT_at _ _ (Nat.le_refl q)) ?_
          refine lv_aload_n hx hb d_P_dropWithin_45 rfl (lv_at hl 5 rfl) ?_
          refine gF (v := .ref (x.hA 2)) hx hb hown hE hK hP 9 rfl rfl layP 2 (by decide) w188 rfl d_P_dropWithin_46 ?_
          refine lv_iload hx hb d_P_dropWithin_49 (lv_at hl 1 rfl) ?_
          refine nlld (f := (tdT (x.hWn w a b) x.hV q)) (n := x.hN) hx hb hK hP 12 2 rfl rfl (q) (by omega) (by omega) d_P_dropWithin_51 ?_
          refine tpl (y := (x.hV q)) (tdT_at _ _ (Nat.le_refl q)) ?_
          refine jfV (rnV (As := [.int (nI n), .int (nI (x.hO q)), .long (x.hT q), .long (x.hV q)]) (rest := []) hx hb hml hown hE hK (hN _ _ hS) hP hD (v_pset_h l D dA H.size h ad (VS.s_hV (VS.s_hT (VS.s_hO x (tdT (x.hWn w a b) x.hO q)) (tdT (x.hWn w a b) x.hT q)) (tdT (x.hWn w a b) x.hV q)) n (x.hO q) (x.hT q) (x.hV q) (show n < x.hN from by omega) (show x.hN ≤ 65536 from by omega)) (q0 := 9) rfl rfl w1086 w1085 w1087 w1088 w578 rfl rfl ⟨⟨by decide, by decide⟩, rfl⟩ ⟨(Nat.le_of_ble_eq_true rfl), (Nat.le_of_ble_eq_true rfl)⟩ rfl hl.1 rfl (Nat.le_of_ble_eq_true rfl) d_P_dropWithin_52 ⟨(Nat.le_of_ble_eq_true rfl), (Nat.le_of_ble_eq_true rfl)⟩) hP hD hS hA (fun u6 H locs hp9 hP hD hS => ?_)
          have hP : va_P D vwCl (VW dA h ad (VS.s_hV (VS.s_hT (VS.s_hO x (va_up (tdT (x.hWn w a b) x.hO q) n (x.hO q))) (va_up (tdT (x.hWn w a b) x.hT q) n (x.hT q))) (va_up (tdT (x.hWn w a b) x.hV q) n (x.hV q)))) H := hP
          have hD : va_D A (VW dA h ad (VS.s_hV (VS.s_hT (VS.s_hO x (va_up (tdT (x.hWn w a b) x.hO q) n (x.hO q))) (va_up (tdT (x.hWn w a b) x.hT q) n (x.hT q))) (va_up (tdT (x.hWn w a b) x.hV q) n (x.hV q)))) := hD
          refine lv_iinc (k := 0) (v := nI (n + 1)) hx hb d_P_dropWithin_55 hl rfl (iincN (n) 1 1 (by decide)) (by decide) rfl (fun ls hl => ?_)
          have hl : lv_has ls 8 [(6, .int (nI (n + 1))), (7, .int (nI q)), (1, .int (nI w)), (2, .long a), (4, .long b), (0, .ref (ad 1))] := hl
          refine lv_iinc (k := 1) (v := nI (q + 1)) hx hb d_P_dropWithin_58 hl rfl (iincN (q) 1 1 (by decide)) (by decide) rfl (fun ls hl => ?_)
          have hl : lv_has ls 8 [(7, .int (nI (q + 1))), (6, .int (nI (n + 1))), (1, .int (nI w)), (2, .long a), (4, .long b), (0, .ref (ad 1))] := hl
          refine lv_goto hx hb d_P_dropWithin_61 (tgt := 6) rfl ?_
          have e9 : (VS.s_hV (VS.s_hT (VS.s_hO x (va_up (tdT (x.hWn w a b) x.hO q) n (x.hO q))) (va_up (tdT (x.hWn w a b) x.hT q) n (x.hT q))) (va_up (tdT (x.hWn w a b) x.hV q) n (x.hV q)) : VS) = VS.s_hV (VS.s_hT (VS.s_hO x (tdT (x.hWn w a b) x.hO (q + 1))) (tdT (x.hWn w a b) x.hT (q + 1))) (tdT (x.hWn w a b) x.hV (q + 1)) := by rw [show (tdT (x.hWn w a b) x.hO (q + 1)) = (va_up (tdT (x.hWn w a b) x.hO q) n (x.hO q)) from (by rw [tdT_t (c := x.hWn w a b) (show x.hWn w a b q = true by show (!x.hW w a b q) = true; rw [g4]; rfl) rfl, i2]), show (tdT (x.hWn w a b) x.hT (q + 1)) = (va_up (tdT (x.hWn w a b) x.hT q) n (x.hT q)) from (by rw [tdT_t (c := x.hWn w a b) (show x.hWn w a b q = true by show (!x.hW w a b q) = true; rw [g4]; rfl) rfl, i2]), show (tdT (x.hWn w a b) x.hV (q + 1)) = (va_up (tdT (x.hWn w a b) x.hV q) n (x.hV q)) from (by rw [tdT_t (c := x.hWn w a b) (show x.hWn w a b q = true by show (!x.hW w a b q) = true; rw [g4]; rfl) rfl, i2])] <;> rfl
          exact ih6 _ (by omega) (q + 1) (n + 1) (by omega) (by rw [cnt_t (show x.hWn w a b q = true by show (!x.hW w a b q) = true; rw [g4]; rfl), i2]) (by omega) rfl H _ ls (cvPv e9 hP) (cvDv e9 hD) hS (lv_sub hl [1, 0, 2, 3, 4, 5] rfl)
  have e9 : (x : VS) = VS.s_hV (VS.s_hT (VS.s_hO x (tdT (x.hWn w a b) x.hO 0)) (tdT (x.hWn w a b) x.hT 0)) (tdT (x.hWn w a b) x.hV 0) := by rw [show (tdT (x.hWn w a b) x.hO 0) = x.hO from rfl, show (tdT (x.hWn w a b) x.hT 0) = x.hT from rfl, show (tdT (x.hWn w a b) x.hV 0) = x.hV from rfl] <;> rfl
  exact L6 _ 0 0 (Nat.zero_le _) rfl (Nat.le_refl _) rfl H _ ls (cvPv e9 hP) (cvDv e9 hD) hS (lv_sub hl [1, 0, 3, 4, 5, 2] rfl)
theorem d_P_countBelow_14 : decode prog_5_method_8_code 14 = .ok (.aload_n 0, 1) := by decide +kernel
theorem d_P_countBelow_15 : decode prog_5_method_8_code 15 = .ok (.getfield 13, 3) := by decide +kernel
theorem d_P_countBelow_18 : decode prog_5_method_8_code 18 = .ok (.iload 4, 2) := by decide +kernel
theorem d_P_countBelow_20 : decode prog_5_method_8_code 20 = .ok (.laload, 1) := by decide +kernel
theorem d_P_countBelow_21 : decode prog_5_method_8_code 21 = .ok (.lload_n 1, 1) := by decide +kernel
theorem d_P_countBelow_22 : decode prog_5_method_8_code 22 = .ok (.lcmp, 1) := by decide +kernel
theorem d_P_countBelow_23 : decode prog_5_method_8_code 23 = .ok (.ifCond .ge 6, 3) := by decide +kernel
theorem d_P_countBelow_29 : decode prog_5_method_8_code 29 = .ok (.iinc 4 1, 3) := by decide +kernel
theorem d_P_countBelow_32 : decode prog_5_method_8_code 32 = .ok (.goto (-27), 3) := by decide +kernel
theorem d_P_countBelow_26 : decode prog_5_method_8_code 26 = .ok (.iinc 3 1, 3) := by decide +kernel
set_option maxHeartbeats 4000000 in
set_option maxRecDepth 100000 in
theorem v_countBelow (l : Launch) (D : va_G) (dA : Nat → ClassId) (sz : Nat) (h : Nat) (ad : Nat → Nat) (x : VS) (a : Int64) (h0 : x.hsize ≤ x.hN) (h9 : x.hN ≤ 65536) : Met l ⟨"SeriesVault$Points", "countBelow", "(J)I"⟩ [Cond.code ⟨"SeriesVault$Points", "countBelow", "(J)I"⟩ prog_5_method_8_code 5 (some FieldType.int)] { frames := 1, cells := 0, slots := 0, locals := 0 } (pC D dA [.ref (ad 1), .long a] (VW dA h ad x) sz) (va_Qi (fun (r9 : Int32) (u9 : Unit) => r9 = nI (cnt x.hsize (x.hBl a))) (fun (u9 : Unit) t9 => bW D (va_A (VW dA h ad x) sz) (VW dA h ad x) t9) (va_A (VW dA h ad x) sz)) 0 0 (va_A (VW dA h ad x) sz) := by
  refine mkC (y := ⟨"SeriesVault$Points", "countBelow", "(J)I"⟩) (cc := prog_5_method_8_code) (maxL := 5) (av := [.ref (ad 1), .long a]) (ws := VW dA h ad x) (sz := sz) (Qc := fun A => va_Qi (fun (r9 : Int32) (u9 : Unit) => r9 = nI (cnt x.hsize (x.hBl a))) (fun (u9 : Unit) t9 => bW D A (VW dA h ad x) t9) A) (by decide) (Nat.le_of_ble_eq_true rfl) ?_
  intro A p e s m below meth c ls hsz hB
  obtain ⟨hx, hb, hr, hml, hown, hin, hlk, hE, hK, hP, hD, hS, hA, hN, hl⟩ := hB
  have hown : s.vm.findClass "SeriesVault$Points" = some m.cls := hown
  have hl : lv_has ls 5 [(0, .ref (ad 1)), (1, .long a)] := hl
  obtain ⟨H, hH⟩ : ∃ z, z = s.heap := ⟨_, rfl⟩
  have hP : va_P D vwCl (VW dA h ad x) H := by rw [hH]; exact hP
  have hS : va_S A s.heap H [] := by rw [hH]; exact hS
  rw [← hH]
  refine lv_iconst (v := 0) hx hb d_P_countBelow_0 (by decide) ?_
  refine lv_istore_n hx hb d_P_countBelow_1 rfl hl (by decide) rfl (fun ls hl => ?_)
  have hl : lv_has ls 5 [(3, .int 0), (0, .ref (ad 1)), (1, .long a)] := hl
  refine lv_iconst (v := 0) hx hb d_P_countBelow_2 (by decide) ?_
  refine lv_istore hx hb d_P_countBelow_3 hl (by decide) rfl (fun ls hl => ?_)
  have hl : lv_has ls 5 [(4, .int 0), (3, .int 0), (0, .ref (ad 1)), (1, .long a)] := hl
  have L5 : ∀ (k9 : Nat) (q : Nat) (n : Nat) (i1 : q ≤ x.hsize) (i2 : n = cnt q (x.hBl a)) (i3 : n ≤ q) (hk9 : x.hsize - q = k9), ∀ (H : Heap) (locs : List Loc) (ls : Array Slot) (hP : va_P D vwCl (VW dA h ad x) H) (hD : va_D A (VW dA h ad x)) (hS : va_S A s.heap H locs) (hl : lv_has ls 5 [(3, .int (nI n)), (4, .int (nI q)), (1, .long a), (0, .ref (ad 1))]), W p l e ({ frames := 1, cells := 0, slots := 0, locals := 0 } : Room) s m ([.ref (ad 1), .long a] : List Value).toArray below meth c H locs 0 0 (MQ below (va_Qi (fun (r9 : Int32) (u9 : Unit) => r9 = nI (cnt x.hsize (x.hBl a))) (fun (u9 : Unit) t9 => bW D A (VW dA h ad x) t9) A) ([.ref (ad 1), .long a] : List Value).toArray s 0 0 A) (F0 m 5 ls []) := by
    intro k9
    induction k9 using Nat.strongRecOn with
    | ind k9 ih5 =>
      intro q n i1 i2 i3 hk9 H locs ls hP hD hS hl
      refine lv_iload hx hb d_P_countBelow_5 (lv_at hl 1 rfl) ?_
      refine lv_aload_n hx hb d_P_countBelow_7 rfl (lv_at hl 3 rfl) ?_
      refine gF (v := .int (nI x.hsize)) hx hb hown hE hK hP 9 rfl rfl layP 3 (by decide) w565 rfl d_P_countBelow_8 ?_
      refine lv_icmp_ge hx hb d_P_countBelow_11 (tgt := 35) rfl (fun g1 => ?_) (fun g1 => ?_)
      · have g1 := (nI_leI (a := x.hsize) (b := q) (by omega) (by omega)).mp g1
        refine lv_iload_n hx hb d_P_countBelow_35 rfl (lv_at hl 0 rfl) ?_
        exact rfI hx hb hr hlk hS () (by rw [i2, show q = x.hsize by omega]) hP hD (Nat.le_of_ble_eq_true rfl) (Nat.le_of_ble_eq_true rfl) d_P_countBelow_36
      · have g1 := mt (nI_leI (a := x.hsize) (b := q) (by omega) (by omega)).mpr g1
        refine lv_aload_n hx hb d_P_countBelow_14 rfl (lv_at hl 3 rfl) ?_
        refine gF (v := .ref (x.hA 1)) hx hb hown hE hK hP 9 rfl rfl layP 1 (by decide) w187 rfl d_P_countBelow_15 ?_
        refine lv_iload hx hb d_P_countBelow_18 (lv_at hl 1 rfl) ?_
        refine nlld (f := x.hT) (n := x.hN) hx hb hK hP 11 2 rfl rfl (q) (by omega) (by omega) d_P_countBelow_20 ?_
        refine lv_lload_n hx hb d_P_countBelow_21 rfl (lv_at hl 2 rfl) ?_
        refine W.lcmp hx hb d_P_countBelow_22 ?_
        refine lv_if_ge hx hb d_P_countBelow_23 (tgt := 29) rfl (fun g2 => ?_) (fun g2 => ?_)
        · have g2 := (lg_cmp_ge _ _).mp g2
          refine lv_iinc (k := 1) (v := nI (q + 1)) hx hb d_P_countBelow_29 hl rfl (iincN (q) 1 1 (by decide)) (by decide) rfl (fun ls hl => ?_)
          have hl : lv_has ls 5 [(4, .int (nI (q + 1))), (3, .int (nI n)), (1, .long a), (0, .ref (ad 1))] := hl
          refine lv_goto hx hb d_P_countBelow_32 (tgt := 5) rfl ?_
          exact ih5 _ (by omega) (q + 1) n (by omega) (by rw [cnt_f (show x.hBl a q = false by show (!decide _) = false; rw [decide_eq_true g2]; rfl), i2]) (by omega) rfl H _ ls hP hD hS (lv_sub hl [1, 0, 2, 3] rfl)
        · have g2 := mt (lg_cmp_ge _ _).mpr g2
          refine lv_iinc (k := 0) (v := nI (n + 1)) hx hb d_P_countBelow_26 hl rfl (iincN (n) 1 1 (by decide)) (by decide) rfl (fun ls hl => ?_)
          have hl : lv_has ls 5 [(3, .int (nI (n + 1))), (4, .int (nI q)), (1, .long a), (0, .ref (ad 1))] := hl
          refine lv_iinc (k := 1) (v := nI (q + 1)) hx hb d_P_countBelow_29 hl rfl (iincN (q) 1 1 (by decide)) (by decide) rfl (fun ls hl => ?_)
          have hl : lv_has ls 5 [(4, .int (nI (q + 1))), (3, .int (nI (n + 1))), (1, .long a), (0, .ref (ad 1))] := hl
          refine lv_goto hx hb d_P_countBelow_32 (tgt := 5) rfl ?_
          exact ih5 _ (by omega) (q + 1) (n + 1) (by omega) (by rw [cnt_t (show x.hBl a q = true by show (!decide _) = true; rw [decide_eq_false g2]; rfl), i2]) (by omega) rfl H _ ls hP hD hS (lv_sub hl [1, 0, 2, 3] rfl)
  exact L5 _ 0 0 (Nat.zero_le _) rfl (Nat.le_refl _) rfl H _ ls hP hD hS (lv_sub hl [1, 0, 3, 2] rfl)
theorem d_P_dropBelow_14 : decode prog_5_method_9_code 14 = .ok (.aload_n 0, 1) := by decide +kernel
theorem d_P_dropBelow_15 : decode prog_5_method_9_code 15 = .ok (.getfield 13, 3) := by decide +kernel
theorem d_P_dropBelow_18 : decode prog_5_method_9_code 18 = .ok (.iload 4, 2) := by decide +kernel
theorem d_P_dropBelow_20 : decode prog_5_method_9_code 20 = .ok (.laload, 1) := by decide +kernel
theorem d_P_dropBelow_21 : decode prog_5_method_9_code 21 = .ok (.lload_n 1, 1) := by decide +kernel
theorem d_P_dropBelow_22 : decode prog_5_method_9_code 22 = .ok (.lcmp, 1) := by decide +kernel
theorem d_P_dropBelow_23 : decode prog_5_method_9_code 23 = .ok (.ifCond .lt 32, 3) := by decide +kernel
theorem d_P_dropBelow_55 : decode prog_5_method_9_code 55 = .ok (.iinc 4 1, 3) := by decide +kernel
theorem d_P_dropBelow_58 : decode prog_5_method_9_code 58 = .ok (.goto (-53), 3) := by decide +kernel
theorem d_P_dropBelow_26 : decode prog_5_method_9_code 26 = .ok (.aload_n 0, 1) := by decide +kernel
theorem d_P_dropBelow_27 : decode prog_5_method_9_code 27 = .ok (.iload_n 3, 1) := by decide +kernel
theorem d_P_dropBelow_28 : decode prog_5_method_9_code 28 = .ok (.aload_n 0, 1) := by decide +kernel
theorem d_P_dropBelow_29 : decode prog_5_method_9_code 29 = .ok (.getfield 7, 3) := by decide +kernel
theorem d_P_dropBelow_32 : decode prog_5_method_9_code 32 = .ok (.iload 4, 2) := by decide +kernel
theorem d_P_dropBelow_34 : decode prog_5_method_9_code 34 = .ok (.iaload, 1) := by decide +kernel
theorem d_P_dropBelow_35 : decode prog_5_method_9_code 35 = .ok (.aload_n 0, 1) := by decide +kernel
theorem d_P_dropBelow_36 : decode prog_5_method_9_code 36 = .ok (.getfield 13, 3) := by decide +kernel
theorem d_P_dropBelow_39 : decode prog_5_method_9_code 39 = .ok (.iload 4, 2) := by decide +kernel
theorem d_P_dropBelow_41 : decode prog_5_method_9_code 41 = .ok (.laload, 1) := by decide +kernel
theorem d_P_dropBelow_42 : decode prog_5_method_9_code 42 = .ok (.aload_n 0, 1) := by decide +kernel
theorem d_P_dropBelow_43 : decode prog_5_method_9_code 43 = .ok (.getfield 17, 3) := by decide +kernel
theorem d_P_dropBelow_46 : decode prog_5_method_9_code 46 = .ok (.iload 4, 2) := by decide +kernel
theorem d_P_dropBelow_48 : decode prog_5_method_9_code 48 = .ok (.laload, 1) := by decide +kernel
theorem d_P_dropBelow_49 : decode prog_5_method_9_code 49 = .ok (.invokevirtual 33, 3) := by decide +kernel
theorem d_P_dropBelow_52 : decode prog_5_method_9_code 52 = .ok (.iinc 3 1, 3) := by decide +kernel
set_option maxHeartbeats 4000000 in
set_option maxRecDepth 100000 in
theorem v_dropBelow (l : Launch) (D : va_G) (dA : Nat → ClassId) (sz : Nat) (h : Nat) (ad : Nat → Nat) (x : VS) (a : Int64) (h0 : x.hsize ≤ x.hN) (h9 : x.hN ≤ 65536) : Met l ⟨"SeriesVault$Points", "dropBelow", "(J)V"⟩ [Cond.code ⟨"SeriesVault$Points", "dropBelow", "(J)V"⟩ prog_5_method_9_code 5 none] { frames := 2, cells := 0, slots := 0, locals := 26 } (pC D dA [.ref (ad 1), .long a] (VW dA h ad x) sz) (va_Qv (fun (u9 : Unit) => True) (fun (u9 : Unit) t9 => bW D (va_A (VW dA h ad x) sz) (VW dA h ad (VS.s_hsize (VS.s_hV (VS.s_hT (VS.s_hO x (tdT (x.hAb a) x.hO x.hsize)) (tdT (x.hAb a) x.hT x.hsize)) (tdT (x.hAb a) x.hV x.hsize)) (cnt x.hsize (x.hAb a)))) t9) (va_A (VW dA h ad x) sz)) 0 0 (va_A (VW dA h ad x) sz) := by
  refine mkC (y := ⟨"SeriesVault$Points", "dropBelow", "(J)V"⟩) (cc := prog_5_method_9_code) (maxL := 5) (av := [.ref (ad 1), .long a]) (ws := VW dA h ad x) (sz := sz) (Qc := fun A => va_Qv (fun (u9 : Unit) => True) (fun (u9 : Unit) t9 => bW D A (VW dA h ad (VS.s_hsize (VS.s_hV (VS.s_hT (VS.s_hO x (tdT (x.hAb a) x.hO x.hsize)) (tdT (x.hAb a) x.hT x.hsize)) (tdT (x.hAb a) x.hV x.hsize)) (cnt x.hsize (x.hAb a)))) t9) A) (by decide) (Nat.le_of_ble_eq_true rfl) ?_
  intro A p e s m below meth c ls hsz hB
  obtain ⟨hx, hb, hr, hml, hown, hin, hlk, hE, hK, hP, hD, hS, hA, hN, hl⟩ := hB
  have hown : s.vm.findClass "SeriesVault$Points" = some m.cls := hown
  have hl : lv_has ls 5 [(0, .ref (ad 1)), (1, .long a)] := hl
  obtain ⟨H, hH⟩ : ∃ z, z = s.heap := ⟨_, rfl⟩
  have hP : va_P D vwCl (VW dA h ad x) H := by rw [hH]; exact hP
  have hS : va_S A s.heap H [] := by rw [hH]; exact hS
  rw [← hH]
  refine lv_iconst (v := 0) hx hb d_P_dropBelow_0 (by decide) ?_
  refine lv_istore_n hx hb d_P_dropBelow_1 rfl hl (by decide) rfl (fun ls hl => ?_)
  have hl : lv_has ls 5 [(3, .int 0), (0, .ref (ad 1)), (1, .long a)] := hl
  refine lv_iconst (v := 0) hx hb d_P_dropBelow_2 (by decide) ?_
  refine lv_istore hx hb d_P_dropBelow_3 hl (by decide) rfl (fun ls hl => ?_)
  have hl : lv_has ls 5 [(4, .int 0), (3, .int 0), (0, .ref (ad 1)), (1, .long a)] := hl
  have L5 : ∀ (k9 : Nat) (q : Nat) (n : Nat) (i1 : q ≤ x.hsize) (i2 : n = cnt q (x.hAb a)) (i3 : n ≤ q) (hk9 : x.hsize - q = k9), ∀ (H : Heap) (locs : List Loc) (ls : Array Slot) (hP : va_P D vwCl (VW dA h ad (VS.s_hV (VS.s_hT (VS.s_hO x (tdT (x.hAb a) x.hO q)) (tdT (x.hAb a) x.hT q)) (tdT (x.hAb a) x.hV q))) H) (hD : va_D A (VW dA h ad (VS.s_hV (VS.s_hT (VS.s_hO x (tdT (x.hAb a) x.hO q)) (tdT (x.hAb a) x.hT q)) (tdT (x.hAb a) x.hV q)))) (hS : va_S A s.heap H locs) (hl : lv_has ls 5 [(3, .int (nI n)), (4, .int (nI q)), (1, .long a), (0, .ref (ad 1))]), W p l e ({ frames := 2, cells := 0, slots := 0, locals := 26 } : Room) s m ([.ref (ad 1), .long a] : List Value).toArray below meth c H locs 0 0 (MQ below (va_Qv (fun (u9 : Unit) => True) (fun (u9 : Unit) t9 => bW D A (VW dA h ad (VS.s_hsize (VS.s_hV (VS.s_hT (VS.s_hO x (tdT (x.hAb a) x.hO x.hsize)) (tdT (x.hAb a) x.hT x.hsize)) (tdT (x.hAb a) x.hV x.hsize)) (cnt x.hsize (x.hAb a)))) t9) A) ([.ref (ad 1), .long a] : List Value).toArray s 0 0 A) (F0 m 5 ls []) := by
    intro k9
    induction k9 using Nat.strongRecOn with
    | ind k9 ih5 =>
      intro q n i1 i2 i3 hk9 H locs ls hP hD hS hl
      refine lv_iload hx hb d_P_dropBelow_5 (lv_at hl 1 rfl) ?_
      refine lv_aload_n hx hb d_P_dropBelow_7 rfl (lv_at hl 3 rfl) ?_
      refine gF (v := .int (nI x.hsize)) hx hb hown hE hK hP 9 rfl rfl layP 3 (by decide) w565 rfl d_P_dropBelow_8 ?_
      refine lv_icmp_ge hx hb d_P_dropBelow_11 (tgt := 61) rfl (fun g1 => ?_) (fun g1 => ?_)
      · have g1 := (nI_leI (a := x.hsize) (b := q) (by omega) (by omega)).mp g1
        refine lv_aload_n hx hb d_P_dropBelow_61 rfl (lv_at hl 3 rfl) ?_
        refine lv_iload_n hx hb d_P_dropBelow_62 rfl (lv_at hl 0 rfl) ?_
        refine pF (v := .int (nI n)) hx hb hown hE hK hP hD hS 9 rfl rfl layP tyP tokP nmP 3 (by decide) w565 rfl rfl rfl (Nat.le_of_ble_eq_true rfl) d_P_dropBelow_63 (fun H locs hP hD hS => ?_)
        have hP : va_P D vwCl (VW dA h ad (VS.s_hsize (VS.s_hV (VS.s_hT (VS.s_hO x (tdT (x.hAb a) x.hO q)) (tdT (x.hAb a) x.hT q)) (tdT (x.hAb a) x.hV q)) n)) H := hP
        have hD : va_D A (VW dA h ad (VS.s_hsize (VS.s_hV (VS.s_hT (VS.s_hO x (tdT (x.hAb a) x.hO q)) (tdT (x.hAb a) x.hT q)) (tdT (x.hAb a) x.hV q)) n)) := hD
        have e9 : (VS.s_hsize (VS.s_hV (VS.s_hT (VS.s_hO x (tdT (x.hAb a) x.hO q)) (tdT (x.hAb a) x.hT q)) (tdT (x.hAb a) x.hV q)) n : VS) = VS.s_hsize (VS.s_hV (VS.s_hT (VS.s_hO x (tdT (x.hAb a) x.hO x.hsize)) (tdT (x.hAb a) x.hT x.hsize)) (tdT (x.hAb a) x.hV x.hsize)) (cnt x.hsize (x.hAb a)) := by rw [show (tdT (x.hAb a) x.hO x.hsize) = (tdT (x.hAb a) x.hO q) from by (rw [show x.hsize = q by omega]), show (tdT (x.hAb a) x.hT x.hsize) = (tdT (x.hAb a) x.hT q) from by (rw [show x.hsize = q by omega]), show (tdT (x.hAb a) x.hV x.hsize) = (tdT (x.hAb a) x.hV q) from by (rw [show x.hsize = q by omega]), show (cnt x.hsize (x.hAb a)) = n from by (rw [i2, show x.hsize = q by omega])] <;> rfl
        exact rfV hx hb hr hlk hS () trivial (cvPv e9 hP) (cvDv e9 hD) (Nat.le_of_ble_eq_true rfl) (Nat.le_of_ble_eq_true rfl) d_P_dropBelow_66
      · have g1 := mt (nI_leI (a := x.hsize) (b := q) (by omega) (by omega)).mpr g1
        refine lv_aload_n hx hb d_P_dropBelow_14 rfl (lv_at hl 3 rfl) ?_
        refine gF (v := .ref (x.hA 1)) hx hb hown hE hK hP 9 rfl rfl layP 1 (by decide) w187 rfl d_P_dropBelow_15 ?_
        refine lv_iload hx hb d_P_dropBelow_18 (lv_at hl 1 rfl) ?_
        refine nlld (f := (tdT (x.hAb a) x.hT q)) (n := x.hN) hx hb hK hP 11 2 rfl rfl (q) (by omega) (by omega) d_P_dropBelow_20 ?_
        refine tpl (y := (x.hT q)) (tdT_at _ _ (Nat.le_refl q)) ?_
        refine lv_lload_n hx hb d_P_dropBelow_21 rfl (lv_at hl 2 rfl) ?_
        refine W.lcmp hx hb d_P_dropBelow_22 ?_
        refine lv_if_lt hx hb d_P_dropBelow_23 (tgt := 55) rfl (fun g2 => ?_) (fun g2 => ?_)
        · have g2 := (lg_cmp_lt _ _).mp g2
          refine lv_iinc (k := 1) (v := nI (q + 1)) hx hb d_P_dropBelow_55 hl rfl (iincN (q) 1 1 (by decide)) (by decide) rfl (fun ls hl => ?_)
          have hl : lv_has ls 5 [(4, .int (nI (q + 1))), (3, .int (nI n)), (1, .long a), (0, .ref (ad 1))] := hl
          refine lv_goto hx hb d_P_dropBelow_58 (tgt := 5) rfl ?_
          have e9 : (VS.s_hV (VS.s_hT (VS.s_hO x (tdT (x.hAb a) x.hO q)) (tdT (x.hAb a) x.hT q)) (tdT (x.hAb a) x.hV q) : VS) = VS.s_hV (VS.s_hT (VS.s_hO x (tdT (x.hAb a) x.hO (q + 1))) (tdT (x.hAb a) x.hT (q + 1))) (tdT (x.hAb a) x.hV (q + 1)) := by rw [show (tdT (x.hAb a) x.hO (q + 1)) = (tdT (x.hAb a) x.hO q) from (tdT_f (c := x.hAb a) (show x.hAb a q = false by show (!decide _) = false; rw [decide_eq_true g2]; rfl)), show (tdT (x.hAb a) x.hT (q + 1)) = (tdT (x.hAb a) x.hT q) from (tdT_f (c := x.hAb a) (show x.hAb a q = false by show (!decide _) = false; rw [decide_eq_true g2]; rfl)), show (tdT (x.hAb a) x.hV (q + 1)) = (tdT (x.hAb a) x.hV q) from (tdT_f (c := x.hAb a) (show x.hAb a q = false by show (!decide _) = false; rw [decide_eq_true g2]; rfl))] <;> rfl
          exact ih5 _ (by omega) (q + 1) n (by omega) (by rw [cnt_f (show x.hAb a q = false by show (!decide _) = false; rw [decide_eq_true g2]; rfl), i2]) (by omega) rfl H _ ls (cvPv e9 hP) (cvDv e9 hD) hS (lv_sub hl [1, 0, 2, 3] rfl)
        · have g2 := mt (lg_cmp_lt _ _).mpr g2
          refine lv_aload_n hx hb d_P_dropBelow_26 rfl (lv_at hl 3 rfl) ?_
          refine lv_iload_n hx hb d_P_dropBelow_27 rfl (lv_at hl 0 rfl) ?_
          refine lv_aload_n hx hb d_P_dropBelow_28 rfl (lv_at hl 3 rfl) ?_
          refine gF (v := .ref (x.hA 0)) hx hb hown hE hK hP 9 rfl rfl layP 0 (by decide) w185 rfl d_P_dropBelow_29 ?_
          refine lv_iload hx hb d_P_dropBelow_32 (lv_at hl 1 rfl) ?_
          refine nild (f := (fun z9 => nI ((tdT (x.hAb a) x.hO q) z9))) (n := x.hN) hx hb hK hP 10 1 rfl rfl (q) (by omega) (by omega) d_P_dropBelow_34 ?_
          refine tpi (y := nI (x.hO q)) (congrArg nI (tdT_at _ _ (Nat.le_refl q))) ?_
          refine lv_aload_n hx hb d_P_dropBelow_35 rfl (lv_at hl 3 rfl) ?_
          refine gF (v := .ref (x.hA 1)) hx hb hown hE hK hP 9 rfl rfl layP 1 (by decide) w187 rfl d_P_dropBelow_36 ?_
          refine lv_iload hx hb d_P_dropBelow_39 (lv_at hl 1 rfl) ?_
          refine nlld (f := (tdT (x.hAb a) x.hT q)) (n := x.hN) hx hb hK hP 11 2 rfl rfl (q) (by omega) (by omega) d_P_dropBelow_41 ?_
          refine tpl (y := (x.hT q)) (tdT_at _ _ (Nat.le_refl q)) ?_
          refine lv_aload_n hx hb d_P_dropBelow_42 rfl (lv_at hl 3 rfl) ?_
          refine gF (v := .ref (x.hA 2)) hx hb hown hE hK hP 9 rfl rfl layP 2 (by decide) w188 rfl d_P_dropBelow_43 ?_
          refine lv_iload hx hb d_P_dropBelow_46 (lv_at hl 1 rfl) ?_
          refine nlld (f := (tdT (x.hAb a) x.hV q)) (n := x.hN) hx hb hK hP 12 2 rfl rfl (q) (by omega) (by omega) d_P_dropBelow_48 ?_
          refine tpl (y := (x.hV q)) (tdT_at _ _ (Nat.le_refl q)) ?_
          refine jfV (rnV (As := [.int (nI n), .int (nI (x.hO q)), .long (x.hT q), .long (x.hV q)]) (rest := []) hx hb hml hown hE hK (hN _ _ hS) hP hD (v_pset_h l D dA H.size h ad (VS.s_hV (VS.s_hT (VS.s_hO x (tdT (x.hAb a) x.hO q)) (tdT (x.hAb a) x.hT q)) (tdT (x.hAb a) x.hV q)) n (x.hO q) (x.hT q) (x.hV q) (show n < x.hN from by omega) (show x.hN ≤ 65536 from by omega)) (q0 := 9) rfl rfl w1086 w1085 w1087 w1088 w578 rfl rfl ⟨⟨by decide, by decide⟩, rfl⟩ ⟨(Nat.le_of_ble_eq_true rfl), (Nat.le_of_ble_eq_true rfl)⟩ rfl hl.1 rfl (Nat.le_of_ble_eq_true rfl) d_P_dropBelow_49 ⟨(Nat.le_of_ble_eq_true rfl), (Nat.le_of_ble_eq_true rfl)⟩) hP hD hS hA (fun u4 H locs hp9 hP hD hS => ?_)
          have hP : va_P D vwCl (VW dA h ad (VS.s_hV (VS.s_hT (VS.s_hO x (va_up (tdT (x.hAb a) x.hO q) n (x.hO q))) (va_up (tdT (x.hAb a) x.hT q) n (x.hT q))) (va_up (tdT (x.hAb a) x.hV q) n (x.hV q)))) H := hP
          have hD : va_D A (VW dA h ad (VS.s_hV (VS.s_hT (VS.s_hO x (va_up (tdT (x.hAb a) x.hO q) n (x.hO q))) (va_up (tdT (x.hAb a) x.hT q) n (x.hT q))) (va_up (tdT (x.hAb a) x.hV q) n (x.hV q)))) := hD
          refine lv_iinc (k := 0) (v := nI (n + 1)) hx hb d_P_dropBelow_52 hl rfl (iincN (n) 1 1 (by decide)) (by decide) rfl (fun ls hl => ?_)
          have hl : lv_has ls 5 [(3, .int (nI (n + 1))), (4, .int (nI q)), (1, .long a), (0, .ref (ad 1))] := hl
          refine lv_iinc (k := 1) (v := nI (q + 1)) hx hb d_P_dropBelow_55 hl rfl (iincN (q) 1 1 (by decide)) (by decide) rfl (fun ls hl => ?_)
          have hl : lv_has ls 5 [(4, .int (nI (q + 1))), (3, .int (nI (n + 1))), (1, .long a), (0, .ref (ad 1))] := hl
          refine lv_goto hx hb d_P_dropBelow_58 (tgt := 5) rfl ?_
          have e9 : (VS.s_hV (VS.s_hT (VS.s_hO x (va_up (tdT (x.hAb a) x.hO q) n (x.hO q))) (va_up (tdT (x.hAb a) x.hT q) n (x.hT q))) (va_up (tdT (x.hAb a) x.hV q) n (x.hV q)) : VS) = VS.s_hV (VS.s_hT (VS.s_hO x (tdT (x.hAb a) x.hO (q + 1))) (tdT (x.hAb a) x.hT (q + 1))) (tdT (x.hAb a) x.hV (q + 1)) := by rw [show (tdT (x.hAb a) x.hO (q + 1)) = (va_up (tdT (x.hAb a) x.hO q) n (x.hO q)) from (by rw [tdT_t (c := x.hAb a) (show x.hAb a q = true by show (!decide _) = true; rw [decide_eq_false g2]; rfl) rfl, i2]), show (tdT (x.hAb a) x.hT (q + 1)) = (va_up (tdT (x.hAb a) x.hT q) n (x.hT q)) from (by rw [tdT_t (c := x.hAb a) (show x.hAb a q = true by show (!decide _) = true; rw [decide_eq_false g2]; rfl) rfl, i2]), show (tdT (x.hAb a) x.hV (q + 1)) = (va_up (tdT (x.hAb a) x.hV q) n (x.hV q)) from (by rw [tdT_t (c := x.hAb a) (show x.hAb a q = true by show (!decide _) = true; rw [decide_eq_false g2]; rfl) rfl, i2])] <;> rfl
          exact ih5 _ (by omega) (q + 1) (n + 1) (by omega) (by rw [cnt_t (show x.hAb a q = true by show (!decide _) = true; rw [decide_eq_false g2]; rfl), i2]) (by omega) rfl H _ ls (cvPv e9 hP) (cvDv e9 hD) hS (lv_sub hl [1, 0, 2, 3] rfl)
  have e9 : (x : VS) = VS.s_hV (VS.s_hT (VS.s_hO x (tdT (x.hAb a) x.hO 0)) (tdT (x.hAb a) x.hT 0)) (tdT (x.hAb a) x.hV 0) := by rw [show (tdT (x.hAb a) x.hO 0) = x.hO from rfl, show (tdT (x.hAb a) x.hT 0) = x.hT from rfl, show (tdT (x.hAb a) x.hV 0) = x.hV from rfl] <;> rfl
  exact L5 _ 0 0 (Nat.zero_le _) rfl (Nat.le_refl _) rfl H _ ls (cvPv e9 hP) (cvDv e9 hD) hS (lv_sub hl [1, 0, 3, 2] rfl)
end
section
set_option maxHeartbeats 4000000 in
set_option maxRecDepth 100000 in
theorem v_hclear_n (l : Launch) (D : va_G) (dA : Nat → ClassId) (sz : Nat) (h : Nat) (ad : Nat → Nat) (x : VS) : Met l ⟨"SeriesVault$Shelf", "clear", "()V"⟩ [Cond.code ⟨"SeriesVault$Shelf", "clear", "()V"⟩ prog_9_method_2_code 1 none] { frames := 1, cells := 0, slots := 0, locals := 0 } (pC D dA [.ref (ad 3)] (VW dA h ad x) sz) (va_Qv (fun (u9 : Unit) => True) (fun (u9 : Unit) t9 => bW D (va_A (VW dA h ad x) sz) (VW dA h ad (VS.s_ncat (VS.s_nser (VS.s_nhor (VS.s_nsc (VS.s_npc x 0) 0) 0) 0) 0)) t9) (va_A (VW dA h ad x) sz)) 0 0 (va_A (VW dA h ad x) sz) := by
  refine mkC (y := ⟨"SeriesVault$Shelf", "clear", "()V"⟩) (cc := prog_9_method_2_code) (maxL := 1) (av := [.ref (ad 3)]) (ws := VW dA h ad x) (sz := sz) (Qc := fun A => va_Qv (fun (u9 : Unit) => True) (fun (u9 : Unit) t9 => bW D A (VW dA h ad (VS.s_ncat (VS.s_nser (VS.s_nhor (VS.s_nsc (VS.s_npc x 0) 0) 0) 0) 0)) t9) A) (by decide) (Nat.le_of_ble_eq_true rfl) ?_
  intro A p e s m below meth c ls hsz hB
  obtain ⟨hx, hb, hr, hml, hown, hin, hlk, hE, hK, hP, hD, hS, hA, hN, hl⟩ := hB
  have hown : s.vm.findClass "SeriesVault$Shelf" = some m.cls := hown
  have hl : lv_has ls 1 [(0, .ref (ad 3))] := hl
  obtain ⟨H, hH⟩ : ∃ z, z = s.heap := ⟨_, rfl⟩
  have hP : va_P D vwCl (VW dA h ad x) H := by rw [hH]; exact hP
  have hS : va_S A s.heap H [] := by rw [hH]; exact hS
  rw [← hH]
  refine lv_aload_n hx hb d_H_clear_0 rfl (lv_at hl 0 rfl) ?_
  refine lv_iconst (v := 0) hx hb d_H_clear_1 (by decide) ?_
  refine pF (v := .int (nI 0)) hx hb hown hE hK hP hD hS 17 rfl rfl layH tyH tokH nmH 1 (by decide) w566 rfl rfl rfl (Nat.le_of_ble_eq_true rfl) d_H_clear_2 (fun H locs hP hD hS => ?_)
  have hP : va_P D vwCl (VW dA h ad (VS.s_npc x 0)) H := hP
  have hD : va_D A (VW dA h ad (VS.s_npc x 0)) := hD
  refine lv_aload_n hx hb d_H_clear_5 rfl (lv_at hl 0 rfl) ?_
  refine lv_iconst (v := 0) hx hb d_H_clear_6 (by decide) ?_
  refine pF (v := .int (nI 0)) hx hb hown hE hK hP hD hS 17 rfl rfl layH tyH tokH nmH 6 (by decide) w567 rfl rfl rfl (Nat.le_of_ble_eq_true rfl) d_H_clear_7 (fun H locs hP hD hS => ?_)
  have hP : va_P D vwCl (VW dA h ad (VS.s_nsc (VS.s_npc x 0) 0)) H := hP
  have hD : va_D A (VW dA h ad (VS.s_nsc (VS.s_npc x 0) 0)) := hD
  refine lv_aload_n hx hb d_H_clear_10 rfl (lv_at hl 0 rfl) ?_
  refine lv_lconst (v := 0) hx hb d_H_clear_11 (by decide) ?_
  refine pF (v := .long 0) hx hb hown hE hK hP hD hS 17 rfl rfl layH tyH tokH nmH 7 (by decide) w568 rfl rfl rfl (Nat.le_of_ble_eq_true rfl) d_H_clear_12 (fun H locs hP hD hS => ?_)
  have hP : va_P D vwCl (VW dA h ad (VS.s_nhor (VS.s_nsc (VS.s_npc x 0) 0) 0)) H := hP
  have hD : va_D A (VW dA h ad (VS.s_nhor (VS.s_nsc (VS.s_npc x 0) 0) 0)) := hD
  refine lv_aload_n hx hb d_H_clear_15 rfl (lv_at hl 0 rfl) ?_
  refine lv_iconst (v := 0) hx hb d_H_clear_16 (by decide) ?_
  refine pF (v := .int (nI 0)) hx hb hown hE hK hP hD hS 17 rfl rfl layH tyH tokH nmH 8 (by decide) w569 rfl rfl rfl (Nat.le_of_ble_eq_true rfl) d_H_clear_17 (fun H locs hP hD hS => ?_)
  have hP : va_P D vwCl (VW dA h ad (VS.s_nser (VS.s_nhor (VS.s_nsc (VS.s_npc x 0) 0) 0) 0)) H := hP
  have hD : va_D A (VW dA h ad (VS.s_nser (VS.s_nhor (VS.s_nsc (VS.s_npc x 0) 0) 0) 0)) := hD
  refine lv_aload_n hx hb d_H_clear_20 rfl (lv_at hl 0 rfl) ?_
  refine lv_iconst (v := 0) hx hb d_H_clear_21 (by decide) ?_
  refine pF (v := .int (nI 0)) hx hb hown hE hK hP hD hS 17 rfl rfl layH tyH tokH nmH 10 (by decide) w570 rfl rfl rfl (Nat.le_of_ble_eq_true rfl) d_H_clear_22 (fun H locs hP hD hS => ?_)
  have hP : va_P D vwCl (VW dA h ad (VS.s_ncat (VS.s_nser (VS.s_nhor (VS.s_nsc (VS.s_npc x 0) 0) 0) 0) 0)) H := hP
  have hD : va_D A (VW dA h ad (VS.s_ncat (VS.s_nser (VS.s_nhor (VS.s_nsc (VS.s_npc x 0) 0) 0) 0) 0)) := hD
  exact rfV hx hb hr hlk hS () trivial hP hD (Nat.le_of_ble_eq_true rfl) (Nat.le_of_ble_eq_true rfl) d_H_clear_25
set_option maxHeartbeats 4000000 in
set_option maxRecDepth 100000 in
theorem v_hclear_s (l : Launch) (D : va_G) (dA : Nat → ClassId) (sz : Nat) (h : Nat) (ad : Nat → Nat) (x : VS) : Met l ⟨"SeriesVault$Shelf", "clear", "()V"⟩ [Cond.code ⟨"SeriesVault$Shelf", "clear", "()V"⟩ prog_9_method_2_code 1 none] { frames := 1, cells := 0, slots := 0, locals := 0 } (pC D dA [.ref (ad 10)] (VW dA h ad x) sz) (va_Qv (fun (u9 : Unit) => True) (fun (u9 : Unit) t9 => bW D (va_A (VW dA h ad x) sz) (VW dA h ad (VS.s_scat (VS.s_sser (VS.s_shor (VS.s_ssc (VS.s_spc x 0) 0) 0) 0) 0)) t9) (va_A (VW dA h ad x) sz)) 0 0 (va_A (VW dA h ad x) sz) := by
  refine mkC (y := ⟨"SeriesVault$Shelf", "clear", "()V"⟩) (cc := prog_9_method_2_code) (maxL := 1) (av := [.ref (ad 10)]) (ws := VW dA h ad x) (sz := sz) (Qc := fun A => va_Qv (fun (u9 : Unit) => True) (fun (u9 : Unit) t9 => bW D A (VW dA h ad (VS.s_scat (VS.s_sser (VS.s_shor (VS.s_ssc (VS.s_spc x 0) 0) 0) 0) 0)) t9) A) (by decide) (Nat.le_of_ble_eq_true rfl) ?_
  intro A p e s m below meth c ls hsz hB
  obtain ⟨hx, hb, hr, hml, hown, hin, hlk, hE, hK, hP, hD, hS, hA, hN, hl⟩ := hB
  have hown : s.vm.findClass "SeriesVault$Shelf" = some m.cls := hown
  have hl : lv_has ls 1 [(0, .ref (ad 10))] := hl
  obtain ⟨H, hH⟩ : ∃ z, z = s.heap := ⟨_, rfl⟩
  have hP : va_P D vwCl (VW dA h ad x) H := by rw [hH]; exact hP
  have hS : va_S A s.heap H [] := by rw [hH]; exact hS
  rw [← hH]
  refine lv_aload_n hx hb d_H_clear_0 rfl (lv_at hl 0 rfl) ?_
  refine lv_iconst (v := 0) hx hb d_H_clear_1 (by decide) ?_
  refine pF (v := .int (nI 0)) hx hb hown hE hK hP hD hS 24 rfl rfl layH tyH tokH nmH 1 (by decide) w566 rfl rfl rfl (Nat.le_of_ble_eq_true rfl) d_H_clear_2 (fun H locs hP hD hS => ?_)
  have hP : va_P D vwCl (VW dA h ad (VS.s_spc x 0)) H := hP
  have hD : va_D A (VW dA h ad (VS.s_spc x 0)) := hD
  refine lv_aload_n hx hb d_H_clear_5 rfl (lv_at hl 0 rfl) ?_
  refine lv_iconst (v := 0) hx hb d_H_clear_6 (by decide) ?_
  refine pF (v := .int (nI 0)) hx hb hown hE hK hP hD hS 24 rfl rfl layH tyH tokH nmH 6 (by decide) w567 rfl rfl rfl (Nat.le_of_ble_eq_true rfl) d_H_clear_7 (fun H locs hP hD hS => ?_)
  have hP : va_P D vwCl (VW dA h ad (VS.s_ssc (VS.s_spc x 0) 0)) H := hP
  have hD : va_D A (VW dA h ad (VS.s_ssc (VS.s_spc x 0) 0)) := hD
  refine lv_aload_n hx hb d_H_clear_10 rfl (lv_at hl 0 rfl) ?_
  refine lv_lconst (v := 0) hx hb d_H_clear_11 (by decide) ?_
  refine pF (v := .long 0) hx hb hown hE hK hP hD hS 24 rfl rfl layH tyH tokH nmH 7 (by decide) w568 rfl rfl rfl (Nat.le_of_ble_eq_true rfl) d_H_clear_12 (fun H locs hP hD hS => ?_)
  have hP : va_P D vwCl (VW dA h ad (VS.s_shor (VS.s_ssc (VS.s_spc x 0) 0) 0)) H := hP
  have hD : va_D A (VW dA h ad (VS.s_shor (VS.s_ssc (VS.s_spc x 0) 0) 0)) := hD
  refine lv_aload_n hx hb d_H_clear_15 rfl (lv_at hl 0 rfl) ?_
  refine lv_iconst (v := 0) hx hb d_H_clear_16 (by decide) ?_
  refine pF (v := .int (nI 0)) hx hb hown hE hK hP hD hS 24 rfl rfl layH tyH tokH nmH 8 (by decide) w569 rfl rfl rfl (Nat.le_of_ble_eq_true rfl) d_H_clear_17 (fun H locs hP hD hS => ?_)
  have hP : va_P D vwCl (VW dA h ad (VS.s_sser (VS.s_shor (VS.s_ssc (VS.s_spc x 0) 0) 0) 0)) H := hP
  have hD : va_D A (VW dA h ad (VS.s_sser (VS.s_shor (VS.s_ssc (VS.s_spc x 0) 0) 0) 0)) := hD
  refine lv_aload_n hx hb d_H_clear_20 rfl (lv_at hl 0 rfl) ?_
  refine lv_iconst (v := 0) hx hb d_H_clear_21 (by decide) ?_
  refine pF (v := .int (nI 0)) hx hb hown hE hK hP hD hS 24 rfl rfl layH tyH tokH nmH 10 (by decide) w570 rfl rfl rfl (Nat.le_of_ble_eq_true rfl) d_H_clear_22 (fun H locs hP hD hS => ?_)
  have hP : va_P D vwCl (VW dA h ad (VS.s_scat (VS.s_sser (VS.s_shor (VS.s_ssc (VS.s_spc x 0) 0) 0) 0) 0)) H := hP
  have hD : va_D A (VW dA h ad (VS.s_scat (VS.s_sser (VS.s_shor (VS.s_ssc (VS.s_spc x 0) 0) 0) 0) 0)) := hD
  exact rfV hx hb hr hlk hS () trivial hP hD (Nat.le_of_ble_eq_true rfl) (Nat.le_of_ble_eq_true rfl) d_H_clear_25
theorem d_H_addSeries_0 : decode prog_9_method_5_code 0 = .ok (.aload_n 0, 1) := by decide +kernel
theorem d_H_addSeries_1 : decode prog_9_method_5_code 1 = .ok (.getfield 45, 3) := by decide +kernel
theorem d_H_addSeries_4 : decode prog_9_method_5_code 4 = .ok (.sipush 256, 3) := by decide +kernel
theorem d_H_addSeries_7 : decode prog_9_method_5_code 7 = .ok (.if_icmp .ge 25, 3) := by decide +kernel
theorem d_H_addSeries_10 : decode prog_9_method_5_code 10 = .ok (.aload_n 0, 1) := by decide +kernel
theorem d_H_addSeries_11 : decode prog_9_method_5_code 11 = .ok (.getfield 31, 3) := by decide +kernel
theorem d_H_addSeries_14 : decode prog_9_method_5_code 14 = .ok (.aload_n 0, 1) := by decide +kernel
theorem d_H_addSeries_15 : decode prog_9_method_5_code 15 = .ok (.getfield 45, 3) := by decide +kernel
theorem d_H_addSeries_18 : decode prog_9_method_5_code 18 = .ok (.ldc2_w 57, 3) := by decide +kernel
theorem d_H_addSeries_21 : decode prog_9_method_5_code 21 = .ok (.lastore, 1) := by decide +kernel
theorem d_H_addSeries_22 : decode prog_9_method_5_code 22 = .ok (.aload_n 0, 1) := by decide +kernel
theorem d_H_addSeries_23 : decode prog_9_method_5_code 23 = .ok (.dup, 1) := by decide +kernel
theorem d_H_addSeries_24 : decode prog_9_method_5_code 24 = .ok (.getfield 45, 3) := by decide +kernel
theorem d_H_addSeries_27 : decode prog_9_method_5_code 27 = .ok (.iconst 1, 1) := by decide +kernel
theorem d_H_addSeries_28 : decode prog_9_method_5_code 28 = .ok (.iadd, 1) := by decide +kernel
theorem d_H_addSeries_29 : decode prog_9_method_5_code 29 = .ok (.putfield 45, 3) := by decide +kernel
theorem d_H_addSeries_32 : decode prog_9_method_5_code 32 = .ok (.return_, 1) := by decide +kernel
theorem w1093 : Cond.constantLong "SeriesVault$Shelf" 57 (-1) ∈ aW := aw_of (tb_5 (List.mem_of_getElem? (i := 91) rfl)) rfl
set_option maxHeartbeats 4000000 in
set_option maxRecDepth 100000 in
theorem v_addSeries (l : Launch) (D : va_G) (dA : Nat → ClassId) (sz : Nat) (h : Nat) (ad : Nat → Nat) (x : VS) (h0 : x.nser < 256) : Met l ⟨"SeriesVault$Shelf", "addSeries", "()V"⟩ [Cond.code ⟨"SeriesVault$Shelf", "addSeries", "()V"⟩ prog_9_method_5_code 1 none] { frames := 1, cells := 0, slots := 0, locals := 0 } (pC D dA [.ref (ad 3)] (VW dA h ad x) sz) (va_Qv (fun (u9 : Unit) => True) (fun (u9 : Unit) t9 => bW D (va_A (VW dA h ad x) sz) (VW dA h ad (VS.s_nlast (VS.s_nser x (x.nser + 1)) (va_up x.nlast x.nser (-1)))) t9) (va_A (VW dA h ad x) sz)) 0 0 (va_A (VW dA h ad x) sz) := by
  refine mkC (y := ⟨"SeriesVault$Shelf", "addSeries", "()V"⟩) (cc := prog_9_method_5_code) (maxL := 1) (av := [.ref (ad 3)]) (ws := VW dA h ad x) (sz := sz) (Qc := fun A => va_Qv (fun (u9 : Unit) => True) (fun (u9 : Unit) t9 => bW D A (VW dA h ad (VS.s_nlast (VS.s_nser x (x.nser + 1)) (va_up x.nlast x.nser (-1)))) t9) A) (by decide) (Nat.le_of_ble_eq_true rfl) ?_
  intro A p e s m below meth c ls hsz hB
  obtain ⟨hx, hb, hr, hml, hown, hin, hlk, hE, hK, hP, hD, hS, hA, hN, hl⟩ := hB
  have hown : s.vm.findClass "SeriesVault$Shelf" = some m.cls := hown
  have hl : lv_has ls 1 [(0, .ref (ad 3))] := hl
  obtain ⟨H, hH⟩ : ∃ z, z = s.heap := ⟨_, rfl⟩
  have hP : va_P D vwCl (VW dA h ad x) H := by rw [hH]; exact hP
  have hS : va_S A s.heap H [] := by rw [hH]; exact hS
  rw [← hH]
  refine lv_aload_n hx hb d_H_addSeries_0 rfl (lv_at hl 0 rfl) ?_
  refine gF (v := .int (nI x.nser)) hx hb hown hE hK hP 17 rfl rfl layH 8 (by decide) w569 rfl d_H_addSeries_1 ?_
  refine lv_sipush (v := 256) hx hb d_H_addSeries_4 (by decide) ?_
  refine lv_icmp_ge hx hb d_H_addSeries_7 (tgt := 32) rfl (fun h9 => absurd h9 (mt (nI_leI (a := 256) (b := x.nser) (by omega) (by omega)).mp (Nat.not_le.mpr h0))) (fun _ => ?_)
  refine lv_aload_n hx hb d_H_addSeries_10 rfl (lv_at hl 0 rfl) ?_
  refine gF (v := .ref (ad 9)) hx hb hown hE hK hP 17 rfl rfl layH 9 (by decide) w204 rfl d_H_addSeries_11 ?_
  refine lv_aload_n hx hb d_H_addSeries_14 rfl (lv_at hl 0 rfl) ?_
  refine gF (v := .int (nI x.nser)) hx hb hown hE hK hP 17 rfl rfl layH 8 (by decide) w569 rfl d_H_addSeries_15 ?_
  refine lv_ldc2 (v := (-1)) hx hb hown (hE.t w1093 rfl) d_H_addSeries_18 ?_
  refine nlst (n := 256) hx hb hK hP hD hS 23 2 rfl rfl (x.nser) (by omega) (by decide) d_H_addSeries_21 (fun H locs hP hD hS => ?_)
  have hP : va_P D vwCl (VW dA h ad (VS.s_nlast x (va_up x.nlast x.nser (-1)))) H := hP
  have hD : va_D A (VW dA h ad (VS.s_nlast x (va_up x.nlast x.nser (-1)))) := hD
  refine lv_aload_n hx hb d_H_addSeries_22 rfl (lv_at hl 0 rfl) ?_
  refine lv_dup hx hb d_H_addSeries_23 rfl ?_
  refine gF (v := .int (nI x.nser)) hx hb hown hE hK hP 17 rfl rfl layH 8 (by decide) w569 rfl d_H_addSeries_24 ?_
  refine lv_iconst (v := 1) hx hb d_H_addSeries_27 (by decide) ?_
  refine lv_iadd hx hb d_H_addSeries_28 (tpi (y := nI (x.nser + 1)) (nI_add (x.nser) (1)) ?_)
  refine pF (v := .int (nI (x.nser + 1))) hx hb hown hE hK hP hD hS 17 rfl rfl layH tyH tokH nmH 8 (by decide) w569 rfl rfl rfl (Nat.le_of_ble_eq_true rfl) d_H_addSeries_29 (fun H locs hP hD hS => ?_)
  have hP : va_P D vwCl (VW dA h ad (VS.s_nlast (VS.s_nser x (x.nser + 1)) (va_up x.nlast x.nser (-1)))) H := hP
  have hD : va_D A (VW dA h ad (VS.s_nlast (VS.s_nser x (x.nser + 1)) (va_up x.nlast x.nser (-1)))) := hD
  exact rfV hx hb hr hlk hS () trivial hP hD (Nat.le_of_ble_eq_true rfl) (Nat.le_of_ble_eq_true rfl) d_H_addSeries_32
/-- does scar i cover a time of a series; the first that does -/
def VS.scC (x : VS) (w : Nat) (t : Int64) (i : Nat) : Bool := decide (x.nsO i = w) && (!decide (t < x.nsF i) && !decide (x.nsT i < t))
def frst (f : Nat → Bool) : Nat → Nat → Option Nat
  | 0, _ => none
  | n + 1, k => if f k = true then some k else frst f n (k + 1)
theorem frst_t {f : Nat → Bool} {n k : Nat} (hn : 0 < n) (h : f k = true) : frst f n k = some k := by
  obtain ⟨d, rfl⟩ : ∃ d, n = d + 1 := ⟨n - 1, by omega⟩
  exact if_pos h
theorem frst_f {f : Nat → Bool} {n k : Nat} (hn : 0 < n) (h : f k = false) : frst f n k = frst f (n - 1) (k + 1) := by
  obtain ⟨d, rfl⟩ : ∃ d, n = d + 1 := ⟨n - 1, by omega⟩
  exact if_neg (by rw [h]; decide)
def VS.sc1 (x : VS) (w : Nat) (t : Int64) : Option Nat := frst (x.scC w t) x.nsc 0
def opI (z : Option Nat) : Int32 := match z with
  | none => -1
  | some k => nI k
theorem d_H_scarOf_0 : decode prog_9_method_11_code 0 = .ok (.iconst 0, 1) := by decide +kernel
theorem d_H_scarOf_1 : decode prog_9_method_11_code 1 = .ok (.istore 4, 2) := by decide +kernel
theorem d_H_scarOf_3 : decode prog_9_method_11_code 3 = .ok (.iload 4, 2) := by decide +kernel
theorem d_H_scarOf_5 : decode prog_9_method_11_code 5 = .ok (.aload_n 0, 1) := by decide +kernel
theorem d_H_scarOf_6 : decode prog_9_method_11_code 6 = .ok (.getfield 38, 3) := by decide +kernel
theorem d_H_scarOf_9 : decode prog_9_method_11_code 9 = .ok (.if_icmp .ge 47, 3) := by decide +kernel
theorem d_H_scarOf_56 : decode prog_9_method_11_code 56 = .ok (.iconst (-1), 1) := by decide +kernel
theorem d_H_scarOf_57 : decode prog_9_method_11_code 57 = .ok (.ireturn, 1) := by decide +kernel
theorem d_H_scarOf_12 : decode prog_9_method_11_code 12 = .ok (.aload_n 0, 1) := by decide +kernel
theorem d_H_scarOf_13 : decode prog_9_method_11_code 13 = .ok (.getfield 17, 3) := by decide +kernel
theorem d_H_scarOf_16 : decode prog_9_method_11_code 16 = .ok (.iload 4, 2) := by decide +kernel
theorem d_H_scarOf_18 : decode prog_9_method_11_code 18 = .ok (.iaload, 1) := by decide +kernel
theorem d_H_scarOf_19 : decode prog_9_method_11_code 19 = .ok (.iload_n 1, 1) := by decide +kernel
theorem d_H_scarOf_20 : decode prog_9_method_11_code 20 = .ok (.if_icmp .ne 30, 3) := by decide +kernel
theorem d_H_scarOf_50 : decode prog_9_method_11_code 50 = .ok (.iinc 4 1, 3) := by decide +kernel
theorem d_H_scarOf_53 : decode prog_9_method_11_code 53 = .ok (.goto (-50), 3) := by decide +kernel
theorem d_H_scarOf_23 : decode prog_9_method_11_code 23 = .ok (.lload_n 2, 1) := by decide +kernel
theorem d_H_scarOf_24 : decode prog_9_method_11_code 24 = .ok (.aload_n 0, 1) := by decide +kernel
theorem d_H_scarOf_25 : decode prog_9_method_11_code 25 = .ok (.getfield 21, 3) := by decide +kernel
theorem d_H_scarOf_28 : decode prog_9_method_11_code 28 = .ok (.iload 4, 2) := by decide +kernel
theorem d_H_scarOf_30 : decode prog_9_method_11_code 30 = .ok (.laload, 1) := by decide +kernel
theorem d_H_scarOf_31 : decode prog_9_method_11_code 31 = .ok (.lcmp, 1) := by decide +kernel
theorem d_H_scarOf_32 : decode prog_9_method_11_code 32 = .ok (.ifCond .lt 18, 3) := by decide +kernel
theorem d_H_scarOf_35 : decode prog_9_method_11_code 35 = .ok (.lload_n 2, 1) := by decide +kernel
theorem d_H_scarOf_36 : decode prog_9_method_11_code 36 = .ok (.aload_n 0, 1) := by decide +kernel
theorem d_H_scarOf_37 : decode prog_9_method_11_code 37 = .ok (.getfield 25, 3) := by decide +kernel
theorem d_H_scarOf_40 : decode prog_9_method_11_code 40 = .ok (.iload 4, 2) := by decide +kernel
theorem d_H_scarOf_42 : decode prog_9_method_11_code 42 = .ok (.laload, 1) := by decide +kernel
theorem d_H_scarOf_43 : decode prog_9_method_11_code 43 = .ok (.lcmp, 1) := by decide +kernel
theorem d_H_scarOf_44 : decode prog_9_method_11_code 44 = .ok (.ifCond .gt 6, 3) := by decide +kernel
theorem d_H_scarOf_47 : decode prog_9_method_11_code 47 = .ok (.iload 4, 2) := by decide +kernel
theorem d_H_scarOf_49 : decode prog_9_method_11_code 49 = .ok (.ireturn, 1) := by decide +kernel
set_option maxHeartbeats 4000000 in
set_option maxRecDepth 100000 in
theorem v_scarOf (l : Launch) (D : va_G) (dA : Nat → ClassId) (sz : Nat) (h : Nat) (ad : Nat → Nat) (x : VS) (w : Nat) (a : Int64) (h1 : x.nsc ≤ 64) (h8 : w < 2 ^ 31) (h7 : ∀ q : Nat, q < x.nsc → x.nsO q < 2 ^ 31) : Met l ⟨"SeriesVault$Shelf", "scarOf", "(IJ)I"⟩ [Cond.code ⟨"SeriesVault$Shelf", "scarOf", "(IJ)I"⟩ prog_9_method_11_code 5 (some FieldType.int)] { frames := 1, cells := 0, slots := 0, locals := 0 } (pC D dA [.ref (ad 3), .int (nI w), .long a] (VW dA h ad x) sz) (va_Qi (fun (r9 : Int32) (u9 : Unit) => r9 = opI (x.sc1 w a)) (fun (u9 : Unit) t9 => bW D (va_A (VW dA h ad x) sz) (VW dA h ad x) t9) (va_A (VW dA h ad x) sz)) 0 0 (va_A (VW dA h ad x) sz) := by
  refine mkC (y := ⟨"SeriesVault$Shelf", "scarOf", "(IJ)I"⟩) (cc := prog_9_method_11_code) (maxL := 5) (av := [.ref (ad 3), .int (nI w), .long a]) (ws := VW dA h ad x) (sz := sz) (Qc := fun A => va_Qi (fun (r9 : Int32) (u9 : Unit) => r9 = opI (x.sc1 w a)) (fun (u9 : Unit) t9 => bW D A (VW dA h ad x) t9) A) (by decide) (Nat.le_of_ble_eq_true rfl) ?_
  intro A p e s m below meth c ls hsz hB
  obtain ⟨hx, hb, hr, hml, hown, hin, hlk, hE, hK, hP, hD, hS, hA, hN, hl⟩ := hB
  have hown : s.vm.findClass "SeriesVault$Shelf" = some m.cls := hown
  have hl : lv_has ls 5 [(0, .ref (ad 3)), (1, .int (nI w)), (2, .long a)] := hl
  obtain ⟨H, hH⟩ : ∃ z, z = s.heap := ⟨_, rfl⟩
  have hP : va_P D vwCl (VW dA h ad x) H := by rw [hH]; exact hP
  have hS : va_S A s.heap H [] := by rw [hH]; exact hS
  rw [← hH]
  refine lv_iconst (v := 0) hx hb d_H_scarOf_0 (by decide) ?_
  refine lv_istore hx hb d_H_scarOf_1 hl (by decide) rfl (fun ls hl => ?_)
  have hl : lv_has ls 5 [(4, .int 0), (0, .ref (ad 3)), (1, .int (nI w)), (2, .long a)] := hl
  have L3 : ∀ (k9 : Nat) (k : Nat) (i1 : k ≤ x.nsc) (i2 : frst (x.scC w a) (x.nsc - k) k = x.sc1 w a) (hk9 : x.nsc - k = k9), ∀ (H : Heap) (locs : List Loc) (ls : Array Slot) (hP : va_P D vwCl (VW dA h ad x) H) (hD : va_D A (VW dA h ad x)) (hS : va_S A s.heap H locs) (hl : lv_has ls 5 [(4, .int (nI k)), (1, .int (nI w)), (2, .long a), (0, .ref (ad 3))]), W p l e ({ frames := 1, cells := 0, slots := 0, locals := 0 } : Room) s m ([.ref (ad 3), .int (nI w), .long a] : List Value).toArray below meth c H locs 0 0 (MQ below (va_Qi (fun (r9 : Int32) (u9 : Unit) => r9 = opI (x.sc1 w a)) (fun (u9 : Unit) t9 => bW D A (VW dA h ad x) t9) A) ([.ref (ad 3), .int (nI w), .long a] : List Value).toArray s 0 0 A) (F0 m 3 ls []) := by
    intro k9
    induction k9 using Nat.strongRecOn with
    | ind k9 ih3 =>
      intro k i1 i2 hk9 H locs ls hP hD hS hl
      refine lv_iload hx hb d_H_scarOf_3 (lv_at hl 0 rfl) ?_
      refine lv_aload_n hx hb d_H_scarOf_5 rfl (lv_at hl 3 rfl) ?_
      refine gF (v := .int (nI x.nsc)) hx hb hown hE hK hP 17 rfl rfl layH 6 (by decide) w567 rfl d_H_scarOf_6 ?_
      refine lv_icmp_ge hx hb d_H_scarOf_9 (tgt := 56) rfl (fun g1 => ?_) (fun g1 => ?_)
      · have g1 := (nI_leI (a := x.nsc) (b := k) (by omega) (by omega)).mp g1
        refine lv_iconst (v := (-1)) hx hb d_H_scarOf_56 (by decide) ?_
        exact rfI hx hb hr hlk hS () (by rw [← i2, show x.nsc - k = 0 by omega]; rfl) hP hD (Nat.le_of_ble_eq_true rfl) (Nat.le_of_ble_eq_true rfl) d_H_scarOf_57
      · have g1 := mt (nI_leI (a := x.nsc) (b := k) (by omega) (by omega)).mpr g1
        have b7 := h7 k (by omega)
        refine lv_aload_n hx hb d_H_scarOf_12 rfl (lv_at hl 3 rfl) ?_
        refine gF (v := .ref (ad 5)) hx hb hown hE hK hP 17 rfl rfl layH 2 (by decide) w200 rfl d_H_scarOf_13 ?_
        refine lv_iload hx hb d_H_scarOf_16 (lv_at hl 0 rfl) ?_
        refine nild (f := (fun z9 => nI (x.nsO z9))) (n := 64) hx hb hK hP 19 1 rfl rfl (k) (by omega) (by decide) d_H_scarOf_18 ?_
        refine lv_iload_n hx hb d_H_scarOf_19 rfl (lv_at hl 1 rfl) ?_
        refine lv_icmp_ne hx hb d_H_scarOf_20 (tgt := 50) rfl (fun g2 => ?_) (fun g2 => ?_)
        · have g2 := mt (nI_eq (a := x.nsO k) (b := w) (by omega) (by omega)).mpr g2
          refine lv_iinc (k := 0) (v := nI (k + 1)) hx hb d_H_scarOf_50 hl rfl (iincN (k) 1 1 (by decide)) (by decide) rfl (fun ls hl => ?_)
          have hl : lv_has ls 5 [(4, .int (nI (k + 1))), (1, .int (nI w)), (2, .long a), (0, .ref (ad 3))] := hl
          refine lv_goto hx hb d_H_scarOf_53 (tgt := 3) rfl ?_
          exact ih3 _ (by omega) (k + 1) (by omega) (by rw [← i2, frst_f (n := x.nsc - k) (by omega) (show x.scC w a k = false by show (decide _ && (!decide _ && !decide _)) = false; rw [decide_eq_false g2]; rfl), show x.nsc - k - 1 = x.nsc - (k + 1) by omega]) rfl H _ ls hP hD hS (lv_sub hl [0, 1, 2, 3] rfl)
        · have g2 := (nI_eq (a := x.nsO k) (b := w) (by omega) (by omega)).mp g2
          refine lv_lload_n hx hb d_H_scarOf_23 rfl (lv_at hl 2 rfl) ?_
          refine lv_aload_n hx hb d_H_scarOf_24 rfl (lv_at hl 3 rfl) ?_
          refine gF (v := .ref (ad 6)) hx hb hown hE hK hP 17 rfl rfl layH 3 (by decide) w201 rfl d_H_scarOf_25 ?_
          refine lv_iload hx hb d_H_scarOf_28 (lv_at hl 0 rfl) ?_
          refine nlld (f := x.nsF) (n := 64) hx hb hK hP 20 2 rfl rfl (k) (by omega) (by decide) d_H_scarOf_30 ?_
          refine W.lcmp hx hb d_H_scarOf_31 ?_
          refine lv_if_lt hx hb d_H_scarOf_32 (tgt := 50) rfl (fun g3 => ?_) (fun g3 => ?_)
          · have g3 := (lg_cmp_lt _ _).mp g3
            refine lv_iinc (k := 0) (v := nI (k + 1)) hx hb d_H_scarOf_50 hl rfl (iincN (k) 1 1 (by decide)) (by decide) rfl (fun ls hl => ?_)
            have hl : lv_has ls 5 [(4, .int (nI (k + 1))), (1, .int (nI w)), (2, .long a), (0, .ref (ad 3))] := hl
            refine lv_goto hx hb d_H_scarOf_53 (tgt := 3) rfl ?_
            exact ih3 _ (by omega) (k + 1) (by omega) (by rw [← i2, frst_f (n := x.nsc - k) (by omega) (show x.scC w a k = false by show (decide _ && (!decide _ && !decide _)) = false; rw [decide_eq_true g2, decide_eq_true g3]; rfl), show x.nsc - k - 1 = x.nsc - (k + 1) by omega]) rfl H _ ls hP hD hS (lv_sub hl [0, 1, 2, 3] rfl)
          · have g3 := mt (lg_cmp_lt _ _).mpr g3
            refine lv_lload_n hx hb d_H_scarOf_35 rfl (lv_at hl 2 rfl) ?_
            refine lv_aload_n hx hb d_H_scarOf_36 rfl (lv_at hl 3 rfl) ?_
            refine gF (v := .ref (ad 7)) hx hb hown hE hK hP 17 rfl rfl layH 4 (by decide) w202 rfl d_H_scarOf_37 ?_
            refine lv_iload hx hb d_H_scarOf_40 (lv_at hl 0 rfl) ?_
            refine nlld (f := x.nsT) (n := 64) hx hb hK hP 21 2 rfl rfl (k) (by omega) (by decide) d_H_scarOf_42 ?_
            refine W.lcmp hx hb d_H_scarOf_43 ?_
            refine lv_if_gt hx hb d_H_scarOf_44 (tgt := 50) rfl (fun g4 => ?_) (fun g4 => ?_)
            · have g4 := (lg_cmp_gt _ _).mp g4
              refine lv_iinc (k := 0) (v := nI (k + 1)) hx hb d_H_scarOf_50 hl rfl (iincN (k) 1 1 (by decide)) (by decide) rfl (fun ls hl => ?_)
              have hl : lv_has ls 5 [(4, .int (nI (k + 1))), (1, .int (nI w)), (2, .long a), (0, .ref (ad 3))] := hl
              refine lv_goto hx hb d_H_scarOf_53 (tgt := 3) rfl ?_
              exact ih3 _ (by omega) (k + 1) (by omega) (by rw [← i2, frst_f (n := x.nsc - k) (by omega) (show x.scC w a k = false by show (decide _ && (!decide _ && !decide _)) = false; rw [decide_eq_true g2, decide_eq_false g3, decide_eq_true g4]; rfl), show x.nsc - k - 1 = x.nsc - (k + 1) by omega]) rfl H _ ls hP hD hS (lv_sub hl [0, 1, 2, 3] rfl)
            · have g4 := mt (lg_cmp_gt _ _).mpr g4
              refine lv_iload hx hb d_H_scarOf_47 (lv_at hl 0 rfl) ?_
              exact rfI hx hb hr hlk hS () (by rw [← i2, frst_t (n := x.nsc - k) (by omega) (show x.scC w a k = true by show (decide _ && (!decide _ && !decide _)) = true; rw [decide_eq_true g2, decide_eq_false g3, decide_eq_false g4]; rfl)]; rfl) hP hD (Nat.le_of_ble_eq_true rfl) (Nat.le_of_ble_eq_true rfl) d_H_scarOf_49
  exact L3 _ 0 (Nat.zero_le _) rfl rfl H _ ls hP hD hS (lv_sub hl [0, 2, 3, 1] rfl)
theorem d_H_addScar_0 : decode prog_9_method_10_code 0 = .ok (.aload_n 0, 1) := by decide +kernel
theorem d_H_addScar_1 : decode prog_9_method_10_code 1 = .ok (.getfield 38, 3) := by decide +kernel
theorem d_H_addScar_4 : decode prog_9_method_10_code 4 = .ok (.bipush 64, 2) := by decide +kernel
theorem d_H_addScar_6 : decode prog_9_method_10_code 6 = .ok (.if_icmp .ge 60, 3) := by decide +kernel
theorem d_H_addScar_9 : decode prog_9_method_10_code 9 = .ok (.aload_n 0, 1) := by decide +kernel
theorem d_H_addScar_10 : decode prog_9_method_10_code 10 = .ok (.getfield 17, 3) := by decide +kernel
theorem d_H_addScar_13 : decode prog_9_method_10_code 13 = .ok (.aload_n 0, 1) := by decide +kernel
theorem d_H_addScar_14 : decode prog_9_method_10_code 14 = .ok (.getfield 38, 3) := by decide +kernel
theorem d_H_addScar_17 : decode prog_9_method_10_code 17 = .ok (.iload_n 1, 1) := by decide +kernel
theorem d_H_addScar_18 : decode prog_9_method_10_code 18 = .ok (.iastore, 1) := by decide +kernel
theorem d_H_addScar_19 : decode prog_9_method_10_code 19 = .ok (.aload_n 0, 1) := by decide +kernel
theorem d_H_addScar_20 : decode prog_9_method_10_code 20 = .ok (.getfield 21, 3) := by decide +kernel
theorem d_H_addScar_23 : decode prog_9_method_10_code 23 = .ok (.aload_n 0, 1) := by decide +kernel
theorem d_H_addScar_24 : decode prog_9_method_10_code 24 = .ok (.getfield 38, 3) := by decide +kernel
theorem d_H_addScar_27 : decode prog_9_method_10_code 27 = .ok (.lload_n 2, 1) := by decide +kernel
theorem d_H_addScar_28 : decode prog_9_method_10_code 28 = .ok (.aload_n 0, 1) := by decide +kernel
theorem d_H_addScar_29 : decode prog_9_method_10_code 29 = .ok (.getfield 41, 3) := by decide +kernel
theorem d_H_addScar_32 : decode prog_9_method_10_code 32 = .ok (.invokestatic 65, 3) := by decide +kernel
theorem d_H_addScar_35 : decode prog_9_method_10_code 35 = .ok (.lastore, 1) := by decide +kernel
theorem d_H_addScar_36 : decode prog_9_method_10_code 36 = .ok (.aload_n 0, 1) := by decide +kernel
theorem d_H_addScar_37 : decode prog_9_method_10_code 37 = .ok (.getfield 25, 3) := by decide +kernel
theorem d_H_addScar_40 : decode prog_9_method_10_code 40 = .ok (.aload_n 0, 1) := by decide +kernel
theorem d_H_addScar_41 : decode prog_9_method_10_code 41 = .ok (.getfield 38, 3) := by decide +kernel
theorem d_H_addScar_44 : decode prog_9_method_10_code 44 = .ok (.lload 4, 2) := by decide +kernel
theorem d_H_addScar_46 : decode prog_9_method_10_code 46 = .ok (.aload_n 0, 1) := by decide +kernel
theorem d_H_addScar_47 : decode prog_9_method_10_code 47 = .ok (.getfield 31, 3) := by decide +kernel
theorem d_H_addScar_50 : decode prog_9_method_10_code 50 = .ok (.iload_n 1, 1) := by decide +kernel
theorem d_H_addScar_51 : decode prog_9_method_10_code 51 = .ok (.laload, 1) := by decide +kernel
theorem d_H_addScar_52 : decode prog_9_method_10_code 52 = .ok (.invokestatic 71, 3) := by decide +kernel
theorem d_H_addScar_55 : decode prog_9_method_10_code 55 = .ok (.lastore, 1) := by decide +kernel
theorem d_H_addScar_56 : decode prog_9_method_10_code 56 = .ok (.aload_n 0, 1) := by decide +kernel
theorem d_H_addScar_57 : decode prog_9_method_10_code 57 = .ok (.dup, 1) := by decide +kernel
theorem d_H_addScar_58 : decode prog_9_method_10_code 58 = .ok (.getfield 38, 3) := by decide +kernel
theorem d_H_addScar_61 : decode prog_9_method_10_code 61 = .ok (.iconst 1, 1) := by decide +kernel
theorem d_H_addScar_62 : decode prog_9_method_10_code 62 = .ok (.iadd, 1) := by decide +kernel
theorem d_H_addScar_63 : decode prog_9_method_10_code 63 = .ok (.putfield 38, 3) := by decide +kernel
theorem d_H_addScar_66 : decode prog_9_method_10_code 66 = .ok (.return_, 1) := by decide +kernel
theorem w1094 : Cond.methodLink "SeriesVault$Shelf" 65 ⟨"java/lang/Math", "max", "(JJ)J"⟩ ∈ aW := aw_of (tb_5 (List.mem_of_getElem? (i := 213) rfl)) rfl
theorem w1095 : Cond.static ⟨"java/lang/Math", "max", "(JJ)J"⟩ ∈ aW := aw_of (tb_5 (List.mem_of_getElem? (i := 214) rfl)) rfl
theorem w1096 : Cond.code ⟨"java/lang/Math", "max", "(JJ)J"⟩ prog_26_method_66_code 4 (some FieldType.long) ∈ aW := aw_of (tb_5 (List.mem_of_getElem? (i := 215) rfl)) rfl
theorem w1097 : Cond.methodLink "SeriesVault$Shelf" 71 ⟨"java/lang/Math", "min", "(JJ)J"⟩ ∈ aW := aw_of (tb_5 (List.mem_of_getElem? (i := 216) rfl)) rfl
theorem w1098 : Cond.static ⟨"java/lang/Math", "min", "(JJ)J"⟩ ∈ aW := aw_of (tb_5 (List.mem_of_getElem? (i := 217) rfl)) rfl
theorem w1099 : Cond.code ⟨"java/lang/Math", "min", "(JJ)J"⟩ prog_26_method_70_code 4 (some FieldType.long) ∈ aW := aw_of (tb_5 (List.mem_of_getElem? (i := 218) rfl)) rfl
set_option maxHeartbeats 4000000 in
set_option maxRecDepth 100000 in
theorem v_addScar (l : Launch) (D : va_G) (dA : Nat → ClassId) (sz : Nat) (h : Nat) (ad : Nat → Nat) (x : VS) (w : Nat) (a : Int64) (b : Int64) (h1 : x.nsc < 64) (hw : w < 256) : Met l ⟨"SeriesVault$Shelf", "addScar", "(IJJ)V"⟩ [Cond.code ⟨"SeriesVault$Shelf", "addScar", "(IJJ)V"⟩ prog_9_method_10_code 6 none] { frames := 1, cells := 0, slots := 0, locals := 17 } (pC D dA [.ref (ad 3), .int (nI w), .long a, .long b] (VW dA h ad x) sz) (va_Qv (fun (u9 : Unit) => True) (fun (u9 : Unit) t9 => bW D (va_A (VW dA h ad x) sz) (VW dA h ad (VS.s_nsc (VS.s_nsT (VS.s_nsF (VS.s_nsO x (va_up x.nsO x.nsc w)) (va_up x.nsF x.nsc (maxL a x.nhor))) (va_up x.nsT x.nsc (minL b (x.nlast w)))) (x.nsc + 1))) t9) (va_A (VW dA h ad x) sz)) 0 0 (va_A (VW dA h ad x) sz) := by
  refine mkC (y := ⟨"SeriesVault$Shelf", "addScar", "(IJJ)V"⟩) (cc := prog_9_method_10_code) (maxL := 6) (av := [.ref (ad 3), .int (nI w), .long a, .long b]) (ws := VW dA h ad x) (sz := sz) (Qc := fun A => va_Qv (fun (u9 : Unit) => True) (fun (u9 : Unit) t9 => bW D A (VW dA h ad (VS.s_nsc (VS.s_nsT (VS.s_nsF (VS.s_nsO x (va_up x.nsO x.nsc w)) (va_up x.nsF x.nsc (maxL a x.nhor))) (va_up x.nsT x.nsc (minL b (x.nlast w)))) (x.nsc + 1))) t9) A) (by decide) (Nat.le_of_ble_eq_true rfl) ?_
  intro A p e s m below meth c ls hsz hB
  obtain ⟨hx, hb, hr, hml, hown, hin, hlk, hE, hK, hP, hD, hS, hA, hN, hl⟩ := hB
  have hown : s.vm.findClass "SeriesVault$Shelf" = some m.cls := hown
  have hl : lv_has ls 6 [(0, .ref (ad 3)), (1, .int (nI w)), (2, .long a), (4, .long b)] := hl
  obtain ⟨H, hH⟩ : ∃ z, z = s.heap := ⟨_, rfl⟩
  have hP : va_P D vwCl (VW dA h ad x) H := by rw [hH]; exact hP
  have hS : va_S A s.heap H [] := by rw [hH]; exact hS
  rw [← hH]
  refine lv_aload_n hx hb d_H_addScar_0 rfl (lv_at hl 0 rfl) ?_
  refine gF (v := .int (nI x.nsc)) hx hb hown hE hK hP 17 rfl rfl layH 6 (by decide) w567 rfl d_H_addScar_1 ?_
  refine lv_bipush (v := 64) hx hb d_H_addScar_4 (by decide) ?_
  refine lv_icmp_ge hx hb d_H_addScar_6 (tgt := 66) rfl (fun h9 => absurd h9 (mt (nI_leI (a := 64) (b := x.nsc) (by omega) (by omega)).mp (Nat.not_le.mpr h1))) (fun _ => ?_)
  refine lv_aload_n hx hb d_H_addScar_9 rfl (lv_at hl 0 rfl) ?_
  refine gF (v := .ref (ad 5)) hx hb hown hE hK hP 17 rfl rfl layH 2 (by decide) w200 rfl d_H_addScar_10 ?_
  refine lv_aload_n hx hb d_H_addScar_13 rfl (lv_at hl 0 rfl) ?_
  refine gF (v := .int (nI x.nsc)) hx hb hown hE hK hP 17 rfl rfl layH 6 (by decide) w567 rfl d_H_addScar_14 ?_
  refine lv_iload_n hx hb d_H_addScar_17 rfl (lv_at hl 1 rfl) ?_
  refine nistN (v := w) (n := 64) hx hb hK hP hD hS 19 1 rfl rfl (x.nsc) (by omega) (by decide) d_H_addScar_18 (fun H locs hP hD hS => ?_)
  have hP : va_P D vwCl (VW dA h ad (VS.s_nsO x (va_up x.nsO x.nsc w))) H := hP
  have hD : va_D A (VW dA h ad (VS.s_nsO x (va_up x.nsO x.nsc w))) := hD
  refine lv_aload_n hx hb d_H_addScar_19 rfl (lv_at hl 0 rfl) ?_
  refine gF (v := .ref (ad 6)) hx hb hown hE hK hP 17 rfl rfl layH 3 (by decide) w201 rfl d_H_addScar_20 ?_
  refine lv_aload_n hx hb d_H_addScar_23 rfl (lv_at hl 0 rfl) ?_
  refine gF (v := .int (nI x.nsc)) hx hb hown hE hK hP 17 rfl rfl layH 6 (by decide) w567 rfl d_H_addScar_24 ?_
  refine lv_lload_n hx hb d_H_addScar_27 rfl (lv_at hl 2 rfl) ?_
  refine lv_aload_n hx hb d_H_addScar_28 rfl (lv_at hl 0 rfl) ?_
  refine gF (v := .long x.nhor) hx hb hown hE hK hP 17 rfl rfl layH 7 (by decide) w568 rfl d_H_addScar_29 ?_
  refine va_mmax_long hx hb (hml.trans hl.1.symm) hown (hE.t w1094 rfl) (hE.t w1095 rfl) (hE.t w549 rfl) (hE.t w1096 rfl) (Nat.le_of_ble_eq_true rfl) (Nat.le_of_ble_eq_true rfl) (Nat.le_of_ble_eq_true rfl) (Nat.le_of_ble_eq_true rfl) d_H_addScar_32 (tpl (y := maxL a x.nhor) rfl ?_)
  refine nlst (n := 64) hx hb hK hP hD hS 20 2 rfl rfl (x.nsc) (by omega) (by decide) d_H_addScar_35 (fun H locs hP hD hS => ?_)
  have hP : va_P D vwCl (VW dA h ad (VS.s_nsF (VS.s_nsO x (va_up x.nsO x.nsc w)) (va_up x.nsF x.nsc (maxL a x.nhor)))) H := hP
  have hD : va_D A (VW dA h ad (VS.s_nsF (VS.s_nsO x (va_up x.nsO x.nsc w)) (va_up x.nsF x.nsc (maxL a x.nhor)))) := hD
  refine lv_aload_n hx hb d_H_addScar_36 rfl (lv_at hl 0 rfl) ?_
  refine gF (v := .ref (ad 7)) hx hb hown hE hK hP 17 rfl rfl layH 4 (by decide) w202 rfl d_H_addScar_37 ?_
  refine lv_aload_n hx hb d_H_addScar_40 rfl (lv_at hl 0 rfl) ?_
  refine gF (v := .int (nI x.nsc)) hx hb hown hE hK hP 17 rfl rfl layH 6 (by decide) w567 rfl d_H_addScar_41 ?_
  refine lv_lload hx hb d_H_addScar_44 (lv_at hl 3 rfl) ?_
  refine lv_aload_n hx hb d_H_addScar_46 rfl (lv_at hl 0 rfl) ?_
  refine gF (v := .ref (ad 9)) hx hb hown hE hK hP 17 rfl rfl layH 9 (by decide) w204 rfl d_H_addScar_47 ?_
  refine lv_iload_n hx hb d_H_addScar_50 rfl (lv_at hl 1 rfl) ?_
  refine nlld (f := x.nlast) (n := 256) hx hb hK hP 23 2 rfl rfl (w) (by omega) (by decide) d_H_addScar_51 ?_
  refine va_mmin_long hx hb (hml.trans hl.1.symm) hown (hE.t w1097 rfl) (hE.t w1098 rfl) (hE.t w549 rfl) (hE.t w1099 rfl) (Nat.le_of_ble_eq_true rfl) (Nat.le_of_ble_eq_true rfl) (Nat.le_of_ble_eq_true rfl) (Nat.le_of_ble_eq_true rfl) d_H_addScar_52 (tpl (y := minL b (x.nlast w)) rfl ?_)
  refine nlst (n := 64) hx hb hK hP hD hS 21 2 rfl rfl (x.nsc) (by omega) (by decide) d_H_addScar_55 (fun H locs hP hD hS => ?_)
  have hP : va_P D vwCl (VW dA h ad (VS.s_nsT (VS.s_nsF (VS.s_nsO x (va_up x.nsO x.nsc w)) (va_up x.nsF x.nsc (maxL a x.nhor))) (va_up x.nsT x.nsc (minL b (x.nlast w))))) H := hP
  have hD : va_D A (VW dA h ad (VS.s_nsT (VS.s_nsF (VS.s_nsO x (va_up x.nsO x.nsc w)) (va_up x.nsF x.nsc (maxL a x.nhor))) (va_up x.nsT x.nsc (minL b (x.nlast w))))) := hD
  refine lv_aload_n hx hb d_H_addScar_56 rfl (lv_at hl 0 rfl) ?_
  refine lv_dup hx hb d_H_addScar_57 rfl ?_
  refine gF (v := .int (nI x.nsc)) hx hb hown hE hK hP 17 rfl rfl layH 6 (by decide) w567 rfl d_H_addScar_58 ?_
  refine lv_iconst (v := 1) hx hb d_H_addScar_61 (by decide) ?_
  refine lv_iadd hx hb d_H_addScar_62 (tpi (y := nI (x.nsc + 1)) (nI_add (x.nsc) (1)) ?_)
  refine pF (v := .int (nI (x.nsc + 1))) hx hb hown hE hK hP hD hS 17 rfl rfl layH tyH tokH nmH 6 (by decide) w567 rfl rfl rfl (Nat.le_of_ble_eq_true rfl) d_H_addScar_63 (fun H locs hP hD hS => ?_)
  have hP : va_P D vwCl (VW dA h ad (VS.s_nsc (VS.s_nsT (VS.s_nsF (VS.s_nsO x (va_up x.nsO x.nsc w)) (va_up x.nsF x.nsc (maxL a x.nhor))) (va_up x.nsT x.nsc (minL b (x.nlast w)))) (x.nsc + 1))) H := hP
  have hD : va_D A (VW dA h ad (VS.s_nsc (VS.s_nsT (VS.s_nsF (VS.s_nsO x (va_up x.nsO x.nsc w)) (va_up x.nsF x.nsc (maxL a x.nhor))) (va_up x.nsT x.nsc (minL b (x.nlast w)))) (x.nsc + 1))) := hD
  exact rfV hx hb hr hlk hS () trivial hP hD (Nat.le_of_ble_eq_true rfl) (Nat.le_of_ble_eq_true rfl) d_H_addScar_66
set_option maxHeartbeats 4000000 in
set_option maxRecDepth 100000 in
theorem v_writeJournalBlock_0 (l : Launch) (D : va_G) (dA : Nat → ClassId) (sz : Nat) (h : Nat) (ad : Nat → Nat) (x : VS) (hc2 : x.jch = false) : Met l ⟨"SeriesVault", "writeJournalBlock", "()Z"⟩ [Cond.code ⟨"SeriesVault", "writeJournalBlock", "()Z"⟩ prog_1_method_21_code 1 (some FieldType.boolean)] { frames := 1, cells := 0, slots := 0, locals := 0 } (pC D dA [.ref h] (VW dA h ad x) sz) (va_Qi (fun (r9 : Int32) (u9 : Unit) => r9 = bI false) (fun (u9 : Unit) t9 => bW D (va_A (VW dA h ad x) sz) (VW dA h ad x) t9) (va_A (VW dA h ad x) sz)) 0 0 (va_A (VW dA h ad x) sz) := by
  refine mkC (y := ⟨"SeriesVault", "writeJournalBlock", "()Z"⟩) (cc := prog_1_method_21_code) (maxL := 1) (av := [.ref h]) (ws := VW dA h ad x) (sz := sz) (Qc := fun A => va_Qi (fun (r9 : Int32) (u9 : Unit) => r9 = bI false) (fun (u9 : Unit) t9 => bW D A (VW dA h ad x) t9) A) (by decide) (Nat.le_of_ble_eq_true rfl) ?_
  intro A p e s m below meth c ls hsz hB
  obtain ⟨hx, hb, hr, hml, hown, hin, hlk, hE, hK, hP, hD, hS, hA, hN, hl⟩ := hB
  have hown : s.vm.findClass "SeriesVault" = some m.cls := hown
  have hl : lv_has ls 1 [(0, .ref h)] := hl
  obtain ⟨H, hH⟩ : ∃ z, z = s.heap := ⟨_, rfl⟩
  have hP : va_P D vwCl (VW dA h ad x) H := by rw [hH]; exact hP
  have hS : va_S A s.heap H [] := by rw [hH]; exact hS
  rw [← hH]
  refine lv_aload_n hx hb d_V_writeJournalBlock_0 rfl (lv_at hl 0 rfl) ?_
  refine gF (v := .ref (ad 0)) hx hb hown hE hK hP 0 rfl rfl layV 8 (by decide) w312 rfl d_V_writeJournalBlock_1 ?_
  refine gFN (v := .int (bI x.jch)) hx hb hown hE hK hP 2 rfl rfl layJ 12 (by decide) w313 rfl d_V_writeJournalBlock_4 ?_
  refine lv_if_ne hx hb d_V_writeJournalBlock_7 (tgt := 12) rfl (fun h9 => absurd (by rw [hc2]; decide) h9) (fun _ => ?_)
  refine lv_iconst (v := 0) hx hb d_V_writeJournalBlock_10 (by decide) ?_
  exact rfZ hx hb hr (bI_nar false) hlk hS () rfl hP hD (Nat.le_of_ble_eq_true rfl) (Nat.le_of_ble_eq_true rfl) d_V_writeJournalBlock_11
theorem d_V_writeJournalBlock_12 : decode prog_1_method_21_code 12 = .ok (.aload_n 0, 1) := by decide +kernel
theorem d_V_writeJournalBlock_13 : decode prog_1_method_21_code 13 = .ok (.invokevirtual 133, 3) := by decide +kernel
theorem d_V_writeJournalBlock_16 : decode prog_1_method_21_code 16 = .ok (.aload_n 0, 1) := by decide +kernel
theorem d_V_writeJournalBlock_17 : decode prog_1_method_21_code 17 = .ok (.getfield 16, 3) := by decide +kernel
theorem d_V_writeJournalBlock_20 : decode prog_1_method_21_code 20 = .ok (.invokevirtual 201, 3) := by decide +kernel
theorem d_V_writeJournalBlock_23 : decode prog_1_method_21_code 23 = .ok (.iconst 1, 1) := by decide +kernel
theorem d_V_writeJournalBlock_24 : decode prog_1_method_21_code 24 = .ok (.ireturn, 1) := by decide +kernel
theorem w1100 : Cond.methodLink "SeriesVault" 201 ⟨"SeriesVault$Journal", "keepAll", "()V"⟩ ∈ aW := aw_of (tb_5 (List.mem_of_getElem? (i := 55) rfl)) rfl
theorem w1101 : Cond.code ⟨"SeriesVault$Journal", "keepAll", "()V"⟩ prog_3_method_9_code 1 none ∈ aW := aw_of (tb_5 (List.mem_of_getElem? (i := 58) rfl)) rfl
theorem w1102 : Cond.instanceMethod ⟨"SeriesVault$Journal", "keepAll", "()V"⟩ ∈ aW := aw_of (tb_5 (List.mem_of_getElem? (i := 56) rfl)) rfl
theorem w1103 : Cond.selects "SeriesVault$Journal" ⟨"SeriesVault$Journal", "keepAll", "()V"⟩ ⟨"SeriesVault$Journal", "keepAll", "()V"⟩ ∈ aW := aw_of (tb_5 (List.mem_of_getElem? (i := 57) rfl)) rfl
set_option maxHeartbeats 4000000 in
set_option maxRecDepth 100000 in
theorem v_writeJournalBlock_1 (l : Launch) (D : va_G) (dA : Nat → ClassId) (sz : Nat) (h : Nat) (ad : Nat → Nat) (x : VS) (hc2 : x.jch = true) (hc : ¬ x.cutLeft = 0) : Met l ⟨"SeriesVault", "writeJournalBlock", "()Z"⟩ [Cond.code ⟨"SeriesVault", "writeJournalBlock", "()Z"⟩ prog_1_method_21_code 1 (some FieldType.boolean)] { frames := 2, cells := 0, slots := 0, locals := 20 } (pC D dA [.ref h] (VW dA h ad x) sz) (va_Qi (fun (r9 : Int32) (u9 : Unit) => r9 = bI true) (fun (u9 : Unit) t9 => bW D (va_A (VW dA h ad x) sz) (VW dA h ad (VS.s_jch (VS.s_jkept (VS.s_writes (VS.s_cutLeft x (cutF x.cutLeft)) (x.writes + 1)) x.jsize) false)) t9) (va_A (VW dA h ad x) sz)) 0 0 (va_A (VW dA h ad x) sz) := by
  refine mkC (y := ⟨"SeriesVault", "writeJournalBlock", "()Z"⟩) (cc := prog_1_method_21_code) (maxL := 1) (av := [.ref h]) (ws := VW dA h ad x) (sz := sz) (Qc := fun A => va_Qi (fun (r9 : Int32) (u9 : Unit) => r9 = bI true) (fun (u9 : Unit) t9 => bW D A (VW dA h ad (VS.s_jch (VS.s_jkept (VS.s_writes (VS.s_cutLeft x (cutF x.cutLeft)) (x.writes + 1)) x.jsize) false)) t9) A) (by decide) (Nat.le_of_ble_eq_true rfl) ?_
  intro A p e s m below meth c ls hsz hB
  obtain ⟨hx, hb, hr, hml, hown, hin, hlk, hE, hK, hP, hD, hS, hA, hN, hl⟩ := hB
  have hown : s.vm.findClass "SeriesVault" = some m.cls := hown
  have hl : lv_has ls 1 [(0, .ref h)] := hl
  obtain ⟨H, hH⟩ : ∃ z, z = s.heap := ⟨_, rfl⟩
  have hP : va_P D vwCl (VW dA h ad x) H := by rw [hH]; exact hP
  have hS : va_S A s.heap H [] := by rw [hH]; exact hS
  rw [← hH]
  refine lv_aload_n hx hb d_V_writeJournalBlock_0 rfl (lv_at hl 0 rfl) ?_
  refine gF (v := .ref (ad 0)) hx hb hown hE hK hP 0 rfl rfl layV 8 (by decide) w312 rfl d_V_writeJournalBlock_1 ?_
  refine gFN (v := .int (bI x.jch)) hx hb hown hE hK hP 2 rfl rfl layJ 12 (by decide) w313 rfl d_V_writeJournalBlock_4 ?_
  refine lv_if_ne hx hb d_V_writeJournalBlock_7 (tgt := 12) rfl (fun _ => ?_) (fun h9 => absurd h9 (by rw [hc2]; decide))
  refine lv_aload_n hx hb d_V_writeJournalBlock_12 rfl (lv_at hl 0 rfl) ?_
  refine jfV (rnV (As := []) (rest := []) hx hb hml hown hE hK (hN _ _ hS) hP hD (v_writeBlock l D dA H.size h ad x hc) (q0 := 0) rfl rfl w737 w736 w738 w739 w277 rfl rfl ⟨⟨by decide, by decide⟩, rfl⟩ ⟨(Nat.le_of_ble_eq_true rfl), (Nat.le_of_ble_eq_true rfl)⟩ rfl hl.1 rfl (Nat.le_of_ble_eq_true rfl) d_V_writeJournalBlock_13 ⟨(Nat.le_of_ble_eq_true rfl), (Nat.le_of_ble_eq_true rfl)⟩) hP hD hS hA (fun u2 H locs hp9 hP hD hS => ?_)
  have hP : va_P D vwCl (VW dA h ad (VS.s_writes (VS.s_cutLeft x (cutF x.cutLeft)) (x.writes + 1))) H := hP
  have hD : va_D A (VW dA h ad (VS.s_writes (VS.s_cutLeft x (cutF x.cutLeft)) (x.writes + 1))) := hD
  refine lv_aload_n hx hb d_V_writeJournalBlock_16 rfl (lv_at hl 0 rfl) ?_
  refine gF (v := .ref (ad 0)) hx hb hown hE hK hP 0 rfl rfl layV 8 (by decide) w312 rfl d_V_writeJournalBlock_17 ?_
  refine jfV (rnV (As := []) (rest := []) hx hb hml hown hE hK (hN _ _ hS) hP hD (v_keepAll l D dA H.size h ad (VS.s_writes (VS.s_cutLeft x (cutF x.cutLeft)) (x.writes + 1))) (q0 := 2) rfl rfl w1101 w1100 w1102 w1103 w556 rfl rfl ⟨⟨by decide, by decide⟩, rfl⟩ ⟨(Nat.le_of_ble_eq_true rfl), (Nat.le_of_ble_eq_true rfl)⟩ rfl hl.1 rfl (Nat.le_of_ble_eq_true rfl) d_V_writeJournalBlock_20 ⟨(Nat.le_of_ble_eq_true rfl), (Nat.le_of_ble_eq_true rfl)⟩) hP hD hS hA (fun u4 H locs hp9 hP hD hS => ?_)
  have hP : va_P D vwCl (VW dA h ad (VS.s_jch (VS.s_jkept (VS.s_writes (VS.s_cutLeft x (cutF x.cutLeft)) (x.writes + 1)) x.jsize) false)) H := hP
  have hD : va_D A (VW dA h ad (VS.s_jch (VS.s_jkept (VS.s_writes (VS.s_cutLeft x (cutF x.cutLeft)) (x.writes + 1)) x.jsize) false)) := hD
  refine lv_iconst (v := 1) hx hb d_V_writeJournalBlock_23 (by decide) ?_
  exact rfZ hx hb hr (bI_nar true) hlk hS () rfl hP hD (Nat.le_of_ble_eq_true rfl) (Nat.le_of_ble_eq_true rfl) d_V_writeJournalBlock_24
set_option maxHeartbeats 4000000 in
set_option maxRecDepth 100000 in
theorem v_sync_0 (l : Launch) (D : va_G) (dA : Nat → ClassId) (sz : Nat) (h : Nat) (ad : Nat → Nat) (x : VS) (ho : x.powered = true) (hc2 : x.jch = false) : Met l ⟨"SeriesVault", "sync", "()Z"⟩ [Cond.code ⟨"SeriesVault", "sync", "()Z"⟩ prog_1_method_22_code 1 (some FieldType.boolean)] { frames := 2, cells := 0, slots := 0, locals := 20 } (pC D dA [.ref h] (VW dA h ad x) sz) (va_Qi (fun (r9 : Int32) (u9 : Unit) => r9 = bI false) (fun (u9 : Unit) t9 => bW D (va_A (VW dA h ad x) sz) (VW dA h ad x) t9) (va_A (VW dA h ad x) sz)) 0 0 (va_A (VW dA h ad x) sz) := by
  refine mkC (y := ⟨"SeriesVault", "sync", "()Z"⟩) (cc := prog_1_method_22_code) (maxL := 1) (av := [.ref h]) (ws := VW dA h ad x) (sz := sz) (Qc := fun A => va_Qi (fun (r9 : Int32) (u9 : Unit) => r9 = bI false) (fun (u9 : Unit) t9 => bW D A (VW dA h ad x) t9) A) (by decide) (Nat.le_of_ble_eq_true rfl) ?_
  intro A p e s m below meth c ls hsz hB
  obtain ⟨hx, hb, hr, hml, hown, hin, hlk, hE, hK, hP, hD, hS, hA, hN, hl⟩ := hB
  have hown : s.vm.findClass "SeriesVault" = some m.cls := hown
  have hl : lv_has ls 1 [(0, .ref h)] := hl
  obtain ⟨H, hH⟩ : ∃ z, z = s.heap := ⟨_, rfl⟩
  have hP : va_P D vwCl (VW dA h ad x) H := by rw [hH]; exact hP
  have hS : va_S A s.heap H [] := by rw [hH]; exact hS
  rw [← hH]
  refine lv_aload_n hx hb d_V_sync_0 rfl (lv_at hl 0 rfl) ?_
  refine jfV (rnV (As := []) (rest := []) hx hb hml hown hE hK (hN _ _ hS) hP hD (v_checkPower l D dA H.size h ad x ho) (q0 := 0) rfl rfl w278 w276 w279 w280 w277 rfl rfl ⟨⟨by decide, by decide⟩, rfl⟩ ⟨(Nat.le_of_ble_eq_true rfl), (Nat.le_of_ble_eq_true rfl)⟩ rfl hl.1 rfl (Nat.le_of_ble_eq_true rfl) d_V_sync_1 ⟨(Nat.le_of_ble_eq_true rfl), (Nat.le_of_ble_eq_true rfl)⟩) hP hD hS hA (fun u2 H locs hp9 hP hD hS => ?_)
  have hP : va_P D vwCl (VW dA h ad x) H := hP
  have hD : va_D A (VW dA h ad x) := hD
  refine lv_aload_n hx hb d_V_sync_4 rfl (lv_at hl 0 rfl) ?_
  refine jfI (rnV (As := []) (rest := []) hx hb hml hown hE hK (hN _ _ hS) hP hD (v_writeJournalBlock_0 l D dA H.size h ad x hc2) (q0 := 0) rfl rfl w315 w314 w316 w317 w277 rfl rfl ⟨⟨by decide, by decide⟩, rfl⟩ ⟨(Nat.le_of_ble_eq_true rfl), (Nat.le_of_ble_eq_true rfl)⟩ rfl hl.1 rfl (Nat.le_of_ble_eq_true rfl) d_V_sync_5 ⟨(Nat.le_of_ble_eq_true rfl), (Nat.le_of_ble_eq_true rfl)⟩) hP hD hS hA (fun r3 u4 H locs hp9 hP hD hS => ?_)
  have hP : va_P D vwCl (VW dA h ad x) H := hP
  have hD : va_D A (VW dA h ad x) := hD
  replace hp9 : bI false = r3 := Eq.symm hp9
  subst hp9
  exact rfZ hx hb hr (bI_nar false) hlk hS () rfl hP hD (Nat.le_of_ble_eq_true rfl) (Nat.le_of_ble_eq_true rfl) d_V_sync_8
set_option maxHeartbeats 4000000 in
set_option maxRecDepth 100000 in
theorem v_sync_1 (l : Launch) (D : va_G) (dA : Nat → ClassId) (sz : Nat) (h : Nat) (ad : Nat → Nat) (x : VS) (ho : x.powered = true) (hc2 : x.jch = true) (hc : ¬ x.cutLeft = 0) : Met l ⟨"SeriesVault", "sync", "()Z"⟩ [Cond.code ⟨"SeriesVault", "sync", "()Z"⟩ prog_1_method_22_code 1 (some FieldType.boolean)] { frames := 3, cells := 0, slots := 0, locals := 40 } (pC D dA [.ref h] (VW dA h ad x) sz) (va_Qi (fun (r9 : Int32) (u9 : Unit) => r9 = bI true) (fun (u9 : Unit) t9 => bW D (va_A (VW dA h ad x) sz) (VW dA h ad (VS.s_jch (VS.s_jkept (VS.s_writes (VS.s_cutLeft x (cutF x.cutLeft)) (x.writes + 1)) x.jsize) false)) t9) (va_A (VW dA h ad x) sz)) 0 0 (va_A (VW dA h ad x) sz) := by
  refine mkC (y := ⟨"SeriesVault", "sync", "()Z"⟩) (cc := prog_1_method_22_code) (maxL := 1) (av := [.ref h]) (ws := VW dA h ad x) (sz := sz) (Qc := fun A => va_Qi (fun (r9 : Int32) (u9 : Unit) => r9 = bI true) (fun (u9 : Unit) t9 => bW D A (VW dA h ad (VS.s_jch (VS.s_jkept (VS.s_writes (VS.s_cutLeft x (cutF x.cutLeft)) (x.writes + 1)) x.jsize) false)) t9) A) (by decide) (Nat.le_of_ble_eq_true rfl) ?_
  intro A p e s m below meth c ls hsz hB
  obtain ⟨hx, hb, hr, hml, hown, hin, hlk, hE, hK, hP, hD, hS, hA, hN, hl⟩ := hB
  have hown : s.vm.findClass "SeriesVault" = some m.cls := hown
  have hl : lv_has ls 1 [(0, .ref h)] := hl
  obtain ⟨H, hH⟩ : ∃ z, z = s.heap := ⟨_, rfl⟩
  have hP : va_P D vwCl (VW dA h ad x) H := by rw [hH]; exact hP
  have hS : va_S A s.heap H [] := by rw [hH]; exact hS
  rw [← hH]
  refine lv_aload_n hx hb d_V_sync_0 rfl (lv_at hl 0 rfl) ?_
  refine jfV (rnV (As := []) (rest := []) hx hb hml hown hE hK (hN _ _ hS) hP hD (v_checkPower l D dA H.size h ad x ho) (q0 := 0) rfl rfl w278 w276 w279 w280 w277 rfl rfl ⟨⟨by decide, by decide⟩, rfl⟩ ⟨(Nat.le_of_ble_eq_true rfl), (Nat.le_of_ble_eq_true rfl)⟩ rfl hl.1 rfl (Nat.le_of_ble_eq_true rfl) d_V_sync_1 ⟨(Nat.le_of_ble_eq_true rfl), (Nat.le_of_ble_eq_true rfl)⟩) hP hD hS hA (fun u2 H locs hp9 hP hD hS => ?_)
  have hP : va_P D vwCl (VW dA h ad x) H := hP
  have hD : va_D A (VW dA h ad x) := hD
  refine lv_aload_n hx hb d_V_sync_4 rfl (lv_at hl 0 rfl) ?_
  refine jfI (rnV (As := []) (rest := []) hx hb hml hown hE hK (hN _ _ hS) hP hD (v_writeJournalBlock_1 l D dA H.size h ad x hc2 hc) (q0 := 0) rfl rfl w315 w314 w316 w317 w277 rfl rfl ⟨⟨by decide, by decide⟩, rfl⟩ ⟨(Nat.le_of_ble_eq_true rfl), (Nat.le_of_ble_eq_true rfl)⟩ rfl hl.1 rfl (Nat.le_of_ble_eq_true rfl) d_V_sync_5 ⟨(Nat.le_of_ble_eq_true rfl), (Nat.le_of_ble_eq_true rfl)⟩) hP hD hS hA (fun r3 u4 H locs hp9 hP hD hS => ?_)
  have hP : va_P D vwCl (VW dA h ad (VS.s_jch (VS.s_jkept (VS.s_writes (VS.s_cutLeft x (cutF x.cutLeft)) (x.writes + 1)) x.jsize) false)) H := hP
  have hD : va_D A (VW dA h ad (VS.s_jch (VS.s_jkept (VS.s_writes (VS.s_cutLeft x (cutF x.cutLeft)) (x.writes + 1)) x.jsize) false)) := hD
  replace hp9 : bI true = r3 := Eq.symm hp9
  subst hp9
  exact rfZ hx hb hr (bI_nar true) hlk hS () rfl hP hD (Nat.le_of_ble_eq_true rfl) (Nat.le_of_ble_eq_true rfl) d_V_sync_8
set_option maxHeartbeats 4000000 in
set_option maxRecDepth 100000 in
theorem v_off (l : Launch) (D : va_G) (dA : Nat → ClassId) (sz : Nat) (h : Nat) (ad : Nat → Nat) (x : VS) (ho : x.powered = true) : Met l ⟨"SeriesVault", "off", "()V"⟩ [Cond.code ⟨"SeriesVault", "off", "()V"⟩ prog_1_method_12_code 1 none] { frames := 2, cells := 0, slots := 0, locals := 20 } (pC D dA [.ref h] (VW dA h ad x) sz) (va_Qv (fun (u9 : Unit) => True) (fun (u9 : Unit) t9 => bW D (va_A (VW dA h ad x) sz) (VW dA h ad (VS.s_powered x false)) t9) (va_A (VW dA h ad x) sz)) 0 0 (va_A (VW dA h ad x) sz) := by
  refine mkC (y := ⟨"SeriesVault", "off", "()V"⟩) (cc := prog_1_method_12_code) (maxL := 1) (av := [.ref h]) (ws := VW dA h ad x) (sz := sz) (Qc := fun A => va_Qv (fun (u9 : Unit) => True) (fun (u9 : Unit) t9 => bW D A (VW dA h ad (VS.s_powered x false)) t9) A) (by decide) (Nat.le_of_ble_eq_true rfl) ?_
  intro A p e s m below meth c ls hsz hB
  obtain ⟨hx, hb, hr, hml, hown, hin, hlk, hE, hK, hP, hD, hS, hA, hN, hl⟩ := hB
  have hown : s.vm.findClass "SeriesVault" = some m.cls := hown
  have hl : lv_has ls 1 [(0, .ref h)] := hl
  obtain ⟨H, hH⟩ : ∃ z, z = s.heap := ⟨_, rfl⟩
  have hP : va_P D vwCl (VW dA h ad x) H := by rw [hH]; exact hP
  have hS : va_S A s.heap H [] := by rw [hH]; exact hS
  rw [← hH]
  refine lv_aload_n hx hb d_V_off_0 rfl (lv_at hl 0 rfl) ?_
  refine jfV (rnV (As := []) (rest := []) hx hb hml hown hE hK (hN _ _ hS) hP hD (v_checkPower l D dA H.size h ad x ho) (q0 := 0) rfl rfl w278 w276 w279 w280 w277 rfl rfl ⟨⟨by decide, by decide⟩, rfl⟩ ⟨(Nat.le_of_ble_eq_true rfl), (Nat.le_of_ble_eq_true rfl)⟩ rfl hl.1 rfl (Nat.le_of_ble_eq_true rfl) d_V_off_1 ⟨(Nat.le_of_ble_eq_true rfl), (Nat.le_of_ble_eq_true rfl)⟩) hP hD hS hA (fun u2 H locs hp9 hP hD hS => ?_)
  have hP : va_P D vwCl (VW dA h ad x) H := hP
  have hD : va_D A (VW dA h ad x) := hD
  refine lv_aload_n hx hb d_V_off_4 rfl (lv_at hl 0 rfl) ?_
  refine lv_iconst (v := 0) hx hb d_V_off_5 (by decide) ?_
  refine pF (v := .int (bI false)) hx hb hown hE hK hP hD hS 0 rfl rfl layV tyV tokV nmV 5 (by decide) w275 rfl (bI_nar false) (bI_fit false) (Nat.le_of_ble_eq_true rfl) d_V_off_6 (fun H locs hP hD hS => ?_)
  have hP : va_P D vwCl (VW dA h ad (VS.s_powered x false)) H := hP
  have hD : va_D A (VW dA h ad (VS.s_powered x false)) := hD
  exact rfV hx hb hr hlk hS () trivial hP hD (Nat.le_of_ble_eq_true rfl) (Nat.le_of_ble_eq_true rfl) d_V_off_9
set_option maxHeartbeats 4000000 in
set_option maxRecDepth 100000 in
theorem v_cut (l : Launch) (D : va_G) (dA : Nat → ClassId) (sz : Nat) (h : Nat) (ad : Nat → Nat) (x : VS) (n : Int32) (ho : x.powered = true) (h1 : (-1) ≤ n) : Met l ⟨"SeriesVault", "cut", "(I)V"⟩ [Cond.code ⟨"SeriesVault", "cut", "(I)V"⟩ prog_1_method_11_code 2 none] { frames := 2, cells := 0, slots := 0, locals := 20 } (pC D dA [.ref h, .int n] (VW dA h ad x) sz) (va_Qv (fun (u9 : Unit) => True) (fun (u9 : Unit) t9 => bW D (va_A (VW dA h ad x) sz) (VW dA h ad (VS.s_cutLeft x n)) t9) (va_A (VW dA h ad x) sz)) 0 0 (va_A (VW dA h ad x) sz) := by
  refine mkC (y := ⟨"SeriesVault", "cut", "(I)V"⟩) (cc := prog_1_method_11_code) (maxL := 2) (av := [.ref h, .int n]) (ws := VW dA h ad x) (sz := sz) (Qc := fun A => va_Qv (fun (u9 : Unit) => True) (fun (u9 : Unit) t9 => bW D A (VW dA h ad (VS.s_cutLeft x n)) t9) A) (by decide) (Nat.le_of_ble_eq_true rfl) ?_
  intro A p e s m below meth c ls hsz hB
  obtain ⟨hx, hb, hr, hml, hown, hin, hlk, hE, hK, hP, hD, hS, hA, hN, hl⟩ := hB
  have hown : s.vm.findClass "SeriesVault" = some m.cls := hown
  have hl : lv_has ls 2 [(0, .ref h), (1, .int n)] := hl
  obtain ⟨H, hH⟩ : ∃ z, z = s.heap := ⟨_, rfl⟩
  have hP : va_P D vwCl (VW dA h ad x) H := by rw [hH]; exact hP
  have hS : va_S A s.heap H [] := by rw [hH]; exact hS
  rw [← hH]
  refine lv_aload_n hx hb d_V_cut_0 rfl (lv_at hl 0 rfl) ?_
  refine jfV (rnV (As := []) (rest := []) hx hb hml hown hE hK (hN _ _ hS) hP hD (v_checkPower l D dA H.size h ad x ho) (q0 := 0) rfl rfl w278 w276 w279 w280 w277 rfl rfl ⟨⟨by decide, by decide⟩, rfl⟩ ⟨(Nat.le_of_ble_eq_true rfl), (Nat.le_of_ble_eq_true rfl)⟩ rfl hl.1 rfl (Nat.le_of_ble_eq_true rfl) d_V_cut_1 ⟨(Nat.le_of_ble_eq_true rfl), (Nat.le_of_ble_eq_true rfl)⟩) hP hD hS hA (fun u2 H locs hp9 hP hD hS => ?_)
  have hP : va_P D vwCl (VW dA h ad x) H := hP
  have hD : va_D A (VW dA h ad x) := hD
  refine lv_iload_n hx hb d_V_cut_4 rfl (lv_at hl 1 rfl) ?_
  refine lv_iconst (v := (-1)) hx hb d_V_cut_5 (by decide) ?_
  refine lv_icmp_ge hx hb d_V_cut_6 (tgt := 17) rfl (fun _ => ?_) (fun h9 => absurd h1 h9)
  refine lv_aload_n hx hb d_V_cut_17 rfl (lv_at hl 0 rfl) ?_
  refine lv_iload_n hx hb d_V_cut_18 rfl (lv_at hl 1 rfl) ?_
  refine pF (v := .int n) hx hb hown hE hK hP hD hS 0 rfl rfl layV tyV tokV nmV 6 (by decide) w281 rfl rfl rfl (Nat.le_of_ble_eq_true rfl) d_V_cut_19 (fun H locs hP hD hS => ?_)
  have hP : va_P D vwCl (VW dA h ad (VS.s_cutLeft x n)) H := hP
  have hD : va_D A (VW dA h ad (VS.s_cutLeft x n)) := hD
  exact rfV hx hb hr hlk hS () trivial hP hD (Nat.le_of_ble_eq_true rfl) (Nat.le_of_ble_eq_true rfl) d_V_cut_22
theorem d_V_last_9 : decode prog_1_method_27_code 9 = .ok (.aload_n 0, 1) := by decide +kernel
theorem d_V_last_10 : decode prog_1_method_27_code 10 = .ok (.getfield 33, 3) := by decide +kernel
theorem d_V_last_13 : decode prog_1_method_27_code 13 = .ok (.getfield 251, 3) := by decide +kernel
theorem d_V_last_16 : decode prog_1_method_27_code 16 = .ok (.iload_n 1, 1) := by decide +kernel
theorem d_V_last_17 : decode prog_1_method_27_code 17 = .ok (.laload, 1) := by decide +kernel
theorem d_V_last_18 : decode prog_1_method_27_code 18 = .ok (.lreturn, 1) := by decide +kernel
theorem w1104 : Cond.fieldLinkNest "SeriesVault" 251 "SeriesVault$Shelf" "lasts" "[J" "SeriesVault" ∈ aW := aw_of (tb_1 (List.mem_of_getElem? (i := 158) rfl)) rfl
set_option maxHeartbeats 4000000 in
set_option maxRecDepth 100000 in
theorem v_last (l : Launch) (D : va_G) (dA : Nat → ClassId) (sz : Nat) (h : Nat) (ad : Nat → Nat) (x : VS) (w : Nat) (ho : x.powered = true) (hw : w < x.nser) (h2 : x.nser ≤ 256) : Met l ⟨"SeriesVault", "last", "(I)J"⟩ [Cond.code ⟨"SeriesVault", "last", "(I)J"⟩ prog_1_method_27_code 2 (some FieldType.long)] { frames := 2, cells := 0, slots := 0, locals := 21 } (pC D dA [.ref h, .int (nI w)] (VW dA h ad x) sz) (va_Ql (fun (r9 : Int64) (u9 : Unit) => r9 = x.nlast w) (fun (u9 : Unit) t9 => bW D (va_A (VW dA h ad x) sz) (VW dA h ad x) t9) (va_A (VW dA h ad x) sz)) 0 0 (va_A (VW dA h ad x) sz) := by
  refine mkC (y := ⟨"SeriesVault", "last", "(I)J"⟩) (cc := prog_1_method_27_code) (maxL := 2) (av := [.ref h, .int (nI w)]) (ws := VW dA h ad x) (sz := sz) (Qc := fun A => va_Ql (fun (r9 : Int64) (u9 : Unit) => r9 = x.nlast w) (fun (u9 : Unit) t9 => bW D A (VW dA h ad x) t9) A) (by decide) (Nat.le_of_ble_eq_true rfl) ?_
  intro A p e s m below meth c ls hsz hB
  obtain ⟨hx, hb, hr, hml, hown, hin, hlk, hE, hK, hP, hD, hS, hA, hN, hl⟩ := hB
  have hown : s.vm.findClass "SeriesVault" = some m.cls := hown
  have hl : lv_has ls 2 [(0, .ref h), (1, .int (nI w))] := hl
  obtain ⟨H, hH⟩ : ∃ z, z = s.heap := ⟨_, rfl⟩
  have hP : va_P D vwCl (VW dA h ad x) H := by rw [hH]; exact hP
  have hS : va_S A s.heap H [] := by rw [hH]; exact hS
  rw [← hH]
  refine lv_aload_n hx hb d_V_last_0 rfl (lv_at hl 0 rfl) ?_
  refine jfV (rnV (As := []) (rest := []) hx hb hml hown hE hK (hN _ _ hS) hP hD (v_checkPower l D dA H.size h ad x ho) (q0 := 0) rfl rfl w278 w276 w279 w280 w277 rfl rfl ⟨⟨by decide, by decide⟩, rfl⟩ ⟨(Nat.le_of_ble_eq_true rfl), (Nat.le_of_ble_eq_true rfl)⟩ rfl hl.1 rfl (Nat.le_of_ble_eq_true rfl) d_V_last_1 ⟨(Nat.le_of_ble_eq_true rfl), (Nat.le_of_ble_eq_true rfl)⟩) hP hD hS hA (fun u2 H locs hp9 hP hD hS => ?_)
  have hP : va_P D vwCl (VW dA h ad x) H := hP
  have hD : va_D A (VW dA h ad x) := hD
  refine lv_aload_n hx hb d_V_last_4 rfl (lv_at hl 0 rfl) ?_
  refine lv_iload_n hx hb d_V_last_5 rfl (lv_at hl 1 rfl) ?_
  refine jfV (rnV (As := [.int (nI w)]) (rest := []) hx hb hml hown hE hK (hN _ _ hS) hP hD (v_checkSeries l D dA H.size h ad x w (show w < x.nser from by omega) (show x.nser ≤ 256 from by omega)) (q0 := 0) rfl rfl w300 w299 w301 w302 w277 rfl rfl ⟨⟨by decide, by decide⟩, rfl⟩ ⟨(Nat.le_of_ble_eq_true rfl), (Nat.le_of_ble_eq_true rfl)⟩ rfl hl.1 rfl (Nat.le_of_ble_eq_true rfl) d_V_last_6 ⟨(Nat.le_of_ble_eq_true rfl), (Nat.le_of_ble_eq_true rfl)⟩) hP hD hS hA (fun u4 H locs hp9 hP hD hS => ?_)
  have hP : va_P D vwCl (VW dA h ad x) H := hP
  have hD : va_D A (VW dA h ad x) := hD
  refine lv_aload_n hx hb d_V_last_9 rfl (lv_at hl 0 rfl) ?_
  refine gF (v := .ref (ad 3)) hx hb hown hE hK hP 0 rfl rfl layV 11 (by decide) w297 rfl d_V_last_10 ?_
  refine gFN (v := .ref (ad 9)) hx hb hown hE hK hP 17 rfl rfl layH 9 (by decide) w1104 rfl d_V_last_13 ?_
  refine lv_iload_n hx hb d_V_last_16 rfl (lv_at hl 1 rfl) ?_
  refine nlld (f := x.nlast) (n := 256) hx hb hK hP 23 2 rfl rfl (w) (by omega) (by decide) d_V_last_17 ?_
  exact rfL hx hb hr hlk hS () rfl hP hD (Nat.le_of_ble_eq_true rfl) (Nat.le_of_ble_eq_true rfl) d_V_last_18
def VS.may (x : VS) (w : Nat) (a : Int64) : Bool := isTm a && (!decide (a ≤ x.nlast w) && !decide (a < x.nhor))
theorem d_V_mayCome_0 : decode prog_1_method_29_code 0 = .ok (.lload_n 2, 1) := by decide +kernel
theorem d_V_mayCome_1 : decode prog_1_method_29_code 1 = .ok (.invokestatic 262, 3) := by decide +kernel
theorem d_V_mayCome_4 : decode prog_1_method_29_code 4 = .ok (.ifCond .eq 33, 3) := by decide +kernel
theorem d_V_mayCome_37 : decode prog_1_method_29_code 37 = .ok (.iconst 0, 1) := by decide +kernel
theorem d_V_mayCome_38 : decode prog_1_method_29_code 38 = .ok (.ireturn, 1) := by decide +kernel
theorem d_V_mayCome_7 : decode prog_1_method_29_code 7 = .ok (.lload_n 2, 1) := by decide +kernel
theorem d_V_mayCome_8 : decode prog_1_method_29_code 8 = .ok (.aload_n 0, 1) := by decide +kernel
theorem d_V_mayCome_9 : decode prog_1_method_29_code 9 = .ok (.getfield 33, 3) := by decide +kernel
theorem d_V_mayCome_12 : decode prog_1_method_29_code 12 = .ok (.getfield 251, 3) := by decide +kernel
theorem d_V_mayCome_15 : decode prog_1_method_29_code 15 = .ok (.iload_n 1, 1) := by decide +kernel
theorem d_V_mayCome_16 : decode prog_1_method_29_code 16 = .ok (.laload, 1) := by decide +kernel
theorem d_V_mayCome_17 : decode prog_1_method_29_code 17 = .ok (.lcmp, 1) := by decide +kernel
theorem d_V_mayCome_18 : decode prog_1_method_29_code 18 = .ok (.ifCond .le 19, 3) := by decide +kernel
theorem d_V_mayCome_21 : decode prog_1_method_29_code 21 = .ok (.lload_n 2, 1) := by decide +kernel
theorem d_V_mayCome_22 : decode prog_1_method_29_code 22 = .ok (.aload_n 0, 1) := by decide +kernel
theorem d_V_mayCome_23 : decode prog_1_method_29_code 23 = .ok (.getfield 33, 3) := by decide +kernel
theorem d_V_mayCome_26 : decode prog_1_method_29_code 26 = .ok (.getfield 266, 3) := by decide +kernel
theorem d_V_mayCome_29 : decode prog_1_method_29_code 29 = .ok (.lcmp, 1) := by decide +kernel
theorem d_V_mayCome_30 : decode prog_1_method_29_code 30 = .ok (.ifCond .lt 7, 3) := by decide +kernel
theorem d_V_mayCome_33 : decode prog_1_method_29_code 33 = .ok (.iconst 1, 1) := by decide +kernel
theorem d_V_mayCome_34 : decode prog_1_method_29_code 34 = .ok (.goto 4, 3) := by decide +kernel
set_option maxHeartbeats 4000000 in
set_option maxRecDepth 100000 in
theorem v_mayCome (l : Launch) (D : va_G) (dA : Nat → ClassId) (sz : Nat) (h : Nat) (ad : Nat → Nat) (x : VS) (w : Nat) (a : Int64) (hw : w < 256) : Met l ⟨"SeriesVault", "mayCome", "(IJ)Z"⟩ [Cond.code ⟨"SeriesVault", "mayCome", "(IJ)Z"⟩ prog_1_method_29_code 4 (some FieldType.boolean)] { frames := 2, cells := 0, slots := 0, locals := 21 } (pC D dA [.ref h, .int (nI w), .long a] (VW dA h ad x) sz) (va_Qi (fun (r9 : Int32) (u9 : Unit) => r9 = bI (x.may w a)) (fun (u9 : Unit) t9 => bW D (va_A (VW dA h ad x) sz) (VW dA h ad x) t9) (va_A (VW dA h ad x) sz)) 0 0 (va_A (VW dA h ad x) sz) := by
  refine mkC (y := ⟨"SeriesVault", "mayCome", "(IJ)Z"⟩) (cc := prog_1_method_29_code) (maxL := 4) (av := [.ref h, .int (nI w), .long a]) (ws := VW dA h ad x) (sz := sz) (Qc := fun A => va_Qi (fun (r9 : Int32) (u9 : Unit) => r9 = bI (x.may w a)) (fun (u9 : Unit) t9 => bW D A (VW dA h ad x) t9) A) (by decide) (Nat.le_of_ble_eq_true rfl) ?_
  intro A p e s m below meth c ls hsz hB
  obtain ⟨hx, hb, hr, hml, hown, hin, hlk, hE, hK, hP, hD, hS, hA, hN, hl⟩ := hB
  have hown : s.vm.findClass "SeriesVault" = some m.cls := hown
  have hl : lv_has ls 4 [(0, .ref h), (1, .int (nI w)), (2, .long a)] := hl
  obtain ⟨H, hH⟩ : ∃ z, z = s.heap := ⟨_, rfl⟩
  have hP : va_P D vwCl (VW dA h ad x) H := by rw [hH]; exact hP
  have hS : va_S A s.heap H [] := by rw [hH]; exact hS
  rw [← hH]
  refine lv_lload_n hx hb d_V_mayCome_0 rfl (lv_at hl 2 rfl) ?_
  have hPc := hP.sub (ws' := []) [] rfl
  have hDc := hD.sub (ws' := []) [] (by decide) rfl
  refine jpI (rnS (As := [.long a]) (rest := []) hx hb hml hown hE hK (hN _ _ hS) hPc hDc (v_isTime l D dA H.size a) w693 w692 w694 w277 rfl rfl ⟨⟨by decide, by decide⟩, rfl⟩ ⟨(Nat.le_of_ble_eq_true rfl), (Nat.le_of_ble_eq_true rfl)⟩ rfl hl.1 rfl (Nat.le_of_ble_eq_true rfl) d_V_mayCome_1 ⟨(Nat.le_of_ble_eq_true rfl), (Nat.le_of_ble_eq_true rfl)⟩) hP hD hS hA (fun r1 u9 H locs hp9 hP hD hS => ?_)
  have hP : va_P D vwCl (VW dA h ad x) H := hP
  have hD : va_D A (VW dA h ad x) := hD
  replace hp9 : bI (isTm a) = r1 := Eq.symm hp9
  subst hp9
  refine lv_if_eq hx hb d_V_mayCome_4 (tgt := 37) rfl (fun g3 => ?_) (fun g3 => ?_)
  · have g3 := bI_0 g3
    refine lv_iconst (v := 0) hx hb d_V_mayCome_37 (by decide) ?_
    exact rfZ hx hb hr (bI_nar false) hlk hS () (by simp [VS.may, bI, *]) hP hD (Nat.le_of_ble_eq_true rfl) (Nat.le_of_ble_eq_true rfl) d_V_mayCome_38
  · have g3 := bI_n0 g3
    refine lv_lload_n hx hb d_V_mayCome_7 rfl (lv_at hl 2 rfl) ?_
    refine lv_aload_n hx hb d_V_mayCome_8 rfl (lv_at hl 0 rfl) ?_
    refine gF (v := .ref (ad 3)) hx hb hown hE hK hP 0 rfl rfl layV 11 (by decide) w297 rfl d_V_mayCome_9 ?_
    refine gFN (v := .ref (ad 9)) hx hb hown hE hK hP 17 rfl rfl layH 9 (by decide) w1104 rfl d_V_mayCome_12 ?_
    refine lv_iload_n hx hb d_V_mayCome_15 rfl (lv_at hl 1 rfl) ?_
    refine nlld (f := x.nlast) (n := 256) hx hb hK hP 23 2 rfl rfl (w) (by omega) (by decide) d_V_mayCome_16 ?_
    refine W.lcmp hx hb d_V_mayCome_17 ?_
    refine lv_if_le hx hb d_V_mayCome_18 (tgt := 37) rfl (fun g4 => ?_) (fun g4 => ?_)
    · have g4 := (lg_cmp_le _ _).mp g4
      refine lv_iconst (v := 0) hx hb d_V_mayCome_37 (by decide) ?_
      exact rfZ hx hb hr (bI_nar false) hlk hS () (by simp [VS.may, bI, *]) hP hD (Nat.le_of_ble_eq_true rfl) (Nat.le_of_ble_eq_true rfl) d_V_mayCome_38
    · have g4 := mt (lg_cmp_le _ _).mpr g4
      refine lv_lload_n hx hb d_V_mayCome_21 rfl (lv_at hl 2 rfl) ?_
      refine lv_aload_n hx hb d_V_mayCome_22 rfl (lv_at hl 0 rfl) ?_
      refine gF (v := .ref (ad 3)) hx hb hown hE hK hP 0 rfl rfl layV 11 (by decide) w297 rfl d_V_mayCome_23 ?_
      refine gFN (v := .long x.nhor) hx hb hown hE hK hP 17 rfl rfl layH 7 (by decide) w710 rfl d_V_mayCome_26 ?_
      refine W.lcmp hx hb d_V_mayCome_29 ?_
      refine lv_if_lt hx hb d_V_mayCome_30 (tgt := 37) rfl (fun g5 => ?_) (fun g5 => ?_)
      · have g5 := (lg_cmp_lt _ _).mp g5
        refine lv_iconst (v := 0) hx hb d_V_mayCome_37 (by decide) ?_
        exact rfZ hx hb hr (bI_nar false) hlk hS () (by simp [VS.may, bI, *]) hP hD (Nat.le_of_ble_eq_true rfl) (Nat.le_of_ble_eq_true rfl) d_V_mayCome_38
      · have g5 := mt (lg_cmp_lt _ _).mpr g5
        refine lv_iconst (v := 1) hx hb d_V_mayCome_33 (by decide) ?_
        refine lv_goto hx hb d_V_mayCome_34 (tgt := 38) rfl ?_
        exact rfZ hx hb hr (bI_nar true) hlk hS () (by simp [VS.may, bI, *]) hP hD (Nat.le_of_ble_eq_true rfl) (Nat.le_of_ble_eq_true rfl) d_V_mayCome_38
theorem d_V_comePoint_0 : decode prog_1_method_32_code 0 = .ok (.aload_n 0, 1) := by decide +kernel
theorem d_V_comePoint_1 : decode prog_1_method_32_code 1 = .ok (.getfield 33, 3) := by decide +kernel
theorem d_V_comePoint_4 : decode prog_1_method_32_code 4 = .ok (.getfield 251, 3) := by decide +kernel
theorem d_V_comePoint_7 : decode prog_1_method_32_code 7 = .ok (.iload_n 1, 1) := by decide +kernel
theorem d_V_comePoint_8 : decode prog_1_method_32_code 8 = .ok (.lload_n 2, 1) := by decide +kernel
theorem d_V_comePoint_9 : decode prog_1_method_32_code 9 = .ok (.lastore, 1) := by decide +kernel
theorem d_V_comePoint_10 : decode prog_1_method_32_code 10 = .ok (.lload_n 2, 1) := by decide +kernel
theorem d_V_comePoint_11 : decode prog_1_method_32_code 11 = .ok (.aload_n 0, 1) := by decide +kernel
theorem d_V_comePoint_12 : decode prog_1_method_32_code 12 = .ok (.getfield 33, 3) := by decide +kernel
theorem d_V_comePoint_15 : decode prog_1_method_32_code 15 = .ok (.getfield 266, 3) := by decide +kernel
theorem d_V_comePoint_18 : decode prog_1_method_32_code 18 = .ok (.lcmp, 1) := by decide +kernel
theorem d_V_comePoint_19 : decode prog_1_method_32_code 19 = .ok (.ifCond .lt 14, 3) := by decide +kernel
theorem d_V_comePoint_33 : decode prog_1_method_32_code 33 = .ok (.return_, 1) := by decide +kernel
set_option maxHeartbeats 4000000 in
set_option maxRecDepth 100000 in
theorem v_comePoint_0 (l : Launch) (D : va_G) (dA : Nat → ClassId) (sz : Nat) (h : Nat) (ad : Nat → Nat) (x : VS) (w : Nat) (a : Int64) (b : Int64) (hw : w < 256) (ht : a < x.nhor) : Met l ⟨"SeriesVault", "comePoint", "(IJJ)V"⟩ [Cond.code ⟨"SeriesVault", "comePoint", "(IJJ)V"⟩ prog_1_method_32_code 6 none] { frames := 1, cells := 0, slots := 0, locals := 0 } (pC D dA [.ref h, .int (nI w), .long a, .long b] (VW dA h ad x) sz) (va_Qv (fun (u9 : Unit) => True) (fun (u9 : Unit) t9 => bW D (va_A (VW dA h ad x) sz) (VW dA h ad (VS.s_nlast x (va_up x.nlast w a))) t9) (va_A (VW dA h ad x) sz)) 0 0 (va_A (VW dA h ad x) sz) := by
  refine mkC (y := ⟨"SeriesVault", "comePoint", "(IJJ)V"⟩) (cc := prog_1_method_32_code) (maxL := 6) (av := [.ref h, .int (nI w), .long a, .long b]) (ws := VW dA h ad x) (sz := sz) (Qc := fun A => va_Qv (fun (u9 : Unit) => True) (fun (u9 : Unit) t9 => bW D A (VW dA h ad (VS.s_nlast x (va_up x.nlast w a))) t9) A) (by decide) (Nat.le_of_ble_eq_true rfl) ?_
  intro A p e s m below meth c ls hsz hB
  obtain ⟨hx, hb, hr, hml, hown, hin, hlk, hE, hK, hP, hD, hS, hA, hN, hl⟩ := hB
  have hown : s.vm.findClass "SeriesVault" = some m.cls := hown
  have hl : lv_has ls 6 [(0, .ref h), (1, .int (nI w)), (2, .long a), (4, .long b)] := hl
  obtain ⟨H, hH⟩ : ∃ z, z = s.heap := ⟨_, rfl⟩
  have hP : va_P D vwCl (VW dA h ad x) H := by rw [hH]; exact hP
  have hS : va_S A s.heap H [] := by rw [hH]; exact hS
  rw [← hH]
  refine lv_aload_n hx hb d_V_comePoint_0 rfl (lv_at hl 0 rfl) ?_
  refine gF (v := .ref (ad 3)) hx hb hown hE hK hP 0 rfl rfl layV 11 (by decide) w297 rfl d_V_comePoint_1 ?_
  refine gFN (v := .ref (ad 9)) hx hb hown hE hK hP 17 rfl rfl layH 9 (by decide) w1104 rfl d_V_comePoint_4 ?_
  refine lv_iload_n hx hb d_V_comePoint_7 rfl (lv_at hl 1 rfl) ?_
  refine lv_lload_n hx hb d_V_comePoint_8 rfl (lv_at hl 2 rfl) ?_
  refine nlst (n := 256) hx hb hK hP hD hS 23 2 rfl rfl (w) (by omega) (by decide) d_V_comePoint_9 (fun H locs hP hD hS => ?_)
  have hP : va_P D vwCl (VW dA h ad (VS.s_nlast x (va_up x.nlast w a))) H := hP
  have hD : va_D A (VW dA h ad (VS.s_nlast x (va_up x.nlast w a))) := hD
  refine lv_lload_n hx hb d_V_comePoint_10 rfl (lv_at hl 2 rfl) ?_
  refine lv_aload_n hx hb d_V_comePoint_11 rfl (lv_at hl 0 rfl) ?_
  refine gF (v := .ref (ad 3)) hx hb hown hE hK hP 0 rfl rfl layV 11 (by decide) w297 rfl d_V_comePoint_12 ?_
  refine gFN (v := .long x.nhor) hx hb hown hE hK hP 17 rfl rfl layH 7 (by decide) w710 rfl d_V_comePoint_15 ?_
  refine W.lcmp hx hb d_V_comePoint_18 ?_
  refine lv_if_lt hx hb d_V_comePoint_19 (tgt := 33) rfl (fun _ => ?_) (fun h9 => absurd ((lg_cmp_lt _ _).mpr ht) h9)
  exact rfV hx hb hr hlk hS () trivial hP hD (Nat.le_of_ble_eq_true rfl) (Nat.le_of_ble_eq_true rfl) d_V_comePoint_33
theorem d_V_comePoint_22 : decode prog_1_method_32_code 22 = .ok (.aload_n 0, 1) := by decide +kernel
theorem d_V_comePoint_23 : decode prog_1_method_32_code 23 = .ok (.getfield 23, 3) := by decide +kernel
theorem d_V_comePoint_26 : decode prog_1_method_32_code 26 = .ok (.iload_n 1, 1) := by decide +kernel
theorem d_V_comePoint_27 : decode prog_1_method_32_code 27 = .ok (.lload_n 2, 1) := by decide +kernel
theorem d_V_comePoint_28 : decode prog_1_method_32_code 28 = .ok (.lload 4, 2) := by decide +kernel
theorem d_V_comePoint_30 : decode prog_1_method_32_code 30 = .ok (.invokevirtual 272, 3) := by decide +kernel
theorem w1105 : Cond.methodLink "SeriesVault" 272 ⟨"SeriesVault$Points", "add", "(IJJ)V"⟩ ∈ aW := aw_of (tb_5 (List.mem_of_getElem? (i := 153) rfl)) rfl
theorem w1106 : Cond.code ⟨"SeriesVault$Points", "add", "(IJJ)V"⟩ prog_5_method_3_code 6 none ∈ aW := aw_of (tb_5 (List.mem_of_getElem? (i := 156) rfl)) rfl
theorem w1107 : Cond.instanceMethod ⟨"SeriesVault$Points", "add", "(IJJ)V"⟩ ∈ aW := aw_of (tb_5 (List.mem_of_getElem? (i := 154) rfl)) rfl
theorem w1108 : Cond.selects "SeriesVault$Points" ⟨"SeriesVault$Points", "add", "(IJJ)V"⟩ ⟨"SeriesVault$Points", "add", "(IJJ)V"⟩ ∈ aW := aw_of (tb_5 (List.mem_of_getElem? (i := 155) rfl)) rfl
set_option maxHeartbeats 4000000 in
set_option maxRecDepth 100000 in
theorem v_comePoint_1 (l : Launch) (D : va_G) (dA : Nat → ClassId) (sz : Nat) (h : Nat) (ad : Nat → Nat) (x : VS) (w : Nat) (a : Int64) (b : Int64) (hw : w < 256) (ht : x.nhor ≤ a) (h0 : x.hsize < x.hN) (h9 : x.hN ≤ 65536) : Met l ⟨"SeriesVault", "comePoint", "(IJJ)V"⟩ [Cond.code ⟨"SeriesVault", "comePoint", "(IJJ)V"⟩ prog_1_method_32_code 6 none] { frames := 3, cells := 0, slots := 0, locals := 51 } (pC D dA [.ref h, .int (nI w), .long a, .long b] (VW dA h ad x) sz) (va_Qv (fun (u9 : Unit) => True) (fun (u9 : Unit) t9 => bW D (va_A (VW dA h ad x) sz) (VW dA h ad (VS.s_nlast (VS.s_hsize (VS.s_hV (VS.s_hT (VS.s_hO x (va_up x.hO x.hsize w)) (va_up x.hT x.hsize a)) (va_up x.hV x.hsize b)) (x.hsize + 1)) (va_up x.nlast w a))) t9) (va_A (VW dA h ad x) sz)) 0 0 (va_A (VW dA h ad x) sz) := by
  refine mkC (y := ⟨"SeriesVault", "comePoint", "(IJJ)V"⟩) (cc := prog_1_method_32_code) (maxL := 6) (av := [.ref h, .int (nI w), .long a, .long b]) (ws := VW dA h ad x) (sz := sz) (Qc := fun A => va_Qv (fun (u9 : Unit) => True) (fun (u9 : Unit) t9 => bW D A (VW dA h ad (VS.s_nlast (VS.s_hsize (VS.s_hV (VS.s_hT (VS.s_hO x (va_up x.hO x.hsize w)) (va_up x.hT x.hsize a)) (va_up x.hV x.hsize b)) (x.hsize + 1)) (va_up x.nlast w a))) t9) A) (by decide) (Nat.le_of_ble_eq_true rfl) ?_
  intro A p e s m below meth c ls hsz hB
  obtain ⟨hx, hb, hr, hml, hown, hin, hlk, hE, hK, hP, hD, hS, hA, hN, hl⟩ := hB
  have hown : s.vm.findClass "SeriesVault" = some m.cls := hown
  have hl : lv_has ls 6 [(0, .ref h), (1, .int (nI w)), (2, .long a), (4, .long b)] := hl
  obtain ⟨H, hH⟩ : ∃ z, z = s.heap := ⟨_, rfl⟩
  have hP : va_P D vwCl (VW dA h ad x) H := by rw [hH]; exact hP
  have hS : va_S A s.heap H [] := by rw [hH]; exact hS
  rw [← hH]
  refine lv_aload_n hx hb d_V_comePoint_0 rfl (lv_at hl 0 rfl) ?_
  refine gF (v := .ref (ad 3)) hx hb hown hE hK hP 0 rfl rfl layV 11 (by decide) w297 rfl d_V_comePoint_1 ?_
  refine gFN (v := .ref (ad 9)) hx hb hown hE hK hP 17 rfl rfl layH 9 (by decide) w1104 rfl d_V_comePoint_4 ?_
  refine lv_iload_n hx hb d_V_comePoint_7 rfl (lv_at hl 1 rfl) ?_
  refine lv_lload_n hx hb d_V_comePoint_8 rfl (lv_at hl 2 rfl) ?_
  refine nlst (n := 256) hx hb hK hP hD hS 23 2 rfl rfl (w) (by omega) (by decide) d_V_comePoint_9 (fun H locs hP hD hS => ?_)
  have hP : va_P D vwCl (VW dA h ad (VS.s_nlast x (va_up x.nlast w a))) H := hP
  have hD : va_D A (VW dA h ad (VS.s_nlast x (va_up x.nlast w a))) := hD
  refine lv_lload_n hx hb d_V_comePoint_10 rfl (lv_at hl 2 rfl) ?_
  refine lv_aload_n hx hb d_V_comePoint_11 rfl (lv_at hl 0 rfl) ?_
  refine gF (v := .ref (ad 3)) hx hb hown hE hK hP 0 rfl rfl layV 11 (by decide) w297 rfl d_V_comePoint_12 ?_
  refine gFN (v := .long x.nhor) hx hb hown hE hK hP 17 rfl rfl layH 7 (by decide) w710 rfl d_V_comePoint_15 ?_
  refine W.lcmp hx hb d_V_comePoint_18 ?_
  refine lv_if_lt hx hb d_V_comePoint_19 (tgt := 33) rfl (fun h9 => absurd h9 (mt (lg_cmp_lt _ _).mp (Int64.not_lt.mpr ht))) (fun _ => ?_)
  refine lv_aload_n hx hb d_V_comePoint_22 rfl (lv_at hl 0 rfl) ?_
  refine gF (v := .ref (ad 1)) hx hb hown hE hK hP 0 rfl rfl layV 9 (by decide) w576 rfl d_V_comePoint_23 ?_
  refine lv_iload_n hx hb d_V_comePoint_26 rfl (lv_at hl 1 rfl) ?_
  refine lv_lload_n hx hb d_V_comePoint_27 rfl (lv_at hl 2 rfl) ?_
  refine lv_lload hx hb d_V_comePoint_28 (lv_at hl 3 rfl) ?_
  refine jfV (rnV (As := [.int (nI w), .long a, .long b]) (rest := []) hx hb hml hown hE hK (hN _ _ hS) hP hD (v_padd_h l D dA H.size h ad (VS.s_nlast x (va_up x.nlast w a)) w a b (show x.hsize < x.hN from by omega) (show x.hN ≤ 65536 from by omega)) (q0 := 9) rfl rfl w1106 w1105 w1107 w1108 w578 rfl rfl ⟨⟨by decide, by decide⟩, rfl⟩ ⟨(Nat.le_of_ble_eq_true rfl), (Nat.le_of_ble_eq_true rfl)⟩ rfl hl.1 rfl (Nat.le_of_ble_eq_true rfl) d_V_comePoint_30 ⟨(Nat.le_of_ble_eq_true rfl), (Nat.le_of_ble_eq_true rfl)⟩) hP hD hS hA (fun u2 H locs hp9 hP hD hS => ?_)
  have hP : va_P D vwCl (VW dA h ad (VS.s_nlast (VS.s_hsize (VS.s_hV (VS.s_hT (VS.s_hO x (va_up x.hO x.hsize w)) (va_up x.hT x.hsize a)) (va_up x.hV x.hsize b)) (x.hsize + 1)) (va_up x.nlast w a))) H := hP
  have hD : va_D A (VW dA h ad (VS.s_nlast (VS.s_hsize (VS.s_hV (VS.s_hT (VS.s_hO x (va_up x.hO x.hsize w)) (va_up x.hT x.hsize a)) (va_up x.hV x.hsize b)) (x.hsize + 1)) (va_up x.nlast w a))) := hD
  exact rfV hx hb hr hlk hS () trivial hP hD (Nat.le_of_ble_eq_true rfl) (Nat.le_of_ble_eq_true rfl) d_V_comePoint_33
end
section
theorem d_V_checkPower_7 : decode prog_1_method_13_code 7 = .ok (.new 127, 3) := by decide +kernel
theorem d_V_checkPower_10 : decode prog_1_method_13_code 10 = .ok (.dup, 1) := by decide +kernel
theorem d_V_checkPower_11 : decode prog_1_method_13_code 11 = .ok (.invokespecial 129, 3) := by decide +kernel
theorem d_V_checkPower_14 : decode prog_1_method_13_code 14 = .ok (.athrow, 1) := by decide +kernel
set_option maxHeartbeats 4000000 in
set_option maxRecDepth 100000 in
theorem v_checkPower_x (l : Launch) (htr : l.stackTraces = false) (D : va_G) (dA : Nat → ClassId) (sz : Nat) (h : Nat) (ad : Nat → Nat) (x : VS) (ho : x.powered = false) : mX l ⟨"SeriesVault", "checkPower", "()V"⟩ [Cond.code ⟨"SeriesVault", "checkPower", "()V"⟩ prog_1_method_13_code 1 none] { frames := 6, cells := 1, slots := 6, locals := 81 } (pC D dA [.ref h] (VW dA h ad x) sz) "java/lang/IllegalStateException" (fun st9 t9 => va_F (va_A (VW dA h ad x) sz) st9 t9 ∧ bW D (va_A (VW dA h ad x) sz) (VW dA h ad x) t9) 1 6 (va_A (VW dA h ad x) sz) := by
  refine mkX (y := ⟨"SeriesVault", "checkPower", "()V"⟩) (cc := prog_1_method_13_code) (maxL := 1) (av := [.ref h]) (ws := VW dA h ad x) (sz := sz) (B := fun A => (fun st9 t9 => va_F A st9 t9 ∧ bW D A (VW dA h ad x) t9)) (by decide) (Nat.le_of_ble_eq_true rfl) ?_
  intro A p e s m below meth c ls hsz hno hB
  obtain ⟨hx, hb, hr, hml, hown, hin, hlk, hE, hK, hP, hD, hS, hA, hN, hl⟩ := hB
  have hown : s.vm.findClass "SeriesVault" = some m.cls := hown
  have hl : lv_has ls 1 [(0, .ref h)] := hl
  obtain ⟨H, hH⟩ : ∃ z, z = s.heap := ⟨_, rfl⟩
  have hP : va_P D vwCl (VW dA h ad x) H := by rw [hH]; exact hP
  have hS : va_S A s.heap H [] := by rw [hH]; exact hS
  rw [← hH]
  refine lv_aload_n hx hb d_V_checkPower_0 rfl (lv_at hl 0 rfl) ?_
  refine gF (v := .int (bI x.powered)) hx hb hown hE hK hP 0 rfl rfl layV 5 (by decide) w275 rfl d_V_checkPower_1 ?_
  refine lv_if_ne hx hb d_V_checkPower_4 (tgt := 15) rfl (fun h9 => absurd (by rw [ho]; decide) h9) (fun _ => ?_)
  exact xNew (E := "java/lang/IllegalStateException") (names := ["java/lang/RuntimeException", "java/lang/Exception"]) hx hb htr hown (by decide) (by decide) hE w295 w296 (fun U hU => at_V_ISE hU) (hN _ _ hS) (hl.1.trans hml.symm) d_V_checkPower_7 d_V_checkPower_10 d_V_checkPower_11 d_V_checkPower_14 hno (by decide) (Nat.le_of_ble_eq_true rfl) (Nat.le_of_ble_eq_true rfl) (Nat.le_of_ble_eq_true rfl) hlk (fun t h1 h2 => xEndV hP hD hS t h1 h2) hS.2.2 (Nat.le_of_ble_eq_true rfl) (Nat.le_of_ble_eq_true rfl)
set_option maxHeartbeats 4000000 in
set_option maxRecDepth 100000 in
theorem v_checkSeries_x (l : Launch) (htr : l.stackTraces = false) (D : va_G) (dA : Nat → ClassId) (sz : Nat) (h : Nat) (ad : Nat → Nat) (x : VS) (n : Int32) (h0 : n < 0 ∨ nI x.nser ≤ n) : mX l ⟨"SeriesVault", "checkSeries", "(I)V"⟩ [Cond.code ⟨"SeriesVault", "checkSeries", "(I)V"⟩ prog_1_method_14_code 2 none] { frames := 6, cells := 1, slots := 6, locals := 81 } (pC D dA [.ref h, .int n] (VW dA h ad x) sz) "java/lang/IndexOutOfBoundsException" (fun st9 t9 => va_F (va_A (VW dA h ad x) sz) st9 t9 ∧ bW D (va_A (VW dA h ad x) sz) (VW dA h ad x) t9) 1 6 (va_A (VW dA h ad x) sz) := by
  refine mkX (y := ⟨"SeriesVault", "checkSeries", "(I)V"⟩) (cc := prog_1_method_14_code) (maxL := 2) (av := [.ref h, .int n]) (ws := VW dA h ad x) (sz := sz) (B := fun A => (fun st9 t9 => va_F A st9 t9 ∧ bW D A (VW dA h ad x) t9)) (by decide) (Nat.le_of_ble_eq_true rfl) ?_
  intro A p e s m below meth c ls hsz hno hB
  obtain ⟨hx, hb, hr, hml, hown, hin, hlk, hE, hK, hP, hD, hS, hA, hN, hl⟩ := hB
  have hown : s.vm.findClass "SeriesVault" = some m.cls := hown
  have hl : lv_has ls 2 [(0, .ref h), (1, .int n)] := hl
  obtain ⟨H, hH⟩ : ∃ z, z = s.heap := ⟨_, rfl⟩
  have hP : va_P D vwCl (VW dA h ad x) H := by rw [hH]; exact hP
  have hS : va_S A s.heap H [] := by rw [hH]; exact hS
  rw [← hH]
  refine lv_iload_n hx hb d_V_checkSeries_0 rfl (lv_at hl 1 rfl) ?_
  refine lv_if_lt hx hb d_V_checkSeries_1 (tgt := 15) rfl (fun g1 => ?_) (fun g1 => ?_)
  · have g1 := g1
    exact xNew (E := "java/lang/IndexOutOfBoundsException") (names := ["java/lang/RuntimeException", "java/lang/Exception"]) hx hb htr hown (by decide) (by decide) hE w257 w258 (fun U hU => at_V_IOOBE hU) (hN _ _ hS) (hl.1.trans hml.symm) d_V_checkSeries_15 d_V_checkSeries_18 d_V_checkSeries_19 d_V_checkSeries_22 hno (by decide) (Nat.le_of_ble_eq_true rfl) (Nat.le_of_ble_eq_true rfl) (Nat.le_of_ble_eq_true rfl) hlk (fun t h1 h2 => xEndV hP hD hS t h1 h2) hS.2.2 (Nat.le_of_ble_eq_true rfl) (Nat.le_of_ble_eq_true rfl)
  · have g1 := g1
    refine lv_iload_n hx hb d_V_checkSeries_4 rfl (lv_at hl 1 rfl) ?_
    refine lv_aload_n hx hb d_V_checkSeries_5 rfl (lv_at hl 0 rfl) ?_
    refine gF (v := .ref (ad 3)) hx hb hown hE hK hP 0 rfl rfl layV 11 (by decide) w297 rfl d_V_checkSeries_6 ?_
    refine gFN (v := .int (nI x.nser)) hx hb hown hE hK hP 17 rfl rfl layH 8 (by decide) w298 rfl d_V_checkSeries_9 ?_
    refine lv_icmp_lt hx hb d_V_checkSeries_12 (tgt := 23) rfl (fun h9 => absurd h9 (Int32.not_lt.mpr (h0.resolve_left g1))) (fun _ => ?_)
    exact xNew (E := "java/lang/IndexOutOfBoundsException") (names := ["java/lang/RuntimeException", "java/lang/Exception"]) hx hb htr hown (by decide) (by decide) hE w257 w258 (fun U hU => at_V_IOOBE hU) (hN _ _ hS) (hl.1.trans hml.symm) d_V_checkSeries_15 d_V_checkSeries_18 d_V_checkSeries_19 d_V_checkSeries_22 hno (by decide) (Nat.le_of_ble_eq_true rfl) (Nat.le_of_ble_eq_true rfl) (Nat.le_of_ble_eq_true rfl) hlk (fun t h1 h2 => xEndV hP hD hS t h1 h2) hS.2.2 (Nat.le_of_ble_eq_true rfl) (Nat.le_of_ble_eq_true rfl)
set_option maxHeartbeats 4000000 in
set_option maxRecDepth 100000 in
theorem v_writeBlock_x (l : Launch) (htr : l.stackTraces = false) (D : va_G) (dA : Nat → ClassId) (sz : Nat) (h : Nat) (ad : Nat → Nat) (x : VS) (hc : x.cutLeft = 0) : mX l ⟨"SeriesVault", "writeBlock", "()V"⟩ [Cond.code ⟨"SeriesVault", "writeBlock", "()V"⟩ prog_1_method_15_code 1 none] { frames := 6, cells := 1, slots := 6, locals := 81 } (pC D dA [.ref h] (VW dA h ad x) sz) "java/lang/IllegalStateException" (fun st9 t9 => va_F (va_A (VW dA h ad x) sz) st9 t9 ∧ bW D (va_A (VW dA h ad x) sz) (VW dA h ad (VS.s_cutLeft (VS.s_powered x false) (-1))) t9) 1 6 (va_A (VW dA h ad x) sz) := by
  refine mkX (y := ⟨"SeriesVault", "writeBlock", "()V"⟩) (cc := prog_1_method_15_code) (maxL := 1) (av := [.ref h]) (ws := VW dA h ad x) (sz := sz) (B := fun A => (fun st9 t9 => va_F A st9 t9 ∧ bW D A (VW dA h ad (VS.s_cutLeft (VS.s_powered x false) (-1))) t9)) (by decide) (Nat.le_of_ble_eq_true rfl) ?_
  intro A p e s m below meth c ls hsz hno hB
  obtain ⟨hx, hb, hr, hml, hown, hin, hlk, hE, hK, hP, hD, hS, hA, hN, hl⟩ := hB
  have hown : s.vm.findClass "SeriesVault" = some m.cls := hown
  have hl : lv_has ls 1 [(0, .ref h)] := hl
  obtain ⟨H, hH⟩ : ∃ z, z = s.heap := ⟨_, rfl⟩
  have hP : va_P D vwCl (VW dA h ad x) H := by rw [hH]; exact hP
  have hS : va_S A s.heap H [] := by rw [hH]; exact hS
  rw [← hH]
  refine lv_aload_n hx hb d_V_writeBlock_0 rfl (lv_at hl 0 rfl) ?_
  refine gF (v := .int x.cutLeft) hx hb hown hE hK hP 0 rfl rfl layV 6 (by decide) w281 rfl d_V_writeBlock_1 ?_
  refine lv_if_ne hx hb d_V_writeBlock_4 (tgt := 25) rfl (fun h9 => absurd hc h9) (fun _ => ?_)
  refine lv_aload_n hx hb d_V_writeBlock_7 rfl (lv_at hl 0 rfl) ?_
  refine lv_iconst (v := 0) hx hb d_V_writeBlock_8 (by decide) ?_
  refine pF (v := .int (bI false)) hx hb hown hE hK hP hD hS 0 rfl rfl layV tyV tokV nmV 5 (by decide) w275 rfl (bI_nar false) (bI_fit false) (Nat.le_of_ble_eq_true rfl) d_V_writeBlock_9 (fun H locs hP hD hS => ?_)
  have hP : va_P D vwCl (VW dA h ad (VS.s_powered x false)) H := hP
  have hD : va_D A (VW dA h ad (VS.s_powered x false)) := hD
  refine lv_aload_n hx hb d_V_writeBlock_12 rfl (lv_at hl 0 rfl) ?_
  refine lv_iconst (v := (-1)) hx hb d_V_writeBlock_13 (by decide) ?_
  refine pF (v := .int (-1)) hx hb hown hE hK hP hD hS 0 rfl rfl layV tyV tokV nmV 6 (by decide) w281 rfl rfl rfl (Nat.le_of_ble_eq_true rfl) d_V_writeBlock_14 (fun H locs hP hD hS => ?_)
  have hP : va_P D vwCl (VW dA h ad (VS.s_cutLeft (VS.s_powered x false) (-1))) H := hP
  have hD : va_D A (VW dA h ad (VS.s_cutLeft (VS.s_powered x false) (-1))) := hD
  exact xNew (E := "java/lang/IllegalStateException") (names := ["java/lang/RuntimeException", "java/lang/Exception"]) hx hb htr hown (by decide) (by decide) hE w295 w296 (fun U hU => at_V_ISE hU) (hN _ _ hS) (hl.1.trans hml.symm) d_V_writeBlock_17 d_V_writeBlock_20 d_V_writeBlock_21 d_V_writeBlock_24 hno (by decide) (Nat.le_of_ble_eq_true rfl) (Nat.le_of_ble_eq_true rfl) (Nat.le_of_ble_eq_true rfl) hlk (fun t h1 h2 => xEndV hP hD hS t h1 h2) hS.2.2 (Nat.le_of_ble_eq_true rfl) (Nat.le_of_ble_eq_true rfl)
set_option maxHeartbeats 4000000 in
set_option maxRecDepth 100000 in
theorem v_end_x (l : Launch) (htr : l.stackTraces = false) (D : va_G) (dA : Nat → ClassId) (sz : Nat) (h : Nat) (ad : Nat → Nat) (x : VS) (n : Int32) (h0 : n < 0 ∨ nI x.tapeLength < n) : mX l ⟨"SeriesVault", "end", "(I)V"⟩ [Cond.code ⟨"SeriesVault", "end", "(I)V"⟩ prog_1_method_4_code 2 none] { frames := 6, cells := 1, slots := 6, locals := 81 } (pC D dA [.ref h, .int n] (VW dA h ad x) sz) "java/lang/IllegalArgumentException" (fun st9 t9 => va_F (va_A (VW dA h ad x) sz) st9 t9 ∧ bW D (va_A (VW dA h ad x) sz) (VW dA h ad x) t9) 1 6 (va_A (VW dA h ad x) sz) := by
  refine mkX (y := ⟨"SeriesVault", "end", "(I)V"⟩) (cc := prog_1_method_4_code) (maxL := 2) (av := [.ref h, .int n]) (ws := VW dA h ad x) (sz := sz) (B := fun A => (fun st9 t9 => va_F A st9 t9 ∧ bW D A (VW dA h ad x) t9)) (by decide) (Nat.le_of_ble_eq_true rfl) ?_
  intro A p e s m below meth c ls hsz hno hB
  obtain ⟨hx, hb, hr, hml, hown, hin, hlk, hE, hK, hP, hD, hS, hA, hN, hl⟩ := hB
  have hown : s.vm.findClass "SeriesVault" = some m.cls := hown
  have hl : lv_has ls 2 [(0, .ref h), (1, .int n)] := hl
  obtain ⟨H, hH⟩ : ∃ z, z = s.heap := ⟨_, rfl⟩
  have hP : va_P D vwCl (VW dA h ad x) H := by rw [hH]; exact hP
  have hS : va_S A s.heap H [] := by rw [hH]; exact hS
  rw [← hH]
  refine lv_iload_n hx hb d_V_end_0 rfl (lv_at hl 1 rfl) ?_
  refine lv_if_lt hx hb d_V_end_1 (tgt := 12) rfl (fun g1 => ?_) (fun g1 => ?_)
  · have g1 := g1
    exact xNew (E := "java/lang/IllegalArgumentException") (names := ["java/lang/RuntimeException", "java/lang/Exception"]) hx hb htr hown (by decide) (by decide) hE w273 w274 (fun U hU => at_V_IAE hU) (hN _ _ hS) (hl.1.trans hml.symm) d_V_end_12 d_V_end_15 d_V_end_16 d_V_end_19 hno (by decide) (Nat.le_of_ble_eq_true rfl) (Nat.le_of_ble_eq_true rfl) (Nat.le_of_ble_eq_true rfl) hlk (fun t h1 h2 => xEndV hP hD hS t h1 h2) hS.2.2 (Nat.le_of_ble_eq_true rfl) (Nat.le_of_ble_eq_true rfl)
  · have g1 := g1
    refine lv_iload_n hx hb d_V_end_4 rfl (lv_at hl 1 rfl) ?_
    refine lv_aload_n hx hb d_V_end_5 rfl (lv_at hl 0 rfl) ?_
    refine gF (v := .int (nI x.tapeLength)) hx hb hown hE hK hP 0 rfl rfl layV 1 (by decide) w259 rfl d_V_end_6 ?_
    refine lv_icmp_le hx hb d_V_end_9 (tgt := 20) rfl (fun h9 => absurd h9 (Int32.not_le.mpr (h0.resolve_left g1))) (fun _ => ?_)
    exact xNew (E := "java/lang/IllegalArgumentException") (names := ["java/lang/RuntimeException", "java/lang/Exception"]) hx hb htr hown (by decide) (by decide) hE w273 w274 (fun U hU => at_V_IAE hU) (hN _ _ hS) (hl.1.trans hml.symm) d_V_end_12 d_V_end_15 d_V_end_16 d_V_end_19 hno (by decide) (Nat.le_of_ble_eq_true rfl) (Nat.le_of_ble_eq_true rfl) (Nat.le_of_ble_eq_true rfl) hlk (fun t h1 h2 => xEndV hP hD hS t h1 h2) hS.2.2 (Nat.le_of_ble_eq_true rfl) (Nat.le_of_ble_eq_true rfl)
set_option maxHeartbeats 4000000 in
set_option maxRecDepth 100000 in
theorem v_fault_x (l : Launch) (htr : l.stackTraces = false) (D : va_G) (dA : Nat → ClassId) (sz : Nat) (h : Nat) (ad : Nat → Nat) (x : VS) (n : Int32) (h0 : n < 0 ∨ 1 < n) : mX l ⟨"SeriesVault", "fault", "(I)I"⟩ [Cond.code ⟨"SeriesVault", "fault", "(I)I"⟩ prog_1_method_6_code 2 (some FieldType.int)] { frames := 6, cells := 1, slots := 6, locals := 81 } (pC D dA [.ref h, .int n] (VW dA h ad x) sz) "java/lang/IndexOutOfBoundsException" (fun st9 t9 => va_F (va_A (VW dA h ad x) sz) st9 t9 ∧ bW D (va_A (VW dA h ad x) sz) (VW dA h ad x) t9) 1 6 (va_A (VW dA h ad x) sz) := by
  refine mkX (y := ⟨"SeriesVault", "fault", "(I)I"⟩) (cc := prog_1_method_6_code) (maxL := 2) (av := [.ref h, .int n]) (ws := VW dA h ad x) (sz := sz) (B := fun A => (fun st9 t9 => va_F A st9 t9 ∧ bW D A (VW dA h ad x) t9)) (by decide) (Nat.le_of_ble_eq_true rfl) ?_
  intro A p e s m below meth c ls hsz hno hB
  obtain ⟨hx, hb, hr, hml, hown, hin, hlk, hE, hK, hP, hD, hS, hA, hN, hl⟩ := hB
  have hown : s.vm.findClass "SeriesVault" = some m.cls := hown
  have hl : lv_has ls 2 [(0, .ref h), (1, .int n)] := hl
  obtain ⟨H, hH⟩ : ∃ z, z = s.heap := ⟨_, rfl⟩
  have hP : va_P D vwCl (VW dA h ad x) H := by rw [hH]; exact hP
  have hS : va_S A s.heap H [] := by rw [hH]; exact hS
  rw [← hH]
  refine lv_iload_n hx hb d_V_fault_0 rfl (lv_at hl 1 rfl) ?_
  refine lv_if_lt hx hb d_V_fault_1 (tgt := 9) rfl (fun g1 => ?_) (fun g1 => ?_)
  · have g1 := g1
    exact xNew (E := "java/lang/IndexOutOfBoundsException") (names := ["java/lang/RuntimeException", "java/lang/Exception"]) hx hb htr hown (by decide) (by decide) hE w257 w258 (fun U hU => at_V_IOOBE hU) (hN _ _ hS) (hl.1.trans hml.symm) d_V_fault_9 d_V_fault_12 d_V_fault_13 d_V_fault_16 hno (by decide) (Nat.le_of_ble_eq_true rfl) (Nat.le_of_ble_eq_true rfl) (Nat.le_of_ble_eq_true rfl) hlk (fun t h1 h2 => xEndV hP hD hS t h1 h2) hS.2.2 (Nat.le_of_ble_eq_true rfl) (Nat.le_of_ble_eq_true rfl)
  · have g1 := g1
    refine lv_iload_n hx hb d_V_fault_4 rfl (lv_at hl 1 rfl) ?_
    refine lv_iconst (v := 1) hx hb d_V_fault_5 (by decide) ?_
    refine lv_icmp_le hx hb d_V_fault_6 (tgt := 17) rfl (fun h9 => absurd h9 (Int32.not_le.mpr (h0.resolve_left g1))) (fun _ => ?_)
    exact xNew (E := "java/lang/IndexOutOfBoundsException") (names := ["java/lang/RuntimeException", "java/lang/Exception"]) hx hb htr hown (by decide) (by decide) hE w257 w258 (fun U hU => at_V_IOOBE hU) (hN _ _ hS) (hl.1.trans hml.symm) d_V_fault_9 d_V_fault_12 d_V_fault_13 d_V_fault_16 hno (by decide) (Nat.le_of_ble_eq_true rfl) (Nat.le_of_ble_eq_true rfl) (Nat.le_of_ble_eq_true rfl) hlk (fun t h1 h2 => xEndV hP hD hS t h1 h2) hS.2.2 (Nat.le_of_ble_eq_true rfl) (Nat.le_of_ble_eq_true rfl)
set_option maxHeartbeats 4000000 in
set_option maxRecDepth 100000 in
theorem v_cut_1 (l : Launch) (htr : l.stackTraces = false) (D : va_G) (dA : Nat → ClassId) (sz : Nat) (h : Nat) (ad : Nat → Nat) (x : VS) (n : Int32) (ho : x.powered = false) : mX l ⟨"SeriesVault", "cut", "(I)V"⟩ [Cond.code ⟨"SeriesVault", "cut", "(I)V"⟩ prog_1_method_11_code 2 none] { frames := 7, cells := 1, slots := 6, locals := 101 } (pC D dA [.ref h, .int n] (VW dA h ad x) sz) "java/lang/IllegalStateException" (fun st9 t9 => va_F (va_A (VW dA h ad x) sz) st9 t9 ∧ bW D (va_A (VW dA h ad x) sz) (VW dA h ad x) t9) 1 6 (va_A (VW dA h ad x) sz) := by
  refine mkX (y := ⟨"SeriesVault", "cut", "(I)V"⟩) (cc := prog_1_method_11_code) (maxL := 2) (av := [.ref h, .int n]) (ws := VW dA h ad x) (sz := sz) (B := fun A => (fun st9 t9 => va_F A st9 t9 ∧ bW D A (VW dA h ad x) t9)) (by decide) (Nat.le_of_ble_eq_true rfl) ?_
  intro A p e s m below meth c ls hsz hno hB
  obtain ⟨hx, hb, hr, hml, hown, hin, hlk, hE, hK, hP, hD, hS, hA, hN, hl⟩ := hB
  have hown : s.vm.findClass "SeriesVault" = some m.cls := hown
  have hl : lv_has ls 2 [(0, .ref h), (1, .int n)] := hl
  obtain ⟨H, hH⟩ : ∃ z, z = s.heap := ⟨_, rfl⟩
  have hP : va_P D vwCl (VW dA h ad x) H := by rw [hH]; exact hP
  have hS : va_S A s.heap H [] := by rw [hH]; exact hS
  rw [← hH]
  refine lv_aload_n hx hb d_V_cut_0 rfl (lv_at hl 0 rfl) ?_
  refine xfV (w1 := VW dA h ad x) (As := []) (rest := []) hx hb hml hown hE hK (hN _ _ hS) (v_checkPower_x l htr D dA H.size h ad x ho) (q0 := 0) rfl rfl w278 w276 w279 w280 w277 rfl rfl ⟨⟨by decide, by decide⟩, rfl⟩ ⟨(Nat.le_of_ble_eq_true rfl), (Nat.le_of_ble_eq_true rfl)⟩ rfl hl.1 rfl (Nat.le_of_ble_eq_true rfl) d_V_cut_1 ⟨(Nat.le_of_ble_eq_true rfl), (Nat.le_of_ble_eq_true rfl)⟩ hP hD hS hA (fun xa1 ce H locs hP hD hS hce hcv hcl => ?_)
  exact xOut hno hlk hce hcv hcl (fun t ht => xEndV hP hD hS t (by rw [ht]; exact Nat.le_refl _) (fun q _ => by rw [ht])) hS.2.2 (Nat.le_of_ble_eq_true rfl) (Nat.le_of_ble_eq_true rfl)
set_option maxHeartbeats 4000000 in
set_option maxRecDepth 100000 in
theorem v_cut_2 (l : Launch) (htr : l.stackTraces = false) (D : va_G) (dA : Nat → ClassId) (sz : Nat) (h : Nat) (ad : Nat → Nat) (x : VS) (n : Int32) (ho : x.powered = true) (h1 : n < (-1)) : mX l ⟨"SeriesVault", "cut", "(I)V"⟩ [Cond.code ⟨"SeriesVault", "cut", "(I)V"⟩ prog_1_method_11_code 2 none] { frames := 6, cells := 1, slots := 6, locals := 81 } (pC D dA [.ref h, .int n] (VW dA h ad x) sz) "java/lang/IllegalArgumentException" (fun st9 t9 => va_F (va_A (VW dA h ad x) sz) st9 t9 ∧ bW D (va_A (VW dA h ad x) sz) (VW dA h ad x) t9) 1 6 (va_A (VW dA h ad x) sz) := by
  refine mkX (y := ⟨"SeriesVault", "cut", "(I)V"⟩) (cc := prog_1_method_11_code) (maxL := 2) (av := [.ref h, .int n]) (ws := VW dA h ad x) (sz := sz) (B := fun A => (fun st9 t9 => va_F A st9 t9 ∧ bW D A (VW dA h ad x) t9)) (by decide) (Nat.le_of_ble_eq_true rfl) ?_
  intro A p e s m below meth c ls hsz hno hB
  obtain ⟨hx, hb, hr, hml, hown, hin, hlk, hE, hK, hP, hD, hS, hA, hN, hl⟩ := hB
  have hown : s.vm.findClass "SeriesVault" = some m.cls := hown
  have hl : lv_has ls 2 [(0, .ref h), (1, .int n)] := hl
  obtain ⟨H, hH⟩ : ∃ z, z = s.heap := ⟨_, rfl⟩
  have hP : va_P D vwCl (VW dA h ad x) H := by rw [hH]; exact hP
  have hS : va_S A s.heap H [] := by rw [hH]; exact hS
  rw [← hH]
  refine lv_aload_n hx hb d_V_cut_0 rfl (lv_at hl 0 rfl) ?_
  refine jfV (rnV (As := []) (rest := []) hx hb hml hown hE hK (hN _ _ hS) hP hD (v_checkPower l D dA H.size h ad x ho) (q0 := 0) rfl rfl w278 w276 w279 w280 w277 rfl rfl ⟨⟨by decide, by decide⟩, rfl⟩ ⟨(Nat.le_of_ble_eq_true rfl), (Nat.le_of_ble_eq_true rfl)⟩ rfl hl.1 rfl (Nat.le_of_ble_eq_true rfl) d_V_cut_1 ⟨(Nat.le_of_ble_eq_true rfl), (Nat.le_of_ble_eq_true rfl)⟩) hP hD hS hA (fun u2 H locs hp9 hP hD hS => ?_)
  have hP : va_P D vwCl (VW dA h ad x) H := hP
  have hD : va_D A (VW dA h ad x) := hD
  refine lv_iload_n hx hb d_V_cut_4 rfl (lv_at hl 1 rfl) ?_
  refine lv_iconst (v := (-1)) hx hb d_V_cut_5 (by decide) ?_
  refine lv_icmp_ge hx hb d_V_cut_6 (tgt := 17) rfl (fun h9 => absurd h9 (Int32.not_le.mpr h1)) (fun _ => ?_)
  exact xNew (E := "java/lang/IllegalArgumentException") (names := ["java/lang/RuntimeException", "java/lang/Exception"]) hx hb htr hown (by decide) (by decide) hE w273 w274 (fun U hU => at_V_IAE hU) (hN _ _ hS) (hl.1.trans hml.symm) d_V_cut_9 d_V_cut_12 d_V_cut_13 d_V_cut_16 hno (by decide) (Nat.le_of_ble_eq_true rfl) (Nat.le_of_ble_eq_true rfl) (Nat.le_of_ble_eq_true rfl) hlk (fun t h1 h2 => xEndV hP hD hS t h1 h2) hS.2.2 (Nat.le_of_ble_eq_true rfl) (Nat.le_of_ble_eq_true rfl)
set_option maxHeartbeats 4000000 in
set_option maxRecDepth 100000 in
theorem v_off_1 (l : Launch) (htr : l.stackTraces = false) (D : va_G) (dA : Nat → ClassId) (sz : Nat) (h : Nat) (ad : Nat → Nat) (x : VS) (ho : x.powered = false) : mX l ⟨"SeriesVault", "off", "()V"⟩ [Cond.code ⟨"SeriesVault", "off", "()V"⟩ prog_1_method_12_code 1 none] { frames := 7, cells := 1, slots := 6, locals := 101 } (pC D dA [.ref h] (VW dA h ad x) sz) "java/lang/IllegalStateException" (fun st9 t9 => va_F (va_A (VW dA h ad x) sz) st9 t9 ∧ bW D (va_A (VW dA h ad x) sz) (VW dA h ad x) t9) 1 6 (va_A (VW dA h ad x) sz) := by
  refine mkX (y := ⟨"SeriesVault", "off", "()V"⟩) (cc := prog_1_method_12_code) (maxL := 1) (av := [.ref h]) (ws := VW dA h ad x) (sz := sz) (B := fun A => (fun st9 t9 => va_F A st9 t9 ∧ bW D A (VW dA h ad x) t9)) (by decide) (Nat.le_of_ble_eq_true rfl) ?_
  intro A p e s m below meth c ls hsz hno hB
  obtain ⟨hx, hb, hr, hml, hown, hin, hlk, hE, hK, hP, hD, hS, hA, hN, hl⟩ := hB
  have hown : s.vm.findClass "SeriesVault" = some m.cls := hown
  have hl : lv_has ls 1 [(0, .ref h)] := hl
  obtain ⟨H, hH⟩ : ∃ z, z = s.heap := ⟨_, rfl⟩
  have hP : va_P D vwCl (VW dA h ad x) H := by rw [hH]; exact hP
  have hS : va_S A s.heap H [] := by rw [hH]; exact hS
  rw [← hH]
  refine lv_aload_n hx hb d_V_off_0 rfl (lv_at hl 0 rfl) ?_
  refine xfV (w1 := VW dA h ad x) (As := []) (rest := []) hx hb hml hown hE hK (hN _ _ hS) (v_checkPower_x l htr D dA H.size h ad x ho) (q0 := 0) rfl rfl w278 w276 w279 w280 w277 rfl rfl ⟨⟨by decide, by decide⟩, rfl⟩ ⟨(Nat.le_of_ble_eq_true rfl), (Nat.le_of_ble_eq_true rfl)⟩ rfl hl.1 rfl (Nat.le_of_ble_eq_true rfl) d_V_off_1 ⟨(Nat.le_of_ble_eq_true rfl), (Nat.le_of_ble_eq_true rfl)⟩ hP hD hS hA (fun xa1 ce H locs hP hD hS hce hcv hcl => ?_)
  exact xOut hno hlk hce hcv hcl (fun t ht => xEndV hP hD hS t (by rw [ht]; exact Nat.le_refl _) (fun q _ => by rw [ht])) hS.2.2 (Nat.le_of_ble_eq_true rfl) (Nat.le_of_ble_eq_true rfl)
set_option maxHeartbeats 4000000 in
set_option maxRecDepth 100000 in
theorem v_last_1 (l : Launch) (htr : l.stackTraces = false) (D : va_G) (dA : Nat → ClassId) (sz : Nat) (h : Nat) (ad : Nat → Nat) (x : VS) (n : Int32) (ho : x.powered = false) : mX l ⟨"SeriesVault", "last", "(I)J"⟩ [Cond.code ⟨"SeriesVault", "last", "(I)J"⟩ prog_1_method_27_code 2 (some FieldType.long)] { frames := 7, cells := 1, slots := 6, locals := 101 } (pC D dA [.ref h, .int n] (VW dA h ad x) sz) "java/lang/IllegalStateException" (fun st9 t9 => va_F (va_A (VW dA h ad x) sz) st9 t9 ∧ bW D (va_A (VW dA h ad x) sz) (VW dA h ad x) t9) 1 6 (va_A (VW dA h ad x) sz) := by
  refine mkX (y := ⟨"SeriesVault", "last", "(I)J"⟩) (cc := prog_1_method_27_code) (maxL := 2) (av := [.ref h, .int n]) (ws := VW dA h ad x) (sz := sz) (B := fun A => (fun st9 t9 => va_F A st9 t9 ∧ bW D A (VW dA h ad x) t9)) (by decide) (Nat.le_of_ble_eq_true rfl) ?_
  intro A p e s m below meth c ls hsz hno hB
  obtain ⟨hx, hb, hr, hml, hown, hin, hlk, hE, hK, hP, hD, hS, hA, hN, hl⟩ := hB
  have hown : s.vm.findClass "SeriesVault" = some m.cls := hown
  have hl : lv_has ls 2 [(0, .ref h), (1, .int n)] := hl
  obtain ⟨H, hH⟩ : ∃ z, z = s.heap := ⟨_, rfl⟩
  have hP : va_P D vwCl (VW dA h ad x) H := by rw [hH]; exact hP
  have hS : va_S A s.heap H [] := by rw [hH]; exact hS
  rw [← hH]
  refine lv_aload_n hx hb d_V_last_0 rfl (lv_at hl 0 rfl) ?_
  refine xfV (w1 := VW dA h ad x) (As := []) (rest := []) hx hb hml hown hE hK (hN _ _ hS) (v_checkPower_x l htr D dA H.size h ad x ho) (q0 := 0) rfl rfl w278 w276 w279 w280 w277 rfl rfl ⟨⟨by decide, by decide⟩, rfl⟩ ⟨(Nat.le_of_ble_eq_true rfl), (Nat.le_of_ble_eq_true rfl)⟩ rfl hl.1 rfl (Nat.le_of_ble_eq_true rfl) d_V_last_1 ⟨(Nat.le_of_ble_eq_true rfl), (Nat.le_of_ble_eq_true rfl)⟩ hP hD hS hA (fun xa1 ce H locs hP hD hS hce hcv hcl => ?_)
  exact xOut hno hlk hce hcv hcl (fun t ht => xEndV hP hD hS t (by rw [ht]; exact Nat.le_refl _) (fun q _ => by rw [ht])) hS.2.2 (Nat.le_of_ble_eq_true rfl) (Nat.le_of_ble_eq_true rfl)
set_option maxHeartbeats 4000000 in
set_option maxRecDepth 100000 in
theorem v_last_2 (l : Launch) (htr : l.stackTraces = false) (D : va_G) (dA : Nat → ClassId) (sz : Nat) (h : Nat) (ad : Nat → Nat) (x : VS) (n : Int32) (ho : x.powered = true) (h0 : n < 0 ∨ nI x.nser ≤ n) : mX l ⟨"SeriesVault", "last", "(I)J"⟩ [Cond.code ⟨"SeriesVault", "last", "(I)J"⟩ prog_1_method_27_code 2 (some FieldType.long)] { frames := 7, cells := 1, slots := 6, locals := 102 } (pC D dA [.ref h, .int n] (VW dA h ad x) sz) "java/lang/IndexOutOfBoundsException" (fun st9 t9 => va_F (va_A (VW dA h ad x) sz) st9 t9 ∧ bW D (va_A (VW dA h ad x) sz) (VW dA h ad x) t9) 1 6 (va_A (VW dA h ad x) sz) := by
  refine mkX (y := ⟨"SeriesVault", "last", "(I)J"⟩) (cc := prog_1_method_27_code) (maxL := 2) (av := [.ref h, .int n]) (ws := VW dA h ad x) (sz := sz) (B := fun A => (fun st9 t9 => va_F A st9 t9 ∧ bW D A (VW dA h ad x) t9)) (by decide) (Nat.le_of_ble_eq_true rfl) ?_
  intro A p e s m below meth c ls hsz hno hB
  obtain ⟨hx, hb, hr, hml, hown, hin, hlk, hE, hK, hP, hD, hS, hA, hN, hl⟩ := hB
  have hown : s.vm.findClass "SeriesVault" = some m.cls := hown
  have hl : lv_has ls 2 [(0, .ref h), (1, .int n)] := hl
  obtain ⟨H, hH⟩ : ∃ z, z = s.heap := ⟨_, rfl⟩
  have hP : va_P D vwCl (VW dA h ad x) H := by rw [hH]; exact hP
  have hS : va_S A s.heap H [] := by rw [hH]; exact hS
  rw [← hH]
  refine lv_aload_n hx hb d_V_last_0 rfl (lv_at hl 0 rfl) ?_
  refine jfV (rnV (As := []) (rest := []) hx hb hml hown hE hK (hN _ _ hS) hP hD (v_checkPower l D dA H.size h ad x ho) (q0 := 0) rfl rfl w278 w276 w279 w280 w277 rfl rfl ⟨⟨by decide, by decide⟩, rfl⟩ ⟨(Nat.le_of_ble_eq_true rfl), (Nat.le_of_ble_eq_true rfl)⟩ rfl hl.1 rfl (Nat.le_of_ble_eq_true rfl) d_V_last_1 ⟨(Nat.le_of_ble_eq_true rfl), (Nat.le_of_ble_eq_true rfl)⟩) hP hD hS hA (fun u2 H locs hp9 hP hD hS => ?_)
  have hP : va_P D vwCl (VW dA h ad x) H := hP
  have hD : va_D A (VW dA h ad x) := hD
  refine lv_aload_n hx hb d_V_last_4 rfl (lv_at hl 0 rfl) ?_
  refine lv_iload_n hx hb d_V_last_5 rfl (lv_at hl 1 rfl) ?_
  refine xfV (w1 := VW dA h ad x) (As := [.int n]) (rest := []) hx hb hml hown hE hK (hN _ _ hS) (v_checkSeries_x l htr D dA H.size h ad x n h0) (q0 := 0) rfl rfl w300 w299 w301 w302 w277 rfl rfl ⟨⟨by decide, by decide⟩, rfl⟩ ⟨(Nat.le_of_ble_eq_true rfl), (Nat.le_of_ble_eq_true rfl)⟩ rfl hl.1 rfl (Nat.le_of_ble_eq_true rfl) d_V_last_6 ⟨(Nat.le_of_ble_eq_true rfl), (Nat.le_of_ble_eq_true rfl)⟩ hP hD hS hA (fun xa3 ce H locs hP hD hS hce hcv hcl => ?_)
  exact xOut hno hlk hce hcv hcl (fun t ht => xEndV hP hD hS t (by rw [ht]; exact Nat.le_refl _) (fun q _ => by rw [ht])) hS.2.2 (Nat.le_of_ble_eq_true rfl) (Nat.le_of_ble_eq_true rfl)
set_option maxHeartbeats 4000000 in
set_option maxRecDepth 100000 in
theorem v_writeJournalBlock_x (l : Launch) (htr : l.stackTraces = false) (D : va_G) (dA : Nat → ClassId) (sz : Nat) (h : Nat) (ad : Nat → Nat) (x : VS) (hc2 : x.jch = true) (hc : x.cutLeft = 0) : mX l ⟨"SeriesVault", "writeJournalBlock", "()Z"⟩ [Cond.code ⟨"SeriesVault", "writeJournalBlock", "()Z"⟩ prog_1_method_21_code 1 (some FieldType.boolean)] { frames := 7, cells := 1, slots := 6, locals := 101 } (pC D dA [.ref h] (VW dA h ad x) sz) "java/lang/IllegalStateException" (fun st9 t9 => va_F (va_A (VW dA h ad x) sz) st9 t9 ∧ bW D (va_A (VW dA h ad x) sz) (VW dA h ad (VS.s_cutLeft (VS.s_powered x false) (-1))) t9) 1 6 (va_A (VW dA h ad x) sz) := by
  refine mkX (y := ⟨"SeriesVault", "writeJournalBlock", "()Z"⟩) (cc := prog_1_method_21_code) (maxL := 1) (av := [.ref h]) (ws := VW dA h ad x) (sz := sz) (B := fun A => (fun st9 t9 => va_F A st9 t9 ∧ bW D A (VW dA h ad (VS.s_cutLeft (VS.s_powered x false) (-1))) t9)) (by decide) (Nat.le_of_ble_eq_true rfl) ?_
  intro A p e s m below meth c ls hsz hno hB
  obtain ⟨hx, hb, hr, hml, hown, hin, hlk, hE, hK, hP, hD, hS, hA, hN, hl⟩ := hB
  have hown : s.vm.findClass "SeriesVault" = some m.cls := hown
  have hl : lv_has ls 1 [(0, .ref h)] := hl
  obtain ⟨H, hH⟩ : ∃ z, z = s.heap := ⟨_, rfl⟩
  have hP : va_P D vwCl (VW dA h ad x) H := by rw [hH]; exact hP
  have hS : va_S A s.heap H [] := by rw [hH]; exact hS
  rw [← hH]
  refine lv_aload_n hx hb d_V_writeJournalBlock_0 rfl (lv_at hl 0 rfl) ?_
  refine gF (v := .ref (ad 0)) hx hb hown hE hK hP 0 rfl rfl layV 8 (by decide) w312 rfl d_V_writeJournalBlock_1 ?_
  refine gFN (v := .int (bI x.jch)) hx hb hown hE hK hP 2 rfl rfl layJ 12 (by decide) w313 rfl d_V_writeJournalBlock_4 ?_
  refine lv_if_ne hx hb d_V_writeJournalBlock_7 (tgt := 12) rfl (fun _ => ?_) (fun h9 => absurd h9 (by rw [hc2]; decide))
  refine lv_aload_n hx hb d_V_writeJournalBlock_12 rfl (lv_at hl 0 rfl) ?_
  refine xfV (w1 := VW dA h ad (VS.s_cutLeft (VS.s_powered x false) (-1))) (As := []) (rest := []) hx hb hml hown hE hK (hN _ _ hS) (v_writeBlock_x l htr D dA H.size h ad x hc) (q0 := 0) rfl rfl w737 w736 w738 w739 w277 rfl rfl ⟨⟨by decide, by decide⟩, rfl⟩ ⟨(Nat.le_of_ble_eq_true rfl), (Nat.le_of_ble_eq_true rfl)⟩ rfl hl.1 rfl (Nat.le_of_ble_eq_true rfl) d_V_writeJournalBlock_13 ⟨(Nat.le_of_ble_eq_true rfl), (Nat.le_of_ble_eq_true rfl)⟩ hP hD hS hA (fun xa1 ce H locs hP hD hS hce hcv hcl => ?_)
  exact xOut hno hlk hce hcv hcl (fun t ht => xEndV hP hD hS t (by rw [ht]; exact Nat.le_refl _) (fun q _ => by rw [ht])) hS.2.2 (Nat.le_of_ble_eq_true rfl) (Nat.le_of_ble_eq_true rfl)
set_option maxHeartbeats 4000000 in
set_option maxRecDepth 100000 in
theorem v_sync_x (l : Launch) (htr : l.stackTraces = false) (D : va_G) (dA : Nat → ClassId) (sz : Nat) (h : Nat) (ad : Nat → Nat) (x : VS) (ho : x.powered = false) : mX l ⟨"SeriesVault", "sync", "()Z"⟩ [Cond.code ⟨"SeriesVault", "sync", "()Z"⟩ prog_1_method_22_code 1 (some FieldType.boolean)] { frames := 7, cells := 1, slots := 6, locals := 101 } (pC D dA [.ref h] (VW dA h ad x) sz) "java/lang/IllegalStateException" (fun st9 t9 => va_F (va_A (VW dA h ad x) sz) st9 t9 ∧ bW D (va_A (VW dA h ad x) sz) (VW dA h ad x) t9) 1 6 (va_A (VW dA h ad x) sz) := by
  refine mkX (y := ⟨"SeriesVault", "sync", "()Z"⟩) (cc := prog_1_method_22_code) (maxL := 1) (av := [.ref h]) (ws := VW dA h ad x) (sz := sz) (B := fun A => (fun st9 t9 => va_F A st9 t9 ∧ bW D A (VW dA h ad x) t9)) (by decide) (Nat.le_of_ble_eq_true rfl) ?_
  intro A p e s m below meth c ls hsz hno hB
  obtain ⟨hx, hb, hr, hml, hown, hin, hlk, hE, hK, hP, hD, hS, hA, hN, hl⟩ := hB
  have hown : s.vm.findClass "SeriesVault" = some m.cls := hown
  have hl : lv_has ls 1 [(0, .ref h)] := hl
  obtain ⟨H, hH⟩ : ∃ z, z = s.heap := ⟨_, rfl⟩
  have hP : va_P D vwCl (VW dA h ad x) H := by rw [hH]; exact hP
  have hS : va_S A s.heap H [] := by rw [hH]; exact hS
  rw [← hH]
  refine lv_aload_n hx hb d_V_sync_0 rfl (lv_at hl 0 rfl) ?_
  refine xfV (w1 := VW dA h ad x) (As := []) (rest := []) hx hb hml hown hE hK (hN _ _ hS) (v_checkPower_x l htr D dA H.size h ad x ho) (q0 := 0) rfl rfl w278 w276 w279 w280 w277 rfl rfl ⟨⟨by decide, by decide⟩, rfl⟩ ⟨(Nat.le_of_ble_eq_true rfl), (Nat.le_of_ble_eq_true rfl)⟩ rfl hl.1 rfl (Nat.le_of_ble_eq_true rfl) d_V_sync_1 ⟨(Nat.le_of_ble_eq_true rfl), (Nat.le_of_ble_eq_true rfl)⟩ hP hD hS hA (fun xa1 ce H locs hP hD hS hce hcv hcl => ?_)
  exact xOut hno hlk hce hcv hcl (fun t ht => xEndV hP hD hS t (by rw [ht]; exact Nat.le_refl _) (fun q _ => by rw [ht])) hS.2.2 (Nat.le_of_ble_eq_true rfl) (Nat.le_of_ble_eq_true rfl)
set_option maxHeartbeats 4000000 in
set_option maxRecDepth 100000 in
theorem v_sync_c (l : Launch) (htr : l.stackTraces = false) (D : va_G) (dA : Nat → ClassId) (sz : Nat) (h : Nat) (ad : Nat → Nat) (x : VS) (ho : x.powered = true) (hc2 : x.jch = true) (hc : x.cutLeft = 0) : mX l ⟨"SeriesVault", "sync", "()Z"⟩ [Cond.code ⟨"SeriesVault", "sync", "()Z"⟩ prog_1_method_22_code 1 (some FieldType.boolean)] { frames := 8, cells := 1, slots := 6, locals := 121 } (pC D dA [.ref h] (VW dA h ad x) sz) "java/lang/IllegalStateException" (fun st9 t9 => va_F (va_A (VW dA h ad x) sz) st9 t9 ∧ bW D (va_A (VW dA h ad x) sz) (VW dA h ad (VS.s_cutLeft (VS.s_powered x false) (-1))) t9) 1 6 (va_A (VW dA h ad x) sz) := by
  refine mkX (y := ⟨"SeriesVault", "sync", "()Z"⟩) (cc := prog_1_method_22_code) (maxL := 1) (av := [.ref h]) (ws := VW dA h ad x) (sz := sz) (B := fun A => (fun st9 t9 => va_F A st9 t9 ∧ bW D A (VW dA h ad (VS.s_cutLeft (VS.s_powered x false) (-1))) t9)) (by decide) (Nat.le_of_ble_eq_true rfl) ?_
  intro A p e s m below meth c ls hsz hno hB
  obtain ⟨hx, hb, hr, hml, hown, hin, hlk, hE, hK, hP, hD, hS, hA, hN, hl⟩ := hB
  have hown : s.vm.findClass "SeriesVault" = some m.cls := hown
  have hl : lv_has ls 1 [(0, .ref h)] := hl
  obtain ⟨H, hH⟩ : ∃ z, z = s.heap := ⟨_, rfl⟩
  have hP : va_P D vwCl (VW dA h ad x) H := by rw [hH]; exact hP
  have hS : va_S A s.heap H [] := by rw [hH]; exact hS
  rw [← hH]
  refine lv_aload_n hx hb d_V_sync_0 rfl (lv_at hl 0 rfl) ?_
  refine jfV (rnV (As := []) (rest := []) hx hb hml hown hE hK (hN _ _ hS) hP hD (v_checkPower l D dA H.size h ad x ho) (q0 := 0) rfl rfl w278 w276 w279 w280 w277 rfl rfl ⟨⟨by decide, by decide⟩, rfl⟩ ⟨(Nat.le_of_ble_eq_true rfl), (Nat.le_of_ble_eq_true rfl)⟩ rfl hl.1 rfl (Nat.le_of_ble_eq_true rfl) d_V_sync_1 ⟨(Nat.le_of_ble_eq_true rfl), (Nat.le_of_ble_eq_true rfl)⟩) hP hD hS hA (fun u2 H locs hp9 hP hD hS => ?_)
  have hP : va_P D vwCl (VW dA h ad x) H := hP
  have hD : va_D A (VW dA h ad x) := hD
  refine lv_aload_n hx hb d_V_sync_4 rfl (lv_at hl 0 rfl) ?_
  refine xfV (w1 := VW dA h ad (VS.s_cutLeft (VS.s_powered x false) (-1))) (As := []) (rest := []) hx hb hml hown hE hK (hN _ _ hS) (v_writeJournalBlock_x l htr D dA H.size h ad x hc2 hc) (q0 := 0) rfl rfl w315 w314 w316 w317 w277 rfl rfl ⟨⟨by decide, by decide⟩, rfl⟩ ⟨(Nat.le_of_ble_eq_true rfl), (Nat.le_of_ble_eq_true rfl)⟩ rfl hl.1 rfl (Nat.le_of_ble_eq_true rfl) d_V_sync_5 ⟨(Nat.le_of_ble_eq_true rfl), (Nat.le_of_ble_eq_true rfl)⟩ hP hD hS hA (fun xa3 ce H locs hP hD hS hce hcv hcl => ?_)
  exact xOut hno hlk hce hcv hcl (fun t ht => xEndV hP hD hS t (by rw [ht]; exact Nat.le_refl _) (fun q _ => by rw [ht])) hS.2.2 (Nat.le_of_ble_eq_true rfl) (Nat.le_of_ble_eq_true rfl)
set_option maxHeartbeats 4000000 in
set_option maxRecDepth 100000 in
theorem v_format_x (l : Launch) (htr : l.stackTraces = false) (D : va_G) (dA : Nat → ClassId) (sz : Nat) (h : Nat) (ad : Nat → Nat) (x : VS) (n : Int32) (j : Int32) (h0 : n < 16 ∨ 256 < n ∨ j < 2 ∨ n - 8 < j) : mX l ⟨"SeriesVault", "format", "(II)V"⟩ [Cond.code ⟨"SeriesVault", "format", "(II)V"⟩ prog_1_method_8_code 3 none] { frames := 6, cells := 1, slots := 6, locals := 81 } (pC D dA [.ref h, .int n, .int j] (VW dA h ad x) sz) "java/lang/IllegalArgumentException" (fun st9 t9 => va_F (va_A (VW dA h ad x) sz) st9 t9 ∧ bW D (va_A (VW dA h ad x) sz) (VW dA h ad x) t9) 1 6 (va_A (VW dA h ad x) sz) := by
  refine mkX (y := ⟨"SeriesVault", "format", "(II)V"⟩) (cc := prog_1_method_8_code) (maxL := 3) (av := [.ref h, .int n, .int j]) (ws := VW dA h ad x) (sz := sz) (B := fun A => (fun st9 t9 => va_F A st9 t9 ∧ bW D A (VW dA h ad x) t9)) (by decide) (Nat.le_of_ble_eq_true rfl) ?_
  intro A p e s m below meth c ls hsz hno hB
  obtain ⟨hx, hb, hr, hml, hown, hin, hlk, hE, hK, hP, hD, hS, hA, hN, hl⟩ := hB
  have hown : s.vm.findClass "SeriesVault" = some m.cls := hown
  have hl : lv_has ls 3 [(0, .ref h), (1, .int n), (2, .int j)] := hl
  obtain ⟨H, hH⟩ : ∃ z, z = s.heap := ⟨_, rfl⟩
  have hP : va_P D vwCl (VW dA h ad x) H := by rw [hH]; exact hP
  have hS : va_S A s.heap H [] := by rw [hH]; exact hS
  rw [← hH]
  refine lv_iload_n hx hb d_V_format_0 rfl (lv_at hl 1 rfl) ?_
  refine lv_bipush (v := 16) hx hb d_V_format_1 (by decide) ?_
  refine lv_icmp_lt hx hb d_V_format_3 (tgt := 26) rfl (fun g1 => ?_) (fun g1 => ?_)
  · have g1 := g1
    exact xNew (E := "java/lang/IllegalArgumentException") (names := ["java/lang/RuntimeException", "java/lang/Exception"]) hx hb htr hown (by decide) (by decide) hE w273 w274 (fun U hU => at_V_IAE hU) (hN _ _ hS) (hl.1.trans hml.symm) d_V_format_26 d_V_format_29 d_V_format_30 d_V_format_33 hno (by decide) (Nat.le_of_ble_eq_true rfl) (Nat.le_of_ble_eq_true rfl) (Nat.le_of_ble_eq_true rfl) hlk (fun t h1 h2 => xEndV hP hD hS t h1 h2) hS.2.2 (Nat.le_of_ble_eq_true rfl) (Nat.le_of_ble_eq_true rfl)
  · have g1 := g1
    refine lv_iload_n hx hb d_V_format_6 rfl (lv_at hl 1 rfl) ?_
    refine lv_sipush (v := 256) hx hb d_V_format_7 (by decide) ?_
    refine lv_icmp_gt hx hb d_V_format_10 (tgt := 26) rfl (fun g2 => ?_) (fun g2 => ?_)
    · have g2 := g2
      exact xNew (E := "java/lang/IllegalArgumentException") (names := ["java/lang/RuntimeException", "java/lang/Exception"]) hx hb htr hown (by decide) (by decide) hE w273 w274 (fun U hU => at_V_IAE hU) (hN _ _ hS) (hl.1.trans hml.symm) d_V_format_26 d_V_format_29 d_V_format_30 d_V_format_33 hno (by decide) (Nat.le_of_ble_eq_true rfl) (Nat.le_of_ble_eq_true rfl) (Nat.le_of_ble_eq_true rfl) hlk (fun t h1 h2 => xEndV hP hD hS t h1 h2) hS.2.2 (Nat.le_of_ble_eq_true rfl) (Nat.le_of_ble_eq_true rfl)
    · have g2 := g2
      refine lv_iload_n hx hb d_V_format_13 rfl (lv_at hl 2 rfl) ?_
      refine lv_iconst (v := 2) hx hb d_V_format_14 (by decide) ?_
      refine lv_icmp_lt hx hb d_V_format_15 (tgt := 26) rfl (fun g3 => ?_) (fun g3 => ?_)
      · have g3 := g3
        exact xNew (E := "java/lang/IllegalArgumentException") (names := ["java/lang/RuntimeException", "java/lang/Exception"]) hx hb htr hown (by decide) (by decide) hE w273 w274 (fun U hU => at_V_IAE hU) (hN _ _ hS) (hl.1.trans hml.symm) d_V_format_26 d_V_format_29 d_V_format_30 d_V_format_33 hno (by decide) (Nat.le_of_ble_eq_true rfl) (Nat.le_of_ble_eq_true rfl) (Nat.le_of_ble_eq_true rfl) hlk (fun t h1 h2 => xEndV hP hD hS t h1 h2) hS.2.2 (Nat.le_of_ble_eq_true rfl) (Nat.le_of_ble_eq_true rfl)
      · have g3 := g3
        refine lv_iload_n hx hb d_V_format_18 rfl (lv_at hl 2 rfl) ?_
        refine lv_iload_n hx hb d_V_format_19 rfl (lv_at hl 1 rfl) ?_
        refine lv_bipush (v := 8) hx hb d_V_format_20 (by decide) ?_
        refine lv_isub hx hb d_V_format_22 ?_
        refine lv_icmp_le hx hb d_V_format_23 (tgt := 34) rfl (fun h9 => absurd h9 (Int32.not_le.mpr (((h0.resolve_left g1).resolve_left g2).resolve_left g3))) (fun _ => ?_)
        exact xNew (E := "java/lang/IllegalArgumentException") (names := ["java/lang/RuntimeException", "java/lang/Exception"]) hx hb htr hown (by decide) (by decide) hE w273 w274 (fun U hU => at_V_IAE hU) (hN _ _ hS) (hl.1.trans hml.symm) d_V_format_26 d_V_format_29 d_V_format_30 d_V_format_33 hno (by decide) (Nat.le_of_ble_eq_true rfl) (Nat.le_of_ble_eq_true rfl) (Nat.le_of_ble_eq_true rfl) hlk (fun t h1 h2 => xEndV hP hD hS t h1 h2) hS.2.2 (Nat.le_of_ble_eq_true rfl) (Nat.le_of_ble_eq_true rfl)
end
section
theorem frP {D : va_G} {cl : List vw_C} {ws : va_W} {q : Nat × va_E} {H : Heap} (h : va_P D cl (ws ++ [q]) H) : va_P D cl (q :: ws) H := by
  intro k z hk
  have hm := List.mem_of_getElem? hk
  have h2 : z ∈ ws ++ [q] := by
    rcases List.mem_cons.mp hm with e | e
    · rw [e]
      exact List.mem_append_right _ (List.mem_singleton.mpr rfl)
    · exact List.mem_append_left _ e
  obtain ⟨i, hi⟩ := List.getElem?_of_mem h2
  exact h i z hi
theorem frD {A : Nat → Prop} {ws : va_W} {q : Nat × va_E} (h : va_D A (ws ++ [q])) : va_D A (q :: ws) := by
  have key : ∀ (k : Nat) (z : Nat × va_E), (q :: ws)[k]? = some z → (ws ++ [q])[if k = 0 then ws.length else k - 1]? = some z := by
    intro k z hk
    cases k with
    | zero =>
      rw [if_pos rfl, List.getElem?_append_right (Nat.le_refl _), Nat.sub_self]
      exact hk
    | succ k =>
      rw [if_neg (Nat.succ_ne_zero k)]
      have hk : ws[k]? = some z := hk
      rw [show k + 1 - 1 = k from rfl, List.getElem?_append_left (List.getElem?_eq_some_iff.mp hk).1]
      exact hk
  refine ⟨fun i j a b hi hj e => ?_, fun k z hk => h.2 _ z (key k z hk)⟩
  have e1 := h.1 _ _ a b (key i a hi) (key j b hj) e
  have l1 : ∀ k z, (q :: ws)[k]? = some z → k < ws.length + 1 := fun k z hz => by
    have := (List.getElem?_eq_some_iff.mp hz).1
    simpa using this
  have b1 := l1 i a hi
  have b2 := l1 j b hj
  split at e1 <;> split at e1 <;> omega
/-- the first cell put into the place of another -/
theorem swP {D : va_G} {cl : List vw_C} {ws : va_W} {q : Nat × va_E} {H : Heap} (i : Nat) (h : va_P D cl (q :: ws) H) : va_P D cl (ws.set i q) H := by
  intro k z hk
  rw [List.getElem?_set] at hk
  by_cases e : i = k
  · rw [if_pos e] at hk
    split at hk
    · exact h 0 z hk
    · cases hk
  · rw [if_neg e] at hk
    exact h (k + 1) z hk
theorem swD {A : Nat → Prop} {ws : va_W} {q : Nat × va_E} (i : Nat) (h : va_D A (q :: ws)) : va_D A (ws.set i q) := by
  have key : ∀ (k : Nat) (z : Nat × va_E), (ws.set i q)[k]? = some z → (q :: ws)[if k = i then 0 else k + 1]? = some z := by
    intro k z hk
    rw [List.getElem?_set] at hk
    by_cases e : i = k
    · rw [if_pos e] at hk
      rw [if_pos e.symm]
      split at hk
      · exact hk
      · cases hk
    · rw [if_neg e] at hk
      rw [if_neg (fun z => e z.symm)]
      exact hk
  refine ⟨fun a b y z ha hb e => ?_, fun k z hk => h.2 _ z (key k z hk)⟩
  have e1 := h.1 _ _ y z (key a y ha) (key b z hb) e
  split at e1 <;> split at e1 <;> omega
section FR
variable {p : Program} {l : Launch} {e : Env} {R : Room} {s : State} {m : MethodId} {args : Array Value} {below : List Frame} {meth : Method} {c : Code} {H : Heap} {locs : List Loc} {cells slots : Nat} {Q : State → Prop}
variable {D : va_G} {dA : Nat → ClassId} {A : Nat → Prop} {cc : ByteArray} {pc : Nat} {ls : Array Slot} {rest st0 : List Value} {ws : va_W} {a : Nat}
theorem jfR {mc ms : Nat} {S : Type} {post : S → Prop} {w1 : S → Nat → va_W} {a : Array Value} (hr : va_Run p l e R s m args below meth c H locs cells slots mc ms (F0 m pc ls st0) rest (va_Qr post (fun u ra t => bW D (va_A ws H.size) (w1 u ra) t) (va_A ws H.size) a) (va_A ws H.size))
    (hP : va_P D vwCl ws H) (hD : va_D A ws) (hS : va_S A s.heap H locs) (hA : ∀ q, s.heap.size ≤ q → A q)
    (kk : ∀ (u : S) (ra : Nat) (H1 : Heap) (locs1 : List Loc), post u → va_P D vwCl (w1 u ra) H1 → va_D A (w1 u ra) → va_S A s.heap H1 locs1 → W p l e R s m args below meth c H1 locs1 (cells + mc) (slots + ms) Q (F0 m (pc + 3) ls (.ref ra :: rest))) : W p l e R s m args below meth c H locs cells slots Q (F0 m pc ls st0) :=
  jnR hr hP hD hS hA (List.range ws.length) [] (wr := []) (rg_map ws) rfl rfl (fun _ h => nomatch h) kk
theorem rfR {S : Type} {post : S → Prop} {w1 : S → Nat → va_W} {mc ms : Nat} {rt : FieldType} {x : Nat} (hx : p.tables.exec = Jvm.exec) (hb : c.code = cc) (hr : meth.sig.returnType = some rt) (hrt : (∃ n, rt = .object n) ∨ ∃ t, rt = .array t) (hlk : meth.locks = false) (hS : va_S A s.heap H locs) (u : S) (hp : post u) (hP : va_P D vwCl (w1 u x) H) (hD : va_D A (w1 u x)) (hc : cells ≤ mc) (hsl : slots ≤ ms) (hdg : decode cc pc = .ok (.areturn, 1)) :
    W p l e R s m args below meth c H locs cells slots (MQ below (va_Qr post (fun u ra t => bW D A (w1 u ra) t) A) args s mc ms A) (F0 m pc ls [.ref x]) :=
  rtR hx hb hr hrt hlk hP hD hS u hp (List.range (w1 u x).length) (fm_range _) (rg_map _) (nd_of List.nodup_range) hc hsl hdg
theorem nnA (hexec : p.tables.exec = Jvm.exec) (hb : c.code = cc) {atype : ArrayType} (hE : eV s) {ty : FieldType} (hty : newarray.typeOf atype = ty) (harr : Cond.arrayClass ty ∈ aW) (hK : va_K D vwCl (arT dA) s) (hP : va_P D vwCl ws H) (hD : va_D A ws) (hS : va_S A s.heap H locs) (hA : ∀ q, s.heap.size ≤ q → A q)
    (t0 : Nat) {cA0 : ClassId} (ht0 : (arT dA)[t0]? = some (cA0, ty)) {N' : Nat} {a0 : vp_A} (ha : ∀ cA : ClassId, vp_cell cA a0 = arrV cA N' (fun _ => defaultValue ty)) (hn : N' < 2 ^ 31) (hbytes : N' * componentBytes ty ≤ 536870912) (hcells : cells + 1 ≤ R.cells) (hslots : slots + N' ≤ R.slots) (hdg : decode cc pc = .ok (.newarray atype, 2))
    (kk : ∀ (q : Nat) (H1 : Heap), va_P D vwCl ((q, .inl (cA0, a0)) :: ws) H1 → va_D A ((q, .inl (cA0, a0)) :: ws) → va_S A s.heap H1 locs → W p l e R s m args below meth c H1 locs (cells + 1) (slots + N') Q (F0 m (pc + 2) ls (.ref q :: rest))) : W p l e R s m args below meth c H locs cells slots Q (F0 m pc ls (.int (nI N') :: rest)) :=
  nwA hexec hb hE hty harr hK hP hD hS hA t0 ht0 ha (nI_pos hn) (nI_clamp hn) hbytes hcells hslots hdg (fun q H1 g1 g2 g3 => kk q H1 (frP g1) (frD g2) g3)
theorem ncpyi (hexec : p.tables.exec = Jvm.exec) (hb : c.code = cc) (hml : c.maxLocals = ls.size) {own : String} {index : Nat} (hown : s.vm.findClass own = some m.cls) (hlink : (Cond.methodLink own index arraycopyName).before args s = true) (hnat : (Cond.native arraycopyName).before args s = true) (hstat : (Cond.static arraycopyName).before args s = true) (hini : (Cond.initialized "java/lang/System").before args s = true)
    (hK : va_K D vwCl (arT dA) s) (hP : va_P D vwCl ws H) (hD : va_D A ws) (hS : va_S A s.heap H locs) (q0 q1 t0 : Nat) {a0 : Nat} {c0 : ClassId} {n0 n1 : Nat} {f g : Nat → Int32} {ty : FieldType} (ha0 : ws[q0]? = some (a0, .inl (c0, n0, .inl f))) (ha1 : ws[q1]? = some (a, .inl (c0, n1, .inl g))) (ht0 : (arT dA)[t0]? = some (c0, ty)) (hprim : refKind ty = false)
    (sp dp n : Nat) (h1 : sp < 2 ^ 31) (h2 : dp < 2 ^ 31) (h3 : n < 2 ^ 31) (h4 : sp + n ≤ n0) (h5 : dp + n ≤ n1) (hfit : ∀ i, i < n → fits ty (.int (f (sp + i))) = true)
    (hframes : 1 ≤ R.frames) (hlocals : (rest.map fun v => v.category).sum + (nativeFrameWords "java/lang/System" "arraycopy" 5 + 11) ≤ R.locals) (hdg : decode cc pc = .ok (.invokestatic index, 3))
    (kk : ∀ (H1 : Heap) (locs1 : List Loc), va_P D vwCl (ws.set q1 (a, .inl (c0, n1, .inl (va_cpy f g sp dp n)))) H1 → va_D A (ws.set q1 (a, .inl (c0, n1, .inl (va_cpy f g sp dp n)))) → va_S A s.heap H1 locs1 → W p l e R s m args below meth c H1 locs1 cells slots Q (F0 m (pc + 3) ls rest)) : W p l e R s m args below meth c H locs cells slots Q (F0 m pc ls (.int (nI n) :: .int (nI dp) :: .ref a :: .int (nI sp) :: .ref a0 :: rest)) := by
  refine va_copyi hexec hb hml hown hlink hnat hstat hini hK hP hD hS q0 q1 t0 t0 ha0 ha1 ht0 ht0 hprim (nI_pos h1) (nI_pos h2) (nI_pos h3) ?_ ?_ ?_ hframes hlocals hdg ?_
  · rw [nI_clamp h1, nI_clamp h3]; exact h4
  · rw [nI_clamp h2, nI_clamp h3]; exact h5
  · rw [nI_clamp h1, nI_clamp h3]; exact hfit
  · rw [nI_clamp h1, nI_clamp h2, nI_clamp h3]; exact kk
theorem ncpyl (hexec : p.tables.exec = Jvm.exec) (hb : c.code = cc) (hml : c.maxLocals = ls.size) {own : String} {index : Nat} (hown : s.vm.findClass own = some m.cls) (hlink : (Cond.methodLink own index arraycopyName).before args s = true) (hnat : (Cond.native arraycopyName).before args s = true) (hstat : (Cond.static arraycopyName).before args s = true) (hini : (Cond.initialized "java/lang/System").before args s = true)
    (hK : va_K D vwCl (arT dA) s) (hP : va_P D vwCl ws H) (hD : va_D A ws) (hS : va_S A s.heap H locs) (q0 q1 t0 : Nat) {a0 : Nat} {c0 : ClassId} {n0 n1 : Nat} {f g : Nat → Int64} {ty : FieldType} (ha0 : ws[q0]? = some (a0, .inl (c0, n0, .inr (.inl f)))) (ha1 : ws[q1]? = some (a, .inl (c0, n1, .inr (.inl g)))) (ht0 : (arT dA)[t0]? = some (c0, ty)) (hprim : refKind ty = false)
    (sp dp n : Nat) (h1 : sp < 2 ^ 31) (h2 : dp < 2 ^ 31) (h3 : n < 2 ^ 31) (h4 : sp + n ≤ n0) (h5 : dp + n ≤ n1) (hfit : ∀ i, i < n → fits ty (.long (f (sp + i))) = true)
    (hframes : 1 ≤ R.frames) (hlocals : (rest.map fun v => v.category).sum + (nativeFrameWords "java/lang/System" "arraycopy" 5 + 11) ≤ R.locals) (hdg : decode cc pc = .ok (.invokestatic index, 3))
    (kk : ∀ (H1 : Heap) (locs1 : List Loc), va_P D vwCl (ws.set q1 (a, .inl (c0, n1, .inr (.inl (va_cpy f g sp dp n))))) H1 → va_D A (ws.set q1 (a, .inl (c0, n1, .inr (.inl (va_cpy f g sp dp n))))) → va_S A s.heap H1 locs1 → W p l e R s m args below meth c H1 locs1 cells slots Q (F0 m (pc + 3) ls rest)) : W p l e R s m args below meth c H locs cells slots Q (F0 m pc ls (.int (nI n) :: .int (nI dp) :: .ref a :: .int (nI sp) :: .ref a0 :: rest)) := by
  refine va_copyl hexec hb hml hown hlink hnat hstat hini hK hP hD hS q0 q1 t0 t0 ha0 ha1 ht0 ht0 hprim (nI_pos h1) (nI_pos h2) (nI_pos h3) ?_ ?_ ?_ hframes hlocals hdg ?_
  · rw [nI_clamp h1, nI_clamp h3]; exact h4
  · rw [nI_clamp h2, nI_clamp h3]; exact h5
  · rw [nI_clamp h1, nI_clamp h3]; exact hfit
  · rw [nI_clamp h1, nI_clamp h2, nI_clamp h3]; exact kk
theorem cpyNI (f g : Nat → Nat) (sp dp n : Nat) : va_cpy (fun k => nI (f k)) (fun k => nI (g k)) sp dp n = fun k => nI (va_cpy f g sp dp n k) := by
  funext k
  unfold va_cpy
  split <;> rfl
end FR
theorem byte_fit {f : Nat → Int32} (h : byteF f) (q : Nat) : fits .byte (.int (f q)) = true := by
  have h1 := byteF_r h q
  show (decide (-128 ≤ f q) && decide (f q ≤ 127)) = true
  have e1 : (-128 : Int32).toInt = -128 := by decide
  have e2 : (127 : Int32).toInt = 127 := by decide
  rw [decide_eq_true (Int32.le_iff_toInt_le.mpr (by rw [e1]; exact h1.1)), decide_eq_true (Int32.le_iff_toInt_le.mpr (by rw [e2]; exact h1.2))]
  rfl
end
section
theorem d_Arrays_copyOf_317_0 : decode prog_38_method_123_code 0 = .ok (.iload_n 1, 1) := by decide +kernel
theorem d_Arrays_copyOf_317_1 : decode prog_38_method_123_code 1 = .ok (.aload_n 0, 1) := by decide +kernel
theorem d_Arrays_copyOf_317_2 : decode prog_38_method_123_code 2 = .ok (.arraylength, 1) := by decide +kernel
theorem d_Arrays_copyOf_317_3 : decode prog_38_method_123_code 3 = .ok (.if_icmp .ne 11, 3) := by decide +kernel
theorem d_Arrays_copyOf_317_14 : decode prog_38_method_123_code 14 = .ok (.iload_n 1, 1) := by decide +kernel
theorem d_Arrays_copyOf_317_15 : decode prog_38_method_123_code 15 = .ok (.newarray .int, 2) := by decide +kernel
theorem d_Arrays_copyOf_317_17 : decode prog_38_method_123_code 17 = .ok (.astore_n 2, 1) := by decide +kernel
theorem d_Arrays_copyOf_317_18 : decode prog_38_method_123_code 18 = .ok (.aload_n 0, 1) := by decide +kernel
theorem d_Arrays_copyOf_317_19 : decode prog_38_method_123_code 19 = .ok (.iconst 0, 1) := by decide +kernel
theorem d_Arrays_copyOf_317_20 : decode prog_38_method_123_code 20 = .ok (.aload_n 2, 1) := by decide +kernel
theorem d_Arrays_copyOf_317_21 : decode prog_38_method_123_code 21 = .ok (.iconst 0, 1) := by decide +kernel
theorem d_Arrays_copyOf_317_22 : decode prog_38_method_123_code 22 = .ok (.aload_n 0, 1) := by decide +kernel
theorem d_Arrays_copyOf_317_23 : decode prog_38_method_123_code 23 = .ok (.arraylength, 1) := by decide +kernel
theorem d_Arrays_copyOf_317_24 : decode prog_38_method_123_code 24 = .ok (.iload_n 1, 1) := by decide +kernel
theorem d_Arrays_copyOf_317_25 : decode prog_38_method_123_code 25 = .ok (.invokestatic 304, 3) := by decide +kernel
theorem d_Arrays_copyOf_317_28 : decode prog_38_method_123_code 28 = .ok (.invokestatic 150, 3) := by decide +kernel
theorem d_Arrays_copyOf_317_31 : decode prog_38_method_123_code 31 = .ok (.aload_n 2, 1) := by decide +kernel
theorem d_Arrays_copyOf_317_32 : decode prog_38_method_123_code 32 = .ok (.areturn, 1) := by decide +kernel
theorem w1109 : Cond.methodLink "java/util/Arrays" 304 ⟨"java/lang/Math", "min", "(II)I"⟩ ∈ aW := aw_of (tb_2 (List.mem_of_getElem? (i := 141) rfl)) rfl
theorem w1110 : Cond.methodLink "java/util/Arrays" 150 ⟨"java/lang/System", "arraycopy", "(Ljava/lang/Object;ILjava/lang/Object;II)V"⟩ ∈ aW := aw_of (tb_2 (List.mem_of_getElem? (i := 144) rfl)) rfl
set_option maxHeartbeats 4000000 in
set_option maxRecDepth 100000 in
theorem v_copyOfI (l : Launch) (D : va_G) (dA : Nat → ClassId) (sz : Nat) (ws : va_W) (i : Nat) (a : Nat) (n : Nat) (f : Nat → Nat) (k : Nat) (hsrc : ws[i]? = some (a, .inl (dA 1, n, .inl (fun k => nI (f k))))) (h1 : n < k) (h2 : k ≤ 131072) : Met l ⟨"java/util/Arrays", "copyOf", "([II)[I"⟩ [Cond.code ⟨"java/util/Arrays", "copyOf", "([II)[I"⟩ prog_38_method_123_code 3 (some (FieldType.array FieldType.int))] { frames := 1, cells := 1, slots := k, locals := 40 } (pC D dA [.ref a, .int (nI k)] ws sz) (va_Qr (fun (u9 : Unit) => True) (fun (u9 : Unit) (r9 : Nat) t9 => bW D (va_A ws sz) ((r9, .inl (dA 1, k, .inl (fun z9 => nI ((va_cpy f (fun _ => 0) 0 0 (min n k)) z9)))) :: ws) t9) (va_A ws sz)) 1 k (va_A ws sz) := by
  refine mkC (y := ⟨"java/util/Arrays", "copyOf", "([II)[I"⟩) (cc := prog_38_method_123_code) (maxL := 3) (av := [.ref a, .int (nI k)]) (ws := ws) (sz := sz) (Qc := fun A => va_Qr (fun (u9 : Unit) => True) (fun (u9 : Unit) (r9 : Nat) t9 => bW D A ((r9, .inl (dA 1, k, .inl (fun z9 => nI ((va_cpy f (fun _ => 0) 0 0 (min n k)) z9)))) :: ws) t9) A) (by decide) (Nat.le_of_ble_eq_true rfl) ?_
  intro A p e s m below meth c ls hsz hB
  obtain ⟨hx, hb, hr, hml, hown, hin, hlk, hE, hK, hP, hD, hS, hA, hN, hl⟩ := hB
  have hown : s.vm.findClass "java/util/Arrays" = some m.cls := hown
  have hl : lv_has ls 3 [(0, .ref a), (1, .int (nI k))] := hl
  obtain ⟨H, hH⟩ : ∃ z, z = s.heap := ⟨_, rfl⟩
  have hP : va_P D vwCl ws H := by rw [hH]; exact hP
  have hS : va_S A s.heap H [] := by rw [hH]; exact hS
  rw [← hH]
  refine lv_iload_n hx hb d_Arrays_copyOf_317_0 rfl (lv_at hl 1 rfl) ?_
  refine lv_aload_n hx hb d_Arrays_copyOf_317_1 rfl (lv_at hl 0 rfl) ?_
  refine va_alen (v := nI n) hx hb hK hP (i) 1 hsrc rfl rfl d_Arrays_copyOf_317_2 ?_
  refine lv_icmp_ne hx hb d_Arrays_copyOf_317_3 (tgt := 14) rfl (fun g1 => ?_) (fun g1 => ?_)
  rotate_left
  · have g1 := (nI_eq (a := k) (b := n) (by omega) (by omega)).mp g1; exfalso; omega
  have g1 := mt (nI_eq (a := k) (b := n) (by omega) (by omega)).mpr g1
  refine lv_iload_n hx hb d_Arrays_copyOf_317_14 rfl (lv_at hl 1 rfl) ?_
  refine nnA (atype := .int) (ty := .int) (N' := k) (a0 := (k, .inl (fun z9 => nI ((fun _ => 0) z9)))) hx hb hE rfl w184 hK hP hD hS hA 1 rfl (fun _ => rfl) (by omega) (show k * 4 ≤ 536870912 by omega) (show 0 + 1 ≤ 1 by omega) (show 0 + k ≤ k by omega) d_Arrays_copyOf_317_15 (fun q2 H hP hD hS => ?_)
  have hP : va_P D vwCl ([(q2, .inl (dA 1, k, .inl (fun z9 => nI ((fun _ => 0) z9))))] ++ ws) H := hP
  have hD : va_D A ([(q2, .inl (dA 1, k, .inl (fun z9 => nI ((fun _ => 0) z9))))] ++ ws) := hD
  refine lv_astore_n hx hb d_Arrays_copyOf_317_17 rfl hl (by decide) rfl (fun ls hl => ?_)
  have hl : lv_has ls 3 [(2, .ref q2), (0, .ref a), (1, .int (nI k))] := hl
  refine lv_aload_n hx hb d_Arrays_copyOf_317_18 rfl (lv_at hl 1 rfl) ?_
  refine lv_iconst (v := 0) hx hb d_Arrays_copyOf_317_19 (by decide) ?_
  refine lv_aload_n hx hb d_Arrays_copyOf_317_20 rfl (lv_at hl 0 rfl) ?_
  refine lv_iconst (v := 0) hx hb d_Arrays_copyOf_317_21 (by decide) ?_
  refine lv_aload_n hx hb d_Arrays_copyOf_317_22 rfl (lv_at hl 1 rfl) ?_
  refine va_alen (v := nI n) hx hb hK hP (i + 1) 1 hsrc rfl rfl d_Arrays_copyOf_317_23 ?_
  refine lv_iload_n hx hb d_Arrays_copyOf_317_24 rfl (lv_at hl 2 rfl) ?_
  refine va_mmin hx hb (hml.trans hl.1.symm) hown (hE.t w1109 rfl) (hE.t w548 rfl) (hE.t w549 rfl) (hE.t w550 rfl) (Nat.le_of_ble_eq_true rfl) (Nat.le_of_ble_eq_true rfl) (show 0 + 1 ≤ 1 by omega) (show 0 + k ≤ k by omega) d_Arrays_copyOf_317_25 (tpi (y := nI (min n k)) (nI_min (a := n) (b := k) (by omega) (by omega)) ?_)
  refine ncpyi (f := (fun z9 => nI (f z9))) (g := (fun z9 => nI ((fun _ => 0) z9))) (n0 := n) (n1 := k) hx hb (hml.trans hl.1.symm) hown (hE.t w1110 rfl) (hE.t w720 rfl) (hE.t w721 rfl) (hE.t w722 rfl) hK hP hD hS (i + 1) (0) 1 hsrc rfl rfl rfl (0) (0) (min n k) (by omega) (by omega) (by omega) (by omega) (by omega) (fun _ _ => rfl) (Nat.le_of_ble_eq_true rfl) (Nat.le_of_ble_eq_true rfl) d_Arrays_copyOf_317_28 (fun H locs hP hD hS => ?_)
  rw [cpyNI] at hP hD
  have hP : va_P D vwCl ([(q2, .inl (dA 1, k, .inl (fun z9 => nI ((va_cpy f (fun _ => 0) 0 0 (min n k)) z9))))] ++ ws) H := hP
  have hD : va_D A ([(q2, .inl (dA 1, k, .inl (fun z9 => nI ((va_cpy f (fun _ => 0) 0 0 (min n k)) z9))))] ++ ws) := hD
  refine lv_aload_n hx hb d_Arrays_copyOf_317_31 rfl (lv_at hl 0 rfl) ?_
  exact rfR hx hb hr (Or.inr ⟨_, rfl⟩) hlk hS () trivial hP hD (show 0 + 1 ≤ 1 by omega) (show 0 + k ≤ k by omega) d_Arrays_copyOf_317_32
theorem d_Arrays_copyOf_32d_0 : decode prog_38_method_124_code 0 = .ok (.iload_n 1, 1) := by decide +kernel
theorem d_Arrays_copyOf_32d_1 : decode prog_38_method_124_code 1 = .ok (.aload_n 0, 1) := by decide +kernel
theorem d_Arrays_copyOf_32d_2 : decode prog_38_method_124_code 2 = .ok (.arraylength, 1) := by decide +kernel
theorem d_Arrays_copyOf_32d_3 : decode prog_38_method_124_code 3 = .ok (.if_icmp .ne 11, 3) := by decide +kernel
theorem d_Arrays_copyOf_32d_14 : decode prog_38_method_124_code 14 = .ok (.iload_n 1, 1) := by decide +kernel
theorem d_Arrays_copyOf_32d_15 : decode prog_38_method_124_code 15 = .ok (.newarray .long, 2) := by decide +kernel
theorem d_Arrays_copyOf_32d_17 : decode prog_38_method_124_code 17 = .ok (.astore_n 2, 1) := by decide +kernel
theorem d_Arrays_copyOf_32d_18 : decode prog_38_method_124_code 18 = .ok (.aload_n 0, 1) := by decide +kernel
theorem d_Arrays_copyOf_32d_19 : decode prog_38_method_124_code 19 = .ok (.iconst 0, 1) := by decide +kernel
theorem d_Arrays_copyOf_32d_20 : decode prog_38_method_124_code 20 = .ok (.aload_n 2, 1) := by decide +kernel
theorem d_Arrays_copyOf_32d_21 : decode prog_38_method_124_code 21 = .ok (.iconst 0, 1) := by decide +kernel
theorem d_Arrays_copyOf_32d_22 : decode prog_38_method_124_code 22 = .ok (.aload_n 0, 1) := by decide +kernel
theorem d_Arrays_copyOf_32d_23 : decode prog_38_method_124_code 23 = .ok (.arraylength, 1) := by decide +kernel
theorem d_Arrays_copyOf_32d_24 : decode prog_38_method_124_code 24 = .ok (.iload_n 1, 1) := by decide +kernel
theorem d_Arrays_copyOf_32d_25 : decode prog_38_method_124_code 25 = .ok (.invokestatic 304, 3) := by decide +kernel
theorem d_Arrays_copyOf_32d_28 : decode prog_38_method_124_code 28 = .ok (.invokestatic 150, 3) := by decide +kernel
theorem d_Arrays_copyOf_32d_31 : decode prog_38_method_124_code 31 = .ok (.aload_n 2, 1) := by decide +kernel
theorem d_Arrays_copyOf_32d_32 : decode prog_38_method_124_code 32 = .ok (.areturn, 1) := by decide +kernel
set_option maxHeartbeats 4000000 in
set_option maxRecDepth 100000 in
theorem v_copyOfJ (l : Launch) (D : va_G) (dA : Nat → ClassId) (sz : Nat) (ws : va_W) (i : Nat) (a : Nat) (n : Nat) (f : Nat → Int64) (k : Nat) (hsrc : ws[i]? = some (a, .inl (dA 2, n, .inr (.inl f)))) (h1 : n < k) (h2 : k ≤ 131072) : Met l ⟨"java/util/Arrays", "copyOf", "([JI)[J"⟩ [Cond.code ⟨"java/util/Arrays", "copyOf", "([JI)[J"⟩ prog_38_method_124_code 3 (some (FieldType.array FieldType.long))] { frames := 1, cells := 1, slots := k, locals := 40 } (pC D dA [.ref a, .int (nI k)] ws sz) (va_Qr (fun (u9 : Unit) => True) (fun (u9 : Unit) (r9 : Nat) t9 => bW D (va_A ws sz) ((r9, .inl (dA 2, k, .inr (.inl (va_cpy f (fun _ => 0) 0 0 (min n k))))) :: ws) t9) (va_A ws sz)) 1 k (va_A ws sz) := by
  refine mkC (y := ⟨"java/util/Arrays", "copyOf", "([JI)[J"⟩) (cc := prog_38_method_124_code) (maxL := 3) (av := [.ref a, .int (nI k)]) (ws := ws) (sz := sz) (Qc := fun A => va_Qr (fun (u9 : Unit) => True) (fun (u9 : Unit) (r9 : Nat) t9 => bW D A ((r9, .inl (dA 2, k, .inr (.inl (va_cpy f (fun _ => 0) 0 0 (min n k))))) :: ws) t9) A) (by decide) (Nat.le_of_ble_eq_true rfl) ?_
  intro A p e s m below meth c ls hsz hB
  obtain ⟨hx, hb, hr, hml, hown, hin, hlk, hE, hK, hP, hD, hS, hA, hN, hl⟩ := hB
  have hown : s.vm.findClass "java/util/Arrays" = some m.cls := hown
  have hl : lv_has ls 3 [(0, .ref a), (1, .int (nI k))] := hl
  obtain ⟨H, hH⟩ : ∃ z, z = s.heap := ⟨_, rfl⟩
  have hP : va_P D vwCl ws H := by rw [hH]; exact hP
  have hS : va_S A s.heap H [] := by rw [hH]; exact hS
  rw [← hH]
  refine lv_iload_n hx hb d_Arrays_copyOf_32d_0 rfl (lv_at hl 1 rfl) ?_
  refine lv_aload_n hx hb d_Arrays_copyOf_32d_1 rfl (lv_at hl 0 rfl) ?_
  refine va_alen (v := nI n) hx hb hK hP (i) 2 hsrc rfl rfl d_Arrays_copyOf_32d_2 ?_
  refine lv_icmp_ne hx hb d_Arrays_copyOf_32d_3 (tgt := 14) rfl (fun g1 => ?_) (fun g1 => ?_)
  rotate_left
  · have g1 := (nI_eq (a := k) (b := n) (by omega) (by omega)).mp g1; exfalso; omega
  have g1 := mt (nI_eq (a := k) (b := n) (by omega) (by omega)).mpr g1
  refine lv_iload_n hx hb d_Arrays_copyOf_32d_14 rfl (lv_at hl 1 rfl) ?_
  refine nnA (atype := .long) (ty := .long) (N' := k) (a0 := (k, .inr (.inl (fun _ => 0)))) hx hb hE rfl w186 hK hP hD hS hA 2 rfl (fun _ => rfl) (by omega) (show k * 8 ≤ 536870912 by omega) (show 0 + 1 ≤ 1 by omega) (show 0 + k ≤ k by omega) d_Arrays_copyOf_32d_15 (fun q2 H hP hD hS => ?_)
  have hP : va_P D vwCl ([(q2, .inl (dA 2, k, .inr (.inl (fun _ => 0))))] ++ ws) H := hP
  have hD : va_D A ([(q2, .inl (dA 2, k, .inr (.inl (fun _ => 0))))] ++ ws) := hD
  refine lv_astore_n hx hb d_Arrays_copyOf_32d_17 rfl hl (by decide) rfl (fun ls hl => ?_)
  have hl : lv_has ls 3 [(2, .ref q2), (0, .ref a), (1, .int (nI k))] := hl
  refine lv_aload_n hx hb d_Arrays_copyOf_32d_18 rfl (lv_at hl 1 rfl) ?_
  refine lv_iconst (v := 0) hx hb d_Arrays_copyOf_32d_19 (by decide) ?_
  refine lv_aload_n hx hb d_Arrays_copyOf_32d_20 rfl (lv_at hl 0 rfl) ?_
  refine lv_iconst (v := 0) hx hb d_Arrays_copyOf_32d_21 (by decide) ?_
  refine lv_aload_n hx hb d_Arrays_copyOf_32d_22 rfl (lv_at hl 1 rfl) ?_
  refine va_alen (v := nI n) hx hb hK hP (i + 1) 2 hsrc rfl rfl d_Arrays_copyOf_32d_23 ?_
  refine lv_iload_n hx hb d_Arrays_copyOf_32d_24 rfl (lv_at hl 2 rfl) ?_
  refine va_mmin hx hb (hml.trans hl.1.symm) hown (hE.t w1109 rfl) (hE.t w548 rfl) (hE.t w549 rfl) (hE.t w550 rfl) (Nat.le_of_ble_eq_true rfl) (Nat.le_of_ble_eq_true rfl) (show 0 + 1 ≤ 1 by omega) (show 0 + k ≤ k by omega) d_Arrays_copyOf_32d_25 (tpi (y := nI (min n k)) (nI_min (a := n) (b := k) (by omega) (by omega)) ?_)
  refine ncpyl (f := f) (g := fun _ => 0) (n0 := n) (n1 := k) hx hb (hml.trans hl.1.symm) hown (hE.t w1110 rfl) (hE.t w720 rfl) (hE.t w721 rfl) (hE.t w722 rfl) hK hP hD hS (i + 1) (0) 2 hsrc rfl rfl rfl (0) (0) (min n k) (by omega) (by omega) (by omega) (by omega) (by omega) (fun _ _ => rfl) (Nat.le_of_ble_eq_true rfl) (Nat.le_of_ble_eq_true rfl) d_Arrays_copyOf_32d_28 (fun H locs hP hD hS => ?_)
  have hP : va_P D vwCl ([(q2, .inl (dA 2, k, .inr (.inl (va_cpy f (fun _ => 0) 0 0 (min n k)))))] ++ ws) H := hP
  have hD : va_D A ([(q2, .inl (dA 2, k, .inr (.inl (va_cpy f (fun _ => 0) 0 0 (min n k)))))] ++ ws) := hD
  refine lv_aload_n hx hb d_Arrays_copyOf_32d_31 rfl (lv_at hl 0 rfl) ?_
  exact rfR hx hb hr (Or.inr ⟨_, rfl⟩) hlk hS () trivial hP hD (show 0 + 1 ≤ 1 by omega) (show 0 + k ≤ k by omega) d_Arrays_copyOf_32d_32
theorem d_Arrays_copyOf_27d_0 : decode prog_38_method_121_code 0 = .ok (.iload_n 1, 1) := by decide +kernel
theorem d_Arrays_copyOf_27d_1 : decode prog_38_method_121_code 1 = .ok (.aload_n 0, 1) := by decide +kernel
theorem d_Arrays_copyOf_27d_2 : decode prog_38_method_121_code 2 = .ok (.arraylength, 1) := by decide +kernel
theorem d_Arrays_copyOf_27d_3 : decode prog_38_method_121_code 3 = .ok (.if_icmp .ne 11, 3) := by decide +kernel
theorem d_Arrays_copyOf_27d_14 : decode prog_38_method_121_code 14 = .ok (.iload_n 1, 1) := by decide +kernel
theorem d_Arrays_copyOf_27d_15 : decode prog_38_method_121_code 15 = .ok (.newarray .byte, 2) := by decide +kernel
theorem d_Arrays_copyOf_27d_17 : decode prog_38_method_121_code 17 = .ok (.astore_n 2, 1) := by decide +kernel
theorem d_Arrays_copyOf_27d_18 : decode prog_38_method_121_code 18 = .ok (.aload_n 0, 1) := by decide +kernel
theorem d_Arrays_copyOf_27d_19 : decode prog_38_method_121_code 19 = .ok (.iconst 0, 1) := by decide +kernel
theorem d_Arrays_copyOf_27d_20 : decode prog_38_method_121_code 20 = .ok (.aload_n 2, 1) := by decide +kernel
theorem d_Arrays_copyOf_27d_21 : decode prog_38_method_121_code 21 = .ok (.iconst 0, 1) := by decide +kernel
theorem d_Arrays_copyOf_27d_22 : decode prog_38_method_121_code 22 = .ok (.aload_n 0, 1) := by decide +kernel
theorem d_Arrays_copyOf_27d_23 : decode prog_38_method_121_code 23 = .ok (.arraylength, 1) := by decide +kernel
theorem d_Arrays_copyOf_27d_24 : decode prog_38_method_121_code 24 = .ok (.iload_n 1, 1) := by decide +kernel
theorem d_Arrays_copyOf_27d_25 : decode prog_38_method_121_code 25 = .ok (.invokestatic 304, 3) := by decide +kernel
theorem d_Arrays_copyOf_27d_28 : decode prog_38_method_121_code 28 = .ok (.invokestatic 150, 3) := by decide +kernel
theorem d_Arrays_copyOf_27d_31 : decode prog_38_method_121_code 31 = .ok (.aload_n 2, 1) := by decide +kernel
theorem d_Arrays_copyOf_27d_32 : decode prog_38_method_121_code 32 = .ok (.areturn, 1) := by decide +kernel
set_option maxHeartbeats 4000000 in
set_option maxRecDepth 100000 in
theorem v_copyOfB (l : Launch) (D : va_G) (dA : Nat → ClassId) (sz : Nat) (ws : va_W) (i : Nat) (a : Nat) (n : Nat) (f : Nat → Int32) (k : Nat) (hsrc : ws[i]? = some (a, .inl (dA 0, n, .inl f))) (h1 : n < k) (h2 : k ≤ 131072) (hby : byteF f) : Met l ⟨"java/util/Arrays", "copyOf", "([BI)[B"⟩ [Cond.code ⟨"java/util/Arrays", "copyOf", "([BI)[B"⟩ prog_38_method_121_code 3 (some (FieldType.array FieldType.byte))] { frames := 1, cells := 1, slots := k, locals := 40 } (pC D dA [.ref a, .int (nI k)] ws sz) (va_Qr (fun (u9 : Unit) => True) (fun (u9 : Unit) (r9 : Nat) t9 => bW D (va_A ws sz) ((r9, .inl (dA 0, k, .inl (va_cpy f (fun _ => 0) 0 0 (min n k)))) :: ws) t9) (va_A ws sz)) 1 k (va_A ws sz) := by
  refine mkC (y := ⟨"java/util/Arrays", "copyOf", "([BI)[B"⟩) (cc := prog_38_method_121_code) (maxL := 3) (av := [.ref a, .int (nI k)]) (ws := ws) (sz := sz) (Qc := fun A => va_Qr (fun (u9 : Unit) => True) (fun (u9 : Unit) (r9 : Nat) t9 => bW D A ((r9, .inl (dA 0, k, .inl (va_cpy f (fun _ => 0) 0 0 (min n k)))) :: ws) t9) A) (by decide) (Nat.le_of_ble_eq_true rfl) ?_
  intro A p e s m below meth c ls hsz hB
  obtain ⟨hx, hb, hr, hml, hown, hin, hlk, hE, hK, hP, hD, hS, hA, hN, hl⟩ := hB
  have hown : s.vm.findClass "java/util/Arrays" = some m.cls := hown
  have hl : lv_has ls 3 [(0, .ref a), (1, .int (nI k))] := hl
  obtain ⟨H, hH⟩ : ∃ z, z = s.heap := ⟨_, rfl⟩
  have hP : va_P D vwCl ws H := by rw [hH]; exact hP
  have hS : va_S A s.heap H [] := by rw [hH]; exact hS
  rw [← hH]
  refine lv_iload_n hx hb d_Arrays_copyOf_27d_0 rfl (lv_at hl 1 rfl) ?_
  refine lv_aload_n hx hb d_Arrays_copyOf_27d_1 rfl (lv_at hl 0 rfl) ?_
  refine va_alen (v := nI n) hx hb hK hP (i) 0 hsrc rfl rfl d_Arrays_copyOf_27d_2 ?_
  refine lv_icmp_ne hx hb d_Arrays_copyOf_27d_3 (tgt := 14) rfl (fun g1 => ?_) (fun g1 => ?_)
  rotate_left
  · have g1 := (nI_eq (a := k) (b := n) (by omega) (by omega)).mp g1; exfalso; omega
  have g1 := mt (nI_eq (a := k) (b := n) (by omega) (by omega)).mpr g1
  refine lv_iload_n hx hb d_Arrays_copyOf_27d_14 rfl (lv_at hl 1 rfl) ?_
  refine nnA (atype := .byte) (ty := .byte) (N' := k) (a0 := (k, .inl (fun _ => 0))) hx hb hE rfl w496 hK hP hD hS hA 0 rfl (fun _ => rfl) (by omega) (show k * 1 ≤ 536870912 by omega) (show 0 + 1 ≤ 1 by omega) (show 0 + k ≤ k by omega) d_Arrays_copyOf_27d_15 (fun q2 H hP hD hS => ?_)
  have hP : va_P D vwCl ([(q2, .inl (dA 0, k, .inl (fun _ => 0)))] ++ ws) H := hP
  have hD : va_D A ([(q2, .inl (dA 0, k, .inl (fun _ => 0)))] ++ ws) := hD
  refine lv_astore_n hx hb d_Arrays_copyOf_27d_17 rfl hl (by decide) rfl (fun ls hl => ?_)
  have hl : lv_has ls 3 [(2, .ref q2), (0, .ref a), (1, .int (nI k))] := hl
  refine lv_aload_n hx hb d_Arrays_copyOf_27d_18 rfl (lv_at hl 1 rfl) ?_
  refine lv_iconst (v := 0) hx hb d_Arrays_copyOf_27d_19 (by decide) ?_
  refine lv_aload_n hx hb d_Arrays_copyOf_27d_20 rfl (lv_at hl 0 rfl) ?_
  refine lv_iconst (v := 0) hx hb d_Arrays_copyOf_27d_21 (by decide) ?_
  refine lv_aload_n hx hb d_Arrays_copyOf_27d_22 rfl (lv_at hl 1 rfl) ?_
  refine va_alen (v := nI n) hx hb hK hP (i + 1) 0 hsrc rfl rfl d_Arrays_copyOf_27d_23 ?_
  refine lv_iload_n hx hb d_Arrays_copyOf_27d_24 rfl (lv_at hl 2 rfl) ?_
  refine va_mmin hx hb (hml.trans hl.1.symm) hown (hE.t w1109 rfl) (hE.t w548 rfl) (hE.t w549 rfl) (hE.t w550 rfl) (Nat.le_of_ble_eq_true rfl) (Nat.le_of_ble_eq_true rfl) (show 0 + 1 ≤ 1 by omega) (show 0 + k ≤ k by omega) d_Arrays_copyOf_27d_25 (tpi (y := nI (min n k)) (nI_min (a := n) (b := k) (by omega) (by omega)) ?_)
  refine ncpyi (f := f) (g := fun _ => 0) (n0 := n) (n1 := k) hx hb (hml.trans hl.1.symm) hown (hE.t w1110 rfl) (hE.t w720 rfl) (hE.t w721 rfl) (hE.t w722 rfl) hK hP hD hS (i + 1) (0) 0 hsrc rfl rfl rfl (0) (0) (min n k) (by omega) (by omega) (by omega) (by omega) (by omega) (fun _ _ => byte_fit hby _) (Nat.le_of_ble_eq_true rfl) (Nat.le_of_ble_eq_true rfl) d_Arrays_copyOf_27d_28 (fun H locs hP hD hS => ?_)
  have hP : va_P D vwCl ([(q2, .inl (dA 0, k, .inl (va_cpy f (fun _ => 0) 0 0 (min n k))))] ++ ws) H := hP
  have hD : va_D A ([(q2, .inl (dA 0, k, .inl (va_cpy f (fun _ => 0) 0 0 (min n k))))] ++ ws) := hD
  refine lv_aload_n hx hb d_Arrays_copyOf_27d_31 rfl (lv_at hl 0 rfl) ?_
  exact rfR hx hb hr (Or.inr ⟨_, rfl⟩) hlk hS () trivial hP hD (show 0 + 1 ≤ 1 by omega) (show 0 + k ≤ k by omega) d_Arrays_copyOf_27d_32
end
section
theorem d_J_grow_0 : decode prog_3_method_8_code 0 = .ok (.aload_n 0, 1) := by decide +kernel
theorem d_J_grow_1 : decode prog_3_method_8_code 1 = .ok (.aload_n 0, 1) := by decide +kernel
theorem d_J_grow_2 : decode prog_3_method_8_code 2 = .ok (.getfield 9, 3) := by decide +kernel
theorem d_J_grow_5 : decode prog_3_method_8_code 5 = .ok (.iconst 2, 1) := by decide +kernel
theorem d_J_grow_6 : decode prog_3_method_8_code 6 = .ok (.aload_n 0, 1) := by decide +kernel
theorem d_J_grow_7 : decode prog_3_method_8_code 7 = .ok (.getfield 38, 3) := by decide +kernel
theorem d_J_grow_10 : decode prog_3_method_8_code 10 = .ok (.imul, 1) := by decide +kernel
theorem d_J_grow_11 : decode prog_3_method_8_code 11 = .ok (.invokestatic 64, 3) := by decide +kernel
theorem d_J_grow_14 : decode prog_3_method_8_code 14 = .ok (.putfield 9, 3) := by decide +kernel
theorem d_J_grow_17 : decode prog_3_method_8_code 17 = .ok (.aload_n 0, 1) := by decide +kernel
theorem d_J_grow_18 : decode prog_3_method_8_code 18 = .ok (.aload_n 0, 1) := by decide +kernel
theorem d_J_grow_19 : decode prog_3_method_8_code 19 = .ok (.getfield 15, 3) := by decide +kernel
theorem d_J_grow_22 : decode prog_3_method_8_code 22 = .ok (.iconst 2, 1) := by decide +kernel
theorem d_J_grow_23 : decode prog_3_method_8_code 23 = .ok (.aload_n 0, 1) := by decide +kernel
theorem d_J_grow_24 : decode prog_3_method_8_code 24 = .ok (.getfield 38, 3) := by decide +kernel
theorem d_J_grow_27 : decode prog_3_method_8_code 27 = .ok (.imul, 1) := by decide +kernel
theorem d_J_grow_28 : decode prog_3_method_8_code 28 = .ok (.invokestatic 64, 3) := by decide +kernel
theorem d_J_grow_31 : decode prog_3_method_8_code 31 = .ok (.putfield 15, 3) := by decide +kernel
theorem d_J_grow_34 : decode prog_3_method_8_code 34 = .ok (.aload_n 0, 1) := by decide +kernel
theorem d_J_grow_35 : decode prog_3_method_8_code 35 = .ok (.aload_n 0, 1) := by decide +kernel
theorem d_J_grow_36 : decode prog_3_method_8_code 36 = .ok (.getfield 18, 3) := by decide +kernel
theorem d_J_grow_39 : decode prog_3_method_8_code 39 = .ok (.iconst 2, 1) := by decide +kernel
theorem d_J_grow_40 : decode prog_3_method_8_code 40 = .ok (.aload_n 0, 1) := by decide +kernel
theorem d_J_grow_41 : decode prog_3_method_8_code 41 = .ok (.getfield 38, 3) := by decide +kernel
theorem d_J_grow_44 : decode prog_3_method_8_code 44 = .ok (.imul, 1) := by decide +kernel
theorem d_J_grow_45 : decode prog_3_method_8_code 45 = .ok (.invokestatic 64, 3) := by decide +kernel
theorem d_J_grow_48 : decode prog_3_method_8_code 48 = .ok (.putfield 18, 3) := by decide +kernel
theorem d_J_grow_51 : decode prog_3_method_8_code 51 = .ok (.aload_n 0, 1) := by decide +kernel
theorem d_J_grow_52 : decode prog_3_method_8_code 52 = .ok (.aload_n 0, 1) := by decide +kernel
theorem d_J_grow_53 : decode prog_3_method_8_code 53 = .ok (.getfield 21, 3) := by decide +kernel
theorem d_J_grow_56 : decode prog_3_method_8_code 56 = .ok (.iconst 2, 1) := by decide +kernel
theorem d_J_grow_57 : decode prog_3_method_8_code 57 = .ok (.aload_n 0, 1) := by decide +kernel
theorem d_J_grow_58 : decode prog_3_method_8_code 58 = .ok (.getfield 38, 3) := by decide +kernel
theorem d_J_grow_61 : decode prog_3_method_8_code 61 = .ok (.imul, 1) := by decide +kernel
theorem d_J_grow_62 : decode prog_3_method_8_code 62 = .ok (.invokestatic 64, 3) := by decide +kernel
theorem d_J_grow_65 : decode prog_3_method_8_code 65 = .ok (.putfield 21, 3) := by decide +kernel
theorem d_J_grow_68 : decode prog_3_method_8_code 68 = .ok (.aload_n 0, 1) := by decide +kernel
theorem d_J_grow_69 : decode prog_3_method_8_code 69 = .ok (.aload_n 0, 1) := by decide +kernel
theorem d_J_grow_70 : decode prog_3_method_8_code 70 = .ok (.getfield 24, 3) := by decide +kernel
theorem d_J_grow_73 : decode prog_3_method_8_code 73 = .ok (.iconst 2, 1) := by decide +kernel
theorem d_J_grow_74 : decode prog_3_method_8_code 74 = .ok (.aload_n 0, 1) := by decide +kernel
theorem d_J_grow_75 : decode prog_3_method_8_code 75 = .ok (.getfield 38, 3) := by decide +kernel
theorem d_J_grow_78 : decode prog_3_method_8_code 78 = .ok (.imul, 1) := by decide +kernel
theorem d_J_grow_79 : decode prog_3_method_8_code 79 = .ok (.invokestatic 70, 3) := by decide +kernel
theorem d_J_grow_82 : decode prog_3_method_8_code 82 = .ok (.putfield 24, 3) := by decide +kernel
theorem d_J_grow_85 : decode prog_3_method_8_code 85 = .ok (.aload_n 0, 1) := by decide +kernel
theorem d_J_grow_86 : decode prog_3_method_8_code 86 = .ok (.aload_n 0, 1) := by decide +kernel
theorem d_J_grow_87 : decode prog_3_method_8_code 87 = .ok (.getfield 28, 3) := by decide +kernel
theorem d_J_grow_90 : decode prog_3_method_8_code 90 = .ok (.iconst 2, 1) := by decide +kernel
theorem d_J_grow_91 : decode prog_3_method_8_code 91 = .ok (.aload_n 0, 1) := by decide +kernel
theorem d_J_grow_92 : decode prog_3_method_8_code 92 = .ok (.getfield 38, 3) := by decide +kernel
theorem d_J_grow_95 : decode prog_3_method_8_code 95 = .ok (.imul, 1) := by decide +kernel
theorem d_J_grow_96 : decode prog_3_method_8_code 96 = .ok (.invokestatic 70, 3) := by decide +kernel
theorem d_J_grow_99 : decode prog_3_method_8_code 99 = .ok (.putfield 28, 3) := by decide +kernel
theorem d_J_grow_102 : decode prog_3_method_8_code 102 = .ok (.return_, 1) := by decide +kernel
theorem w1111 : Cond.code ⟨"java/util/Arrays", "copyOf", "([II)[I"⟩ prog_38_method_123_code 3 (some (FieldType.array FieldType.int)) ∈ aW := aw_of (tb_5 (List.mem_of_getElem? (i := 73) rfl)) rfl
theorem w1112 : Cond.methodLink "SeriesVault$Journal" 64 ⟨"java/util/Arrays", "copyOf", "([II)[I"⟩ ∈ aW := aw_of (tb_5 (List.mem_of_getElem? (i := 71) rfl)) rfl
theorem w1113 : Cond.static ⟨"java/util/Arrays", "copyOf", "([II)[I"⟩ ∈ aW := aw_of (tb_5 (List.mem_of_getElem? (i := 72) rfl)) rfl
theorem w1114 : Cond.code ⟨"java/util/Arrays", "copyOf", "([JI)[J"⟩ prog_38_method_124_code 3 (some (FieldType.array FieldType.long)) ∈ aW := aw_of (tb_5 (List.mem_of_getElem? (i := 81) rfl)) rfl
theorem w1115 : Cond.methodLink "SeriesVault$Journal" 70 ⟨"java/util/Arrays", "copyOf", "([JI)[J"⟩ ∈ aW := aw_of (tb_5 (List.mem_of_getElem? (i := 79) rfl)) rfl
theorem w1116 : Cond.static ⟨"java/util/Arrays", "copyOf", "([JI)[J"⟩ ∈ aW := aw_of (tb_5 (List.mem_of_getElem? (i := 80) rfl)) rfl
set_option maxHeartbeats 4000000 in
set_option maxRecDepth 100000 in
theorem v_jgrow (l : Launch) (D : va_G) (dA : Nat → ClassId) (sz : Nat) (h : Nat) (ad : Nat → Nat) (x : VS) (h0 : x.jsize = x.jN) (h1 : 0 < x.jsize) (h2 : x.jsize ≤ 65536) : Met l ⟨"SeriesVault$Journal", "grow", "()V"⟩ [Cond.code ⟨"SeriesVault$Journal", "grow", "()V"⟩ prog_3_method_8_code 1 none] { frames := 2, cells := 6, slots := 12 * x.jsize, locals := 62 } (pC D dA [.ref (ad 0)] (VW dA h ad x) sz) (va_Qv (fun (u9 : Nat → Nat) => True) (fun (u9 : Nat → Nat) t9 => bW D (va_A (VW dA h ad x) sz) (VW dA h ad (VS.s_jS (VS.s_jF (VS.s_jB (VS.s_jU (VS.s_jO (VS.s_jK (VS.s_jN (VS.s_jA x u9) (2 * x.jsize)) (va_cpy x.jK (fun _ => 0) 0 0 (min x.jN (2 * x.jsize)))) (va_cpy x.jO (fun _ => 0) 0 0 (min x.jN (2 * x.jsize)))) (va_cpy x.jU (fun _ => 0) 0 0 (min x.jN (2 * x.jsize)))) (va_cpy x.jB (fun _ => 0) 0 0 (min x.jN (2 * x.jsize)))) (va_cpy x.jF (fun _ => 0) 0 0 (min x.jN (2 * x.jsize)))) (va_cpy x.jS (fun _ => 0) 0 0 (min x.jN (2 * x.jsize))))) t9) (va_A (VW dA h ad x) sz)) 6 (12 * x.jsize) (va_A (VW dA h ad x) sz) := by
  refine mkC (y := ⟨"SeriesVault$Journal", "grow", "()V"⟩) (cc := prog_3_method_8_code) (maxL := 1) (av := [.ref (ad 0)]) (ws := VW dA h ad x) (sz := sz) (Qc := fun A => va_Qv (fun (u9 : Nat → Nat) => True) (fun (u9 : Nat → Nat) t9 => bW D A (VW dA h ad (VS.s_jS (VS.s_jF (VS.s_jB (VS.s_jU (VS.s_jO (VS.s_jK (VS.s_jN (VS.s_jA x u9) (2 * x.jsize)) (va_cpy x.jK (fun _ => 0) 0 0 (min x.jN (2 * x.jsize)))) (va_cpy x.jO (fun _ => 0) 0 0 (min x.jN (2 * x.jsize)))) (va_cpy x.jU (fun _ => 0) 0 0 (min x.jN (2 * x.jsize)))) (va_cpy x.jB (fun _ => 0) 0 0 (min x.jN (2 * x.jsize)))) (va_cpy x.jF (fun _ => 0) 0 0 (min x.jN (2 * x.jsize)))) (va_cpy x.jS (fun _ => 0) 0 0 (min x.jN (2 * x.jsize))))) t9) A) (by decide) (Nat.le_of_ble_eq_true rfl) ?_
  intro A p e s m below meth c ls hsz hB
  obtain ⟨hx, hb, hr, hml, hown, hin, hlk, hE, hK, hP, hD, hS, hA, hN, hl⟩ := hB
  have hown : s.vm.findClass "SeriesVault$Journal" = some m.cls := hown
  have hl : lv_has ls 1 [(0, .ref (ad 0))] := hl
  obtain ⟨H, hH⟩ : ∃ z, z = s.heap := ⟨_, rfl⟩
  have hP : va_P D vwCl (VW dA h ad x) H := by rw [hH]; exact hP
  have hS : va_S A s.heap H [] := by rw [hH]; exact hS
  rw [← hH]
  refine lv_aload_n hx hb d_J_grow_0 rfl (lv_at hl 0 rfl) ?_
  refine lv_aload_n hx hb d_J_grow_1 rfl (lv_at hl 0 rfl) ?_
  refine gF (v := .ref (x.jA 0)) hx hb hown hE hK hP 2 rfl rfl layJ 0 (by decide) w190 rfl d_J_grow_2 ?_
  refine lv_iconst (v := 2) hx hb d_J_grow_5 (by decide) ?_
  refine lv_aload_n hx hb d_J_grow_6 rfl (lv_at hl 0 rfl) ?_
  refine gF (v := .int (nI x.jsize)) hx hb hown hE hK hP 2 rfl rfl layJ 6 (by decide) w545 rfl d_J_grow_7 ?_
  refine lv_imul hx hb d_J_grow_10 (tpi (y := nI (2 * x.jsize)) (pk_mul (2) (x.jsize)) ?_)
  refine jfR (rnS (As := [.ref (x.jA 0), .int (nI (2 * x.jsize))]) (rest := [.ref (ad 0)]) hx hb hml hown hE hK (hN _ _ hS) hP hD (v_copyOfI l D dA H.size (VW dA h ad x) (3) (x.jA 0) x.jN x.jK (2 * x.jsize) rfl (show x.jN < 2 * x.jsize by omega) (show 2 * x.jsize ≤ 131072 by omega)) w1111 w1112 w1113 w712 rfl rfl ⟨⟨by decide, by decide⟩, rfl⟩ ⟨(Nat.le_of_ble_eq_true rfl), (Nat.le_of_ble_eq_true rfl)⟩ rfl hl.1 rfl (Nat.le_of_ble_eq_true rfl) d_J_grow_11 ⟨(show 0 + 1 ≤ 6 by omega), (show 0 + (2 * x.jsize) ≤ 12 * x.jsize by omega)⟩) hP hD hS hA (fun u9 q1 H locs hp9 hP hD hS => ?_)
  have hP : va_P D vwCl ([(q1, .inl (dA 1, 2 * x.jsize, .inl (fun z9 => nI ((va_cpy x.jK (fun _ => 0) 0 0 (min x.jN (2 * x.jsize))) z9))))] ++ VW dA h ad x) H := hP
  have hD : va_D A ([(q1, .inl (dA 1, 2 * x.jsize, .inl (fun z9 => nI ((va_cpy x.jK (fun _ => 0) 0 0 (min x.jN (2 * x.jsize))) z9))))] ++ VW dA h ad x) := hD
  refine pF (v := .ref q1) hx hb hown hE hK hP hD hS 3 rfl rfl layJ tyJ tokJ nmJ 0 (by decide) w190 rfl rfl rfl (Nat.le_of_ble_eq_true rfl) d_J_grow_14 (fun H locs hP hD hS => ?_)
  have hP : va_P D vwCl ([(q1, .inl (dA 1, 2 * x.jsize, .inl (fun z9 => nI ((va_cpy x.jK (fun _ => 0) 0 0 (min x.jN (2 * x.jsize))) z9))))] ++ VWf dA h ad x (VS.s_jA x (va_up x.jA 0 q1))) H := hP
  have hD : va_D A ([(q1, .inl (dA 1, 2 * x.jsize, .inl (fun z9 => nI ((va_cpy x.jK (fun _ => 0) 0 0 (min x.jN (2 * x.jsize))) z9))))] ++ VWf dA h ad x (VS.s_jA x (va_up x.jA 0 q1))) := hD
  refine lv_aload_n hx hb d_J_grow_17 rfl (lv_at hl 0 rfl) ?_
  refine lv_aload_n hx hb d_J_grow_18 rfl (lv_at hl 0 rfl) ?_
  refine gF (v := .ref (x.jA 1)) hx hb hown hE hK hP 3 rfl rfl layJ 1 (by decide) w191 rfl d_J_grow_19 ?_
  refine lv_iconst (v := 2) hx hb d_J_grow_22 (by decide) ?_
  refine lv_aload_n hx hb d_J_grow_23 rfl (lv_at hl 0 rfl) ?_
  refine gF (v := .int (nI x.jsize)) hx hb hown hE hK hP 3 rfl rfl layJ 6 (by decide) w545 rfl d_J_grow_24 ?_
  refine lv_imul hx hb d_J_grow_27 (tpi (y := nI (2 * x.jsize)) (pk_mul (2) (x.jsize)) ?_)
  refine jfR (rnS (As := [.ref (x.jA 1), .int (nI (2 * x.jsize))]) (rest := [.ref (ad 0)]) hx hb hml hown hE hK (hN _ _ hS) hP hD (v_copyOfI l D dA H.size ([(q1, .inl (dA 1, 2 * x.jsize, .inl (fun z9 => nI ((va_cpy x.jK (fun _ => 0) 0 0 (min x.jN (2 * x.jsize))) z9))))] ++ VWf dA h ad x (VS.s_jA x (va_up x.jA 0 q1))) (5) (x.jA 1) x.jN x.jO (2 * x.jsize) rfl (show x.jN < 2 * x.jsize by omega) (show 2 * x.jsize ≤ 131072 by omega)) w1111 w1112 w1113 w712 rfl rfl ⟨⟨by decide, by decide⟩, rfl⟩ ⟨(Nat.le_of_ble_eq_true rfl), (Nat.le_of_ble_eq_true rfl)⟩ rfl hl.1 rfl (Nat.le_of_ble_eq_true rfl) d_J_grow_28 ⟨(show (0 + 1) + 1 ≤ 6 by omega), (show (0 + (2 * x.jsize)) + (2 * x.jsize) ≤ 12 * x.jsize by omega)⟩) hP hD hS hA (fun u9 q2 H locs hp9 hP hD hS => ?_)
  have hP : va_P D vwCl ([(q2, .inl (dA 1, 2 * x.jsize, .inl (fun z9 => nI ((va_cpy x.jO (fun _ => 0) 0 0 (min x.jN (2 * x.jsize))) z9)))), (q1, .inl (dA 1, 2 * x.jsize, .inl (fun z9 => nI ((va_cpy x.jK (fun _ => 0) 0 0 (min x.jN (2 * x.jsize))) z9))))] ++ VWf dA h ad x (VS.s_jA x (va_up x.jA 0 q1))) H := hP
  have hD : va_D A ([(q2, .inl (dA 1, 2 * x.jsize, .inl (fun z9 => nI ((va_cpy x.jO (fun _ => 0) 0 0 (min x.jN (2 * x.jsize))) z9)))), (q1, .inl (dA 1, 2 * x.jsize, .inl (fun z9 => nI ((va_cpy x.jK (fun _ => 0) 0 0 (min x.jN (2 * x.jsize))) z9))))] ++ VWf dA h ad x (VS.s_jA x (va_up x.jA 0 q1))) := hD
  refine pF (v := .ref q2) hx hb hown hE hK hP hD hS 4 rfl rfl layJ tyJ tokJ nmJ 1 (by decide) w191 rfl rfl rfl (Nat.le_of_ble_eq_true rfl) d_J_grow_31 (fun H locs hP hD hS => ?_)
  have hP : va_P D vwCl ([(q2, .inl (dA 1, 2 * x.jsize, .inl (fun z9 => nI ((va_cpy x.jO (fun _ => 0) 0 0 (min x.jN (2 * x.jsize))) z9)))), (q1, .inl (dA 1, 2 * x.jsize, .inl (fun z9 => nI ((va_cpy x.jK (fun _ => 0) 0 0 (min x.jN (2 * x.jsize))) z9))))] ++ VWf dA h ad x (VS.s_jA x (va_up (va_up x.jA 0 q1) 1 q2))) H := hP
  have hD : va_D A ([(q2, .inl (dA 1, 2 * x.jsize, .inl (fun z9 => nI ((va_cpy x.jO (fun _ => 0) 0 0 (min x.jN (2 * x.jsize))) z9)))), (q1, .inl (dA 1, 2 * x.jsize, .inl (fun z9 => nI ((va_cpy x.jK (fun _ => 0) 0 0 (min x.jN (2 * x.jsize))) z9))))] ++ VWf dA h ad x (VS.s_jA x (va_up (va_up x.jA 0 q1) 1 q2))) := hD
  refine lv_aload_n hx hb d_J_grow_34 rfl (lv_at hl 0 rfl) ?_
  refine lv_aload_n hx hb d_J_grow_35 rfl (lv_at hl 0 rfl) ?_
  refine gF (v := .ref (x.jA 2)) hx hb hown hE hK hP 4 rfl rfl layJ 2 (by decide) w192 rfl d_J_grow_36 ?_
  refine lv_iconst (v := 2) hx hb d_J_grow_39 (by decide) ?_
  refine lv_aload_n hx hb d_J_grow_40 rfl (lv_at hl 0 rfl) ?_
  refine gF (v := .int (nI x.jsize)) hx hb hown hE hK hP 4 rfl rfl layJ 6 (by decide) w545 rfl d_J_grow_41 ?_
  refine lv_imul hx hb d_J_grow_44 (tpi (y := nI (2 * x.jsize)) (pk_mul (2) (x.jsize)) ?_)
  refine jfR (rnS (As := [.ref (x.jA 2), .int (nI (2 * x.jsize))]) (rest := [.ref (ad 0)]) hx hb hml hown hE hK (hN _ _ hS) hP hD (v_copyOfI l D dA H.size ([(q2, .inl (dA 1, 2 * x.jsize, .inl (fun z9 => nI ((va_cpy x.jO (fun _ => 0) 0 0 (min x.jN (2 * x.jsize))) z9)))), (q1, .inl (dA 1, 2 * x.jsize, .inl (fun z9 => nI ((va_cpy x.jK (fun _ => 0) 0 0 (min x.jN (2 * x.jsize))) z9))))] ++ VWf dA h ad x (VS.s_jA x (va_up (va_up x.jA 0 q1) 1 q2))) (7) (x.jA 2) x.jN x.jU (2 * x.jsize) rfl (show x.jN < 2 * x.jsize by omega) (show 2 * x.jsize ≤ 131072 by omega)) w1111 w1112 w1113 w712 rfl rfl ⟨⟨by decide, by decide⟩, rfl⟩ ⟨(Nat.le_of_ble_eq_true rfl), (Nat.le_of_ble_eq_true rfl)⟩ rfl hl.1 rfl (Nat.le_of_ble_eq_true rfl) d_J_grow_45 ⟨(show (0 + 1 + 1) + 1 ≤ 6 by omega), (show (0 + (2 * x.jsize) + (2 * x.jsize)) + (2 * x.jsize) ≤ 12 * x.jsize by omega)⟩) hP hD hS hA (fun u9 q3 H locs hp9 hP hD hS => ?_)
  have hP : va_P D vwCl ([(q3, .inl (dA 1, 2 * x.jsize, .inl (fun z9 => nI ((va_cpy x.jU (fun _ => 0) 0 0 (min x.jN (2 * x.jsize))) z9)))), (q2, .inl (dA 1, 2 * x.jsize, .inl (fun z9 => nI ((va_cpy x.jO (fun _ => 0) 0 0 (min x.jN (2 * x.jsize))) z9)))), (q1, .inl (dA 1, 2 * x.jsize, .inl (fun z9 => nI ((va_cpy x.jK (fun _ => 0) 0 0 (min x.jN (2 * x.jsize))) z9))))] ++ VWf dA h ad x (VS.s_jA x (va_up (va_up x.jA 0 q1) 1 q2))) H := hP
  have hD : va_D A ([(q3, .inl (dA 1, 2 * x.jsize, .inl (fun z9 => nI ((va_cpy x.jU (fun _ => 0) 0 0 (min x.jN (2 * x.jsize))) z9)))), (q2, .inl (dA 1, 2 * x.jsize, .inl (fun z9 => nI ((va_cpy x.jO (fun _ => 0) 0 0 (min x.jN (2 * x.jsize))) z9)))), (q1, .inl (dA 1, 2 * x.jsize, .inl (fun z9 => nI ((va_cpy x.jK (fun _ => 0) 0 0 (min x.jN (2 * x.jsize))) z9))))] ++ VWf dA h ad x (VS.s_jA x (va_up (va_up x.jA 0 q1) 1 q2))) := hD
  refine pF (v := .ref q3) hx hb hown hE hK hP hD hS 5 rfl rfl layJ tyJ tokJ nmJ 2 (by decide) w192 rfl rfl rfl (Nat.le_of_ble_eq_true rfl) d_J_grow_48 (fun H locs hP hD hS => ?_)
  have hP : va_P D vwCl ([(q3, .inl (dA 1, 2 * x.jsize, .inl (fun z9 => nI ((va_cpy x.jU (fun _ => 0) 0 0 (min x.jN (2 * x.jsize))) z9)))), (q2, .inl (dA 1, 2 * x.jsize, .inl (fun z9 => nI ((va_cpy x.jO (fun _ => 0) 0 0 (min x.jN (2 * x.jsize))) z9)))), (q1, .inl (dA 1, 2 * x.jsize, .inl (fun z9 => nI ((va_cpy x.jK (fun _ => 0) 0 0 (min x.jN (2 * x.jsize))) z9))))] ++ VWf dA h ad x (VS.s_jA x (va_up (va_up (va_up x.jA 0 q1) 1 q2) 2 q3))) H := hP
  have hD : va_D A ([(q3, .inl (dA 1, 2 * x.jsize, .inl (fun z9 => nI ((va_cpy x.jU (fun _ => 0) 0 0 (min x.jN (2 * x.jsize))) z9)))), (q2, .inl (dA 1, 2 * x.jsize, .inl (fun z9 => nI ((va_cpy x.jO (fun _ => 0) 0 0 (min x.jN (2 * x.jsize))) z9)))), (q1, .inl (dA 1, 2 * x.jsize, .inl (fun z9 => nI ((va_cpy x.jK (fun _ => 0) 0 0 (min x.jN (2 * x.jsize))) z9))))] ++ VWf dA h ad x (VS.s_jA x (va_up (va_up (va_up x.jA 0 q1) 1 q2) 2 q3))) := hD
  refine lv_aload_n hx hb d_J_grow_51 rfl (lv_at hl 0 rfl) ?_
  refine lv_aload_n hx hb d_J_grow_52 rfl (lv_at hl 0 rfl) ?_
  refine gF (v := .ref (x.jA 3)) hx hb hown hE hK hP 5 rfl rfl layJ 3 (by decide) w193 rfl d_J_grow_53 ?_
  refine lv_iconst (v := 2) hx hb d_J_grow_56 (by decide) ?_
  refine lv_aload_n hx hb d_J_grow_57 rfl (lv_at hl 0 rfl) ?_
  refine gF (v := .int (nI x.jsize)) hx hb hown hE hK hP 5 rfl rfl layJ 6 (by decide) w545 rfl d_J_grow_58 ?_
  refine lv_imul hx hb d_J_grow_61 (tpi (y := nI (2 * x.jsize)) (pk_mul (2) (x.jsize)) ?_)
  refine jfR (rnS (As := [.ref (x.jA 3), .int (nI (2 * x.jsize))]) (rest := [.ref (ad 0)]) hx hb hml hown hE hK (hN _ _ hS) hP hD (v_copyOfI l D dA H.size ([(q3, .inl (dA 1, 2 * x.jsize, .inl (fun z9 => nI ((va_cpy x.jU (fun _ => 0) 0 0 (min x.jN (2 * x.jsize))) z9)))), (q2, .inl (dA 1, 2 * x.jsize, .inl (fun z9 => nI ((va_cpy x.jO (fun _ => 0) 0 0 (min x.jN (2 * x.jsize))) z9)))), (q1, .inl (dA 1, 2 * x.jsize, .inl (fun z9 => nI ((va_cpy x.jK (fun _ => 0) 0 0 (min x.jN (2 * x.jsize))) z9))))] ++ VWf dA h ad x (VS.s_jA x (va_up (va_up (va_up x.jA 0 q1) 1 q2) 2 q3))) (9) (x.jA 3) x.jN x.jB (2 * x.jsize) rfl (show x.jN < 2 * x.jsize by omega) (show 2 * x.jsize ≤ 131072 by omega)) w1111 w1112 w1113 w712 rfl rfl ⟨⟨by decide, by decide⟩, rfl⟩ ⟨(Nat.le_of_ble_eq_true rfl), (Nat.le_of_ble_eq_true rfl)⟩ rfl hl.1 rfl (Nat.le_of_ble_eq_true rfl) d_J_grow_62 ⟨(show (0 + 1 + 1 + 1) + 1 ≤ 6 by omega), (show (0 + (2 * x.jsize) + (2 * x.jsize) + (2 * x.jsize)) + (2 * x.jsize) ≤ 12 * x.jsize by omega)⟩) hP hD hS hA (fun u9 q4 H locs hp9 hP hD hS => ?_)
  have hP : va_P D vwCl ([(q4, .inl (dA 1, 2 * x.jsize, .inl (fun z9 => nI ((va_cpy x.jB (fun _ => 0) 0 0 (min x.jN (2 * x.jsize))) z9)))), (q3, .inl (dA 1, 2 * x.jsize, .inl (fun z9 => nI ((va_cpy x.jU (fun _ => 0) 0 0 (min x.jN (2 * x.jsize))) z9)))), (q2, .inl (dA 1, 2 * x.jsize, .inl (fun z9 => nI ((va_cpy x.jO (fun _ => 0) 0 0 (min x.jN (2 * x.jsize))) z9)))), (q1, .inl (dA 1, 2 * x.jsize, .inl (fun z9 => nI ((va_cpy x.jK (fun _ => 0) 0 0 (min x.jN (2 * x.jsize))) z9))))] ++ VWf dA h ad x (VS.s_jA x (va_up (va_up (va_up x.jA 0 q1) 1 q2) 2 q3))) H := hP
  have hD : va_D A ([(q4, .inl (dA 1, 2 * x.jsize, .inl (fun z9 => nI ((va_cpy x.jB (fun _ => 0) 0 0 (min x.jN (2 * x.jsize))) z9)))), (q3, .inl (dA 1, 2 * x.jsize, .inl (fun z9 => nI ((va_cpy x.jU (fun _ => 0) 0 0 (min x.jN (2 * x.jsize))) z9)))), (q2, .inl (dA 1, 2 * x.jsize, .inl (fun z9 => nI ((va_cpy x.jO (fun _ => 0) 0 0 (min x.jN (2 * x.jsize))) z9)))), (q1, .inl (dA 1, 2 * x.jsize, .inl (fun z9 => nI ((va_cpy x.jK (fun _ => 0) 0 0 (min x.jN (2 * x.jsize))) z9))))] ++ VWf dA h ad x (VS.s_jA x (va_up (va_up (va_up x.jA 0 q1) 1 q2) 2 q3))) := hD
  refine pF (v := .ref q4) hx hb hown hE hK hP hD hS 6 rfl rfl layJ tyJ tokJ nmJ 3 (by decide) w193 rfl rfl rfl (Nat.le_of_ble_eq_true rfl) d_J_grow_65 (fun H locs hP hD hS => ?_)
  have hP : va_P D vwCl ([(q4, .inl (dA 1, 2 * x.jsize, .inl (fun z9 => nI ((va_cpy x.jB (fun _ => 0) 0 0 (min x.jN (2 * x.jsize))) z9)))), (q3, .inl (dA 1, 2 * x.jsize, .inl (fun z9 => nI ((va_cpy x.jU (fun _ => 0) 0 0 (min x.jN (2 * x.jsize))) z9)))), (q2, .inl (dA 1, 2 * x.jsize, .inl (fun z9 => nI ((va_cpy x.jO (fun _ => 0) 0 0 (min x.jN (2 * x.jsize))) z9)))), (q1, .inl (dA 1, 2 * x.jsize, .inl (fun z9 => nI ((va_cpy x.jK (fun _ => 0) 0 0 (min x.jN (2 * x.jsize))) z9))))] ++ VWf dA h ad x (VS.s_jA x (va_up (va_up (va_up (va_up x.jA 0 q1) 1 q2) 2 q3) 3 q4))) H := hP
  have hD : va_D A ([(q4, .inl (dA 1, 2 * x.jsize, .inl (fun z9 => nI ((va_cpy x.jB (fun _ => 0) 0 0 (min x.jN (2 * x.jsize))) z9)))), (q3, .inl (dA 1, 2 * x.jsize, .inl (fun z9 => nI ((va_cpy x.jU (fun _ => 0) 0 0 (min x.jN (2 * x.jsize))) z9)))), (q2, .inl (dA 1, 2 * x.jsize, .inl (fun z9 => nI ((va_cpy x.jO (fun _ => 0) 0 0 (min x.jN (2 * x.jsize))) z9)))), (q1, .inl (dA 1, 2 * x.jsize, .inl (fun z9 => nI ((va_cpy x.jK (fun _ => 0) 0 0 (min x.jN (2 * x.jsize))) z9))))] ++ VWf dA h ad x (VS.s_jA x (va_up (va_up (va_up (va_up x.jA 0 q1) 1 q2) 2 q3) 3 q4))) := hD
  refine lv_aload_n hx hb d_J_grow_68 rfl (lv_at hl 0 rfl) ?_
  refine lv_aload_n hx hb d_J_grow_69 rfl (lv_at hl 0 rfl) ?_
  refine gF (v := .ref (x.jA 4)) hx hb hown hE hK hP 6 rfl rfl layJ 4 (by decide) w194 rfl d_J_grow_70 ?_
  refine lv_iconst (v := 2) hx hb d_J_grow_73 (by decide) ?_
  refine lv_aload_n hx hb d_J_grow_74 rfl (lv_at hl 0 rfl) ?_
  refine gF (v := .int (nI x.jsize)) hx hb hown hE hK hP 6 rfl rfl layJ 6 (by decide) w545 rfl d_J_grow_75 ?_
  refine lv_imul hx hb d_J_grow_78 (tpi (y := nI (2 * x.jsize)) (pk_mul (2) (x.jsize)) ?_)
  refine jfR (rnS (As := [.ref (x.jA 4), .int (nI (2 * x.jsize))]) (rest := [.ref (ad 0)]) hx hb hml hown hE hK (hN _ _ hS) hP hD (v_copyOfJ l D dA H.size ([(q4, .inl (dA 1, 2 * x.jsize, .inl (fun z9 => nI ((va_cpy x.jB (fun _ => 0) 0 0 (min x.jN (2 * x.jsize))) z9)))), (q3, .inl (dA 1, 2 * x.jsize, .inl (fun z9 => nI ((va_cpy x.jU (fun _ => 0) 0 0 (min x.jN (2 * x.jsize))) z9)))), (q2, .inl (dA 1, 2 * x.jsize, .inl (fun z9 => nI ((va_cpy x.jO (fun _ => 0) 0 0 (min x.jN (2 * x.jsize))) z9)))), (q1, .inl (dA 1, 2 * x.jsize, .inl (fun z9 => nI ((va_cpy x.jK (fun _ => 0) 0 0 (min x.jN (2 * x.jsize))) z9))))] ++ VWf dA h ad x (VS.s_jA x (va_up (va_up (va_up (va_up x.jA 0 q1) 1 q2) 2 q3) 3 q4))) (11) (x.jA 4) x.jN x.jF (2 * x.jsize) rfl (show x.jN < 2 * x.jsize by omega) (show 2 * x.jsize ≤ 131072 by omega)) w1114 w1115 w1116 w712 rfl rfl ⟨⟨by decide, by decide⟩, rfl⟩ ⟨(Nat.le_of_ble_eq_true rfl), (Nat.le_of_ble_eq_true rfl)⟩ rfl hl.1 rfl (Nat.le_of_ble_eq_true rfl) d_J_grow_79 ⟨(show (0 + 1 + 1 + 1 + 1) + 1 ≤ 6 by omega), (show (0 + (2 * x.jsize) + (2 * x.jsize) + (2 * x.jsize) + (2 * x.jsize)) + (2 * x.jsize) ≤ 12 * x.jsize by omega)⟩) hP hD hS hA (fun u9 q5 H locs hp9 hP hD hS => ?_)
  have hP : va_P D vwCl ([(q5, .inl (dA 2, 2 * x.jsize, .inr (.inl (va_cpy x.jF (fun _ => 0) 0 0 (min x.jN (2 * x.jsize)))))), (q4, .inl (dA 1, 2 * x.jsize, .inl (fun z9 => nI ((va_cpy x.jB (fun _ => 0) 0 0 (min x.jN (2 * x.jsize))) z9)))), (q3, .inl (dA 1, 2 * x.jsize, .inl (fun z9 => nI ((va_cpy x.jU (fun _ => 0) 0 0 (min x.jN (2 * x.jsize))) z9)))), (q2, .inl (dA 1, 2 * x.jsize, .inl (fun z9 => nI ((va_cpy x.jO (fun _ => 0) 0 0 (min x.jN (2 * x.jsize))) z9)))), (q1, .inl (dA 1, 2 * x.jsize, .inl (fun z9 => nI ((va_cpy x.jK (fun _ => 0) 0 0 (min x.jN (2 * x.jsize))) z9))))] ++ VWf dA h ad x (VS.s_jA x (va_up (va_up (va_up (va_up x.jA 0 q1) 1 q2) 2 q3) 3 q4))) H := hP
  have hD : va_D A ([(q5, .inl (dA 2, 2 * x.jsize, .inr (.inl (va_cpy x.jF (fun _ => 0) 0 0 (min x.jN (2 * x.jsize)))))), (q4, .inl (dA 1, 2 * x.jsize, .inl (fun z9 => nI ((va_cpy x.jB (fun _ => 0) 0 0 (min x.jN (2 * x.jsize))) z9)))), (q3, .inl (dA 1, 2 * x.jsize, .inl (fun z9 => nI ((va_cpy x.jU (fun _ => 0) 0 0 (min x.jN (2 * x.jsize))) z9)))), (q2, .inl (dA 1, 2 * x.jsize, .inl (fun z9 => nI ((va_cpy x.jO (fun _ => 0) 0 0 (min x.jN (2 * x.jsize))) z9)))), (q1, .inl (dA 1, 2 * x.jsize, .inl (fun z9 => nI ((va_cpy x.jK (fun _ => 0) 0 0 (min x.jN (2 * x.jsize))) z9))))] ++ VWf dA h ad x (VS.s_jA x (va_up (va_up (va_up (va_up x.jA 0 q1) 1 q2) 2 q3) 3 q4))) := hD
  refine pF (v := .ref q5) hx hb hown hE hK hP hD hS 7 rfl rfl layJ tyJ tokJ nmJ 4 (by decide) w194 rfl rfl rfl (Nat.le_of_ble_eq_true rfl) d_J_grow_82 (fun H locs hP hD hS => ?_)
  have hP : va_P D vwCl ([(q5, .inl (dA 2, 2 * x.jsize, .inr (.inl (va_cpy x.jF (fun _ => 0) 0 0 (min x.jN (2 * x.jsize)))))), (q4, .inl (dA 1, 2 * x.jsize, .inl (fun z9 => nI ((va_cpy x.jB (fun _ => 0) 0 0 (min x.jN (2 * x.jsize))) z9)))), (q3, .inl (dA 1, 2 * x.jsize, .inl (fun z9 => nI ((va_cpy x.jU (fun _ => 0) 0 0 (min x.jN (2 * x.jsize))) z9)))), (q2, .inl (dA 1, 2 * x.jsize, .inl (fun z9 => nI ((va_cpy x.jO (fun _ => 0) 0 0 (min x.jN (2 * x.jsize))) z9)))), (q1, .inl (dA 1, 2 * x.jsize, .inl (fun z9 => nI ((va_cpy x.jK (fun _ => 0) 0 0 (min x.jN (2 * x.jsize))) z9))))] ++ VWf dA h ad x (VS.s_jA x (va_up (va_up (va_up (va_up (va_up x.jA 0 q1) 1 q2) 2 q3) 3 q4) 4 q5))) H := hP
  have hD : va_D A ([(q5, .inl (dA 2, 2 * x.jsize, .inr (.inl (va_cpy x.jF (fun _ => 0) 0 0 (min x.jN (2 * x.jsize)))))), (q4, .inl (dA 1, 2 * x.jsize, .inl (fun z9 => nI ((va_cpy x.jB (fun _ => 0) 0 0 (min x.jN (2 * x.jsize))) z9)))), (q3, .inl (dA 1, 2 * x.jsize, .inl (fun z9 => nI ((va_cpy x.jU (fun _ => 0) 0 0 (min x.jN (2 * x.jsize))) z9)))), (q2, .inl (dA 1, 2 * x.jsize, .inl (fun z9 => nI ((va_cpy x.jO (fun _ => 0) 0 0 (min x.jN (2 * x.jsize))) z9)))), (q1, .inl (dA 1, 2 * x.jsize, .inl (fun z9 => nI ((va_cpy x.jK (fun _ => 0) 0 0 (min x.jN (2 * x.jsize))) z9))))] ++ VWf dA h ad x (VS.s_jA x (va_up (va_up (va_up (va_up (va_up x.jA 0 q1) 1 q2) 2 q3) 3 q4) 4 q5))) := hD
  refine lv_aload_n hx hb d_J_grow_85 rfl (lv_at hl 0 rfl) ?_
  refine lv_aload_n hx hb d_J_grow_86 rfl (lv_at hl 0 rfl) ?_
  refine gF (v := .ref (x.jA 5)) hx hb hown hE hK hP 7 rfl rfl layJ 5 (by decide) w195 rfl d_J_grow_87 ?_
  refine lv_iconst (v := 2) hx hb d_J_grow_90 (by decide) ?_
  refine lv_aload_n hx hb d_J_grow_91 rfl (lv_at hl 0 rfl) ?_
  refine gF (v := .int (nI x.jsize)) hx hb hown hE hK hP 7 rfl rfl layJ 6 (by decide) w545 rfl d_J_grow_92 ?_
  refine lv_imul hx hb d_J_grow_95 (tpi (y := nI (2 * x.jsize)) (pk_mul (2) (x.jsize)) ?_)
  refine jfR (rnS (As := [.ref (x.jA 5), .int (nI (2 * x.jsize))]) (rest := [.ref (ad 0)]) hx hb hml hown hE hK (hN _ _ hS) hP hD (v_copyOfJ l D dA H.size ([(q5, .inl (dA 2, 2 * x.jsize, .inr (.inl (va_cpy x.jF (fun _ => 0) 0 0 (min x.jN (2 * x.jsize)))))), (q4, .inl (dA 1, 2 * x.jsize, .inl (fun z9 => nI ((va_cpy x.jB (fun _ => 0) 0 0 (min x.jN (2 * x.jsize))) z9)))), (q3, .inl (dA 1, 2 * x.jsize, .inl (fun z9 => nI ((va_cpy x.jU (fun _ => 0) 0 0 (min x.jN (2 * x.jsize))) z9)))), (q2, .inl (dA 1, 2 * x.jsize, .inl (fun z9 => nI ((va_cpy x.jO (fun _ => 0) 0 0 (min x.jN (2 * x.jsize))) z9)))), (q1, .inl (dA 1, 2 * x.jsize, .inl (fun z9 => nI ((va_cpy x.jK (fun _ => 0) 0 0 (min x.jN (2 * x.jsize))) z9))))] ++ VWf dA h ad x (VS.s_jA x (va_up (va_up (va_up (va_up (va_up x.jA 0 q1) 1 q2) 2 q3) 3 q4) 4 q5))) (13) (x.jA 5) x.jN x.jS (2 * x.jsize) rfl (show x.jN < 2 * x.jsize by omega) (show 2 * x.jsize ≤ 131072 by omega)) w1114 w1115 w1116 w712 rfl rfl ⟨⟨by decide, by decide⟩, rfl⟩ ⟨(Nat.le_of_ble_eq_true rfl), (Nat.le_of_ble_eq_true rfl)⟩ rfl hl.1 rfl (Nat.le_of_ble_eq_true rfl) d_J_grow_96 ⟨(show (0 + 1 + 1 + 1 + 1 + 1) + 1 ≤ 6 by omega), (show (0 + (2 * x.jsize) + (2 * x.jsize) + (2 * x.jsize) + (2 * x.jsize) + (2 * x.jsize)) + (2 * x.jsize) ≤ 12 * x.jsize by omega)⟩) hP hD hS hA (fun u9 q6 H locs hp9 hP hD hS => ?_)
  have hP : va_P D vwCl ([(q6, .inl (dA 2, 2 * x.jsize, .inr (.inl (va_cpy x.jS (fun _ => 0) 0 0 (min x.jN (2 * x.jsize)))))), (q5, .inl (dA 2, 2 * x.jsize, .inr (.inl (va_cpy x.jF (fun _ => 0) 0 0 (min x.jN (2 * x.jsize)))))), (q4, .inl (dA 1, 2 * x.jsize, .inl (fun z9 => nI ((va_cpy x.jB (fun _ => 0) 0 0 (min x.jN (2 * x.jsize))) z9)))), (q3, .inl (dA 1, 2 * x.jsize, .inl (fun z9 => nI ((va_cpy x.jU (fun _ => 0) 0 0 (min x.jN (2 * x.jsize))) z9)))), (q2, .inl (dA 1, 2 * x.jsize, .inl (fun z9 => nI ((va_cpy x.jO (fun _ => 0) 0 0 (min x.jN (2 * x.jsize))) z9)))), (q1, .inl (dA 1, 2 * x.jsize, .inl (fun z9 => nI ((va_cpy x.jK (fun _ => 0) 0 0 (min x.jN (2 * x.jsize))) z9))))] ++ VWf dA h ad x (VS.s_jA x (va_up (va_up (va_up (va_up (va_up x.jA 0 q1) 1 q2) 2 q3) 3 q4) 4 q5))) H := hP
  have hD : va_D A ([(q6, .inl (dA 2, 2 * x.jsize, .inr (.inl (va_cpy x.jS (fun _ => 0) 0 0 (min x.jN (2 * x.jsize)))))), (q5, .inl (dA 2, 2 * x.jsize, .inr (.inl (va_cpy x.jF (fun _ => 0) 0 0 (min x.jN (2 * x.jsize)))))), (q4, .inl (dA 1, 2 * x.jsize, .inl (fun z9 => nI ((va_cpy x.jB (fun _ => 0) 0 0 (min x.jN (2 * x.jsize))) z9)))), (q3, .inl (dA 1, 2 * x.jsize, .inl (fun z9 => nI ((va_cpy x.jU (fun _ => 0) 0 0 (min x.jN (2 * x.jsize))) z9)))), (q2, .inl (dA 1, 2 * x.jsize, .inl (fun z9 => nI ((va_cpy x.jO (fun _ => 0) 0 0 (min x.jN (2 * x.jsize))) z9)))), (q1, .inl (dA 1, 2 * x.jsize, .inl (fun z9 => nI ((va_cpy x.jK (fun _ => 0) 0 0 (min x.jN (2 * x.jsize))) z9))))] ++ VWf dA h ad x (VS.s_jA x (va_up (va_up (va_up (va_up (va_up x.jA 0 q1) 1 q2) 2 q3) 3 q4) 4 q5))) := hD
  refine pF (v := .ref q6) hx hb hown hE hK hP hD hS 8 rfl rfl layJ tyJ tokJ nmJ 5 (by decide) w195 rfl rfl rfl (Nat.le_of_ble_eq_true rfl) d_J_grow_99 (fun H locs hP hD hS => ?_)
  have hP : va_P D vwCl ([(q6, .inl (dA 2, 2 * x.jsize, .inr (.inl (va_cpy x.jS (fun _ => 0) 0 0 (min x.jN (2 * x.jsize)))))), (q5, .inl (dA 2, 2 * x.jsize, .inr (.inl (va_cpy x.jF (fun _ => 0) 0 0 (min x.jN (2 * x.jsize)))))), (q4, .inl (dA 1, 2 * x.jsize, .inl (fun z9 => nI ((va_cpy x.jB (fun _ => 0) 0 0 (min x.jN (2 * x.jsize))) z9)))), (q3, .inl (dA 1, 2 * x.jsize, .inl (fun z9 => nI ((va_cpy x.jU (fun _ => 0) 0 0 (min x.jN (2 * x.jsize))) z9)))), (q2, .inl (dA 1, 2 * x.jsize, .inl (fun z9 => nI ((va_cpy x.jO (fun _ => 0) 0 0 (min x.jN (2 * x.jsize))) z9)))), (q1, .inl (dA 1, 2 * x.jsize, .inl (fun z9 => nI ((va_cpy x.jK (fun _ => 0) 0 0 (min x.jN (2 * x.jsize))) z9))))] ++ VWf dA h ad x (VS.s_jA x (va_up (va_up (va_up (va_up (va_up (va_up x.jA 0 q1) 1 q2) 2 q3) 3 q4) 4 q5) 5 q6))) H := hP
  have hD : va_D A ([(q6, .inl (dA 2, 2 * x.jsize, .inr (.inl (va_cpy x.jS (fun _ => 0) 0 0 (min x.jN (2 * x.jsize)))))), (q5, .inl (dA 2, 2 * x.jsize, .inr (.inl (va_cpy x.jF (fun _ => 0) 0 0 (min x.jN (2 * x.jsize)))))), (q4, .inl (dA 1, 2 * x.jsize, .inl (fun z9 => nI ((va_cpy x.jB (fun _ => 0) 0 0 (min x.jN (2 * x.jsize))) z9)))), (q3, .inl (dA 1, 2 * x.jsize, .inl (fun z9 => nI ((va_cpy x.jU (fun _ => 0) 0 0 (min x.jN (2 * x.jsize))) z9)))), (q2, .inl (dA 1, 2 * x.jsize, .inl (fun z9 => nI ((va_cpy x.jO (fun _ => 0) 0 0 (min x.jN (2 * x.jsize))) z9)))), (q1, .inl (dA 1, 2 * x.jsize, .inl (fun z9 => nI ((va_cpy x.jK (fun _ => 0) 0 0 (min x.jN (2 * x.jsize))) z9))))] ++ VWf dA h ad x (VS.s_jA x (va_up (va_up (va_up (va_up (va_up (va_up x.jA 0 q1) 1 q2) 2 q3) 3 q4) 4 q5) 5 q6))) := hD
  have hP := swP 13 hP
  have hD := swD 13 hD
  have hP := swP 11 hP
  have hD := swD 11 hD
  have hP := swP 9 hP
  have hD := swD 9 hD
  have hP := swP 7 hP
  have hD := swD 7 hD
  have hP := swP 5 hP
  have hD := swD 5 hD
  have hP := swP 3 hP
  have hD := swD 3 hD
  have hP : va_P D vwCl (VW dA h ad (VS.s_jS (VS.s_jF (VS.s_jB (VS.s_jU (VS.s_jO (VS.s_jK (VS.s_jN (VS.s_jA x (va_up (va_up (va_up (va_up (va_up (va_up x.jA 0 q1) 1 q2) 2 q3) 3 q4) 4 q5) 5 q6)) (2 * x.jsize)) (va_cpy x.jK (fun _ => 0) 0 0 (min x.jN (2 * x.jsize)))) (va_cpy x.jO (fun _ => 0) 0 0 (min x.jN (2 * x.jsize)))) (va_cpy x.jU (fun _ => 0) 0 0 (min x.jN (2 * x.jsize)))) (va_cpy x.jB (fun _ => 0) 0 0 (min x.jN (2 * x.jsize)))) (va_cpy x.jF (fun _ => 0) 0 0 (min x.jN (2 * x.jsize)))) (va_cpy x.jS (fun _ => 0) 0 0 (min x.jN (2 * x.jsize))))) H := hP
  have hD : va_D A (VW dA h ad (VS.s_jS (VS.s_jF (VS.s_jB (VS.s_jU (VS.s_jO (VS.s_jK (VS.s_jN (VS.s_jA x (va_up (va_up (va_up (va_up (va_up (va_up x.jA 0 q1) 1 q2) 2 q3) 3 q4) 4 q5) 5 q6)) (2 * x.jsize)) (va_cpy x.jK (fun _ => 0) 0 0 (min x.jN (2 * x.jsize)))) (va_cpy x.jO (fun _ => 0) 0 0 (min x.jN (2 * x.jsize)))) (va_cpy x.jU (fun _ => 0) 0 0 (min x.jN (2 * x.jsize)))) (va_cpy x.jB (fun _ => 0) 0 0 (min x.jN (2 * x.jsize)))) (va_cpy x.jF (fun _ => 0) 0 0 (min x.jN (2 * x.jsize)))) (va_cpy x.jS (fun _ => 0) 0 0 (min x.jN (2 * x.jsize))))) := hD
  exact rfV hx hb hr hlk hS (va_up (va_up (va_up (va_up (va_up (va_up x.jA 0 q1) 1 q2) 2 q3) 3 q4) 4 q5) 5 q6) trivial hP hD (show 0 + 1 + 1 + 1 + 1 + 1 + 1 ≤ 6 by omega) (show 0 + (2 * x.jsize) + (2 * x.jsize) + (2 * x.jsize) + (2 * x.jsize) + (2 * x.jsize) + (2 * x.jsize) ≤ 12 * x.jsize by omega) d_J_grow_102
end
section
def VS.jaS (x : VS) (kd w n : Nat) (a b : Int64) : VS := VS.s_jch (VS.s_jfill (VS.s_junits (VS.s_jsize (VS.s_jS (VS.s_jF (VS.s_jB (VS.s_jU (VS.s_jO (VS.s_jK x (va_up x.jK x.jsize kd)) (va_up x.jO x.jsize w)) (va_up x.jU x.jsize n)) (va_up x.jB x.jsize x.jblock)) (va_up x.jF x.jsize a)) (va_up x.jS x.jsize b)) (x.jsize + 1)) (x.junits + n)) (x.jfill + n)) true
def VS.jgS (x : VS) (ja : Nat → Nat) : VS := VS.s_jS (VS.s_jF (VS.s_jB (VS.s_jU (VS.s_jO (VS.s_jK (VS.s_jN (VS.s_jA x ja) (2 * x.jsize)) (va_cpy x.jK (fun _ => 0) 0 0 (min x.jN (2 * x.jsize)))) (va_cpy x.jO (fun _ => 0) 0 0 (min x.jN (2 * x.jsize)))) (va_cpy x.jU (fun _ => 0) 0 0 (min x.jN (2 * x.jsize)))) (va_cpy x.jB (fun _ => 0) 0 0 (min x.jN (2 * x.jsize)))) (va_cpy x.jF (fun _ => 0) 0 0 (min x.jN (2 * x.jsize)))) (va_cpy x.jS (fun _ => 0) 0 0 (min x.jN (2 * x.jsize)))
def VS.jcap (x : VS) : Nat := if x.jsize = x.jN then 2 * x.jsize else x.jN
def VS.jadF (x : VS) (ja : Nat → Nat) (kd w n : Nat) (a b : Int64) : VS := (if x.jsize = x.jN then x.jgS ja else x).jaS kd w n a b
theorem d_J_add_12 : decode prog_3_method_7_code 12 = .ok (.aload_n 0, 1) := by decide +kernel
theorem d_J_add_13 : decode prog_3_method_7_code 13 = .ok (.invokevirtual 54, 3) := by decide +kernel
theorem w1117 : Cond.methodLink "SeriesVault$Journal" 54 ⟨"SeriesVault$Journal", "grow", "()V"⟩ ∈ aW := aw_of (tb_5 (List.mem_of_getElem? (i := 67) rfl)) rfl
theorem w1118 : Cond.code ⟨"SeriesVault$Journal", "grow", "()V"⟩ prog_3_method_8_code 1 none ∈ aW := aw_of (tb_5 (List.mem_of_getElem? (i := 70) rfl)) rfl
theorem w1119 : Cond.instanceMethod ⟨"SeriesVault$Journal", "grow", "()V"⟩ ∈ aW := aw_of (tb_5 (List.mem_of_getElem? (i := 69) rfl)) rfl
theorem w1120 : Cond.selects "SeriesVault$Journal" ⟨"SeriesVault$Journal", "grow", "()V"⟩ ⟨"SeriesVault$Journal", "grow", "()V"⟩ ∈ aW := aw_pr (List.mem_map.mpr ⟨_, pv_2 (List.mem_of_getElem? (i := 0) rfl), rfl⟩) rfl
set_option maxHeartbeats 4000000 in
set_option maxRecDepth 100000 in
theorem v_jadd (l : Launch) (D : va_G) (dA : Nat → ClassId) (sz : Nat) (h : Nat) (ad : Nat → Nat) (x : VS) (kd : Nat) (w : Nat) (n : Nat) (a : Int64) (b : Int64) (hs1 : x.jsize ≤ x.jN) (hs2 : 0 < x.jN) (hs3 : x.jN ≤ 65536) : Met l ⟨"SeriesVault$Journal", "add", "(IIIJJ)V"⟩ [Cond.code ⟨"SeriesVault$Journal", "add", "(IIIJJ)V"⟩ prog_3_method_7_code 8 none] { frames := 3, cells := 6 * (x.jcap - x.jN), slots := 12 * (x.jcap - x.jN), locals := 82 } (pC D dA [.ref (ad 0), .int (nI kd), .int (nI w), .int (nI n), .long a, .long b] (VW dA h ad x) sz) (va_Qv (fun (u9 : VS) => ∃ ja : Nat → Nat, u9 = x.jadF ja kd w n a b) (fun (u9 : VS) t9 => bW D (va_A (VW dA h ad x) sz) (VW dA h ad u9) t9) (va_A (VW dA h ad x) sz)) (6 * (x.jcap - x.jN)) (12 * (x.jcap - x.jN)) (va_A (VW dA h ad x) sz) := by
  refine mkC (y := ⟨"SeriesVault$Journal", "add", "(IIIJJ)V"⟩) (cc := prog_3_method_7_code) (maxL := 8) (av := [.ref (ad 0), .int (nI kd), .int (nI w), .int (nI n), .long a, .long b]) (ws := VW dA h ad x) (sz := sz) (Qc := fun A => va_Qv (fun (u9 : VS) => ∃ ja : Nat → Nat, u9 = x.jadF ja kd w n a b) (fun (u9 : VS) t9 => bW D A (VW dA h ad u9) t9) A) (by decide) (Nat.le_of_ble_eq_true rfl) ?_
  intro A p e s m below meth c ls hsz hB
  obtain ⟨hx, hb, hr, hml, hown, hin, hlk, hE, hK, hP, hD, hS, hA, hN, hl⟩ := hB
  have hown : s.vm.findClass "SeriesVault$Journal" = some m.cls := hown
  have hl : lv_has ls 8 [(0, .ref (ad 0)), (1, .int (nI kd)), (2, .int (nI w)), (3, .int (nI n)), (4, .long a), (6, .long b)] := hl
  obtain ⟨H, hH⟩ : ∃ z, z = s.heap := ⟨_, rfl⟩
  have hP : va_P D vwCl (VW dA h ad x) H := by rw [hH]; exact hP
  have hS : va_S A s.heap H [] := by rw [hH]; exact hS
  rw [← hH]
  refine lv_aload_n hx hb d_J_add_0 rfl (lv_at hl 0 rfl) ?_
  refine gF (v := .int (nI x.jsize)) hx hb hown hE hK hP 2 rfl rfl layJ 6 (by decide) w545 rfl d_J_add_1 ?_
  refine lv_aload_n hx hb d_J_add_4 rfl (lv_at hl 0 rfl) ?_
  refine gF (v := .ref (x.jA 0)) hx hb hown hE hK hP 2 rfl rfl layJ 0 (by decide) w190 rfl d_J_add_5 ?_
  refine va_alen (v := nI x.jN) hx hb hK hP (3) 1 rfl rfl rfl d_J_add_8 ?_
  refine lv_icmp_ne hx hb d_J_add_9 (tgt := 16) rfl (fun g1 => ?_) (fun g1 => ?_)
  · have g1 := mt (nI_eq (a := x.jsize) (b := x.jN) (by omega) (by omega)).mpr g1
    have jc : x.jcap = x.jN := if_neg g1
    refine lv_aload_n hx hb d_J_add_16 rfl (lv_at hl 0 rfl) ?_
    refine gF (v := .ref (x.jA 0)) hx hb hown hE hK hP 2 rfl rfl layJ 0 (by decide) w190 rfl d_J_add_17 ?_
    refine lv_aload_n hx hb d_J_add_20 rfl (lv_at hl 0 rfl) ?_
    refine gF (v := .int (nI x.jsize)) hx hb hown hE hK hP 2 rfl rfl layJ 6 (by decide) w545 rfl d_J_add_21 ?_
    refine lv_iload_n hx hb d_J_add_24 rfl (lv_at hl 1 rfl) ?_
    refine nistN (v := kd) (n := x.jN) hx hb hK hP hD hS 3 1 rfl rfl (x.jsize) (by omega) (by omega) d_J_add_25 (fun H locs hP hD hS => ?_)
    have hP : va_P D vwCl (VW dA h ad (VS.s_jK x (va_up x.jK x.jsize kd))) H := hP
    have hD : va_D A (VW dA h ad (VS.s_jK x (va_up x.jK x.jsize kd))) := hD
    refine lv_aload_n hx hb d_J_add_26 rfl (lv_at hl 0 rfl) ?_
    refine gF (v := .ref (x.jA 1)) hx hb hown hE hK hP 2 rfl rfl layJ 1 (by decide) w191 rfl d_J_add_27 ?_
    refine lv_aload_n hx hb d_J_add_30 rfl (lv_at hl 0 rfl) ?_
    refine gF (v := .int (nI x.jsize)) hx hb hown hE hK hP 2 rfl rfl layJ 6 (by decide) w545 rfl d_J_add_31 ?_
    refine lv_iload_n hx hb d_J_add_34 rfl (lv_at hl 2 rfl) ?_
    refine nistN (v := w) (n := x.jN) hx hb hK hP hD hS 4 1 rfl rfl (x.jsize) (by omega) (by omega) d_J_add_35 (fun H locs hP hD hS => ?_)
    have hP : va_P D vwCl (VW dA h ad (VS.s_jO (VS.s_jK x (va_up x.jK x.jsize kd)) (va_up x.jO x.jsize w))) H := hP
    have hD : va_D A (VW dA h ad (VS.s_jO (VS.s_jK x (va_up x.jK x.jsize kd)) (va_up x.jO x.jsize w))) := hD
    refine lv_aload_n hx hb d_J_add_36 rfl (lv_at hl 0 rfl) ?_
    refine gF (v := .ref (x.jA 2)) hx hb hown hE hK hP 2 rfl rfl layJ 2 (by decide) w192 rfl d_J_add_37 ?_
    refine lv_aload_n hx hb d_J_add_40 rfl (lv_at hl 0 rfl) ?_
    refine gF (v := .int (nI x.jsize)) hx hb hown hE hK hP 2 rfl rfl layJ 6 (by decide) w545 rfl d_J_add_41 ?_
    refine lv_iload_n hx hb d_J_add_44 rfl (lv_at hl 3 rfl) ?_
    refine nistN (v := n) (n := x.jN) hx hb hK hP hD hS 5 1 rfl rfl (x.jsize) (by omega) (by omega) d_J_add_45 (fun H locs hP hD hS => ?_)
    have hP : va_P D vwCl (VW dA h ad (VS.s_jU (VS.s_jO (VS.s_jK x (va_up x.jK x.jsize kd)) (va_up x.jO x.jsize w)) (va_up x.jU x.jsize n))) H := hP
    have hD : va_D A (VW dA h ad (VS.s_jU (VS.s_jO (VS.s_jK x (va_up x.jK x.jsize kd)) (va_up x.jO x.jsize w)) (va_up x.jU x.jsize n))) := hD
    refine lv_aload_n hx hb d_J_add_46 rfl (lv_at hl 0 rfl) ?_
    refine gF (v := .ref (x.jA 3)) hx hb hown hE hK hP 2 rfl rfl layJ 3 (by decide) w193 rfl d_J_add_47 ?_
    refine lv_aload_n hx hb d_J_add_50 rfl (lv_at hl 0 rfl) ?_
    refine gF (v := .int (nI x.jsize)) hx hb hown hE hK hP 2 rfl rfl layJ 6 (by decide) w545 rfl d_J_add_51 ?_
    refine lv_aload_n hx hb d_J_add_54 rfl (lv_at hl 0 rfl) ?_
    refine gF (v := .int (nI x.jblock)) hx hb hown hE hK hP 2 rfl rfl layJ 10 (by decide) w553 rfl d_J_add_55 ?_
    refine nistN (v := x.jblock) (n := x.jN) hx hb hK hP hD hS 6 1 rfl rfl (x.jsize) (by omega) (by omega) d_J_add_58 (fun H locs hP hD hS => ?_)
    have hP : va_P D vwCl (VW dA h ad (VS.s_jB (VS.s_jU (VS.s_jO (VS.s_jK x (va_up x.jK x.jsize kd)) (va_up x.jO x.jsize w)) (va_up x.jU x.jsize n)) (va_up x.jB x.jsize x.jblock))) H := hP
    have hD : va_D A (VW dA h ad (VS.s_jB (VS.s_jU (VS.s_jO (VS.s_jK x (va_up x.jK x.jsize kd)) (va_up x.jO x.jsize w)) (va_up x.jU x.jsize n)) (va_up x.jB x.jsize x.jblock))) := hD
    refine lv_aload_n hx hb d_J_add_59 rfl (lv_at hl 0 rfl) ?_
    refine gF (v := .ref (x.jA 4)) hx hb hown hE hK hP 2 rfl rfl layJ 4 (by decide) w194 rfl d_J_add_60 ?_
    refine lv_aload_n hx hb d_J_add_63 rfl (lv_at hl 0 rfl) ?_
    refine gF (v := .int (nI x.jsize)) hx hb hown hE hK hP 2 rfl rfl layJ 6 (by decide) w545 rfl d_J_add_64 ?_
    refine lv_lload hx hb d_J_add_67 (lv_at hl 4 rfl) ?_
    refine nlst (n := x.jN) hx hb hK hP hD hS 7 2 rfl rfl (x.jsize) (by omega) (by omega) d_J_add_69 (fun H locs hP hD hS => ?_)
    have hP : va_P D vwCl (VW dA h ad (VS.s_jF (VS.s_jB (VS.s_jU (VS.s_jO (VS.s_jK x (va_up x.jK x.jsize kd)) (va_up x.jO x.jsize w)) (va_up x.jU x.jsize n)) (va_up x.jB x.jsize x.jblock)) (va_up x.jF x.jsize a))) H := hP
    have hD : va_D A (VW dA h ad (VS.s_jF (VS.s_jB (VS.s_jU (VS.s_jO (VS.s_jK x (va_up x.jK x.jsize kd)) (va_up x.jO x.jsize w)) (va_up x.jU x.jsize n)) (va_up x.jB x.jsize x.jblock)) (va_up x.jF x.jsize a))) := hD
    refine lv_aload_n hx hb d_J_add_70 rfl (lv_at hl 0 rfl) ?_
    refine gF (v := .ref (x.jA 5)) hx hb hown hE hK hP 2 rfl rfl layJ 5 (by decide) w195 rfl d_J_add_71 ?_
    refine lv_aload_n hx hb d_J_add_74 rfl (lv_at hl 0 rfl) ?_
    refine gF (v := .int (nI x.jsize)) hx hb hown hE hK hP 2 rfl rfl layJ 6 (by decide) w545 rfl d_J_add_75 ?_
    refine lv_lload hx hb d_J_add_78 (lv_at hl 5 rfl) ?_
    refine nlst (n := x.jN) hx hb hK hP hD hS 8 2 rfl rfl (x.jsize) (by omega) (by omega) d_J_add_80 (fun H locs hP hD hS => ?_)
    have hP : va_P D vwCl (VW dA h ad (VS.s_jS (VS.s_jF (VS.s_jB (VS.s_jU (VS.s_jO (VS.s_jK x (va_up x.jK x.jsize kd)) (va_up x.jO x.jsize w)) (va_up x.jU x.jsize n)) (va_up x.jB x.jsize x.jblock)) (va_up x.jF x.jsize a)) (va_up x.jS x.jsize b))) H := hP
    have hD : va_D A (VW dA h ad (VS.s_jS (VS.s_jF (VS.s_jB (VS.s_jU (VS.s_jO (VS.s_jK x (va_up x.jK x.jsize kd)) (va_up x.jO x.jsize w)) (va_up x.jU x.jsize n)) (va_up x.jB x.jsize x.jblock)) (va_up x.jF x.jsize a)) (va_up x.jS x.jsize b))) := hD
    refine lv_aload_n hx hb d_J_add_81 rfl (lv_at hl 0 rfl) ?_
    refine lv_dup hx hb d_J_add_82 rfl ?_
    refine gF (v := .int (nI x.jsize)) hx hb hown hE hK hP 2 rfl rfl layJ 6 (by decide) w545 rfl d_J_add_83 ?_
    refine lv_iconst (v := 1) hx hb d_J_add_86 (by decide) ?_
    refine lv_iadd hx hb d_J_add_87 (tpi (y := nI (x.jsize + 1)) (nI_add (x.jsize) (1)) ?_)
    refine pF (v := .int (nI (x.jsize + 1))) hx hb hown hE hK hP hD hS 2 rfl rfl layJ tyJ tokJ nmJ 6 (by decide) w545 rfl rfl rfl (Nat.le_of_ble_eq_true rfl) d_J_add_88 (fun H locs hP hD hS => ?_)
    have hP : va_P D vwCl (VW dA h ad (VS.s_jsize (VS.s_jS (VS.s_jF (VS.s_jB (VS.s_jU (VS.s_jO (VS.s_jK x (va_up x.jK x.jsize kd)) (va_up x.jO x.jsize w)) (va_up x.jU x.jsize n)) (va_up x.jB x.jsize x.jblock)) (va_up x.jF x.jsize a)) (va_up x.jS x.jsize b)) (x.jsize + 1))) H := hP
    have hD : va_D A (VW dA h ad (VS.s_jsize (VS.s_jS (VS.s_jF (VS.s_jB (VS.s_jU (VS.s_jO (VS.s_jK x (va_up x.jK x.jsize kd)) (va_up x.jO x.jsize w)) (va_up x.jU x.jsize n)) (va_up x.jB x.jsize x.jblock)) (va_up x.jF x.jsize a)) (va_up x.jS x.jsize b)) (x.jsize + 1))) := hD
    refine lv_aload_n hx hb d_J_add_91 rfl (lv_at hl 0 rfl) ?_
    refine lv_dup hx hb d_J_add_92 rfl ?_
    refine gF (v := .int (nI x.junits)) hx hb hown hE hK hP 2 rfl rfl layJ 8 (by decide) w552 rfl d_J_add_93 ?_
    refine lv_iload_n hx hb d_J_add_96 rfl (lv_at hl 3 rfl) ?_
    refine lv_iadd hx hb d_J_add_97 (tpi (y := nI (x.junits + n)) (nI_add (x.junits) (n)) ?_)
    refine pF (v := .int (nI (x.junits + n))) hx hb hown hE hK hP hD hS 2 rfl rfl layJ tyJ tokJ nmJ 8 (by decide) w552 rfl rfl rfl (Nat.le_of_ble_eq_true rfl) d_J_add_98 (fun H locs hP hD hS => ?_)
    have hP : va_P D vwCl (VW dA h ad (VS.s_junits (VS.s_jsize (VS.s_jS (VS.s_jF (VS.s_jB (VS.s_jU (VS.s_jO (VS.s_jK x (va_up x.jK x.jsize kd)) (va_up x.jO x.jsize w)) (va_up x.jU x.jsize n)) (va_up x.jB x.jsize x.jblock)) (va_up x.jF x.jsize a)) (va_up x.jS x.jsize b)) (x.jsize + 1)) (x.junits + n))) H := hP
    have hD : va_D A (VW dA h ad (VS.s_junits (VS.s_jsize (VS.s_jS (VS.s_jF (VS.s_jB (VS.s_jU (VS.s_jO (VS.s_jK x (va_up x.jK x.jsize kd)) (va_up x.jO x.jsize w)) (va_up x.jU x.jsize n)) (va_up x.jB x.jsize x.jblock)) (va_up x.jF x.jsize a)) (va_up x.jS x.jsize b)) (x.jsize + 1)) (x.junits + n))) := hD
    refine lv_aload_n hx hb d_J_add_101 rfl (lv_at hl 0 rfl) ?_
    refine lv_dup hx hb d_J_add_102 rfl ?_
    refine gF (v := .int (nI x.jfill)) hx hb hown hE hK hP 2 rfl rfl layJ 11 (by decide) w554 rfl d_J_add_103 ?_
    refine lv_iload_n hx hb d_J_add_106 rfl (lv_at hl 3 rfl) ?_
    refine lv_iadd hx hb d_J_add_107 (tpi (y := nI (x.jfill + n)) (nI_add (x.jfill) (n)) ?_)
    refine pF (v := .int (nI (x.jfill + n))) hx hb hown hE hK hP hD hS 2 rfl rfl layJ tyJ tokJ nmJ 11 (by decide) w554 rfl rfl rfl (Nat.le_of_ble_eq_true rfl) d_J_add_108 (fun H locs hP hD hS => ?_)
    have hP : va_P D vwCl (VW dA h ad (VS.s_jfill (VS.s_junits (VS.s_jsize (VS.s_jS (VS.s_jF (VS.s_jB (VS.s_jU (VS.s_jO (VS.s_jK x (va_up x.jK x.jsize kd)) (va_up x.jO x.jsize w)) (va_up x.jU x.jsize n)) (va_up x.jB x.jsize x.jblock)) (va_up x.jF x.jsize a)) (va_up x.jS x.jsize b)) (x.jsize + 1)) (x.junits + n)) (x.jfill + n))) H := hP
    have hD : va_D A (VW dA h ad (VS.s_jfill (VS.s_junits (VS.s_jsize (VS.s_jS (VS.s_jF (VS.s_jB (VS.s_jU (VS.s_jO (VS.s_jK x (va_up x.jK x.jsize kd)) (va_up x.jO x.jsize w)) (va_up x.jU x.jsize n)) (va_up x.jB x.jsize x.jblock)) (va_up x.jF x.jsize a)) (va_up x.jS x.jsize b)) (x.jsize + 1)) (x.junits + n)) (x.jfill + n))) := hD
    refine lv_aload_n hx hb d_J_add_111 rfl (lv_at hl 0 rfl) ?_
    refine lv_iconst (v := 1) hx hb d_J_add_112 (by decide) ?_
    refine pF (v := .int (bI true)) hx hb hown hE hK hP hD hS 2 rfl rfl layJ tyJ tokJ nmJ 12 (by decide) w551 rfl (bI_nar true) (bI_fit true) (Nat.le_of_ble_eq_true rfl) d_J_add_113 (fun H locs hP hD hS => ?_)
    have hP : va_P D vwCl (VW dA h ad (VS.s_jch (VS.s_jfill (VS.s_junits (VS.s_jsize (VS.s_jS (VS.s_jF (VS.s_jB (VS.s_jU (VS.s_jO (VS.s_jK x (va_up x.jK x.jsize kd)) (va_up x.jO x.jsize w)) (va_up x.jU x.jsize n)) (va_up x.jB x.jsize x.jblock)) (va_up x.jF x.jsize a)) (va_up x.jS x.jsize b)) (x.jsize + 1)) (x.junits + n)) (x.jfill + n)) true)) H := hP
    have hD : va_D A (VW dA h ad (VS.s_jch (VS.s_jfill (VS.s_junits (VS.s_jsize (VS.s_jS (VS.s_jF (VS.s_jB (VS.s_jU (VS.s_jO (VS.s_jK x (va_up x.jK x.jsize kd)) (va_up x.jO x.jsize w)) (va_up x.jU x.jsize n)) (va_up x.jB x.jsize x.jblock)) (va_up x.jF x.jsize a)) (va_up x.jS x.jsize b)) (x.jsize + 1)) (x.junits + n)) (x.jfill + n)) true)) := hD
    exact rfV hx hb hr hlk hS (VS.s_jch (VS.s_jfill (VS.s_junits (VS.s_jsize (VS.s_jS (VS.s_jF (VS.s_jB (VS.s_jU (VS.s_jO (VS.s_jK x (va_up x.jK x.jsize kd)) (va_up x.jO x.jsize w)) (va_up x.jU x.jsize n)) (va_up x.jB x.jsize x.jblock)) (va_up x.jF x.jsize a)) (va_up x.jS x.jsize b)) (x.jsize + 1)) (x.junits + n)) (x.jfill + n)) true) ⟨x.jA, by unfold VS.jadF; rw [if_neg g1]; rfl⟩ hP hD (show 0 ≤ 6 * (x.jcap - x.jN) by omega) (show 0 ≤ 12 * (x.jcap - x.jN) by omega) d_J_add_116
  · have g1 := (nI_eq (a := x.jsize) (b := x.jN) (by omega) (by omega)).mp g1
    have jc : x.jcap = 2 * x.jsize := if_pos g1
    refine lv_aload_n hx hb d_J_add_12 rfl (lv_at hl 0 rfl) ?_
    refine jfV (rnV (As := []) (rest := []) hx hb hml hown hE hK (hN _ _ hS) hP hD (v_jgrow l D dA H.size h ad x (show x.jsize = x.jN from by omega) (show 0 < x.jsize from by omega) (show x.jsize ≤ 65536 from by omega)) (q0 := 2) rfl rfl w1118 w1117 w1119 w1120 w556 rfl rfl ⟨⟨by decide, by decide⟩, rfl⟩ ⟨(Nat.le_of_ble_eq_true rfl), (Nat.le_of_ble_eq_true rfl)⟩ rfl hl.1 rfl (Nat.le_of_ble_eq_true rfl) d_J_add_13 ⟨(show 0 + 6 ≤ 6 * (x.jcap - x.jN) by omega), (show 0 + (12 * x.jsize) ≤ 12 * (x.jcap - x.jN) by omega)⟩) hP hD hS hA (fun u3 H locs hp9 hP hD hS => ?_)
    obtain ⟨ja4, h9u⟩ : ∃ z9, z9 = u3 := ⟨_, rfl⟩
    subst h9u
    have hP : va_P D vwCl (VW dA h ad (VS.s_jS (VS.s_jF (VS.s_jB (VS.s_jU (VS.s_jO (VS.s_jK (VS.s_jN (VS.s_jA x ja4) (2 * x.jsize)) (va_cpy x.jK (fun _ => 0) 0 0 (min x.jN (2 * x.jsize)))) (va_cpy x.jO (fun _ => 0) 0 0 (min x.jN (2 * x.jsize)))) (va_cpy x.jU (fun _ => 0) 0 0 (min x.jN (2 * x.jsize)))) (va_cpy x.jB (fun _ => 0) 0 0 (min x.jN (2 * x.jsize)))) (va_cpy x.jF (fun _ => 0) 0 0 (min x.jN (2 * x.jsize)))) (va_cpy x.jS (fun _ => 0) 0 0 (min x.jN (2 * x.jsize))))) H := hP
    have hD : va_D A (VW dA h ad (VS.s_jS (VS.s_jF (VS.s_jB (VS.s_jU (VS.s_jO (VS.s_jK (VS.s_jN (VS.s_jA x ja4) (2 * x.jsize)) (va_cpy x.jK (fun _ => 0) 0 0 (min x.jN (2 * x.jsize)))) (va_cpy x.jO (fun _ => 0) 0 0 (min x.jN (2 * x.jsize)))) (va_cpy x.jU (fun _ => 0) 0 0 (min x.jN (2 * x.jsize)))) (va_cpy x.jB (fun _ => 0) 0 0 (min x.jN (2 * x.jsize)))) (va_cpy x.jF (fun _ => 0) 0 0 (min x.jN (2 * x.jsize)))) (va_cpy x.jS (fun _ => 0) 0 0 (min x.jN (2 * x.jsize))))) := hD
    refine lv_aload_n hx hb d_J_add_16 rfl (lv_at hl 0 rfl) ?_
    refine gF (v := .ref (ja4 0)) hx hb hown hE hK hP 2 rfl rfl layJ 0 (by decide) w190 rfl d_J_add_17 ?_
    refine lv_aload_n hx hb d_J_add_20 rfl (lv_at hl 0 rfl) ?_
    refine gF (v := .int (nI x.jsize)) hx hb hown hE hK hP 2 rfl rfl layJ 6 (by decide) w545 rfl d_J_add_21 ?_
    refine lv_iload_n hx hb d_J_add_24 rfl (lv_at hl 1 rfl) ?_
    refine nistN (v := kd) (n := 2 * x.jsize) hx hb hK hP hD hS 3 1 rfl rfl (x.jsize) (by omega) (by omega) d_J_add_25 (fun H locs hP hD hS => ?_)
    have hP : va_P D vwCl (VW dA h ad (VS.s_jS (VS.s_jF (VS.s_jB (VS.s_jU (VS.s_jO (VS.s_jK (VS.s_jN (VS.s_jA x ja4) (2 * x.jsize)) (va_up (va_cpy x.jK (fun _ => 0) 0 0 (min x.jN (2 * x.jsize))) x.jsize kd)) (va_cpy x.jO (fun _ => 0) 0 0 (min x.jN (2 * x.jsize)))) (va_cpy x.jU (fun _ => 0) 0 0 (min x.jN (2 * x.jsize)))) (va_cpy x.jB (fun _ => 0) 0 0 (min x.jN (2 * x.jsize)))) (va_cpy x.jF (fun _ => 0) 0 0 (min x.jN (2 * x.jsize)))) (va_cpy x.jS (fun _ => 0) 0 0 (min x.jN (2 * x.jsize))))) H := hP
    have hD : va_D A (VW dA h ad (VS.s_jS (VS.s_jF (VS.s_jB (VS.s_jU (VS.s_jO (VS.s_jK (VS.s_jN (VS.s_jA x ja4) (2 * x.jsize)) (va_up (va_cpy x.jK (fun _ => 0) 0 0 (min x.jN (2 * x.jsize))) x.jsize kd)) (va_cpy x.jO (fun _ => 0) 0 0 (min x.jN (2 * x.jsize)))) (va_cpy x.jU (fun _ => 0) 0 0 (min x.jN (2 * x.jsize)))) (va_cpy x.jB (fun _ => 0) 0 0 (min x.jN (2 * x.jsize)))) (va_cpy x.jF (fun _ => 0) 0 0 (min x.jN (2 * x.jsize)))) (va_cpy x.jS (fun _ => 0) 0 0 (min x.jN (2 * x.jsize))))) := hD
    refine lv_aload_n hx hb d_J_add_26 rfl (lv_at hl 0 rfl) ?_
    refine gF (v := .ref (ja4 1)) hx hb hown hE hK hP 2 rfl rfl layJ 1 (by decide) w191 rfl d_J_add_27 ?_
    refine lv_aload_n hx hb d_J_add_30 rfl (lv_at hl 0 rfl) ?_
    refine gF (v := .int (nI x.jsize)) hx hb hown hE hK hP 2 rfl rfl layJ 6 (by decide) w545 rfl d_J_add_31 ?_
    refine lv_iload_n hx hb d_J_add_34 rfl (lv_at hl 2 rfl) ?_
    refine nistN (v := w) (n := 2 * x.jsize) hx hb hK hP hD hS 4 1 rfl rfl (x.jsize) (by omega) (by omega) d_J_add_35 (fun H locs hP hD hS => ?_)
    have hP : va_P D vwCl (VW dA h ad (VS.s_jS (VS.s_jF (VS.s_jB (VS.s_jU (VS.s_jO (VS.s_jK (VS.s_jN (VS.s_jA x ja4) (2 * x.jsize)) (va_up (va_cpy x.jK (fun _ => 0) 0 0 (min x.jN (2 * x.jsize))) x.jsize kd)) (va_up (va_cpy x.jO (fun _ => 0) 0 0 (min x.jN (2 * x.jsize))) x.jsize w)) (va_cpy x.jU (fun _ => 0) 0 0 (min x.jN (2 * x.jsize)))) (va_cpy x.jB (fun _ => 0) 0 0 (min x.jN (2 * x.jsize)))) (va_cpy x.jF (fun _ => 0) 0 0 (min x.jN (2 * x.jsize)))) (va_cpy x.jS (fun _ => 0) 0 0 (min x.jN (2 * x.jsize))))) H := hP
    have hD : va_D A (VW dA h ad (VS.s_jS (VS.s_jF (VS.s_jB (VS.s_jU (VS.s_jO (VS.s_jK (VS.s_jN (VS.s_jA x ja4) (2 * x.jsize)) (va_up (va_cpy x.jK (fun _ => 0) 0 0 (min x.jN (2 * x.jsize))) x.jsize kd)) (va_up (va_cpy x.jO (fun _ => 0) 0 0 (min x.jN (2 * x.jsize))) x.jsize w)) (va_cpy x.jU (fun _ => 0) 0 0 (min x.jN (2 * x.jsize)))) (va_cpy x.jB (fun _ => 0) 0 0 (min x.jN (2 * x.jsize)))) (va_cpy x.jF (fun _ => 0) 0 0 (min x.jN (2 * x.jsize)))) (va_cpy x.jS (fun _ => 0) 0 0 (min x.jN (2 * x.jsize))))) := hD
    refine lv_aload_n hx hb d_J_add_36 rfl (lv_at hl 0 rfl) ?_
    refine gF (v := .ref (ja4 2)) hx hb hown hE hK hP 2 rfl rfl layJ 2 (by decide) w192 rfl d_J_add_37 ?_
    refine lv_aload_n hx hb d_J_add_40 rfl (lv_at hl 0 rfl) ?_
    refine gF (v := .int (nI x.jsize)) hx hb hown hE hK hP 2 rfl rfl layJ 6 (by decide) w545 rfl d_J_add_41 ?_
    refine lv_iload_n hx hb d_J_add_44 rfl (lv_at hl 3 rfl) ?_
    refine nistN (v := n) (n := 2 * x.jsize) hx hb hK hP hD hS 5 1 rfl rfl (x.jsize) (by omega) (by omega) d_J_add_45 (fun H locs hP hD hS => ?_)
    have hP : va_P D vwCl (VW dA h ad (VS.s_jS (VS.s_jF (VS.s_jB (VS.s_jU (VS.s_jO (VS.s_jK (VS.s_jN (VS.s_jA x ja4) (2 * x.jsize)) (va_up (va_cpy x.jK (fun _ => 0) 0 0 (min x.jN (2 * x.jsize))) x.jsize kd)) (va_up (va_cpy x.jO (fun _ => 0) 0 0 (min x.jN (2 * x.jsize))) x.jsize w)) (va_up (va_cpy x.jU (fun _ => 0) 0 0 (min x.jN (2 * x.jsize))) x.jsize n)) (va_cpy x.jB (fun _ => 0) 0 0 (min x.jN (2 * x.jsize)))) (va_cpy x.jF (fun _ => 0) 0 0 (min x.jN (2 * x.jsize)))) (va_cpy x.jS (fun _ => 0) 0 0 (min x.jN (2 * x.jsize))))) H := hP
    have hD : va_D A (VW dA h ad (VS.s_jS (VS.s_jF (VS.s_jB (VS.s_jU (VS.s_jO (VS.s_jK (VS.s_jN (VS.s_jA x ja4) (2 * x.jsize)) (va_up (va_cpy x.jK (fun _ => 0) 0 0 (min x.jN (2 * x.jsize))) x.jsize kd)) (va_up (va_cpy x.jO (fun _ => 0) 0 0 (min x.jN (2 * x.jsize))) x.jsize w)) (va_up (va_cpy x.jU (fun _ => 0) 0 0 (min x.jN (2 * x.jsize))) x.jsize n)) (va_cpy x.jB (fun _ => 0) 0 0 (min x.jN (2 * x.jsize)))) (va_cpy x.jF (fun _ => 0) 0 0 (min x.jN (2 * x.jsize)))) (va_cpy x.jS (fun _ => 0) 0 0 (min x.jN (2 * x.jsize))))) := hD
    refine lv_aload_n hx hb d_J_add_46 rfl (lv_at hl 0 rfl) ?_
    refine gF (v := .ref (ja4 3)) hx hb hown hE hK hP 2 rfl rfl layJ 3 (by decide) w193 rfl d_J_add_47 ?_
    refine lv_aload_n hx hb d_J_add_50 rfl (lv_at hl 0 rfl) ?_
    refine gF (v := .int (nI x.jsize)) hx hb hown hE hK hP 2 rfl rfl layJ 6 (by decide) w545 rfl d_J_add_51 ?_
    refine lv_aload_n hx hb d_J_add_54 rfl (lv_at hl 0 rfl) ?_
    refine gF (v := .int (nI x.jblock)) hx hb hown hE hK hP 2 rfl rfl layJ 10 (by decide) w553 rfl d_J_add_55 ?_
    refine nistN (v := x.jblock) (n := 2 * x.jsize) hx hb hK hP hD hS 6 1 rfl rfl (x.jsize) (by omega) (by omega) d_J_add_58 (fun H locs hP hD hS => ?_)
    have hP : va_P D vwCl (VW dA h ad (VS.s_jS (VS.s_jF (VS.s_jB (VS.s_jU (VS.s_jO (VS.s_jK (VS.s_jN (VS.s_jA x ja4) (2 * x.jsize)) (va_up (va_cpy x.jK (fun _ => 0) 0 0 (min x.jN (2 * x.jsize))) x.jsize kd)) (va_up (va_cpy x.jO (fun _ => 0) 0 0 (min x.jN (2 * x.jsize))) x.jsize w)) (va_up (va_cpy x.jU (fun _ => 0) 0 0 (min x.jN (2 * x.jsize))) x.jsize n)) (va_up (va_cpy x.jB (fun _ => 0) 0 0 (min x.jN (2 * x.jsize))) x.jsize x.jblock)) (va_cpy x.jF (fun _ => 0) 0 0 (min x.jN (2 * x.jsize)))) (va_cpy x.jS (fun _ => 0) 0 0 (min x.jN (2 * x.jsize))))) H := hP
    have hD : va_D A (VW dA h ad (VS.s_jS (VS.s_jF (VS.s_jB (VS.s_jU (VS.s_jO (VS.s_jK (VS.s_jN (VS.s_jA x ja4) (2 * x.jsize)) (va_up (va_cpy x.jK (fun _ => 0) 0 0 (min x.jN (2 * x.jsize))) x.jsize kd)) (va_up (va_cpy x.jO (fun _ => 0) 0 0 (min x.jN (2 * x.jsize))) x.jsize w)) (va_up (va_cpy x.jU (fun _ => 0) 0 0 (min x.jN (2 * x.jsize))) x.jsize n)) (va_up (va_cpy x.jB (fun _ => 0) 0 0 (min x.jN (2 * x.jsize))) x.jsize x.jblock)) (va_cpy x.jF (fun _ => 0) 0 0 (min x.jN (2 * x.jsize)))) (va_cpy x.jS (fun _ => 0) 0 0 (min x.jN (2 * x.jsize))))) := hD
    refine lv_aload_n hx hb d_J_add_59 rfl (lv_at hl 0 rfl) ?_
    refine gF (v := .ref (ja4 4)) hx hb hown hE hK hP 2 rfl rfl layJ 4 (by decide) w194 rfl d_J_add_60 ?_
    refine lv_aload_n hx hb d_J_add_63 rfl (lv_at hl 0 rfl) ?_
    refine gF (v := .int (nI x.jsize)) hx hb hown hE hK hP 2 rfl rfl layJ 6 (by decide) w545 rfl d_J_add_64 ?_
    refine lv_lload hx hb d_J_add_67 (lv_at hl 4 rfl) ?_
    refine nlst (n := 2 * x.jsize) hx hb hK hP hD hS 7 2 rfl rfl (x.jsize) (by omega) (by omega) d_J_add_69 (fun H locs hP hD hS => ?_)
    have hP : va_P D vwCl (VW dA h ad (VS.s_jS (VS.s_jF (VS.s_jB (VS.s_jU (VS.s_jO (VS.s_jK (VS.s_jN (VS.s_jA x ja4) (2 * x.jsize)) (va_up (va_cpy x.jK (fun _ => 0) 0 0 (min x.jN (2 * x.jsize))) x.jsize kd)) (va_up (va_cpy x.jO (fun _ => 0) 0 0 (min x.jN (2 * x.jsize))) x.jsize w)) (va_up (va_cpy x.jU (fun _ => 0) 0 0 (min x.jN (2 * x.jsize))) x.jsize n)) (va_up (va_cpy x.jB (fun _ => 0) 0 0 (min x.jN (2 * x.jsize))) x.jsize x.jblock)) (va_up (va_cpy x.jF (fun _ => 0) 0 0 (min x.jN (2 * x.jsize))) x.jsize a)) (va_cpy x.jS (fun _ => 0) 0 0 (min x.jN (2 * x.jsize))))) H := hP
    have hD : va_D A (VW dA h ad (VS.s_jS (VS.s_jF (VS.s_jB (VS.s_jU (VS.s_jO (VS.s_jK (VS.s_jN (VS.s_jA x ja4) (2 * x.jsize)) (va_up (va_cpy x.jK (fun _ => 0) 0 0 (min x.jN (2 * x.jsize))) x.jsize kd)) (va_up (va_cpy x.jO (fun _ => 0) 0 0 (min x.jN (2 * x.jsize))) x.jsize w)) (va_up (va_cpy x.jU (fun _ => 0) 0 0 (min x.jN (2 * x.jsize))) x.jsize n)) (va_up (va_cpy x.jB (fun _ => 0) 0 0 (min x.jN (2 * x.jsize))) x.jsize x.jblock)) (va_up (va_cpy x.jF (fun _ => 0) 0 0 (min x.jN (2 * x.jsize))) x.jsize a)) (va_cpy x.jS (fun _ => 0) 0 0 (min x.jN (2 * x.jsize))))) := hD
    refine lv_aload_n hx hb d_J_add_70 rfl (lv_at hl 0 rfl) ?_
    refine gF (v := .ref (ja4 5)) hx hb hown hE hK hP 2 rfl rfl layJ 5 (by decide) w195 rfl d_J_add_71 ?_
    refine lv_aload_n hx hb d_J_add_74 rfl (lv_at hl 0 rfl) ?_
    refine gF (v := .int (nI x.jsize)) hx hb hown hE hK hP 2 rfl rfl layJ 6 (by decide) w545 rfl d_J_add_75 ?_
    refine lv_lload hx hb d_J_add_78 (lv_at hl 5 rfl) ?_
    refine nlst (n := 2 * x.jsize) hx hb hK hP hD hS 8 2 rfl rfl (x.jsize) (by omega) (by omega) d_J_add_80 (fun H locs hP hD hS => ?_)
    have hP : va_P D vwCl (VW dA h ad (VS.s_jS (VS.s_jF (VS.s_jB (VS.s_jU (VS.s_jO (VS.s_jK (VS.s_jN (VS.s_jA x ja4) (2 * x.jsize)) (va_up (va_cpy x.jK (fun _ => 0) 0 0 (min x.jN (2 * x.jsize))) x.jsize kd)) (va_up (va_cpy x.jO (fun _ => 0) 0 0 (min x.jN (2 * x.jsize))) x.jsize w)) (va_up (va_cpy x.jU (fun _ => 0) 0 0 (min x.jN (2 * x.jsize))) x.jsize n)) (va_up (va_cpy x.jB (fun _ => 0) 0 0 (min x.jN (2 * x.jsize))) x.jsize x.jblock)) (va_up (va_cpy x.jF (fun _ => 0) 0 0 (min x.jN (2 * x.jsize))) x.jsize a)) (va_up (va_cpy x.jS (fun _ => 0) 0 0 (min x.jN (2 * x.jsize))) x.jsize b))) H := hP
    have hD : va_D A (VW dA h ad (VS.s_jS (VS.s_jF (VS.s_jB (VS.s_jU (VS.s_jO (VS.s_jK (VS.s_jN (VS.s_jA x ja4) (2 * x.jsize)) (va_up (va_cpy x.jK (fun _ => 0) 0 0 (min x.jN (2 * x.jsize))) x.jsize kd)) (va_up (va_cpy x.jO (fun _ => 0) 0 0 (min x.jN (2 * x.jsize))) x.jsize w)) (va_up (va_cpy x.jU (fun _ => 0) 0 0 (min x.jN (2 * x.jsize))) x.jsize n)) (va_up (va_cpy x.jB (fun _ => 0) 0 0 (min x.jN (2 * x.jsize))) x.jsize x.jblock)) (va_up (va_cpy x.jF (fun _ => 0) 0 0 (min x.jN (2 * x.jsize))) x.jsize a)) (va_up (va_cpy x.jS (fun _ => 0) 0 0 (min x.jN (2 * x.jsize))) x.jsize b))) := hD
    refine lv_aload_n hx hb d_J_add_81 rfl (lv_at hl 0 rfl) ?_
    refine lv_dup hx hb d_J_add_82 rfl ?_
    refine gF (v := .int (nI x.jsize)) hx hb hown hE hK hP 2 rfl rfl layJ 6 (by decide) w545 rfl d_J_add_83 ?_
    refine lv_iconst (v := 1) hx hb d_J_add_86 (by decide) ?_
    refine lv_iadd hx hb d_J_add_87 (tpi (y := nI (x.jsize + 1)) (nI_add (x.jsize) (1)) ?_)
    refine pF (v := .int (nI (x.jsize + 1))) hx hb hown hE hK hP hD hS 2 rfl rfl layJ tyJ tokJ nmJ 6 (by decide) w545 rfl rfl rfl (Nat.le_of_ble_eq_true rfl) d_J_add_88 (fun H locs hP hD hS => ?_)
    have hP : va_P D vwCl (VW dA h ad (VS.s_jsize (VS.s_jS (VS.s_jF (VS.s_jB (VS.s_jU (VS.s_jO (VS.s_jK (VS.s_jN (VS.s_jA x ja4) (2 * x.jsize)) (va_up (va_cpy x.jK (fun _ => 0) 0 0 (min x.jN (2 * x.jsize))) x.jsize kd)) (va_up (va_cpy x.jO (fun _ => 0) 0 0 (min x.jN (2 * x.jsize))) x.jsize w)) (va_up (va_cpy x.jU (fun _ => 0) 0 0 (min x.jN (2 * x.jsize))) x.jsize n)) (va_up (va_cpy x.jB (fun _ => 0) 0 0 (min x.jN (2 * x.jsize))) x.jsize x.jblock)) (va_up (va_cpy x.jF (fun _ => 0) 0 0 (min x.jN (2 * x.jsize))) x.jsize a)) (va_up (va_cpy x.jS (fun _ => 0) 0 0 (min x.jN (2 * x.jsize))) x.jsize b)) (x.jsize + 1))) H := hP
    have hD : va_D A (VW dA h ad (VS.s_jsize (VS.s_jS (VS.s_jF (VS.s_jB (VS.s_jU (VS.s_jO (VS.s_jK (VS.s_jN (VS.s_jA x ja4) (2 * x.jsize)) (va_up (va_cpy x.jK (fun _ => 0) 0 0 (min x.jN (2 * x.jsize))) x.jsize kd)) (va_up (va_cpy x.jO (fun _ => 0) 0 0 (min x.jN (2 * x.jsize))) x.jsize w)) (va_up (va_cpy x.jU (fun _ => 0) 0 0 (min x.jN (2 * x.jsize))) x.jsize n)) (va_up (va_cpy x.jB (fun _ => 0) 0 0 (min x.jN (2 * x.jsize))) x.jsize x.jblock)) (va_up (va_cpy x.jF (fun _ => 0) 0 0 (min x.jN (2 * x.jsize))) x.jsize a)) (va_up (va_cpy x.jS (fun _ => 0) 0 0 (min x.jN (2 * x.jsize))) x.jsize b)) (x.jsize + 1))) := hD
    refine lv_aload_n hx hb d_J_add_91 rfl (lv_at hl 0 rfl) ?_
    refine lv_dup hx hb d_J_add_92 rfl ?_
    refine gF (v := .int (nI x.junits)) hx hb hown hE hK hP 2 rfl rfl layJ 8 (by decide) w552 rfl d_J_add_93 ?_
    refine lv_iload_n hx hb d_J_add_96 rfl (lv_at hl 3 rfl) ?_
    refine lv_iadd hx hb d_J_add_97 (tpi (y := nI (x.junits + n)) (nI_add (x.junits) (n)) ?_)
    refine pF (v := .int (nI (x.junits + n))) hx hb hown hE hK hP hD hS 2 rfl rfl layJ tyJ tokJ nmJ 8 (by decide) w552 rfl rfl rfl (Nat.le_of_ble_eq_true rfl) d_J_add_98 (fun H locs hP hD hS => ?_)
    have hP : va_P D vwCl (VW dA h ad (VS.s_junits (VS.s_jsize (VS.s_jS (VS.s_jF (VS.s_jB (VS.s_jU (VS.s_jO (VS.s_jK (VS.s_jN (VS.s_jA x ja4) (2 * x.jsize)) (va_up (va_cpy x.jK (fun _ => 0) 0 0 (min x.jN (2 * x.jsize))) x.jsize kd)) (va_up (va_cpy x.jO (fun _ => 0) 0 0 (min x.jN (2 * x.jsize))) x.jsize w)) (va_up (va_cpy x.jU (fun _ => 0) 0 0 (min x.jN (2 * x.jsize))) x.jsize n)) (va_up (va_cpy x.jB (fun _ => 0) 0 0 (min x.jN (2 * x.jsize))) x.jsize x.jblock)) (va_up (va_cpy x.jF (fun _ => 0) 0 0 (min x.jN (2 * x.jsize))) x.jsize a)) (va_up (va_cpy x.jS (fun _ => 0) 0 0 (min x.jN (2 * x.jsize))) x.jsize b)) (x.jsize + 1)) (x.junits + n))) H := hP
    have hD : va_D A (VW dA h ad (VS.s_junits (VS.s_jsize (VS.s_jS (VS.s_jF (VS.s_jB (VS.s_jU (VS.s_jO (VS.s_jK (VS.s_jN (VS.s_jA x ja4) (2 * x.jsize)) (va_up (va_cpy x.jK (fun _ => 0) 0 0 (min x.jN (2 * x.jsize))) x.jsize kd)) (va_up (va_cpy x.jO (fun _ => 0) 0 0 (min x.jN (2 * x.jsize))) x.jsize w)) (va_up (va_cpy x.jU (fun _ => 0) 0 0 (min x.jN (2 * x.jsize))) x.jsize n)) (va_up (va_cpy x.jB (fun _ => 0) 0 0 (min x.jN (2 * x.jsize))) x.jsize x.jblock)) (va_up (va_cpy x.jF (fun _ => 0) 0 0 (min x.jN (2 * x.jsize))) x.jsize a)) (va_up (va_cpy x.jS (fun _ => 0) 0 0 (min x.jN (2 * x.jsize))) x.jsize b)) (x.jsize + 1)) (x.junits + n))) := hD
    refine lv_aload_n hx hb d_J_add_101 rfl (lv_at hl 0 rfl) ?_
    refine lv_dup hx hb d_J_add_102 rfl ?_
    refine gF (v := .int (nI x.jfill)) hx hb hown hE hK hP 2 rfl rfl layJ 11 (by decide) w554 rfl d_J_add_103 ?_
    refine lv_iload_n hx hb d_J_add_106 rfl (lv_at hl 3 rfl) ?_
    refine lv_iadd hx hb d_J_add_107 (tpi (y := nI (x.jfill + n)) (nI_add (x.jfill) (n)) ?_)
    refine pF (v := .int (nI (x.jfill + n))) hx hb hown hE hK hP hD hS 2 rfl rfl layJ tyJ tokJ nmJ 11 (by decide) w554 rfl rfl rfl (Nat.le_of_ble_eq_true rfl) d_J_add_108 (fun H locs hP hD hS => ?_)
    have hP : va_P D vwCl (VW dA h ad (VS.s_jfill (VS.s_junits (VS.s_jsize (VS.s_jS (VS.s_jF (VS.s_jB (VS.s_jU (VS.s_jO (VS.s_jK (VS.s_jN (VS.s_jA x ja4) (2 * x.jsize)) (va_up (va_cpy x.jK (fun _ => 0) 0 0 (min x.jN (2 * x.jsize))) x.jsize kd)) (va_up (va_cpy x.jO (fun _ => 0) 0 0 (min x.jN (2 * x.jsize))) x.jsize w)) (va_up (va_cpy x.jU (fun _ => 0) 0 0 (min x.jN (2 * x.jsize))) x.jsize n)) (va_up (va_cpy x.jB (fun _ => 0) 0 0 (min x.jN (2 * x.jsize))) x.jsize x.jblock)) (va_up (va_cpy x.jF (fun _ => 0) 0 0 (min x.jN (2 * x.jsize))) x.jsize a)) (va_up (va_cpy x.jS (fun _ => 0) 0 0 (min x.jN (2 * x.jsize))) x.jsize b)) (x.jsize + 1)) (x.junits + n)) (x.jfill + n))) H := hP
    have hD : va_D A (VW dA h ad (VS.s_jfill (VS.s_junits (VS.s_jsize (VS.s_jS (VS.s_jF (VS.s_jB (VS.s_jU (VS.s_jO (VS.s_jK (VS.s_jN (VS.s_jA x ja4) (2 * x.jsize)) (va_up (va_cpy x.jK (fun _ => 0) 0 0 (min x.jN (2 * x.jsize))) x.jsize kd)) (va_up (va_cpy x.jO (fun _ => 0) 0 0 (min x.jN (2 * x.jsize))) x.jsize w)) (va_up (va_cpy x.jU (fun _ => 0) 0 0 (min x.jN (2 * x.jsize))) x.jsize n)) (va_up (va_cpy x.jB (fun _ => 0) 0 0 (min x.jN (2 * x.jsize))) x.jsize x.jblock)) (va_up (va_cpy x.jF (fun _ => 0) 0 0 (min x.jN (2 * x.jsize))) x.jsize a)) (va_up (va_cpy x.jS (fun _ => 0) 0 0 (min x.jN (2 * x.jsize))) x.jsize b)) (x.jsize + 1)) (x.junits + n)) (x.jfill + n))) := hD
    refine lv_aload_n hx hb d_J_add_111 rfl (lv_at hl 0 rfl) ?_
    refine lv_iconst (v := 1) hx hb d_J_add_112 (by decide) ?_
    refine pF (v := .int (bI true)) hx hb hown hE hK hP hD hS 2 rfl rfl layJ tyJ tokJ nmJ 12 (by decide) w551 rfl (bI_nar true) (bI_fit true) (Nat.le_of_ble_eq_true rfl) d_J_add_113 (fun H locs hP hD hS => ?_)
    have hP : va_P D vwCl (VW dA h ad (VS.s_jch (VS.s_jfill (VS.s_junits (VS.s_jsize (VS.s_jS (VS.s_jF (VS.s_jB (VS.s_jU (VS.s_jO (VS.s_jK (VS.s_jN (VS.s_jA x ja4) (2 * x.jsize)) (va_up (va_cpy x.jK (fun _ => 0) 0 0 (min x.jN (2 * x.jsize))) x.jsize kd)) (va_up (va_cpy x.jO (fun _ => 0) 0 0 (min x.jN (2 * x.jsize))) x.jsize w)) (va_up (va_cpy x.jU (fun _ => 0) 0 0 (min x.jN (2 * x.jsize))) x.jsize n)) (va_up (va_cpy x.jB (fun _ => 0) 0 0 (min x.jN (2 * x.jsize))) x.jsize x.jblock)) (va_up (va_cpy x.jF (fun _ => 0) 0 0 (min x.jN (2 * x.jsize))) x.jsize a)) (va_up (va_cpy x.jS (fun _ => 0) 0 0 (min x.jN (2 * x.jsize))) x.jsize b)) (x.jsize + 1)) (x.junits + n)) (x.jfill + n)) true)) H := hP
    have hD : va_D A (VW dA h ad (VS.s_jch (VS.s_jfill (VS.s_junits (VS.s_jsize (VS.s_jS (VS.s_jF (VS.s_jB (VS.s_jU (VS.s_jO (VS.s_jK (VS.s_jN (VS.s_jA x ja4) (2 * x.jsize)) (va_up (va_cpy x.jK (fun _ => 0) 0 0 (min x.jN (2 * x.jsize))) x.jsize kd)) (va_up (va_cpy x.jO (fun _ => 0) 0 0 (min x.jN (2 * x.jsize))) x.jsize w)) (va_up (va_cpy x.jU (fun _ => 0) 0 0 (min x.jN (2 * x.jsize))) x.jsize n)) (va_up (va_cpy x.jB (fun _ => 0) 0 0 (min x.jN (2 * x.jsize))) x.jsize x.jblock)) (va_up (va_cpy x.jF (fun _ => 0) 0 0 (min x.jN (2 * x.jsize))) x.jsize a)) (va_up (va_cpy x.jS (fun _ => 0) 0 0 (min x.jN (2 * x.jsize))) x.jsize b)) (x.jsize + 1)) (x.junits + n)) (x.jfill + n)) true)) := hD
    exact rfV hx hb hr hlk hS (VS.s_jch (VS.s_jfill (VS.s_junits (VS.s_jsize (VS.s_jS (VS.s_jF (VS.s_jB (VS.s_jU (VS.s_jO (VS.s_jK (VS.s_jN (VS.s_jA x ja4) (2 * x.jsize)) (va_up (va_cpy x.jK (fun _ => 0) 0 0 (min x.jN (2 * x.jsize))) x.jsize kd)) (va_up (va_cpy x.jO (fun _ => 0) 0 0 (min x.jN (2 * x.jsize))) x.jsize w)) (va_up (va_cpy x.jU (fun _ => 0) 0 0 (min x.jN (2 * x.jsize))) x.jsize n)) (va_up (va_cpy x.jB (fun _ => 0) 0 0 (min x.jN (2 * x.jsize))) x.jsize x.jblock)) (va_up (va_cpy x.jF (fun _ => 0) 0 0 (min x.jN (2 * x.jsize))) x.jsize a)) (va_up (va_cpy x.jS (fun _ => 0) 0 0 (min x.jN (2 * x.jsize))) x.jsize b)) (x.jsize + 1)) (x.junits + n)) (x.jfill + n)) true) ⟨ja4, by unfold VS.jadF; rw [if_pos g1]; rfl⟩ hP hD (show 0 + 6 ≤ 6 * (x.jcap - x.jN) by omega) (show 0 + (12 * x.jsize) ≤ 12 * (x.jcap - x.jN) by omega) d_J_add_116
def VS.wj1 (x : VS) : VS := VS.s_jch (VS.s_jkept (VS.s_writes (VS.s_cutLeft x (cutF x.cutLeft)) (x.writes + 1)) x.jsize) false
/-- the journal's block written, if it has changed -/
def VS.wjS (x : VS) : VS := if x.jch = true then x.wj1 else x
set_option maxHeartbeats 4000000 in
set_option maxRecDepth 100000 in
theorem v_wjb (l : Launch) (D : va_G) (dA : Nat → ClassId) (sz : Nat) (h : Nat) (ad : Nat → Nat) (x : VS) (hw : x.jch = false ∨ ¬ x.cutLeft = 0) : Met l ⟨"SeriesVault", "writeJournalBlock", "()Z"⟩ [Cond.code ⟨"SeriesVault", "writeJournalBlock", "()Z"⟩ prog_1_method_21_code 1 (some FieldType.boolean)] { frames := 2, cells := 0, slots := 0, locals := 20 } (pC D dA [.ref h] (VW dA h ad x) sz) (va_Qi (fun (r9 : Int32) (u9 : VS) => r9 = bI x.jch ∧ u9 = x.wjS) (fun (u9 : VS) t9 => bW D (va_A (VW dA h ad x) sz) (VW dA h ad u9) t9) (va_A (VW dA h ad x) sz)) 0 0 (va_A (VW dA h ad x) sz) := by
  refine mkC (y := ⟨"SeriesVault", "writeJournalBlock", "()Z"⟩) (cc := prog_1_method_21_code) (maxL := 1) (av := [.ref h]) (ws := VW dA h ad x) (sz := sz) (Qc := fun A => va_Qi (fun (r9 : Int32) (u9 : VS) => r9 = bI x.jch ∧ u9 = x.wjS) (fun (u9 : VS) t9 => bW D A (VW dA h ad u9) t9) A) (by decide) (Nat.le_of_ble_eq_true rfl) ?_
  intro A p e s m below meth c ls hsz hB
  obtain ⟨hx, hb, hr, hml, hown, hin, hlk, hE, hK, hP, hD, hS, hA, hN, hl⟩ := hB
  have hown : s.vm.findClass "SeriesVault" = some m.cls := hown
  have hl : lv_has ls 1 [(0, .ref h)] := hl
  obtain ⟨H, hH⟩ : ∃ z, z = s.heap := ⟨_, rfl⟩
  have hP : va_P D vwCl (VW dA h ad x) H := by rw [hH]; exact hP
  have hS : va_S A s.heap H [] := by rw [hH]; exact hS
  rw [← hH]
  refine lv_aload_n hx hb d_V_writeJournalBlock_0 rfl (lv_at hl 0 rfl) ?_
  refine gF (v := .ref (ad 0)) hx hb hown hE hK hP 0 rfl rfl layV 8 (by decide) w312 rfl d_V_writeJournalBlock_1 ?_
  refine gFN (v := .int (bI x.jch)) hx hb hown hE hK hP 2 rfl rfl layJ 12 (by decide) w313 rfl d_V_writeJournalBlock_4 ?_
  refine lv_if_ne hx hb d_V_writeJournalBlock_7 (tgt := 12) rfl (fun g1 => ?_) (fun g1 => ?_)
  · have g1 := bI_n0 g1
    have hj1 : x.jch = true := g1
    refine lv_aload_n hx hb d_V_writeJournalBlock_12 rfl (lv_at hl 0 rfl) ?_
    refine jfV (rnV (As := []) (rest := []) hx hb hml hown hE hK (hN _ _ hS) hP hD (v_writeBlock l D dA H.size h ad x (hw.resolve_left (by rw [hj1]; decide))) (q0 := 0) rfl rfl w737 w736 w738 w739 w277 rfl rfl ⟨⟨by decide, by decide⟩, rfl⟩ ⟨(Nat.le_of_ble_eq_true rfl), (Nat.le_of_ble_eq_true rfl)⟩ rfl hl.1 rfl (Nat.le_of_ble_eq_true rfl) d_V_writeJournalBlock_13 ⟨(Nat.le_of_ble_eq_true rfl), (Nat.le_of_ble_eq_true rfl)⟩) hP hD hS hA (fun u3 H locs hp9 hP hD hS => ?_)
    have hP : va_P D vwCl (VW dA h ad (VS.s_writes (VS.s_cutLeft x (cutF x.cutLeft)) (x.writes + 1))) H := hP
    have hD : va_D A (VW dA h ad (VS.s_writes (VS.s_cutLeft x (cutF x.cutLeft)) (x.writes + 1))) := hD
    refine lv_aload_n hx hb d_V_writeJournalBlock_16 rfl (lv_at hl 0 rfl) ?_
    refine gF (v := .ref (ad 0)) hx hb hown hE hK hP 0 rfl rfl layV 8 (by decide) w312 rfl d_V_writeJournalBlock_17 ?_
    refine jfV (rnV (As := []) (rest := []) hx hb hml hown hE hK (hN _ _ hS) hP hD (v_keepAll l D dA H.size h ad (VS.s_writes (VS.s_cutLeft x (cutF x.cutLeft)) (x.writes + 1))) (q0 := 2) rfl rfl w1101 w1100 w1102 w1103 w556 rfl rfl ⟨⟨by decide, by decide⟩, rfl⟩ ⟨(Nat.le_of_ble_eq_true rfl), (Nat.le_of_ble_eq_true rfl)⟩ rfl hl.1 rfl (Nat.le_of_ble_eq_true rfl) d_V_writeJournalBlock_20 ⟨(Nat.le_of_ble_eq_true rfl), (Nat.le_of_ble_eq_true rfl)⟩) hP hD hS hA (fun u5 H locs hp9 hP hD hS => ?_)
    have hP : va_P D vwCl (VW dA h ad (VS.s_jch (VS.s_jkept (VS.s_writes (VS.s_cutLeft x (cutF x.cutLeft)) (x.writes + 1)) x.jsize) false)) H := hP
    have hD : va_D A (VW dA h ad (VS.s_jch (VS.s_jkept (VS.s_writes (VS.s_cutLeft x (cutF x.cutLeft)) (x.writes + 1)) x.jsize) false)) := hD
    refine lv_iconst (v := 1) hx hb d_V_writeJournalBlock_23 (by decide) ?_
    exact rfZ hx hb hr (bI_nar true) hlk hS (VS.s_jch (VS.s_jkept (VS.s_writes (VS.s_cutLeft x (cutF x.cutLeft)) (x.writes + 1)) x.jsize) false) ⟨by rw [hj1]; rfl, by unfold VS.wjS; rw [if_pos hj1]; rfl⟩ hP hD (Nat.le_of_ble_eq_true rfl) (Nat.le_of_ble_eq_true rfl) d_V_writeJournalBlock_24
  · have g1 := bI_0 g1
    refine lv_iconst (v := 0) hx hb d_V_writeJournalBlock_10 (by decide) ?_
    exact rfZ hx hb hr (bI_nar false) hlk hS x ⟨by rw [g1]; rfl, by unfold VS.wjS; rw [if_neg (by rw [g1]; decide)]⟩ hP hD (Nat.le_of_ble_eq_true rfl) (Nat.le_of_ble_eq_true rfl) d_V_writeJournalBlock_11
def VS.nbk (x : VS) : VS := VS.s_jfill (VS.s_jblock x (x.jblock + 1)) 0
/-- room made for a record of n units; the record written -/
def VS.wrB (x : VS) (n : Nat) : VS := if x.jfill + n ≤ 126 then x else x.wjS.nbk
def VS.wrF (x : VS) (ja : Nat → Nat) (kd w n : Nat) (a b : Int64) : VS := (x.wrB n).jadF ja kd w n a b
theorem wr_j (x : VS) (n : Nat) : (x.wrB n).jsize = x.jsize ∧ (x.wrB n).jN = x.jN ∧ (x.wrB n).jcap = x.jcap := by
  unfold VS.wrB VS.wjS
  repeat' split
  all_goals exact ⟨rfl, rfl, rfl⟩
theorem d_V_writeRecord_23 : decode prog_1_method_20_code 23 = .ok (.aload_n 0, 1) := by decide +kernel
theorem d_V_writeRecord_24 : decode prog_1_method_20_code 24 = .ok (.getfield 16, 3) := by decide +kernel
theorem d_V_writeRecord_27 : decode prog_1_method_20_code 27 = .ok (.iload_n 1, 1) := by decide +kernel
theorem d_V_writeRecord_28 : decode prog_1_method_20_code 28 = .ok (.iload_n 2, 1) := by decide +kernel
theorem d_V_writeRecord_29 : decode prog_1_method_20_code 29 = .ok (.iload_n 3, 1) := by decide +kernel
theorem d_V_writeRecord_30 : decode prog_1_method_20_code 30 = .ok (.lload 4, 2) := by decide +kernel
theorem d_V_writeRecord_32 : decode prog_1_method_20_code 32 = .ok (.lload 6, 2) := by decide +kernel
theorem d_V_writeRecord_34 : decode prog_1_method_20_code 34 = .ok (.invokevirtual 194, 3) := by decide +kernel
theorem d_V_writeRecord_37 : decode prog_1_method_20_code 37 = .ok (.return_, 1) := by decide +kernel
theorem d_V_writeRecord_0 : decode prog_1_method_20_code 0 = .ok (.aload_n 0, 1) := by decide +kernel
theorem d_V_writeRecord_1 : decode prog_1_method_20_code 1 = .ok (.getfield 16, 3) := by decide +kernel
theorem d_V_writeRecord_4 : decode prog_1_method_20_code 4 = .ok (.iload_n 3, 1) := by decide +kernel
theorem d_V_writeRecord_5 : decode prog_1_method_20_code 5 = .ok (.invokevirtual 183, 3) := by decide +kernel
theorem d_V_writeRecord_8 : decode prog_1_method_20_code 8 = .ok (.ifCond .ne 15, 3) := by decide +kernel
theorem d_V_writeRecord_11 : decode prog_1_method_20_code 11 = .ok (.aload_n 0, 1) := by decide +kernel
theorem d_V_writeRecord_12 : decode prog_1_method_20_code 12 = .ok (.invokevirtual 187, 3) := by decide +kernel
theorem d_V_writeRecord_15 : decode prog_1_method_20_code 15 = .ok (.pop, 1) := by decide +kernel
theorem d_V_writeRecord_16 : decode prog_1_method_20_code 16 = .ok (.aload_n 0, 1) := by decide +kernel
theorem d_V_writeRecord_17 : decode prog_1_method_20_code 17 = .ok (.getfield 16, 3) := by decide +kernel
theorem d_V_writeRecord_20 : decode prog_1_method_20_code 20 = .ok (.invokevirtual 191, 3) := by decide +kernel
theorem w1121 : Cond.methodLink "SeriesVault" 194 ⟨"SeriesVault$Journal", "add", "(IIIJJ)V"⟩ ∈ aW := aw_of (tb_5 (List.mem_of_getElem? (i := 63) rfl)) rfl
theorem w1122 : Cond.code ⟨"SeriesVault$Journal", "add", "(IIIJJ)V"⟩ prog_3_method_7_code 8 none ∈ aW := aw_of (tb_5 (List.mem_of_getElem? (i := 66) rfl)) rfl
theorem w1123 : Cond.instanceMethod ⟨"SeriesVault$Journal", "add", "(IIIJJ)V"⟩ ∈ aW := aw_of (tb_5 (List.mem_of_getElem? (i := 64) rfl)) rfl
theorem w1124 : Cond.selects "SeriesVault$Journal" ⟨"SeriesVault$Journal", "add", "(IIIJJ)V"⟩ ⟨"SeriesVault$Journal", "add", "(IIIJJ)V"⟩ ∈ aW := aw_of (tb_5 (List.mem_of_getElem? (i := 65) rfl)) rfl
theorem w1125 : Cond.methodLink "SeriesVault" 183 ⟨"SeriesVault$Journal", "fitsInBlock", "(I)Z"⟩ ∈ aW := aw_of (tb_5 (List.mem_of_getElem? (i := 46) rfl)) rfl
theorem w1126 : Cond.methodLink "SeriesVault" 191 ⟨"SeriesVault$Journal", "beginNextBlock", "()V"⟩ ∈ aW := aw_of (tb_5 (List.mem_of_getElem? (i := 59) rfl)) rfl
theorem w1127 : Cond.code ⟨"SeriesVault$Journal", "beginNextBlock", "()V"⟩ prog_3_method_6_code 1 none ∈ aW := aw_of (tb_5 (List.mem_of_getElem? (i := 62) rfl)) rfl
theorem w1128 : Cond.instanceMethod ⟨"SeriesVault$Journal", "beginNextBlock", "()V"⟩ ∈ aW := aw_of (tb_5 (List.mem_of_getElem? (i := 60) rfl)) rfl
theorem w1129 : Cond.selects "SeriesVault$Journal" ⟨"SeriesVault$Journal", "beginNextBlock", "()V"⟩ ⟨"SeriesVault$Journal", "beginNextBlock", "()V"⟩ ∈ aW := aw_of (tb_5 (List.mem_of_getElem? (i := 61) rfl)) rfl
set_option maxHeartbeats 4000000 in
set_option maxRecDepth 100000 in
theorem v_writeRecord (l : Launch) (D : va_G) (dA : Nat → ClassId) (sz : Nat) (h : Nat) (ad : Nat → Nat) (x : VS) (kd : Nat) (w : Nat) (n : Nat) (a : Int64) (b : Int64) (hs1 : x.jsize ≤ x.jN) (hs2 : 0 < x.jN) (hs3 : x.jN ≤ 65536) (hfu : x.jfill + n < 2 ^ 31) (hcr : x.jfill + n ≤ 126 ∨ x.jch = false ∨ ¬ x.cutLeft = 0) : Met l ⟨"SeriesVault", "writeRecord", "(IIIJJ)V"⟩ [Cond.code ⟨"SeriesVault", "writeRecord", "(IIIJJ)V"⟩ prog_1_method_20_code 8 none] { frames := 4, cells := 6 * (x.jcap - x.jN), slots := 12 * (x.jcap - x.jN), locals := 109 } (pC D dA [.ref h, .int (nI kd), .int (nI w), .int (nI n), .long a, .long b] (VW dA h ad x) sz) (va_Qv (fun (u9 : VS) => ∃ ja : Nat → Nat, u9 = x.wrF ja kd w n a b) (fun (u9 : VS) t9 => bW D (va_A (VW dA h ad x) sz) (VW dA h ad u9) t9) (va_A (VW dA h ad x) sz)) (6 * (x.jcap - x.jN)) (12 * (x.jcap - x.jN)) (va_A (VW dA h ad x) sz) := by
  refine mkC (y := ⟨"SeriesVault", "writeRecord", "(IIIJJ)V"⟩) (cc := prog_1_method_20_code) (maxL := 8) (av := [.ref h, .int (nI kd), .int (nI w), .int (nI n), .long a, .long b]) (ws := VW dA h ad x) (sz := sz) (Qc := fun A => va_Qv (fun (u9 : VS) => ∃ ja : Nat → Nat, u9 = x.wrF ja kd w n a b) (fun (u9 : VS) t9 => bW D A (VW dA h ad u9) t9) A) (by decide) (Nat.le_of_ble_eq_true rfl) ?_
  intro A p e s m below meth c ls hsz hB
  obtain ⟨hx, hb, hr, hml, hown, hin, hlk, hE, hK, hP, hD, hS, hA, hN, hl⟩ := hB
  have hown : s.vm.findClass "SeriesVault" = some m.cls := hown
  have hl : lv_has ls 8 [(0, .ref h), (1, .int (nI kd)), (2, .int (nI w)), (3, .int (nI n)), (4, .long a), (6, .long b)] := hl
  obtain ⟨H, hH⟩ : ∃ z, z = s.heap := ⟨_, rfl⟩
  have hP : va_P D vwCl (VW dA h ad x) H := by rw [hH]; exact hP
  have hS : va_S A s.heap H [] := by rw [hH]; exact hS
  rw [← hH]
  have J23 : ∀ (z : VS) (ez : z = x.wrB n), ∀ (H : Heap) (locs : List Loc) (ls : Array Slot) (hP : va_P D vwCl (VW dA h ad z) H) (hD : va_D A (VW dA h ad z)) (hS : va_S A s.heap H locs) (hl : lv_has ls 8 [(0, .ref h), (1, .int (nI kd)), (2, .int (nI w)), (3, .int (nI n)), (4, .long a), (6, .long b)]), W p l e ({ frames := 4, cells := 6 * (x.jcap - x.jN), slots := 12 * (x.jcap - x.jN), locals := 109 } : Room) s m ([.ref h, .int (nI kd), .int (nI w), .int (nI n), .long a, .long b] : List Value).toArray below meth c H locs 0 0 (MQ below (va_Qv (fun (u9 : VS) => ∃ ja : Nat → Nat, u9 = x.wrF ja kd w n a b) (fun (u9 : VS) t9 => bW D A (VW dA h ad u9) t9) A) ([.ref h, .int (nI kd), .int (nI w), .int (nI n), .long a, .long b] : List Value).toArray s (6 * (x.jcap - x.jN)) (12 * (x.jcap - x.jN)) A) (F0 m 23 ls []) := by
    intro z ez H locs ls hP hD hS hl
    obtain ⟨z1, z2, z3⟩ := wr_j x n
    rw [← ez] at z1 z2 z3
    refine lv_aload_n hx hb d_V_writeRecord_23 rfl (lv_at hl 0 rfl) ?_
    refine gF (v := .ref (ad 0)) hx hb hown hE hK hP 0 rfl rfl layV 8 (by decide) w312 rfl d_V_writeRecord_24 ?_
    refine lv_iload_n hx hb d_V_writeRecord_27 rfl (lv_at hl 1 rfl) ?_
    refine lv_iload_n hx hb d_V_writeRecord_28 rfl (lv_at hl 2 rfl) ?_
    refine lv_iload_n hx hb d_V_writeRecord_29 rfl (lv_at hl 3 rfl) ?_
    refine lv_lload hx hb d_V_writeRecord_30 (lv_at hl 4 rfl) ?_
    refine lv_lload hx hb d_V_writeRecord_32 (lv_at hl 5 rfl) ?_
    refine jfV (rnV (As := [.int (nI kd), .int (nI w), .int (nI n), .long a, .long b]) (rest := []) hx hb hml hown hE hK (hN _ _ hS) hP hD (v_jadd l D dA H.size h ad z kd w n a b (by rw [z1, z2]; exact hs1) (by rw [z2]; exact hs2) (by rw [z2]; exact hs3)) (q0 := 2) rfl rfl w1122 w1121 w1123 w1124 w556 rfl rfl ⟨⟨by decide, by decide⟩, rfl⟩ ⟨(Nat.le_of_ble_eq_true rfl), (Nat.le_of_ble_eq_true rfl)⟩ rfl hl.1 rfl (Nat.le_of_ble_eq_true rfl) d_V_writeRecord_34 ⟨(show 0 + (6 * (z.jcap - z.jN)) ≤ 6 * (x.jcap - x.jN) by omega), (show 0 + (12 * (z.jcap - z.jN)) ≤ 12 * (x.jcap - x.jN) by omega)⟩) hP hD hS hA (fun u2 H locs hp9 hP hD hS => ?_)
    obtain ⟨y3, h9u⟩ : ∃ z9, z9 = u2 := ⟨_, rfl⟩
    subst h9u
    have hP : va_P D vwCl (VW dA h ad y3) H := hP
    have hD : va_D A (VW dA h ad y3) := hD
    have f_e_4 := hp9
    exact rfV hx hb hr hlk hS y3 (by obtain ⟨ja, h9⟩ := f_e_4; exact ⟨ja, by unfold VS.wrF; rw [← ez]; exact h9⟩) hP hD (show 0 + (6 * (z.jcap - z.jN)) ≤ 6 * (x.jcap - x.jN) by omega) (show 0 + (12 * (z.jcap - z.jN)) ≤ 12 * (x.jcap - x.jN) by omega) d_V_writeRecord_37
  refine lv_aload_n hx hb d_V_writeRecord_0 rfl (lv_at hl 0 rfl) ?_
  refine gF (v := .ref (ad 0)) hx hb hown hE hK hP 0 rfl rfl layV 8 (by decide) w312 rfl d_V_writeRecord_1 ?_
  refine lv_iload_n hx hb d_V_writeRecord_4 rfl (lv_at hl 3 rfl) ?_
  refine jfI (rnV (As := [.int (nI n)]) (rest := []) hx hb hml hown hE hK (hN _ _ hS) hP hD (v_fitsInBlock l D dA H.size h ad x n (show x.jfill + n < 2 ^ 31 from by omega)) (q0 := 2) rfl rfl w1082 w1125 w1083 w1084 w556 rfl rfl ⟨⟨by decide, by decide⟩, rfl⟩ ⟨(Nat.le_of_ble_eq_true rfl), (Nat.le_of_ble_eq_true rfl)⟩ rfl hl.1 rfl (Nat.le_of_ble_eq_true rfl) d_V_writeRecord_5 ⟨(show 0 + 0 ≤ 6 * (x.jcap - x.jN) by omega), (show 0 + 0 ≤ 12 * (x.jcap - x.jN) by omega)⟩) hP hD hS hA (fun r5 u6 H locs hp9 hP hD hS => ?_)
  have hP : va_P D vwCl (VW dA h ad x) H := hP
  have hD : va_D A (VW dA h ad x) := hD
  replace hp9 : bI (decide (x.jfill + n ≤ 126)) = r5 := Eq.symm hp9
  subst hp9
  refine lv_if_ne hx hb d_V_writeRecord_8 (tgt := 23) rfl (fun g7 => ?_) (fun g7 => ?_)
  · have g7 := bI_n0 g7
    exact J23 x (if_pos (of_decide_eq_true g7)).symm H _ ls hP hD hS (lv_sub hl [0, 1, 2, 3, 4, 5] rfl)
  · have g7 := bI_0 g7
    refine lv_aload_n hx hb d_V_writeRecord_11 rfl (lv_at hl 0 rfl) ?_
    refine jfI (rnV (As := []) (rest := []) hx hb hml hown hE hK (hN _ _ hS) hP hD (v_wjb l D dA H.size h ad x (hcr.resolve_left (of_decide_eq_false g7))) (q0 := 0) rfl rfl w315 w314 w316 w317 w277 rfl rfl ⟨⟨by decide, by decide⟩, rfl⟩ ⟨(Nat.le_of_ble_eq_true rfl), (Nat.le_of_ble_eq_true rfl)⟩ rfl hl.1 rfl (Nat.le_of_ble_eq_true rfl) d_V_writeRecord_12 ⟨(show 0 + 0 + 0 ≤ 6 * (x.jcap - x.jN) by omega), (show 0 + 0 + 0 ≤ 12 * (x.jcap - x.jN) by omega)⟩) hP hD hS hA (fun r8 u9 H locs hp9 hP hD hS => ?_)
    obtain ⟨y10, h9u⟩ : ∃ z9, z9 = u9 := ⟨_, rfl⟩
    subst h9u
    have hP : va_P D vwCl (VW dA h ad y10) H := hP
    have hD : va_D A (VW dA h ad y10) := hD
    obtain ⟨hp9, f_e_11⟩ := hp9
    replace hp9 : bI x.jch = r8 := Eq.symm hp9
    subst hp9
    refine lv_pop hx hb d_V_writeRecord_15 rfl ?_
    refine lv_aload_n hx hb d_V_writeRecord_16 rfl (lv_at hl 0 rfl) ?_
    refine gF (v := .ref (ad 0)) hx hb hown hE hK hP 0 rfl rfl layV 8 (by decide) w312 rfl d_V_writeRecord_17 ?_
    refine jfV (rnV (As := []) (rest := []) hx hb hml hown hE hK (hN _ _ hS) hP hD (v_beginNextBlock l D dA H.size h ad y10) (q0 := 2) rfl rfl w1127 w1126 w1128 w1129 w556 rfl rfl ⟨⟨by decide, by decide⟩, rfl⟩ ⟨(Nat.le_of_ble_eq_true rfl), (Nat.le_of_ble_eq_true rfl)⟩ rfl hl.1 rfl (Nat.le_of_ble_eq_true rfl) d_V_writeRecord_20 ⟨(show 0 + 0 + 0 + 0 ≤ 6 * (x.jcap - x.jN) by omega), (show 0 + 0 + 0 + 0 ≤ 12 * (x.jcap - x.jN) by omega)⟩) hP hD hS hA (fun u13 H locs hp9 hP hD hS => ?_)
    have hP : va_P D vwCl (VW dA h ad (VS.s_jfill (VS.s_jblock y10 (y10.jblock + 1)) 0)) H := hP
    have hD : va_D A (VW dA h ad (VS.s_jfill (VS.s_jblock y10 (y10.jblock + 1)) 0)) := hD
    exact J23 (VS.s_jfill (VS.s_jblock y10 (y10.jblock + 1)) 0) (by unfold VS.wrB; rw [if_neg (of_decide_eq_false g7)]; show _ = VS.nbk x.wjS; rw [← f_e_11]; rfl) H _ ls hP hD hS (lv_sub hl [0, 1, 2, 3, 4, 5] rfl)
end
